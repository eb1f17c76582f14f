/-! ===== what a run needs, method by method (112 to 129) ===== -/
/-- RoundVotesModel.ruleA(I)Z, from 0 -/
set_option maxRecDepth 4000 in
theorem T112 {a0 : Nat} {a1 : Int32} {h : mH} {K : Option Value → mH → Prop} (H : (mTg h a0 = 12) ∧ (∃ p2, mP h a0 5 = some p2 ∧ (((mTg h p2 = 20 ∨ mTg h p2 = 30) ∧ ¬ a1 < 0 ∧ (a1.toNatClampNeg) < mLn h p2) ∧ (Ek 112 9 [some (.ref a0), some (.int a1), some (.int (mI h p2 (a1.toNatClampNeg))), some (.int 0), none, none, none] [] h K)))) : Ek 112 0 [some (.ref a0), some (.int a1), none, none, none, none, none] [] h K := by
  have c1 := H.1
  refine Ek.chk 2 (fun n => rfl) c1 ?_
  replace H := H.2
  obtain ⟨p2, e3, H⟩ := H
  show Ek _ _ _ (va_rf (mP h a0 5) :: _) _ _
  rw [e3]
  have c4 := H.1
  refine Ek.chk 2 (fun n => rfl) c4 ?_
  replace H := H.2
  exact Ek.go 3 (fun n => rfl) H

/-- RoundVotesModel.ruleA(I)Z, from 9 -/
set_option maxRecDepth 4000 in
theorem T112_9 {v0 : Nat} {v1 : Int32} {v2 : Int32} {v3 : Int32} {h : mH} {K : Option Value → mH → Prop} (H : ((30 : Int32) ≤ v3 → (K (some (.int 0)) h)) ∧ (¬ (30 : Int32) ≤ v3 → ((mTg h v0 = 12) ∧ (∃ p2, mP h v0 5 = some p2 ∧ (((mTg h p2 = 20 ∨ mTg h p2 = 30) ∧ ¬ v1 < 0 ∧ (v1.toNatClampNeg) < mLn h p2) ∧ ((¬ (mI h v0 1) = 0) ∧ (∃ p6, mP h v0 20 = some p6 ∧ ((¬ 2 = 0) ∧ (((mTg h p6 = 20 ∨ mTg h p6 = 30) ∧ ¬ ((((((((2 * v1) + ((mI h p2 (v1.toNatClampNeg)) - (mI h p2 (v1.toNatClampNeg)) / 2 * 2)) * 30) + v3) * 10) + (((mI h p2 (v1.toNatClampNeg)) + v3) - ((mI h p2 (v1.toNatClampNeg)) + v3) / (mI h v0 1) * (mI h v0 1))) * 3) + 0) < 0 ∧ (((((((((2 * v1) + ((mI h p2 (v1.toNatClampNeg)) - (mI h p2 (v1.toNatClampNeg)) / 2 * 2)) * 30) + v3) * 10) + (((mI h p2 (v1.toNatClampNeg)) + v3) - ((mI h p2 (v1.toNatClampNeg)) + v3) / (mI h v0 1) * (mI h v0 1))) * 3) + 0).toNatClampNeg) < mLn h p6) ∧ (((mI h p6 (((((((((2 * v1) + ((mI h p2 (v1.toNatClampNeg)) - (mI h p2 (v1.toNatClampNeg)) / 2 * 2)) * 30) + v3) * 10) + (((mI h p2 (v1.toNatClampNeg)) + v3) - ((mI h p2 (v1.toNatClampNeg)) + v3) / (mI h v0 1) * (mI h v0 1))) * 3) + 0).toNatClampNeg)) ≤ 0 → (Ek 112 9 [some (.ref v0), some (.int v1), some (.int v2), some (.int (v3 + 1)), some (.int (mI h p6 (((((((((2 * v1) + ((mI h p2 (v1.toNatClampNeg)) - (mI h p2 (v1.toNatClampNeg)) / 2 * 2)) * 30) + v3) * 10) + (((mI h p2 (v1.toNatClampNeg)) + v3) - ((mI h p2 (v1.toNatClampNeg)) + v3) / (mI h v0 1) * (mI h v0 1))) * 3) + 0).toNatClampNeg))), none, none] [] h K)) ∧ (¬ (mI h p6 (((((((((2 * v1) + ((mI h p2 (v1.toNatClampNeg)) - (mI h p2 (v1.toNatClampNeg)) / 2 * 2)) * 30) + v3) * 10) + (((mI h p2 (v1.toNatClampNeg)) + v3) - ((mI h p2 (v1.toNatClampNeg)) + v3) / (mI h v0 1) * (mI h v0 1))) * 3) + 0).toNatClampNeg)) ≤ 0 → (Ek 115 0 [some (.ref v0), some (.int v1), some (.int v3), some (.int 2), some (.int (mI h p6 (((((((((2 * v1) + ((mI h p2 (v1.toNatClampNeg)) - (mI h p2 (v1.toNatClampNeg)) / 2 * 2)) * 30) + v3) * 10) + (((mI h p2 (v1.toNatClampNeg)) + v3) - ((mI h p2 (v1.toNatClampNeg)) + v3) / (mI h v0 1) * (mI h v0 1))) * 3) + 0).toNatClampNeg))), none, none, none, none] [] h (fun r h11 => ∃ x12 : Int64, r = some (.long x12) ∧ ((mTg h11 v0 = 12) ∧ (Ek 116 0 [some (.ref v0), some (.long x12), none, some (.int v2)] [] h11 (fun r h14 => ∃ x15 : Int32, r = some (.int x15) ∧ ((x15 = 0 → (Ek 112 9 [some (.ref v0), some (.int v1), some (.int v2), some (.int (v3 + 1)), some (.int (mI h p6 (((((((((2 * v1) + ((mI h p2 (v1.toNatClampNeg)) - (mI h p2 (v1.toNatClampNeg)) / 2 * 2)) * 30) + v3) * 10) + (((mI h p2 (v1.toNatClampNeg)) + v3) - ((mI h p2 (v1.toNatClampNeg)) + v3) / (mI h v0 1) * (mI h v0 1))) * 3) + 0).toNatClampNeg))), none, none] [] h14 K)) ∧ (¬ x15 = 0 → ((mTg h14 v0 = 12) ∧ (∃ p17, mP h14 v0 24 = some p17 ∧ ((mTg h14 p17 = 20 ∧ ¬ ((10 * v2) + v1) < 0 ∧ (((10 * v2) + v1).toNatClampNeg) < mLn h14 p17) ∧ (∀ h19, h19 = wI h14 p17 (((10 * v2) + v1).toNatClampNeg) (mI h p6 (((((((((2 * v1) + ((mI h p2 (v1.toNatClampNeg)) - (mI h p2 (v1.toNatClampNeg)) / 2 * 2)) * 30) + v3) * 10) + (((mI h p2 (v1.toNatClampNeg)) + v3) - ((mI h p2 (v1.toNatClampNeg)) + v3) / (mI h v0 1) * (mI h v0 1))) * 3) + 0).toNatClampNeg)) → (∃ p21, mP h14 v0 25 = some p21 ∧ ((mTg h14 p21 = 20 ∧ ¬ ((10 * v2) + v1) < 0 ∧ (((10 * v2) + v1).toNatClampNeg) < mLn h14 p21) ∧ (∀ h23, h23 = wI h19 p21 (((10 * v2) + v1).toNatClampNeg) v3 → (∃ p25, mP h14 v0 26 = some p25 ∧ ((mTg h14 p25 = 20 ∧ ¬ ((10 * v2) + v1) < 0 ∧ (((10 * v2) + v1).toNatClampNeg) < mLn h14 p25) ∧ (∀ h27, h27 = wI h23 p25 (((10 * v2) + v1).toNatClampNeg) 0 → (Ek 112 81 [some (.ref v0), some (.int v1), some (.int v2), some (.int v3), some (.int (mI h p6 (((((((((2 * v1) + ((mI h p2 (v1.toNatClampNeg)) - (mI h p2 (v1.toNatClampNeg)) / 2 * 2)) * 30) + v3) * 10) + (((mI h p2 (v1.toNatClampNeg)) + v3) - ((mI h p2 (v1.toNatClampNeg)) + v3) / (mI h v0 1) * (mI h v0 1))) * 3) + 0).toNatClampNeg))), some (.int ((10 * v2) + v1)), some (.int 0)] [] h27 K))))))))))))))))))))))))))))) : Ek 112 9 [some (.ref v0), some (.int v1), some (.int v2), some (.int v3), none, none, none] [] h K := by
  refine Ek.br 3 (fun n => rfl) (fun hc => ?_) (fun hc => ?_)
  · replace H := H.1 hc
    exact Ek.ret 2 (fun n => rfl) H
  · replace H := H.2 hc
    have c1 := H.1
    refine Ek.callT 3 (fun n => rfl) c1 ?_
    replace H := H.2
    refine Ek.chk 6 (fun n => rfl) c1 ?_
    obtain ⟨p2, e3, H⟩ := H
    show Ek _ _ _ (va_rf (mP h v0 5) :: _) _ _
    rw [e3]
    have c4 := H.1
    refine Ek.chk 2 (fun n => rfl) c4 ?_
    replace H := H.2
    refine Ek.callT 1 (fun n => rfl) c1 ?_
    refine Ek.chk 5 (fun n => rfl) c1 ?_
    have c5 := H.1
    refine Ek.nch 1 (fun n => rfl) c5 ?_
    replace H := H.2
    refine Ek.ret 1 (fun n => rfl) ?_
    refine Ek.callT 1 (fun n => rfl) c1 ?_
    refine Ek.chk 2 (fun n => rfl) c1 ?_
    obtain ⟨p6, e7, H⟩ := H
    show Ek _ _ _ (va_rf (mP h v0 20) :: _) _ _
    rw [e7]
    refine Ek.chk 4 (fun n => rfl) c1 ?_
    show Ek _ _ _ (va_rf (mP h v0 5) :: _) _ _
    rw [e3]
    refine Ek.chk 2 (fun n => rfl) c4 ?_
    refine Ek.callT 3 (fun n => rfl) c1 ?_
    have c9 := H.1
    refine Ek.nch 6 (fun n => rfl) c9 ?_
    replace H := H.2
    refine Ek.ret 14 (fun n => rfl) ?_
    have c10 := H.1
    refine Ek.chk 1 (fun n => rfl) c10 ?_
    replace H := H.2
    refine Ek.ret 1 (fun n => rfl) ?_
    refine Ek.ret 1 (fun n => rfl) ?_
    refine Ek.br 3 (fun n => rfl) (fun hc => ?_) (fun hc => ?_)
    · replace H := H.1 hc
      exact Ek.go 2 (fun n => rfl) H
    · replace H := H.2 hc
      refine Ek.callT 6 (fun n => rfl) c1 ?_
      refine Ek.mono H ?_
      rintro _ h11 ⟨x12, rfl, H⟩
      have c13 := H.1
      refine Ek.callT 1 (fun n => rfl) c13 ?_
      replace H := H.2
      refine Ek.mono H ?_
      rintro _ h14 ⟨x15, rfl, H⟩
      refine Ek.br 1 (fun n => rfl) (fun hc => ?_) (fun hc => ?_)
      · replace H := H.1 hc
        exact Ek.go 2 (fun n => rfl) H
      · replace H := H.2 hc
        have c16 := H.1
        refine Ek.chk 8 (fun n => rfl) c16 ?_
        replace H := H.2
        obtain ⟨p17, e18, H⟩ := H
        show Ek _ _ _ (va_rf (mP h14 v0 24) :: _) _ _
        rw [e18]
        have c20 := H.1
        refine Ek.chk 3 (fun n => rfl) c20 ?_
        replace H := H.2
        let h19 : mH := wI h14 p17 (((10 * v2) + v1).toNatClampNeg) (mI h p6 (((((((((2 * v1) + ((mI h p2 (v1.toNatClampNeg)) - (mI h p2 (v1.toNatClampNeg)) / 2 * 2)) * 30) + v3) * 10) + (((mI h p2 (v1.toNatClampNeg)) + v3) - ((mI h p2 (v1.toNatClampNeg)) + v3) / (mI h v0 1) * (mI h v0 1))) * 3) + 0).toNatClampNeg))
        replace H := H h19 rfl
        show Ek _ _ _ _ h19 _
        refine Ek.chk 2 (fun n => rfl) c16 ?_
        obtain ⟨p21, e22, H⟩ := H
        show Ek _ _ _ (va_rf (mP h14 v0 25) :: _) _ _
        rw [e22]
        have c24 := H.1
        refine Ek.chk 3 (fun n => rfl) c24 ?_
        replace H := H.2
        let h23 : mH := wI h19 p21 (((10 * v2) + v1).toNatClampNeg) v3
        replace H := H h23 rfl
        show Ek _ _ _ _ h23 _
        refine Ek.chk 2 (fun n => rfl) c16 ?_
        obtain ⟨p25, e26, H⟩ := H
        show Ek _ _ _ (va_rf (mP h14 v0 26) :: _) _ _
        rw [e26]
        have c28 := H.1
        refine Ek.chk 3 (fun n => rfl) c28 ?_
        replace H := H.2
        let h27 : mH := wI h23 p25 (((10 * v2) + v1).toNatClampNeg) 0
        replace H := H h27 rfl
        show Ek _ _ _ _ h27 _
        exact Ek.go 2 (fun n => rfl) H

/-- RoundVotesModel.ruleA(I)Z, from 81 -/
set_option maxRecDepth 4000 in
theorem T112_81 {v0 : Nat} {v1 : Int32} {v2 : Int32} {v3 : Int32} {v4 : Int32} {v5 : Int32} {v6 : Int32} {h : mH} {K : Option Value → mH → Prop} (H : (mTg h v0 = 12) ∧ (((mI h v0 1) ≤ v6 → (∃ p2, mP h v0 27 = some p2 ∧ (Ek 115 0 [some (.ref v0), some (.int v1), some (.int v3), some (.int 2), some (.int v4), none, none, none, none] [] h (fun r h4 => ∃ x5 : Int64, r = some (.long x5) ∧ ((mTg h4 p2 = 22 ∧ ¬ v5 < 0 ∧ (v5.toNatClampNeg) < mLn h4 p2) ∧ (∀ h6, h6 = wJ h4 p2 (v5.toNatClampNeg) x5 → ((mTg h4 v0 = 12) ∧ (Ek 118 0 [some (.ref v0), some (.int v1), none] [] h6 (fun r h9 => r = none ∧ ((mTg h9 v0 = 12) ∧ (∃ p11, mP h9 v0 5 = some p11 ∧ (((mTg h9 p11 = 20 ∨ mTg h9 p11 = 30) ∧ ¬ v1 < 0 ∧ (v1.toNatClampNeg) < mLn h9 p11) ∧ (((40 : Int32) < (mI h9 p11 (v1.toNatClampNeg)) → (K (some (.int 1)) h9)) ∧ (¬ (40 : Int32) < (mI h9 p11 (v1.toNatClampNeg)) → (Ek 99 0 [some (.ref v0), some (.int v1), some (.int 0), none] [] h9 (fun r h14 => r = none ∧ (K (some (.int 1)) h14))))))))))))))))) ∧ (¬ (mI h v0 1) ≤ v6 → (∃ p15, mP h v0 26 = some p15 ∧ (((mTg h p15 = 20 ∨ mTg h p15 = 30) ∧ ¬ v5 < 0 ∧ (v5.toNatClampNeg) < mLn h p15) ∧ (∃ p19, mP h v0 20 = some p19 ∧ (∃ p21, mP h v0 5 = some p21 ∧ (((mTg h p21 = 20 ∨ mTg h p21 = 30) ∧ ¬ v1 < 0 ∧ (v1.toNatClampNeg) < mLn h p21) ∧ ((¬ 2 = 0) ∧ (((mTg h p19 = 20 ∨ mTg h p19 = 30) ∧ ¬ ((((((((2 * v1) + ((mI h p21 (v1.toNatClampNeg)) - (mI h p21 (v1.toNatClampNeg)) / 2 * 2)) * 30) + v3) * 10) + v6) * 3) + 2) < 0 ∧ (((((((((2 * v1) + ((mI h p21 (v1.toNatClampNeg)) - (mI h p21 (v1.toNatClampNeg)) / 2 * 2)) * 30) + v3) * 10) + v6) * 3) + 2).toNatClampNeg) < mLn h p19) ∧ (((mI h p19 (((((((((2 * v1) + ((mI h p21 (v1.toNatClampNeg)) - (mI h p21 (v1.toNatClampNeg)) / 2 * 2)) * 30) + v3) * 10) + v6) * 3) + 2).toNatClampNeg)) = v4 → ((mTg h p15 = 20 ∧ ¬ v5 < 0 ∧ (v5.toNatClampNeg) < mLn h p15) ∧ (∀ h26, h26 = wI h p15 (v5.toNatClampNeg) ((mI h p15 (v5.toNatClampNeg)) ||| (1 <<< (v6 &&& 31))) → (Ek 112 81 [some (.ref v0), some (.int v1), some (.int v2), some (.int v3), some (.int v4), some (.int v5), some (.int (v6 + 1))] [] h26 K)))) ∧ (¬ (mI h p19 (((((((((2 * v1) + ((mI h p21 (v1.toNatClampNeg)) - (mI h p21 (v1.toNatClampNeg)) / 2 * 2)) * 30) + v3) * 10) + v6) * 3) + 2).toNatClampNeg)) = v4 → ((mTg h p15 = 20 ∧ ¬ v5 < 0 ∧ (v5.toNatClampNeg) < mLn h p15) ∧ (∀ h28, h28 = wI h p15 (v5.toNatClampNeg) ((mI h p15 (v5.toNatClampNeg)) ||| 0) → (Ek 112 81 [some (.ref v0), some (.int v1), some (.int v2), some (.int v3), some (.int v4), some (.int v5), some (.int (v6 + 1))] [] h28 K))))))))))))))) : Ek 112 81 [some (.ref v0), some (.int v1), some (.int v2), some (.int v3), some (.int v4), some (.int v5), some (.int v6)] [] h K := by
  have c1 := H.1
  refine Ek.chk 3 (fun n => rfl) c1 ?_
  replace H := H.2
  refine Ek.br 1 (fun n => rfl) (fun hc => ?_) (fun hc => ?_)
  · replace H := H.1 hc
    refine Ek.chk 2 (fun n => rfl) c1 ?_
    obtain ⟨p2, e3, H⟩ := H
    show Ek _ _ _ (va_rf (mP h v0 27) :: _) _ _
    rw [e3]
    refine Ek.callT 6 (fun n => rfl) c1 ?_
    refine Ek.mono H ?_
    rintro _ h4 ⟨x5, rfl, H⟩
    have c7 := H.1
    refine Ek.chk 1 (fun n => rfl) c7 ?_
    replace H := H.2
    let h6 : mH := wJ h4 p2 (v5.toNatClampNeg) x5
    replace H := H h6 rfl
    show Ek _ _ _ _ h6 _
    have c8 := H.1
    refine Ek.callT 2 (fun n => rfl) c8 ?_
    replace H := H.2
    refine Ek.mono H ?_
    rintro _ h9 ⟨rfl, H⟩
    have c10 := H.1
    refine Ek.chk 2 (fun n => rfl) c10 ?_
    replace H := H.2
    obtain ⟨p11, e12, H⟩ := H
    show Ek _ _ _ (va_rf (mP h9 v0 5) :: _) _ _
    rw [e12]
    have c13 := H.1
    refine Ek.chk 2 (fun n => rfl) c13 ?_
    replace H := H.2
    refine Ek.br 2 (fun n => rfl) (fun hc => ?_) (fun hc => ?_)
    · replace H := H.1 hc
      exact Ek.ret 2 (fun n => rfl) H
    · replace H := H.2 hc
      refine Ek.callT 3 (fun n => rfl) c10 ?_
      refine Ek.mono H ?_
      rintro _ h14 ⟨rfl, H⟩
      exact Ek.ret 2 (fun n => rfl) H
  · replace H := H.2 hc
    refine Ek.chk 2 (fun n => rfl) c1 ?_
    obtain ⟨p15, e16, H⟩ := H
    show Ek _ _ _ (va_rf (mP h v0 26) :: _) _ _
    rw [e16]
    refine Ek.chk 3 (fun n => rfl) c1 ?_
    show Ek _ _ _ (va_rf (mP h v0 26) :: _) _ _
    rw [e16]
    have c18 := H.1
    refine Ek.chk 2 (fun n => rfl) c18 ?_
    replace H := H.2
    refine Ek.callT 5 (fun n => rfl) c1 ?_
    refine Ek.chk 2 (fun n => rfl) c1 ?_
    obtain ⟨p19, e20, H⟩ := H
    show Ek _ _ _ (va_rf (mP h v0 20) :: _) _ _
    rw [e20]
    refine Ek.chk 4 (fun n => rfl) c1 ?_
    obtain ⟨p21, e22, H⟩ := H
    show Ek _ _ _ (va_rf (mP h v0 5) :: _) _ _
    rw [e22]
    have c23 := H.1
    refine Ek.chk 2 (fun n => rfl) c23 ?_
    replace H := H.2
    refine Ek.callT 3 (fun n => rfl) c1 ?_
    have c24 := H.1
    refine Ek.nch 6 (fun n => rfl) c24 ?_
    replace H := H.2
    refine Ek.ret 14 (fun n => rfl) ?_
    have c25 := H.1
    refine Ek.chk 1 (fun n => rfl) c25 ?_
    replace H := H.2
    refine Ek.ret 1 (fun n => rfl) ?_
    refine Ek.br 2 (fun n => rfl) (fun hc => ?_) (fun hc => ?_)
    · replace H := H.1 hc
      have c27 := H.1
      refine Ek.chk 6 (fun n => rfl) c27 ?_
      replace H := H.2
      let h26 : mH := wI h p15 (v5.toNatClampNeg) ((mI h p15 (v5.toNatClampNeg)) ||| (1 <<< (v6 &&& 31)))
      replace H := H h26 rfl
      show Ek _ _ _ _ h26 _
      exact Ek.go 2 (fun n => rfl) H
    · replace H := H.2 hc
      have c29 := H.1
      refine Ek.chk 3 (fun n => rfl) c29 ?_
      replace H := H.2
      let h28 : mH := wI h p15 (v5.toNatClampNeg) ((mI h p15 (v5.toNatClampNeg)) ||| 0)
      replace H := H h28 rfl
      show Ek _ _ _ _ h28 _
      exact Ek.go 2 (fun n => rfl) H

/-- RoundVotesModel.proposal(II)I, from 0 -/
set_option maxRecDepth 4000 in
theorem T113 {a0 : Nat} {a1 : Int32} {a2 : Int32} {h : mH} {K : Option Value → mH → Prop} (H : (mTg h a0 = 12) ∧ (∃ p2, mP h a0 5 = some p2 ∧ (((mTg h p2 = 20 ∨ mTg h p2 = 30) ∧ ¬ a1 < 0 ∧ (a1.toNatClampNeg) < mLn h p2) ∧ ((¬ (mI h a0 1) = 0) ∧ (∃ p6, mP h a0 20 = some p6 ∧ ((¬ 2 = 0) ∧ (((mTg h p6 = 20 ∨ mTg h p6 = 30) ∧ ¬ ((((((((2 * a1) + ((mI h p2 (a1.toNatClampNeg)) - (mI h p2 (a1.toNatClampNeg)) / 2 * 2)) * 30) + a2) * 10) + (((mI h p2 (a1.toNatClampNeg)) + a2) - ((mI h p2 (a1.toNatClampNeg)) + a2) / (mI h a0 1) * (mI h a0 1))) * 3) + 0) < 0 ∧ (((((((((2 * a1) + ((mI h p2 (a1.toNatClampNeg)) - (mI h p2 (a1.toNatClampNeg)) / 2 * 2)) * 30) + a2) * 10) + (((mI h p2 (a1.toNatClampNeg)) + a2) - ((mI h p2 (a1.toNatClampNeg)) + a2) / (mI h a0 1) * (mI h a0 1))) * 3) + 0).toNatClampNeg) < mLn h p6) ∧ (K (some (.int (mI h p6 (((((((((2 * a1) + ((mI h p2 (a1.toNatClampNeg)) - (mI h p2 (a1.toNatClampNeg)) / 2 * 2)) * 30) + a2) * 10) + (((mI h p2 (a1.toNatClampNeg)) + a2) - ((mI h p2 (a1.toNatClampNeg)) + a2) / (mI h a0 1) * (mI h a0 1))) * 3) + 0).toNatClampNeg)))) h)))))))) : Ek 113 0 [some (.ref a0), some (.int a1), some (.int a2)] [] h K := by
  have c1 := H.1
  refine Ek.chk 6 (fun n => rfl) c1 ?_
  replace H := H.2
  obtain ⟨p2, e3, H⟩ := H
  show Ek _ _ _ (va_rf (mP h a0 5) :: _) _ _
  rw [e3]
  have c4 := H.1
  refine Ek.chk 2 (fun n => rfl) c4 ?_
  replace H := H.2
  refine Ek.callT 1 (fun n => rfl) c1 ?_
  refine Ek.chk 5 (fun n => rfl) c1 ?_
  have c5 := H.1
  refine Ek.nch 1 (fun n => rfl) c5 ?_
  replace H := H.2
  refine Ek.ret 1 (fun n => rfl) ?_
  refine Ek.callT 1 (fun n => rfl) c1 ?_
  refine Ek.chk 2 (fun n => rfl) c1 ?_
  obtain ⟨p6, e7, H⟩ := H
  show Ek _ _ _ (va_rf (mP h a0 20) :: _) _ _
  rw [e7]
  refine Ek.chk 4 (fun n => rfl) c1 ?_
  show Ek _ _ _ (va_rf (mP h a0 5) :: _) _ _
  rw [e3]
  refine Ek.chk 2 (fun n => rfl) c4 ?_
  refine Ek.callT 3 (fun n => rfl) c1 ?_
  have c9 := H.1
  refine Ek.nch 6 (fun n => rfl) c9 ?_
  replace H := H.2
  refine Ek.ret 14 (fun n => rfl) ?_
  have c10 := H.1
  refine Ek.chk 1 (fun n => rfl) c10 ?_
  replace H := H.2
  refine Ek.ret 1 (fun n => rfl) ?_
  exact Ek.ret 1 (fun n => rfl) H

/-- RoundVotesModel.hasOf(IIII)I, from 0 -/
set_option maxRecDepth 4000 in
theorem T114 {a0 : Nat} {a1 : Int32} {a2 : Int32} {a3 : Int32} {a4 : Int32} {h : mH} {K : Option Value → mH → Prop} (H : (mTg h a0 = 12) ∧ (∃ p2, mP h a0 20 = some p2 ∧ (∃ p4, mP h a0 5 = some p4 ∧ (((mTg h p4 = 20 ∨ mTg h p4 = 30) ∧ ¬ a1 < 0 ∧ (a1.toNatClampNeg) < mLn h p4) ∧ ((¬ 2 = 0) ∧ (((mTg h p2 = 20 ∨ mTg h p2 = 30) ∧ ¬ ((((((((2 * a1) + ((mI h p4 (a1.toNatClampNeg)) - (mI h p4 (a1.toNatClampNeg)) / 2 * 2)) * 30) + a2) * 10) + a3) * 3) + a4) < 0 ∧ (((((((((2 * a1) + ((mI h p4 (a1.toNatClampNeg)) - (mI h p4 (a1.toNatClampNeg)) / 2 * 2)) * 30) + a2) * 10) + a3) * 3) + a4).toNatClampNeg) < mLn h p2) ∧ (K (some (.int (mI h p2 (((((((((2 * a1) + ((mI h p4 (a1.toNatClampNeg)) - (mI h p4 (a1.toNatClampNeg)) / 2 * 2)) * 30) + a2) * 10) + a3) * 3) + a4).toNatClampNeg)))) h))))))) : Ek 114 0 [some (.ref a0), some (.int a1), some (.int a2), some (.int a3), some (.int a4)] [] h K := by
  have c1 := H.1
  refine Ek.chk 2 (fun n => rfl) c1 ?_
  replace H := H.2
  obtain ⟨p2, e3, H⟩ := H
  show Ek _ _ _ (va_rf (mP h a0 20) :: _) _ _
  rw [e3]
  refine Ek.chk 4 (fun n => rfl) c1 ?_
  obtain ⟨p4, e5, H⟩ := H
  show Ek _ _ _ (va_rf (mP h a0 5) :: _) _ _
  rw [e5]
  have c6 := H.1
  refine Ek.chk 2 (fun n => rfl) c6 ?_
  replace H := H.2
  refine Ek.callT 3 (fun n => rfl) c1 ?_
  have c7 := H.1
  refine Ek.nch 6 (fun n => rfl) c7 ?_
  replace H := H.2
  refine Ek.ret 14 (fun n => rfl) ?_
  have c8 := H.1
  refine Ek.chk 1 (fun n => rfl) c8 ?_
  replace H := H.2
  exact Ek.ret 1 (fun n => rfl) H

/-- RoundVotesModel.votes(IIII)J, from 0 -/
set_option maxRecDepth 4000 in
theorem T115 {a0 : Nat} {a1 : Int32} {a2 : Int32} {a3 : Int32} {a4 : Int32} {h : mH} {K : Option Value → mH → Prop} (H : Ek 115 6 [some (.ref a0), some (.int a1), some (.int a2), some (.int a3), some (.int a4), some (.long 0), none, some (.int 0), none] [] h K) : Ek 115 0 [some (.ref a0), some (.int a1), some (.int a2), some (.int a3), some (.int a4), none, none, none, none] [] h K := by
  exact Ek.go 4 (fun n => rfl) H

/-- RoundVotesModel.votes(IIII)J, from 6 -/
set_option maxRecDepth 4000 in
theorem T115_6 {v0 : Nat} {v1 : Int32} {v2 : Int32} {v3 : Int32} {v4 : Int32} {v5 : Int64} {v7 : Int32} {h : mH} {K : Option Value → mH → Prop} (H : (mTg h v0 = 12) ∧ (((mI h v0 1) ≤ v7 → (K (some (.long v5)) h)) ∧ (¬ (mI h v0 1) ≤ v7 → (∃ p2, mP h v0 20 = some p2 ∧ (∃ p4, mP h v0 5 = some p4 ∧ (((mTg h p4 = 20 ∨ mTg h p4 = 30) ∧ ¬ v1 < 0 ∧ (v1.toNatClampNeg) < mLn h p4) ∧ ((¬ 2 = 0) ∧ (((mTg h p2 = 20 ∨ mTg h p2 = 30) ∧ ¬ ((((((((2 * v1) + ((mI h p4 (v1.toNatClampNeg)) - (mI h p4 (v1.toNatClampNeg)) / 2 * 2)) * 30) + v2) * 10) + v7) * 3) + v3) < 0 ∧ (((((((((2 * v1) + ((mI h p4 (v1.toNatClampNeg)) - (mI h p4 (v1.toNatClampNeg)) / 2 * 2)) * 30) + v2) * 10) + v7) * 3) + v3).toNatClampNeg) < mLn h p2) ∧ (((mI h p2 (((((((((2 * v1) + ((mI h p4 (v1.toNatClampNeg)) - (mI h p4 (v1.toNatClampNeg)) / 2 * 2)) * 30) + v2) * 10) + v7) * 3) + v3).toNatClampNeg)) < 0 → (Ek 115 6 [some (.ref v0), some (.int v1), some (.int v2), some (.int v3), some (.int v4), some (.long (v5 + ((0 : Int32).toInt64))), none, some (.int (v7 + 1)), some (.int (mI h p2 (((((((((2 * v1) + ((mI h p4 (v1.toNatClampNeg)) - (mI h p4 (v1.toNatClampNeg)) / 2 * 2)) * 30) + v2) * 10) + v7) * 3) + v3).toNatClampNeg)))] [] h K)) ∧ (¬ (mI h p2 (((((((((2 * v1) + ((mI h p4 (v1.toNatClampNeg)) - (mI h p4 (v1.toNatClampNeg)) / 2 * 2)) * 30) + v2) * 10) + v7) * 3) + v3).toNatClampNeg)) < 0 → ((v4 < 0 → (∃ p9, mP h v0 4 = some p9 ∧ (((mTg h p9 = 20 ∨ mTg h p9 = 30) ∧ ¬ ((10 * (mI h p4 (v1.toNatClampNeg))) + v7) < 0 ∧ (((10 * (mI h p4 (v1.toNatClampNeg))) + v7).toNatClampNeg) < mLn h p9) ∧ (Ek 115 6 [some (.ref v0), some (.int v1), some (.int v2), some (.int v3), some (.int v4), some (.long (v5 + ((mI h p9 (((10 * (mI h p4 (v1.toNatClampNeg))) + v7).toNatClampNeg))).toInt64)), none, some (.int (v7 + 1)), some (.int (mI h p2 (((((((((2 * v1) + ((mI h p4 (v1.toNatClampNeg)) - (mI h p4 (v1.toNatClampNeg)) / 2 * 2)) * 30) + v2) * 10) + v7) * 3) + v3).toNatClampNeg)))] [] h K)))) ∧ (¬ v4 < 0 → (((mI h p2 (((((((((2 * v1) + ((mI h p4 (v1.toNatClampNeg)) - (mI h p4 (v1.toNatClampNeg)) / 2 * 2)) * 30) + v2) * 10) + v7) * 3) + v3).toNatClampNeg)) = v4 → (∃ p13, mP h v0 4 = some p13 ∧ (((mTg h p13 = 20 ∨ mTg h p13 = 30) ∧ ¬ ((10 * (mI h p4 (v1.toNatClampNeg))) + v7) < 0 ∧ (((10 * (mI h p4 (v1.toNatClampNeg))) + v7).toNatClampNeg) < mLn h p13) ∧ (Ek 115 6 [some (.ref v0), some (.int v1), some (.int v2), some (.int v3), some (.int v4), some (.long (v5 + ((mI h p13 (((10 * (mI h p4 (v1.toNatClampNeg))) + v7).toNatClampNeg))).toInt64)), none, some (.int (v7 + 1)), some (.int (mI h p2 (((((((((2 * v1) + ((mI h p4 (v1.toNatClampNeg)) - (mI h p4 (v1.toNatClampNeg)) / 2 * 2)) * 30) + v2) * 10) + v7) * 3) + v3).toNatClampNeg)))] [] h K)))) ∧ (¬ (mI h p2 (((((((((2 * v1) + ((mI h p4 (v1.toNatClampNeg)) - (mI h p4 (v1.toNatClampNeg)) / 2 * 2)) * 30) + v2) * 10) + v7) * 3) + v3).toNatClampNeg)) = v4 → (Ek 115 6 [some (.ref v0), some (.int v1), some (.int v2), some (.int v3), some (.int v4), some (.long (v5 + ((0 : Int32).toInt64))), none, some (.int (v7 + 1)), some (.int (mI h p2 (((((((((2 * v1) + ((mI h p4 (v1.toNatClampNeg)) - (mI h p4 (v1.toNatClampNeg)) / 2 * 2)) * 30) + v2) * 10) + v7) * 3) + v3).toNatClampNeg)))] [] h K))))))))))))))) : Ek 115 6 [some (.ref v0), some (.int v1), some (.int v2), some (.int v3), some (.int v4), some (.long v5), none, some (.int v7), none] [] h K := by
  have c1 := H.1
  refine Ek.chk 3 (fun n => rfl) c1 ?_
  replace H := H.2
  refine Ek.br 1 (fun n => rfl) (fun hc => ?_) (fun hc => ?_)
  · replace H := H.1 hc
    exact Ek.ret 2 (fun n => rfl) H
  · replace H := H.2 hc
    refine Ek.callT 5 (fun n => rfl) c1 ?_
    refine Ek.chk 2 (fun n => rfl) c1 ?_
    obtain ⟨p2, e3, H⟩ := H
    show Ek _ _ _ (va_rf (mP h v0 20) :: _) _ _
    rw [e3]
    refine Ek.chk 4 (fun n => rfl) c1 ?_
    obtain ⟨p4, e5, H⟩ := H
    show Ek _ _ _ (va_rf (mP h v0 5) :: _) _ _
    rw [e5]
    have c6 := H.1
    refine Ek.chk 2 (fun n => rfl) c6 ?_
    replace H := H.2
    refine Ek.callT 3 (fun n => rfl) c1 ?_
    have c7 := H.1
    refine Ek.nch 6 (fun n => rfl) c7 ?_
    replace H := H.2
    refine Ek.ret 14 (fun n => rfl) ?_
    have c8 := H.1
    refine Ek.chk 1 (fun n => rfl) c8 ?_
    replace H := H.2
    refine Ek.ret 1 (fun n => rfl) ?_
    refine Ek.br 4 (fun n => rfl) (fun hc => ?_) (fun hc => ?_)
    · replace H := H.1 hc
      exact Ek.go 6 (fun n => rfl) H
    · replace H := H.2 hc
      refine Ek.br 2 (fun n => rfl) (fun hc => ?_) (fun hc => ?_)
      · replace H := H.1 hc
        refine Ek.chk 2 (fun n => rfl) c1 ?_
        obtain ⟨p9, e10, H⟩ := H
        show Ek _ _ _ (va_rf (mP h v0 4) :: _) _ _
        rw [e10]
        refine Ek.chk 3 (fun n => rfl) c1 ?_
        show Ek _ _ _ (va_rf (mP h v0 5) :: _) _ _
        rw [e5]
        refine Ek.chk 2 (fun n => rfl) c6 ?_
        have c12 := H.1
        refine Ek.chk 4 (fun n => rfl) c12 ?_
        replace H := H.2
        exact Ek.go 6 (fun n => rfl) H
      · replace H := H.2 hc
        refine Ek.br 3 (fun n => rfl) (fun hc => ?_) (fun hc => ?_)
        · replace H := H.1 hc
          refine Ek.chk 2 (fun n => rfl) c1 ?_
          obtain ⟨p13, e14, H⟩ := H
          show Ek _ _ _ (va_rf (mP h v0 4) :: _) _ _
          rw [e14]
          refine Ek.chk 3 (fun n => rfl) c1 ?_
          show Ek _ _ _ (va_rf (mP h v0 5) :: _) _ _
          rw [e5]
          refine Ek.chk 2 (fun n => rfl) c6 ?_
          have c16 := H.1
          refine Ek.chk 4 (fun n => rfl) c16 ?_
          replace H := H.2
          exact Ek.go 6 (fun n => rfl) H
        · replace H := H.2 hc
          exact Ek.go 6 (fun n => rfl) H

/-- RoundVotesModel.isMany(JI)Z, from 0 -/
set_option maxRecDepth 4000 in
theorem T116 {a0 : Nat} {a1 : Int64} {a2 : Int32} {h : mH} {K : Option Value → mH → Prop} (H : (mTg h a0 = 12) ∧ (Ek 117 0 [some (.ref a0), some (.int a2), none, none, none] [] h (fun r h2 => ∃ x3 : Int64, r = some (.long x3) ∧ (((lg_cmp (3 * a1) (2 * x3)) ≤ 0 → (K (some (.int 0)) h2)) ∧ (¬ (lg_cmp (3 * a1) (2 * x3)) ≤ 0 → (K (some (.int 1)) h2)))))) : Ek 116 0 [some (.ref a0), some (.long a1), none, some (.int a2)] [] h K := by
  have c1 := H.1
  refine Ek.callT 6 (fun n => rfl) c1 ?_
  replace H := H.2
  refine Ek.mono H ?_
  rintro _ h2 ⟨x3, rfl, H⟩
  refine Ek.br 3 (fun n => rfl) (fun hc => ?_) (fun hc => ?_)
  · replace H := H.1 hc
    exact Ek.ret 2 (fun n => rfl) H
  · replace H := H.2 hc
    exact Ek.ret 3 (fun n => rfl) H

/-- RoundVotesModel.all(I)J, from 0 -/
set_option maxRecDepth 4000 in
theorem T117 {a0 : Nat} {a1 : Int32} {h : mH} {K : Option Value → mH → Prop} (H : Ek 117 5 [some (.ref a0), some (.int a1), some (.long 0), none, some (.int 0)] [] h K) : Ek 117 0 [some (.ref a0), some (.int a1), none, none, none] [] h K := by
  exact Ek.go 4 (fun n => rfl) H

/-- RoundVotesModel.all(I)J, from 5 -/
set_option maxRecDepth 4000 in
theorem T117_5 {v0 : Nat} {v1 : Int32} {v2 : Int64} {v4 : Int32} {h : mH} {K : Option Value → mH → Prop} (H : (mTg h v0 = 12) ∧ (((mI h v0 1) ≤ v4 → (K (some (.long v2)) h)) ∧ (¬ (mI h v0 1) ≤ v4 → (∃ p2, mP h v0 4 = some p2 ∧ (((mTg h p2 = 20 ∨ mTg h p2 = 30) ∧ ¬ ((10 * v1) + v4) < 0 ∧ (((10 * v1) + v4).toNatClampNeg) < mLn h p2) ∧ (Ek 117 5 [some (.ref v0), some (.int v1), some (.long (v2 + ((mI h p2 (((10 * v1) + v4).toNatClampNeg))).toInt64)), none, some (.int (v4 + 1))] [] h K)))))) : Ek 117 5 [some (.ref v0), some (.int v1), some (.long v2), none, some (.int v4)] [] h K := by
  have c1 := H.1
  refine Ek.chk 3 (fun n => rfl) c1 ?_
  replace H := H.2
  refine Ek.br 1 (fun n => rfl) (fun hc => ?_) (fun hc => ?_)
  · replace H := H.1 hc
    exact Ek.ret 2 (fun n => rfl) H
  · replace H := H.2 hc
    refine Ek.chk 3 (fun n => rfl) c1 ?_
    obtain ⟨p2, e3, H⟩ := H
    show Ek _ _ _ (va_rf (mP h v0 4) :: _) _ _
    rw [e3]
    have c4 := H.1
    refine Ek.chk 6 (fun n => rfl) c4 ?_
    replace H := H.2
    exact Ek.go 5 (fun n => rfl) H

/-- RoundVotesModel.nextHeight(I)V, from 0 -/
set_option maxRecDepth 4000 in
theorem T118 {a0 : Nat} {a1 : Int32} {h : mH} {K : Option Value → mH → Prop} (H : (mTg h a0 = 12) ∧ (∃ p2, mP h a0 5 = some p2 ∧ (((mTg h p2 = 20 ∨ mTg h p2 = 30) ∧ ¬ a1 < 0 ∧ (a1.toNatClampNeg) < mLn h p2) ∧ (Ek 92 0 [some (.ref a0), some (.int a1), some (.int (mI h p2 (a1.toNatClampNeg))), none, none, none] [] h (fun r h5 => r = none ∧ ((mTg h5 a0 = 12) ∧ (Ek 95 0 [some (.ref a0), some (.int a1), none] [] h5 (fun r h7 => r = none ∧ ((mTg h7 a0 = 12) ∧ (∃ p9, mP h7 a0 5 = some p9 ∧ (((mTg h7 p9 = 20 ∨ mTg h7 p9 = 30) ∧ ¬ a1 < 0 ∧ (a1.toNatClampNeg) < mLn h7 p9) ∧ ((mTg h7 p9 = 20 ∧ ¬ a1 < 0 ∧ (a1.toNatClampNeg) < mLn h7 p9) ∧ (∀ h12, h12 = wI h7 p9 (a1.toNatClampNeg) ((mI h7 p9 (a1.toNatClampNeg)) + 1) → (∃ p14, mP h7 a0 8 = some p14 ∧ ((mTg h7 p14 = 20 ∧ ¬ a1 < 0 ∧ (a1.toNatClampNeg) < mLn h7 p14) ∧ (∀ h16, h16 = wI h12 p14 (a1.toNatClampNeg) 0 → (∃ p18, mP h7 a0 9 = some p18 ∧ ((mTg h7 p18 = 20 ∧ ¬ a1 < 0 ∧ (a1.toNatClampNeg) < mLn h7 p18) ∧ (∀ h20, h20 = wI h16 p18 (a1.toNatClampNeg) (-1) → (∃ p22, mP h7 a0 10 = some p22 ∧ ((mTg h7 p22 = 20 ∧ ¬ a1 < 0 ∧ (a1.toNatClampNeg) < mLn h7 p22) ∧ (∀ h24, h24 = wI h20 p22 (a1.toNatClampNeg) 0 → (∃ p26, mP h7 a0 11 = some p26 ∧ ((mTg h7 p26 = 20 ∧ ¬ a1 < 0 ∧ (a1.toNatClampNeg) < mLn h7 p26) ∧ (∀ h28, h28 = wI h24 p26 (a1.toNatClampNeg) (-1) → (∃ p30, mP h7 a0 6 = some p30 ∧ ((mTg h7 p30 = 20 ∧ ¬ a1 < 0 ∧ (a1.toNatClampNeg) < mLn h7 p30) ∧ (∀ h32, h32 = wI h28 p30 (a1.toNatClampNeg) 0 → (∃ p34, mP h7 a0 7 = some p34 ∧ ((mTg h7 p34 = 20 ∧ ¬ a1 < 0 ∧ (a1.toNatClampNeg) < mLn h7 p34) ∧ (∀ h36, h36 = wI h32 p34 (a1.toNatClampNeg) 0 → (Ek 118 70 [some (.ref a0), some (.int a1), some (.int 0)] [] h36 K)))))))))))))))))))))))))))))))) : Ek 118 0 [some (.ref a0), some (.int a1), none] [] h K := by
  have c1 := H.1
  refine Ek.chk 4 (fun n => rfl) c1 ?_
  replace H := H.2
  obtain ⟨p2, e3, H⟩ := H
  show Ek _ _ _ (va_rf (mP h a0 5) :: _) _ _
  rw [e3]
  have c4 := H.1
  refine Ek.chk 2 (fun n => rfl) c4 ?_
  replace H := H.2
  refine Ek.callT 0 (fun n => rfl) c1 ?_
  refine Ek.mono H ?_
  rintro _ h5 ⟨rfl, H⟩
  have c6 := H.1
  refine Ek.callT 2 (fun n => rfl) c6 ?_
  replace H := H.2
  refine Ek.mono H ?_
  rintro _ h7 ⟨rfl, H⟩
  have c8 := H.1
  refine Ek.chk 2 (fun n => rfl) c8 ?_
  replace H := H.2
  obtain ⟨p9, e10, H⟩ := H
  show Ek _ _ _ (va_rf (mP h7 a0 5) :: _) _ _
  rw [e10]
  have c11 := H.1
  refine Ek.chk 3 (fun n => rfl) c11 ?_
  replace H := H.2
  have c13 := H.1
  refine Ek.chk 3 (fun n => rfl) c13 ?_
  replace H := H.2
  let h12 : mH := wI h7 p9 (a1.toNatClampNeg) ((mI h7 p9 (a1.toNatClampNeg)) + 1)
  replace H := H h12 rfl
  show Ek _ _ _ _ h12 _
  refine Ek.chk 2 (fun n => rfl) c8 ?_
  obtain ⟨p14, e15, H⟩ := H
  show Ek _ _ _ (va_rf (mP h7 a0 8) :: _) _ _
  rw [e15]
  have c17 := H.1
  refine Ek.chk 3 (fun n => rfl) c17 ?_
  replace H := H.2
  let h16 : mH := wI h12 p14 (a1.toNatClampNeg) 0
  replace H := H h16 rfl
  show Ek _ _ _ _ h16 _
  refine Ek.chk 2 (fun n => rfl) c8 ?_
  obtain ⟨p18, e19, H⟩ := H
  show Ek _ _ _ (va_rf (mP h7 a0 9) :: _) _ _
  rw [e19]
  have c21 := H.1
  refine Ek.chk 3 (fun n => rfl) c21 ?_
  replace H := H.2
  let h20 : mH := wI h16 p18 (a1.toNatClampNeg) (-1)
  replace H := H h20 rfl
  show Ek _ _ _ _ h20 _
  refine Ek.chk 2 (fun n => rfl) c8 ?_
  obtain ⟨p22, e23, H⟩ := H
  show Ek _ _ _ (va_rf (mP h7 a0 10) :: _) _ _
  rw [e23]
  have c25 := H.1
  refine Ek.chk 3 (fun n => rfl) c25 ?_
  replace H := H.2
  let h24 : mH := wI h20 p22 (a1.toNatClampNeg) 0
  replace H := H h24 rfl
  show Ek _ _ _ _ h24 _
  refine Ek.chk 2 (fun n => rfl) c8 ?_
  obtain ⟨p26, e27, H⟩ := H
  show Ek _ _ _ (va_rf (mP h7 a0 11) :: _) _ _
  rw [e27]
  have c29 := H.1
  refine Ek.chk 3 (fun n => rfl) c29 ?_
  replace H := H.2
  let h28 : mH := wI h24 p26 (a1.toNatClampNeg) (-1)
  replace H := H h28 rfl
  show Ek _ _ _ _ h28 _
  refine Ek.chk 2 (fun n => rfl) c8 ?_
  obtain ⟨p30, e31, H⟩ := H
  show Ek _ _ _ (va_rf (mP h7 a0 6) :: _) _ _
  rw [e31]
  have c33 := H.1
  refine Ek.chk 3 (fun n => rfl) c33 ?_
  replace H := H.2
  let h32 : mH := wI h28 p30 (a1.toNatClampNeg) 0
  replace H := H h32 rfl
  show Ek _ _ _ _ h32 _
  refine Ek.chk 2 (fun n => rfl) c8 ?_
  obtain ⟨p34, e35, H⟩ := H
  show Ek _ _ _ (va_rf (mP h7 a0 7) :: _) _ _
  rw [e35]
  have c37 := H.1
  refine Ek.chk 3 (fun n => rfl) c37 ?_
  replace H := H.2
  let h36 : mH := wI h32 p34 (a1.toNatClampNeg) 0
  replace H := H h36 rfl
  show Ek _ _ _ _ h36 _
  exact Ek.go 2 (fun n => rfl) H

/-- RoundVotesModel.nextHeight(I)V, from 70 -/
set_option maxRecDepth 4000 in
theorem T118_70 {v0 : Nat} {v1 : Int32} {v2 : Int32} {h : mH} {K : Option Value → mH → Prop} (H : ((3 : Int32) ≤ v2 → (K none h)) ∧ (¬ (3 : Int32) ≤ v2 → ((mTg h v0 = 12) ∧ (∃ p2, mP h v0 15 = some p2 ∧ ((mTg h p2 = 20 ∧ ¬ ((3 * v1) + v2) < 0 ∧ (((3 * v1) + v2).toNatClampNeg) < mLn h p2) ∧ (∀ h4, h4 = wI h p2 (((3 * v1) + v2).toNatClampNeg) 0 → (Ek 118 70 [some (.ref v0), some (.int v1), some (.int (v2 + 1))] [] h4 K))))))) : Ek 118 70 [some (.ref v0), some (.int v1), some (.int v2)] [] h K := by
  refine Ek.br 3 (fun n => rfl) (fun hc => ?_) (fun hc => ?_)
  · replace H := H.1 hc
    exact Ek.ret 1 (fun n => rfl) H
  · replace H := H.2 hc
    have c1 := H.1
    refine Ek.chk 2 (fun n => rfl) c1 ?_
    replace H := H.2
    obtain ⟨p2, e3, H⟩ := H
    show Ek _ _ _ (va_rf (mP h v0 15) :: _) _ _
    rw [e3]
    have c5 := H.1
    refine Ek.chk 7 (fun n => rfl) c5 ?_
    replace H := H.2
    let h4 : mH := wI h p2 (((3 * v1) + v2).toNatClampNeg) 0
    replace H := H h4 rfl
    show Ek _ _ _ _ h4 _
    exact Ek.go 2 (fun n => rfl) H

/-- RoundVotesModel.ruleB(I)Z, from 0 -/
set_option maxRecDepth 4000 in
theorem T119 {a0 : Nat} {a1 : Int32} {h : mH} {K : Option Value → mH → Prop} (H : (mTg h a0 = 12) ∧ (∃ p2, mP h a0 5 = some p2 ∧ (((mTg h p2 = 20 ∨ mTg h p2 = 30) ∧ ¬ a1 < 0 ∧ (a1.toNatClampNeg) < mLn h p2) ∧ (Ek 119 10 [some (.ref a0), some (.int a1), some (.int (mI h p2 (a1.toNatClampNeg))), some (.int 29), none, none, none, none] [] h K)))) : Ek 119 0 [some (.ref a0), some (.int a1), none, none, none, none, none, none] [] h K := by
  have c1 := H.1
  refine Ek.chk 2 (fun n => rfl) c1 ?_
  replace H := H.2
  obtain ⟨p2, e3, H⟩ := H
  show Ek _ _ _ (va_rf (mP h a0 5) :: _) _ _
  rw [e3]
  have c4 := H.1
  refine Ek.chk 2 (fun n => rfl) c4 ?_
  replace H := H.2
  exact Ek.go 3 (fun n => rfl) H

/-- RoundVotesModel.ruleB(I)Z, from 10 -/
set_option maxRecDepth 4000 in
theorem T119_10 {v0 : Nat} {v1 : Int32} {v2 : Int32} {v3 : Int32} {h : mH} {K : Option Value → mH → Prop} (H : (mTg h v0 = 12) ∧ (∃ p2, mP h v0 6 = some p2 ∧ (((mTg h p2 = 20 ∨ mTg h p2 = 30) ∧ ¬ v1 < 0 ∧ (v1.toNatClampNeg) < mLn h p2) ∧ ((v3 ≤ (mI h p2 (v1.toNatClampNeg)) → (K (some (.int 0)) h)) ∧ (¬ v3 ≤ (mI h p2 (v1.toNatClampNeg)) → (Ek 119 26 [some (.ref v0), some (.int v1), some (.int v2), some (.int v3), some (.long 0), none, some (.int 0), none] [] h K)))))) : Ek 119 10 [some (.ref v0), some (.int v1), some (.int v2), some (.int v3), none, none, none, none] [] h K := by
  have c1 := H.1
  refine Ek.chk 3 (fun n => rfl) c1 ?_
  replace H := H.2
  obtain ⟨p2, e3, H⟩ := H
  show Ek _ _ _ (va_rf (mP h v0 6) :: _) _ _
  rw [e3]
  have c4 := H.1
  refine Ek.chk 2 (fun n => rfl) c4 ?_
  replace H := H.2
  refine Ek.br 1 (fun n => rfl) (fun hc => ?_) (fun hc => ?_)
  · replace H := H.1 hc
    exact Ek.ret 2 (fun n => rfl) H
  · replace H := H.2 hc
    exact Ek.go 4 (fun n => rfl) H

/-- RoundVotesModel.ruleB(I)Z, from 26 -/
set_option maxRecDepth 4000 in
theorem T119_26 {v0 : Nat} {v1 : Int32} {v2 : Int32} {v3 : Int32} {v4 : Int64} {v6 : Int32} {h : mH} {K : Option Value → mH → Prop} (H : (mTg h v0 = 12) ∧ (((mI h v0 1) ≤ v6 → (Ek 117 0 [some (.ref v0), some (.int v2), none, none, none] [] h (fun r h2 => ∃ x3 : Int64, r = some (.long x3) ∧ (((lg_cmp (3 * v4) x3) ≤ 0 → (Ek 119 10 [some (.ref v0), some (.int v1), some (.int v2), some (.int (v3 + (-1))), some (.long v4), none, some (.int v6), none] [] h2 K)) ∧ (¬ (lg_cmp (3 * v4) x3) ≤ 0 → ((mTg h2 v0 = 12) ∧ (Ek 99 0 [some (.ref v0), some (.int v1), some (.int v3), none] [] h2 (fun r h5 => r = none ∧ (K (some (.int 1)) h5))))))))) ∧ (¬ (mI h v0 1) ≤ v6 → (∃ p6, mP h v0 20 = some p6 ∧ (∃ p8, mP h v0 5 = some p8 ∧ (((mTg h p8 = 20 ∨ mTg h p8 = 30) ∧ ¬ v1 < 0 ∧ (v1.toNatClampNeg) < mLn h p8) ∧ ((¬ 2 = 0) ∧ (((mTg h p6 = 20 ∨ mTg h p6 = 30) ∧ ¬ ((((((((2 * v1) + ((mI h p8 (v1.toNatClampNeg)) - (mI h p8 (v1.toNatClampNeg)) / 2 * 2)) * 30) + v3) * 10) + v6) * 3) + 1) < 0 ∧ (((((((((2 * v1) + ((mI h p8 (v1.toNatClampNeg)) - (mI h p8 (v1.toNatClampNeg)) / 2 * 2)) * 30) + v3) * 10) + v6) * 3) + 1).toNatClampNeg) < mLn h p6) ∧ (((0 : Int32) ≤ (mI h p6 (((((((((2 * v1) + ((mI h p8 (v1.toNatClampNeg)) - (mI h p8 (v1.toNatClampNeg)) / 2 * 2)) * 30) + v3) * 10) + v6) * 3) + 1).toNatClampNeg)) → (∃ p13, mP h v0 4 = some p13 ∧ (((mTg h p13 = 20 ∨ mTg h p13 = 30) ∧ ¬ ((10 * v2) + v6) < 0 ∧ (((10 * v2) + v6).toNatClampNeg) < mLn h p13) ∧ (Ek 119 26 [some (.ref v0), some (.int v1), some (.int v2), some (.int v3), some (.long (v4 + ((mI h p13 (((10 * v2) + v6).toNatClampNeg))).toInt64)), none, some (.int (v6 + 1)), some (.int 1)] [] h K)))) ∧ (¬ (0 : Int32) ≤ (mI h p6 (((((((((2 * v1) + ((mI h p8 (v1.toNatClampNeg)) - (mI h p8 (v1.toNatClampNeg)) / 2 * 2)) * 30) + v3) * 10) + v6) * 3) + 1).toNatClampNeg)) → (((mTg h p6 = 20 ∨ mTg h p6 = 30) ∧ ¬ ((((((((2 * v1) + ((mI h p8 (v1.toNatClampNeg)) - (mI h p8 (v1.toNatClampNeg)) / 2 * 2)) * 30) + v3) * 10) + v6) * 3) + 2) < 0 ∧ (((((((((2 * v1) + ((mI h p8 (v1.toNatClampNeg)) - (mI h p8 (v1.toNatClampNeg)) / 2 * 2)) * 30) + v3) * 10) + v6) * 3) + 2).toNatClampNeg) < mLn h p6) ∧ (((0 : Int32) ≤ (mI h p6 (((((((((2 * v1) + ((mI h p8 (v1.toNatClampNeg)) - (mI h p8 (v1.toNatClampNeg)) / 2 * 2)) * 30) + v3) * 10) + v6) * 3) + 2).toNatClampNeg)) → (∃ p19, mP h v0 4 = some p19 ∧ (((mTg h p19 = 20 ∨ mTg h p19 = 30) ∧ ¬ ((10 * v2) + v6) < 0 ∧ (((10 * v2) + v6).toNatClampNeg) < mLn h p19) ∧ (Ek 119 26 [some (.ref v0), some (.int v1), some (.int v2), some (.int v3), some (.long (v4 + ((mI h p19 (((10 * v2) + v6).toNatClampNeg))).toInt64)), none, some (.int (v6 + 1)), some (.int 1)] [] h K)))) ∧ (¬ (0 : Int32) ≤ (mI h p6 (((((((((2 * v1) + ((mI h p8 (v1.toNatClampNeg)) - (mI h p8 (v1.toNatClampNeg)) / 2 * 2)) * 30) + v3) * 10) + v6) * 3) + 2).toNatClampNeg)) → ((¬ (mI h v0 1) = 0) ∧ ((v6 = ((v2 + v3) - (v2 + v3) / (mI h v0 1) * (mI h v0 1)) → (((mTg h p6 = 20 ∨ mTg h p6 = 30) ∧ ¬ ((((((((2 * v1) + ((mI h p8 (v1.toNatClampNeg)) - (mI h p8 (v1.toNatClampNeg)) / 2 * 2)) * 30) + v3) * 10) + v6) * 3) + 0) < 0 ∧ (((((((((2 * v1) + ((mI h p8 (v1.toNatClampNeg)) - (mI h p8 (v1.toNatClampNeg)) / 2 * 2)) * 30) + v3) * 10) + v6) * 3) + 0).toNatClampNeg) < mLn h p6) ∧ (((mI h p6 (((((((((2 * v1) + ((mI h p8 (v1.toNatClampNeg)) - (mI h p8 (v1.toNatClampNeg)) / 2 * 2)) * 30) + v3) * 10) + v6) * 3) + 0).toNatClampNeg)) < 0 → (Ek 119 26 [some (.ref v0), some (.int v1), some (.int v2), some (.int v3), some (.long (v4 + ((0 : Int32).toInt64))), none, some (.int (v6 + 1)), some (.int 0)] [] h K)) ∧ (¬ (mI h p6 (((((((((2 * v1) + ((mI h p8 (v1.toNatClampNeg)) - (mI h p8 (v1.toNatClampNeg)) / 2 * 2)) * 30) + v3) * 10) + v6) * 3) + 0).toNatClampNeg)) < 0 → (∃ p26, mP h v0 4 = some p26 ∧ (((mTg h p26 = 20 ∨ mTg h p26 = 30) ∧ ¬ ((10 * v2) + v6) < 0 ∧ (((10 * v2) + v6).toNatClampNeg) < mLn h p26) ∧ (Ek 119 26 [some (.ref v0), some (.int v1), some (.int v2), some (.int v3), some (.long (v4 + ((mI h p26 (((10 * v2) + v6).toNatClampNeg))).toInt64)), none, some (.int (v6 + 1)), some (.int 1)] [] h K))))))) ∧ (¬ v6 = ((v2 + v3) - (v2 + v3) / (mI h v0 1) * (mI h v0 1)) → (Ek 119 26 [some (.ref v0), some (.int v1), some (.int v2), some (.int v3), some (.long (v4 + ((0 : Int32).toInt64))), none, some (.int (v6 + 1)), some (.int 0)] [] h K))))))))))))))))) : Ek 119 26 [some (.ref v0), some (.int v1), some (.int v2), some (.int v3), some (.long v4), none, some (.int v6), none] [] h K := by
  have c1 := H.1
  refine Ek.chk 3 (fun n => rfl) c1 ?_
  replace H := H.2
  refine Ek.br 1 (fun n => rfl) (fun hc => ?_) (fun hc => ?_)
  · replace H := H.1 hc
    refine Ek.callT 5 (fun n => rfl) c1 ?_
    refine Ek.mono H ?_
    rintro _ h2 ⟨x3, rfl, H⟩
    refine Ek.br 2 (fun n => rfl) (fun hc => ?_) (fun hc => ?_)
    · replace H := H.1 hc
      exact Ek.go 2 (fun n => rfl) H
    · replace H := H.2 hc
      have c4 := H.1
      refine Ek.callT 3 (fun n => rfl) c4 ?_
      replace H := H.2
      refine Ek.mono H ?_
      rintro _ h5 ⟨rfl, H⟩
      exact Ek.ret 2 (fun n => rfl) H
  · replace H := H.2 hc
    refine Ek.callT 5 (fun n => rfl) c1 ?_
    refine Ek.chk 2 (fun n => rfl) c1 ?_
    obtain ⟨p6, e7, H⟩ := H
    show Ek _ _ _ (va_rf (mP h v0 20) :: _) _ _
    rw [e7]
    refine Ek.chk 4 (fun n => rfl) c1 ?_
    obtain ⟨p8, e9, H⟩ := H
    show Ek _ _ _ (va_rf (mP h v0 5) :: _) _ _
    rw [e9]
    have c10 := H.1
    refine Ek.chk 2 (fun n => rfl) c10 ?_
    replace H := H.2
    refine Ek.callT 3 (fun n => rfl) c1 ?_
    have c11 := H.1
    refine Ek.nch 6 (fun n => rfl) c11 ?_
    replace H := H.2
    refine Ek.ret 14 (fun n => rfl) ?_
    have c12 := H.1
    refine Ek.chk 1 (fun n => rfl) c12 ?_
    replace H := H.2
    refine Ek.ret 1 (fun n => rfl) ?_
    refine Ek.br 1 (fun n => rfl) (fun hc => ?_) (fun hc => ?_)
    · replace H := H.1 hc
      refine Ek.chk 8 (fun n => rfl) c1 ?_
      obtain ⟨p13, e14, H⟩ := H
      show Ek _ _ _ (va_rf (mP h v0 4) :: _) _ _
      rw [e14]
      have c15 := H.1
      refine Ek.chk 6 (fun n => rfl) c15 ?_
      replace H := H.2
      exact Ek.go 6 (fun n => rfl) H
    · replace H := H.2 hc
      refine Ek.callT 5 (fun n => rfl) c1 ?_
      refine Ek.chk 2 (fun n => rfl) c1 ?_
      show Ek _ _ _ (va_rf (mP h v0 20) :: _) _ _
      rw [e7]
      refine Ek.chk 4 (fun n => rfl) c1 ?_
      show Ek _ _ _ (va_rf (mP h v0 5) :: _) _ _
      rw [e9]
      refine Ek.chk 2 (fun n => rfl) c10 ?_
      refine Ek.callT 3 (fun n => rfl) c1 ?_
      refine Ek.nch 6 (fun n => rfl) c11 ?_
      refine Ek.ret 14 (fun n => rfl) ?_
      have c18 := H.1
      refine Ek.chk 1 (fun n => rfl) c18 ?_
      replace H := H.2
      refine Ek.ret 1 (fun n => rfl) ?_
      refine Ek.br 1 (fun n => rfl) (fun hc => ?_) (fun hc => ?_)
      · replace H := H.1 hc
        refine Ek.chk 8 (fun n => rfl) c1 ?_
        obtain ⟨p19, e20, H⟩ := H
        show Ek _ _ _ (va_rf (mP h v0 4) :: _) _ _
        rw [e20]
        have c21 := H.1
        refine Ek.chk 6 (fun n => rfl) c21 ?_
        replace H := H.2
        exact Ek.go 6 (fun n => rfl) H
      · replace H := H.2 hc
        refine Ek.callT 4 (fun n => rfl) c1 ?_
        refine Ek.chk 5 (fun n => rfl) c1 ?_
        have c22 := H.1
        refine Ek.nch 1 (fun n => rfl) c22 ?_
        replace H := H.2
        refine Ek.ret 1 (fun n => rfl) ?_
        refine Ek.br 1 (fun n => rfl) (fun hc => ?_) (fun hc => ?_)
        · replace H := H.1 hc
          refine Ek.callT 5 (fun n => rfl) c1 ?_
          refine Ek.chk 2 (fun n => rfl) c1 ?_
          show Ek _ _ _ (va_rf (mP h v0 20) :: _) _ _
          rw [e7]
          refine Ek.chk 4 (fun n => rfl) c1 ?_
          show Ek _ _ _ (va_rf (mP h v0 5) :: _) _ _
          rw [e9]
          refine Ek.chk 2 (fun n => rfl) c10 ?_
          refine Ek.callT 3 (fun n => rfl) c1 ?_
          refine Ek.nch 6 (fun n => rfl) c11 ?_
          refine Ek.ret 14 (fun n => rfl) ?_
          have c25 := H.1
          refine Ek.chk 1 (fun n => rfl) c25 ?_
          replace H := H.2
          refine Ek.ret 1 (fun n => rfl) ?_
          refine Ek.br 1 (fun n => rfl) (fun hc => ?_) (fun hc => ?_)
          · replace H := H.1 hc
            exact Ek.go 11 (fun n => rfl) H
          · replace H := H.2 hc
            refine Ek.chk 8 (fun n => rfl) c1 ?_
            obtain ⟨p26, e27, H⟩ := H
            show Ek _ _ _ (va_rf (mP h v0 4) :: _) _ _
            rw [e27]
            have c28 := H.1
            refine Ek.chk 6 (fun n => rfl) c28 ?_
            replace H := H.2
            exact Ek.go 6 (fun n => rfl) H
        · replace H := H.2 hc
          exact Ek.go 11 (fun n => rfl) H

/-- RoundVotesModel.ruleC(I)Z, from 0 -/
set_option maxRecDepth 4000 in
theorem T120 {a0 : Nat} {a1 : Int32} {h : mH} {K : Option Value → mH → Prop} (H : (mTg h a0 = 12) ∧ (∃ p2, mP h a0 6 = some p2 ∧ (((mTg h p2 = 20 ∨ mTg h p2 = 30) ∧ ¬ a1 < 0 ∧ (a1.toNatClampNeg) < mLn h p2) ∧ (∃ p5, mP h a0 5 = some p5 ∧ (((mTg h p5 = 20 ∨ mTg h p5 = 30) ∧ ¬ a1 < 0 ∧ (a1.toNatClampNeg) < mLn h p5) ∧ ((¬ (mI h a0 1) = 0) ∧ (∃ p9, mP h a0 20 = some p9 ∧ ((¬ 2 = 0) ∧ (((mTg h p9 = 20 ∨ mTg h p9 = 30) ∧ ¬ ((((((((2 * a1) + ((mI h p5 (a1.toNatClampNeg)) - (mI h p5 (a1.toNatClampNeg)) / 2 * 2)) * 30) + (mI h p2 (a1.toNatClampNeg))) * 10) + (((mI h p5 (a1.toNatClampNeg)) + (mI h p2 (a1.toNatClampNeg))) - ((mI h p5 (a1.toNatClampNeg)) + (mI h p2 (a1.toNatClampNeg))) / (mI h a0 1) * (mI h a0 1))) * 3) + 0) < 0 ∧ (((((((((2 * a1) + ((mI h p5 (a1.toNatClampNeg)) - (mI h p5 (a1.toNatClampNeg)) / 2 * 2)) * 30) + (mI h p2 (a1.toNatClampNeg))) * 10) + (((mI h p5 (a1.toNatClampNeg)) + (mI h p2 (a1.toNatClampNeg))) - ((mI h p5 (a1.toNatClampNeg)) + (mI h p2 (a1.toNatClampNeg))) / (mI h a0 1) * (mI h a0 1))) * 3) + 0).toNatClampNeg) < mLn h p9) ∧ (∃ p14, mP h a0 7 = some p14 ∧ (((mTg h p14 = 20 ∨ mTg h p14 = 30) ∧ ¬ a1 < 0 ∧ (a1.toNatClampNeg) < mLn h p14) ∧ (((mI h p14 (a1.toNatClampNeg)) = 0 → (((0 : Int32) ≤ (mI h p9 (((((((((2 * a1) + ((mI h p5 (a1.toNatClampNeg)) - (mI h p5 (a1.toNatClampNeg)) / 2 * 2)) * 30) + (mI h p2 (a1.toNatClampNeg))) * 10) + (((mI h p5 (a1.toNatClampNeg)) + (mI h p2 (a1.toNatClampNeg))) - ((mI h p5 (a1.toNatClampNeg)) + (mI h p2 (a1.toNatClampNeg))) / (mI h a0 1) * (mI h a0 1))) * 3) + 0).toNatClampNeg)) → (∃ p17, mP h a0 21 = some p17 ∧ (((mTg h p17 = 20 ∨ mTg h p17 = 30) ∧ ¬ ((((((2 * a1) + ((mI h p5 (a1.toNatClampNeg)) - (mI h p5 (a1.toNatClampNeg)) / 2 * 2)) * 30) + (mI h p2 (a1.toNatClampNeg))) * 10) + (((mI h p5 (a1.toNatClampNeg)) + (mI h p2 (a1.toNatClampNeg))) - ((mI h p5 (a1.toNatClampNeg)) + (mI h p2 (a1.toNatClampNeg))) / (mI h a0 1) * (mI h a0 1))) < 0 ∧ (((((((2 * a1) + ((mI h p5 (a1.toNatClampNeg)) - (mI h p5 (a1.toNatClampNeg)) / 2 * 2)) * 30) + (mI h p2 (a1.toNatClampNeg))) * 10) + (((mI h p5 (a1.toNatClampNeg)) + (mI h p2 (a1.toNatClampNeg))) - ((mI h p5 (a1.toNatClampNeg)) + (mI h p2 (a1.toNatClampNeg))) / (mI h a0 1) * (mI h a0 1))).toNatClampNeg) < mLn h p17) ∧ (((mI h p17 (((((((2 * a1) + ((mI h p5 (a1.toNatClampNeg)) - (mI h p5 (a1.toNatClampNeg)) / 2 * 2)) * 30) + (mI h p2 (a1.toNatClampNeg))) * 10) + (((mI h p5 (a1.toNatClampNeg)) + (mI h p2 (a1.toNatClampNeg))) - ((mI h p5 (a1.toNatClampNeg)) + (mI h p2 (a1.toNatClampNeg))) / (mI h a0 1) * (mI h a0 1))).toNatClampNeg)) = (-1) → (∃ p22, mP h a0 9 = some p22 ∧ (((mTg h p22 = 20 ∨ mTg h p22 = 30) ∧ ¬ a1 < 0 ∧ (a1.toNatClampNeg) < mLn h p22) ∧ (((mI h p22 (a1.toNatClampNeg)) < 0 → (Ek 101 0 [some (.ref a0), some (.int a1), some (.int 1), some (.int (mI h p9 (((((((((2 * a1) + ((mI h p5 (a1.toNatClampNeg)) - (mI h p5 (a1.toNatClampNeg)) / 2 * 2)) * 30) + (mI h p2 (a1.toNatClampNeg))) * 10) + (((mI h p5 (a1.toNatClampNeg)) + (mI h p2 (a1.toNatClampNeg))) - ((mI h p5 (a1.toNatClampNeg)) + (mI h p2 (a1.toNatClampNeg))) / (mI h a0 1) * (mI h a0 1))) * 3) + 0).toNatClampNeg))), some (.int (-9)), none, none, none, none, none, none, none] [] h (fun r h25 => r = none ∧ ((mTg h25 a0 = 12) ∧ (∃ p27, mP h25 a0 7 = some p27 ∧ ((mTg h25 p27 = 20 ∧ ¬ a1 < 0 ∧ (a1.toNatClampNeg) < mLn h25 p27) ∧ (∀ h29, h29 = wI h25 p27 (a1.toNatClampNeg) 1 → (K (some (.int 1)) h29)))))))) ∧ (¬ (mI h p22 (a1.toNatClampNeg)) < 0 → (∃ p31, mP h a0 8 = some p31 ∧ (((mTg h p31 = 20 ∨ mTg h p31 = 30) ∧ ¬ a1 < 0 ∧ (a1.toNatClampNeg) < mLn h p31) ∧ (((mI h p31 (a1.toNatClampNeg)) = (mI h p9 (((((((((2 * a1) + ((mI h p5 (a1.toNatClampNeg)) - (mI h p5 (a1.toNatClampNeg)) / 2 * 2)) * 30) + (mI h p2 (a1.toNatClampNeg))) * 10) + (((mI h p5 (a1.toNatClampNeg)) + (mI h p2 (a1.toNatClampNeg))) - ((mI h p5 (a1.toNatClampNeg)) + (mI h p2 (a1.toNatClampNeg))) / (mI h a0 1) * (mI h a0 1))) * 3) + 0).toNatClampNeg)) → (Ek 101 0 [some (.ref a0), some (.int a1), some (.int 1), some (.int (mI h p9 (((((((((2 * a1) + ((mI h p5 (a1.toNatClampNeg)) - (mI h p5 (a1.toNatClampNeg)) / 2 * 2)) * 30) + (mI h p2 (a1.toNatClampNeg))) * 10) + (((mI h p5 (a1.toNatClampNeg)) + (mI h p2 (a1.toNatClampNeg))) - ((mI h p5 (a1.toNatClampNeg)) + (mI h p2 (a1.toNatClampNeg))) / (mI h a0 1) * (mI h a0 1))) * 3) + 0).toNatClampNeg))), some (.int (-9)), none, none, none, none, none, none, none] [] h (fun r h34 => r = none ∧ ((mTg h34 a0 = 12) ∧ (∃ p36, mP h34 a0 7 = some p36 ∧ ((mTg h34 p36 = 20 ∧ ¬ a1 < 0 ∧ (a1.toNatClampNeg) < mLn h34 p36) ∧ (∀ h38, h38 = wI h34 p36 (a1.toNatClampNeg) 1 → (K (some (.int 1)) h38)))))))) ∧ (¬ (mI h p31 (a1.toNatClampNeg)) = (mI h p9 (((((((((2 * a1) + ((mI h p5 (a1.toNatClampNeg)) - (mI h p5 (a1.toNatClampNeg)) / 2 * 2)) * 30) + (mI h p2 (a1.toNatClampNeg))) * 10) + (((mI h p5 (a1.toNatClampNeg)) + (mI h p2 (a1.toNatClampNeg))) - ((mI h p5 (a1.toNatClampNeg)) + (mI h p2 (a1.toNatClampNeg))) / (mI h a0 1) * (mI h a0 1))) * 3) + 0).toNatClampNeg)) → (((mI h p17 (((((((2 * a1) + ((mI h p5 (a1.toNatClampNeg)) - (mI h p5 (a1.toNatClampNeg)) / 2 * 2)) * 30) + (mI h p2 (a1.toNatClampNeg))) * 10) + (((mI h p5 (a1.toNatClampNeg)) + (mI h p2 (a1.toNatClampNeg))) - ((mI h p5 (a1.toNatClampNeg)) + (mI h p2 (a1.toNatClampNeg))) / (mI h a0 1) * (mI h a0 1))).toNatClampNeg)) ≤ (-1) → (Ek 120 117 [some (.ref a0), some (.int a1), some (.int (mI h p2 (a1.toNatClampNeg))), some (.int (mI h p9 (((((((((2 * a1) + ((mI h p5 (a1.toNatClampNeg)) - (mI h p5 (a1.toNatClampNeg)) / 2 * 2)) * 30) + (mI h p2 (a1.toNatClampNeg))) * 10) + (((mI h p5 (a1.toNatClampNeg)) + (mI h p2 (a1.toNatClampNeg))) - ((mI h p5 (a1.toNatClampNeg)) + (mI h p2 (a1.toNatClampNeg))) / (mI h a0 1) * (mI h a0 1))) * 3) + 0).toNatClampNeg))), some (.int (mI h p17 (((((((2 * a1) + ((mI h p5 (a1.toNatClampNeg)) - (mI h p5 (a1.toNatClampNeg)) / 2 * 2)) * 30) + (mI h p2 (a1.toNatClampNeg))) * 10) + (((mI h p5 (a1.toNatClampNeg)) + (mI h p2 (a1.toNatClampNeg))) - ((mI h p5 (a1.toNatClampNeg)) + (mI h p2 (a1.toNatClampNeg))) / (mI h a0 1) * (mI h a0 1))).toNatClampNeg))), none] [] h K)) ∧ (¬ (mI h p17 (((((((2 * a1) + ((mI h p5 (a1.toNatClampNeg)) - (mI h p5 (a1.toNatClampNeg)) / 2 * 2)) * 30) + (mI h p2 (a1.toNatClampNeg))) * 10) + (((mI h p5 (a1.toNatClampNeg)) + (mI h p2 (a1.toNatClampNeg))) - ((mI h p5 (a1.toNatClampNeg)) + (mI h p2 (a1.toNatClampNeg))) / (mI h a0 1) * (mI h a0 1))).toNatClampNeg)) ≤ (-1) → (((mI h p22 (a1.toNatClampNeg)) ≤ (mI h p17 (((((((2 * a1) + ((mI h p5 (a1.toNatClampNeg)) - (mI h p5 (a1.toNatClampNeg)) / 2 * 2)) * 30) + (mI h p2 (a1.toNatClampNeg))) * 10) + (((mI h p5 (a1.toNatClampNeg)) + (mI h p2 (a1.toNatClampNeg))) - ((mI h p5 (a1.toNatClampNeg)) + (mI h p2 (a1.toNatClampNeg))) / (mI h a0 1) * (mI h a0 1))).toNatClampNeg)) → (Ek 101 0 [some (.ref a0), some (.int a1), some (.int 1), some (.int (mI h p9 (((((((((2 * a1) + ((mI h p5 (a1.toNatClampNeg)) - (mI h p5 (a1.toNatClampNeg)) / 2 * 2)) * 30) + (mI h p2 (a1.toNatClampNeg))) * 10) + (((mI h p5 (a1.toNatClampNeg)) + (mI h p2 (a1.toNatClampNeg))) - ((mI h p5 (a1.toNatClampNeg)) + (mI h p2 (a1.toNatClampNeg))) / (mI h a0 1) * (mI h a0 1))) * 3) + 0).toNatClampNeg))), some (.int (-9)), none, none, none, none, none, none, none] [] h (fun r h41 => r = none ∧ ((mTg h41 a0 = 12) ∧ (∃ p43, mP h41 a0 7 = some p43 ∧ ((mTg h41 p43 = 20 ∧ ¬ a1 < 0 ∧ (a1.toNatClampNeg) < mLn h41 p43) ∧ (∀ h45, h45 = wI h41 p43 (a1.toNatClampNeg) 1 → (K (some (.int 1)) h45)))))))) ∧ (¬ (mI h p22 (a1.toNatClampNeg)) ≤ (mI h p17 (((((((2 * a1) + ((mI h p5 (a1.toNatClampNeg)) - (mI h p5 (a1.toNatClampNeg)) / 2 * 2)) * 30) + (mI h p2 (a1.toNatClampNeg))) * 10) + (((mI h p5 (a1.toNatClampNeg)) + (mI h p2 (a1.toNatClampNeg))) - ((mI h p5 (a1.toNatClampNeg)) + (mI h p2 (a1.toNatClampNeg))) / (mI h a0 1) * (mI h a0 1))).toNatClampNeg)) → (Ek 120 117 [some (.ref a0), some (.int a1), some (.int (mI h p2 (a1.toNatClampNeg))), some (.int (mI h p9 (((((((((2 * a1) + ((mI h p5 (a1.toNatClampNeg)) - (mI h p5 (a1.toNatClampNeg)) / 2 * 2)) * 30) + (mI h p2 (a1.toNatClampNeg))) * 10) + (((mI h p5 (a1.toNatClampNeg)) + (mI h p2 (a1.toNatClampNeg))) - ((mI h p5 (a1.toNatClampNeg)) + (mI h p2 (a1.toNatClampNeg))) / (mI h a0 1) * (mI h a0 1))) * 3) + 0).toNatClampNeg))), some (.int (mI h p17 (((((((2 * a1) + ((mI h p5 (a1.toNatClampNeg)) - (mI h p5 (a1.toNatClampNeg)) / 2 * 2)) * 30) + (mI h p2 (a1.toNatClampNeg))) * 10) + (((mI h p5 (a1.toNatClampNeg)) + (mI h p2 (a1.toNatClampNeg))) - ((mI h p5 (a1.toNatClampNeg)) + (mI h p2 (a1.toNatClampNeg))) / (mI h a0 1) * (mI h a0 1))).toNatClampNeg))), none] [] h K)))))))))))))) ∧ (¬ (mI h p17 (((((((2 * a1) + ((mI h p5 (a1.toNatClampNeg)) - (mI h p5 (a1.toNatClampNeg)) / 2 * 2)) * 30) + (mI h p2 (a1.toNatClampNeg))) * 10) + (((mI h p5 (a1.toNatClampNeg)) + (mI h p2 (a1.toNatClampNeg))) - ((mI h p5 (a1.toNatClampNeg)) + (mI h p2 (a1.toNatClampNeg))) / (mI h a0 1) * (mI h a0 1))).toNatClampNeg)) = (-1) → (((lg_cmp ((mI h p17 (((((((2 * a1) + ((mI h p5 (a1.toNatClampNeg)) - (mI h p5 (a1.toNatClampNeg)) / 2 * 2)) * 30) + (mI h p2 (a1.toNatClampNeg))) * 10) + (((mI h p5 (a1.toNatClampNeg)) + (mI h p2 (a1.toNatClampNeg))) - ((mI h p5 (a1.toNatClampNeg)) + (mI h p2 (a1.toNatClampNeg))) / (mI h a0 1) * (mI h a0 1))).toNatClampNeg))).toInt64 0) < 0 → (K (some (.int 0)) h)) ∧ (¬ (lg_cmp ((mI h p17 (((((((2 * a1) + ((mI h p5 (a1.toNatClampNeg)) - (mI h p5 (a1.toNatClampNeg)) / 2 * 2)) * 30) + (mI h p2 (a1.toNatClampNeg))) * 10) + (((mI h p5 (a1.toNatClampNeg)) + (mI h p2 (a1.toNatClampNeg))) - ((mI h p5 (a1.toNatClampNeg)) + (mI h p2 (a1.toNatClampNeg))) / (mI h a0 1) * (mI h a0 1))).toNatClampNeg))).toInt64 0) < 0 → (((0 : Int32) < (lg_cmp ((mI h p17 (((((((2 * a1) + ((mI h p5 (a1.toNatClampNeg)) - (mI h p5 (a1.toNatClampNeg)) / 2 * 2)) * 30) + (mI h p2 (a1.toNatClampNeg))) * 10) + (((mI h p5 (a1.toNatClampNeg)) + (mI h p2 (a1.toNatClampNeg))) - ((mI h p5 (a1.toNatClampNeg)) + (mI h p2 (a1.toNatClampNeg))) / (mI h a0 1) * (mI h a0 1))).toNatClampNeg))).toInt64 (((mI h p2 (a1.toNatClampNeg)) - 1)).toInt64) → (K (some (.int 0)) h)) ∧ (¬ (0 : Int32) < (lg_cmp ((mI h p17 (((((((2 * a1) + ((mI h p5 (a1.toNatClampNeg)) - (mI h p5 (a1.toNatClampNeg)) / 2 * 2)) * 30) + (mI h p2 (a1.toNatClampNeg))) * 10) + (((mI h p5 (a1.toNatClampNeg)) + (mI h p2 (a1.toNatClampNeg))) - ((mI h p5 (a1.toNatClampNeg)) + (mI h p2 (a1.toNatClampNeg))) / (mI h a0 1) * (mI h a0 1))).toNatClampNeg))).toInt64 (((mI h p2 (a1.toNatClampNeg)) - 1)).toInt64) → (Ek 115 0 [some (.ref a0), some (.int a1), some (.int (mI h p17 (((((((2 * a1) + ((mI h p5 (a1.toNatClampNeg)) - (mI h p5 (a1.toNatClampNeg)) / 2 * 2)) * 30) + (mI h p2 (a1.toNatClampNeg))) * 10) + (((mI h p5 (a1.toNatClampNeg)) + (mI h p2 (a1.toNatClampNeg))) - ((mI h p5 (a1.toNatClampNeg)) + (mI h p2 (a1.toNatClampNeg))) / (mI h a0 1) * (mI h a0 1))).toNatClampNeg))), some (.int 1), some (.int (mI h p9 (((((((((2 * a1) + ((mI h p5 (a1.toNatClampNeg)) - (mI h p5 (a1.toNatClampNeg)) / 2 * 2)) * 30) + (mI h p2 (a1.toNatClampNeg))) * 10) + (((mI h p5 (a1.toNatClampNeg)) + (mI h p2 (a1.toNatClampNeg))) - ((mI h p5 (a1.toNatClampNeg)) + (mI h p2 (a1.toNatClampNeg))) / (mI h a0 1) * (mI h a0 1))) * 3) + 0).toNatClampNeg))), none, none, none, none] [] h (fun r h47 => ∃ x48 : Int64, r = some (.long x48) ∧ ((mTg h47 a0 = 12) ∧ (∃ p50, mP h47 a0 5 = some p50 ∧ (((mTg h47 p50 = 20 ∨ mTg h47 p50 = 30) ∧ ¬ a1 < 0 ∧ (a1.toNatClampNeg) < mLn h47 p50) ∧ (Ek 116 0 [some (.ref a0), some (.long x48), none, some (.int (mI h47 p50 (a1.toNatClampNeg)))] [] h47 (fun r h53 => ∃ x54 : Int32, r = some (.int x54) ∧ ((x54 = 0 → (K (some (.int 0)) h53)) ∧ (¬ x54 = 0 → ((mTg h53 a0 = 12) ∧ (∃ p56, mP h53 a0 9 = some p56 ∧ (((mTg h53 p56 = 20 ∨ mTg h53 p56 = 30) ∧ ¬ a1 < 0 ∧ (a1.toNatClampNeg) < mLn h53 p56) ∧ (((mI h53 p56 (a1.toNatClampNeg)) < 0 → (Ek 101 0 [some (.ref a0), some (.int a1), some (.int 1), some (.int (mI h p9 (((((((((2 * a1) + ((mI h p5 (a1.toNatClampNeg)) - (mI h p5 (a1.toNatClampNeg)) / 2 * 2)) * 30) + (mI h p2 (a1.toNatClampNeg))) * 10) + (((mI h p5 (a1.toNatClampNeg)) + (mI h p2 (a1.toNatClampNeg))) - ((mI h p5 (a1.toNatClampNeg)) + (mI h p2 (a1.toNatClampNeg))) / (mI h a0 1) * (mI h a0 1))) * 3) + 0).toNatClampNeg))), some (.int (-9)), none, none, none, none, none, none, none] [] h53 (fun r h59 => r = none ∧ ((mTg h59 a0 = 12) ∧ (∃ p61, mP h59 a0 7 = some p61 ∧ ((mTg h59 p61 = 20 ∧ ¬ a1 < 0 ∧ (a1.toNatClampNeg) < mLn h59 p61) ∧ (∀ h63, h63 = wI h59 p61 (a1.toNatClampNeg) 1 → (K (some (.int 1)) h63)))))))) ∧ (¬ (mI h53 p56 (a1.toNatClampNeg)) < 0 → (∃ p65, mP h53 a0 8 = some p65 ∧ (((mTg h53 p65 = 20 ∨ mTg h53 p65 = 30) ∧ ¬ a1 < 0 ∧ (a1.toNatClampNeg) < mLn h53 p65) ∧ (((mI h53 p65 (a1.toNatClampNeg)) = (mI h p9 (((((((((2 * a1) + ((mI h p5 (a1.toNatClampNeg)) - (mI h p5 (a1.toNatClampNeg)) / 2 * 2)) * 30) + (mI h p2 (a1.toNatClampNeg))) * 10) + (((mI h p5 (a1.toNatClampNeg)) + (mI h p2 (a1.toNatClampNeg))) - ((mI h p5 (a1.toNatClampNeg)) + (mI h p2 (a1.toNatClampNeg))) / (mI h a0 1) * (mI h a0 1))) * 3) + 0).toNatClampNeg)) → (Ek 101 0 [some (.ref a0), some (.int a1), some (.int 1), some (.int (mI h p9 (((((((((2 * a1) + ((mI h p5 (a1.toNatClampNeg)) - (mI h p5 (a1.toNatClampNeg)) / 2 * 2)) * 30) + (mI h p2 (a1.toNatClampNeg))) * 10) + (((mI h p5 (a1.toNatClampNeg)) + (mI h p2 (a1.toNatClampNeg))) - ((mI h p5 (a1.toNatClampNeg)) + (mI h p2 (a1.toNatClampNeg))) / (mI h a0 1) * (mI h a0 1))) * 3) + 0).toNatClampNeg))), some (.int (-9)), none, none, none, none, none, none, none] [] h53 (fun r h68 => r = none ∧ ((mTg h68 a0 = 12) ∧ (∃ p70, mP h68 a0 7 = some p70 ∧ ((mTg h68 p70 = 20 ∧ ¬ a1 < 0 ∧ (a1.toNatClampNeg) < mLn h68 p70) ∧ (∀ h72, h72 = wI h68 p70 (a1.toNatClampNeg) 1 → (K (some (.int 1)) h72)))))))) ∧ (¬ (mI h53 p65 (a1.toNatClampNeg)) = (mI h p9 (((((((((2 * a1) + ((mI h p5 (a1.toNatClampNeg)) - (mI h p5 (a1.toNatClampNeg)) / 2 * 2)) * 30) + (mI h p2 (a1.toNatClampNeg))) * 10) + (((mI h p5 (a1.toNatClampNeg)) + (mI h p2 (a1.toNatClampNeg))) - ((mI h p5 (a1.toNatClampNeg)) + (mI h p2 (a1.toNatClampNeg))) / (mI h a0 1) * (mI h a0 1))) * 3) + 0).toNatClampNeg)) → (((mI h p17 (((((((2 * a1) + ((mI h p5 (a1.toNatClampNeg)) - (mI h p5 (a1.toNatClampNeg)) / 2 * 2)) * 30) + (mI h p2 (a1.toNatClampNeg))) * 10) + (((mI h p5 (a1.toNatClampNeg)) + (mI h p2 (a1.toNatClampNeg))) - ((mI h p5 (a1.toNatClampNeg)) + (mI h p2 (a1.toNatClampNeg))) / (mI h a0 1) * (mI h a0 1))).toNatClampNeg)) ≤ (-1) → (Ek 120 117 [some (.ref a0), some (.int a1), some (.int (mI h p2 (a1.toNatClampNeg))), some (.int (mI h p9 (((((((((2 * a1) + ((mI h p5 (a1.toNatClampNeg)) - (mI h p5 (a1.toNatClampNeg)) / 2 * 2)) * 30) + (mI h p2 (a1.toNatClampNeg))) * 10) + (((mI h p5 (a1.toNatClampNeg)) + (mI h p2 (a1.toNatClampNeg))) - ((mI h p5 (a1.toNatClampNeg)) + (mI h p2 (a1.toNatClampNeg))) / (mI h a0 1) * (mI h a0 1))) * 3) + 0).toNatClampNeg))), some (.int (mI h p17 (((((((2 * a1) + ((mI h p5 (a1.toNatClampNeg)) - (mI h p5 (a1.toNatClampNeg)) / 2 * 2)) * 30) + (mI h p2 (a1.toNatClampNeg))) * 10) + (((mI h p5 (a1.toNatClampNeg)) + (mI h p2 (a1.toNatClampNeg))) - ((mI h p5 (a1.toNatClampNeg)) + (mI h p2 (a1.toNatClampNeg))) / (mI h a0 1) * (mI h a0 1))).toNatClampNeg))), none] [] h53 K)) ∧ (¬ (mI h p17 (((((((2 * a1) + ((mI h p5 (a1.toNatClampNeg)) - (mI h p5 (a1.toNatClampNeg)) / 2 * 2)) * 30) + (mI h p2 (a1.toNatClampNeg))) * 10) + (((mI h p5 (a1.toNatClampNeg)) + (mI h p2 (a1.toNatClampNeg))) - ((mI h p5 (a1.toNatClampNeg)) + (mI h p2 (a1.toNatClampNeg))) / (mI h a0 1) * (mI h a0 1))).toNatClampNeg)) ≤ (-1) → (((mI h53 p56 (a1.toNatClampNeg)) ≤ (mI h p17 (((((((2 * a1) + ((mI h p5 (a1.toNatClampNeg)) - (mI h p5 (a1.toNatClampNeg)) / 2 * 2)) * 30) + (mI h p2 (a1.toNatClampNeg))) * 10) + (((mI h p5 (a1.toNatClampNeg)) + (mI h p2 (a1.toNatClampNeg))) - ((mI h p5 (a1.toNatClampNeg)) + (mI h p2 (a1.toNatClampNeg))) / (mI h a0 1) * (mI h a0 1))).toNatClampNeg)) → (Ek 101 0 [some (.ref a0), some (.int a1), some (.int 1), some (.int (mI h p9 (((((((((2 * a1) + ((mI h p5 (a1.toNatClampNeg)) - (mI h p5 (a1.toNatClampNeg)) / 2 * 2)) * 30) + (mI h p2 (a1.toNatClampNeg))) * 10) + (((mI h p5 (a1.toNatClampNeg)) + (mI h p2 (a1.toNatClampNeg))) - ((mI h p5 (a1.toNatClampNeg)) + (mI h p2 (a1.toNatClampNeg))) / (mI h a0 1) * (mI h a0 1))) * 3) + 0).toNatClampNeg))), some (.int (-9)), none, none, none, none, none, none, none] [] h53 (fun r h75 => r = none ∧ ((mTg h75 a0 = 12) ∧ (∃ p77, mP h75 a0 7 = some p77 ∧ ((mTg h75 p77 = 20 ∧ ¬ a1 < 0 ∧ (a1.toNatClampNeg) < mLn h75 p77) ∧ (∀ h79, h79 = wI h75 p77 (a1.toNatClampNeg) 1 → (K (some (.int 1)) h79)))))))) ∧ (¬ (mI h53 p56 (a1.toNatClampNeg)) ≤ (mI h p17 (((((((2 * a1) + ((mI h p5 (a1.toNatClampNeg)) - (mI h p5 (a1.toNatClampNeg)) / 2 * 2)) * 30) + (mI h p2 (a1.toNatClampNeg))) * 10) + (((mI h p5 (a1.toNatClampNeg)) + (mI h p2 (a1.toNatClampNeg))) - ((mI h p5 (a1.toNatClampNeg)) + (mI h p2 (a1.toNatClampNeg))) / (mI h a0 1) * (mI h a0 1))).toNatClampNeg)) → (Ek 120 117 [some (.ref a0), some (.int a1), some (.int (mI h p2 (a1.toNatClampNeg))), some (.int (mI h p9 (((((((((2 * a1) + ((mI h p5 (a1.toNatClampNeg)) - (mI h p5 (a1.toNatClampNeg)) / 2 * 2)) * 30) + (mI h p2 (a1.toNatClampNeg))) * 10) + (((mI h p5 (a1.toNatClampNeg)) + (mI h p2 (a1.toNatClampNeg))) - ((mI h p5 (a1.toNatClampNeg)) + (mI h p2 (a1.toNatClampNeg))) / (mI h a0 1) * (mI h a0 1))) * 3) + 0).toNatClampNeg))), some (.int (mI h p17 (((((((2 * a1) + ((mI h p5 (a1.toNatClampNeg)) - (mI h p5 (a1.toNatClampNeg)) / 2 * 2)) * 30) + (mI h p2 (a1.toNatClampNeg))) * 10) + (((mI h p5 (a1.toNatClampNeg)) + (mI h p2 (a1.toNatClampNeg))) - ((mI h p5 (a1.toNatClampNeg)) + (mI h p2 (a1.toNatClampNeg))) / (mI h a0 1) * (mI h a0 1))).toNatClampNeg))), none] [] h53 K)))))))))))))))))))))))))))))))) ∧ (¬ (0 : Int32) ≤ (mI h p9 (((((((((2 * a1) + ((mI h p5 (a1.toNatClampNeg)) - (mI h p5 (a1.toNatClampNeg)) / 2 * 2)) * 30) + (mI h p2 (a1.toNatClampNeg))) * 10) + (((mI h p5 (a1.toNatClampNeg)) + (mI h p2 (a1.toNatClampNeg))) - ((mI h p5 (a1.toNatClampNeg)) + (mI h p2 (a1.toNatClampNeg))) / (mI h a0 1) * (mI h a0 1))) * 3) + 0).toNatClampNeg)) → (K (some (.int 0)) h)))) ∧ (¬ (mI h p14 (a1.toNatClampNeg)) = 0 → (K (some (.int 0)) h)))))))))))))) : Ek 120 0 [some (.ref a0), some (.int a1), none, none, none, none] [] h K := by
  have c1 := H.1
  refine Ek.chk 2 (fun n => rfl) c1 ?_
  replace H := H.2
  obtain ⟨p2, e3, H⟩ := H
  show Ek _ _ _ (va_rf (mP h a0 6) :: _) _ _
  rw [e3]
  have c4 := H.1
  refine Ek.chk 2 (fun n => rfl) c4 ?_
  replace H := H.2
  refine Ek.callT 4 (fun n => rfl) c1 ?_
  refine Ek.chk 6 (fun n => rfl) c1 ?_
  obtain ⟨p5, e6, H⟩ := H
  show Ek _ _ _ (va_rf (mP h a0 5) :: _) _ _
  rw [e6]
  have c7 := H.1
  refine Ek.chk 2 (fun n => rfl) c7 ?_
  replace H := H.2
  refine Ek.callT 1 (fun n => rfl) c1 ?_
  refine Ek.chk 5 (fun n => rfl) c1 ?_
  have c8 := H.1
  refine Ek.nch 1 (fun n => rfl) c8 ?_
  replace H := H.2
  refine Ek.ret 1 (fun n => rfl) ?_
  refine Ek.callT 1 (fun n => rfl) c1 ?_
  refine Ek.chk 2 (fun n => rfl) c1 ?_
  obtain ⟨p9, e10, H⟩ := H
  show Ek _ _ _ (va_rf (mP h a0 20) :: _) _ _
  rw [e10]
  refine Ek.chk 4 (fun n => rfl) c1 ?_
  show Ek _ _ _ (va_rf (mP h a0 5) :: _) _ _
  rw [e6]
  refine Ek.chk 2 (fun n => rfl) c7 ?_
  refine Ek.callT 3 (fun n => rfl) c1 ?_
  have c12 := H.1
  refine Ek.nch 6 (fun n => rfl) c12 ?_
  replace H := H.2
  refine Ek.ret 14 (fun n => rfl) ?_
  have c13 := H.1
  refine Ek.chk 1 (fun n => rfl) c13 ?_
  replace H := H.2
  refine Ek.ret 1 (fun n => rfl) ?_
  refine Ek.ret 1 (fun n => rfl) ?_
  refine Ek.chk 3 (fun n => rfl) c1 ?_
  obtain ⟨p14, e15, H⟩ := H
  show Ek _ _ _ (va_rf (mP h a0 7) :: _) _ _
  rw [e15]
  have c16 := H.1
  refine Ek.chk 2 (fun n => rfl) c16 ?_
  replace H := H.2
  refine Ek.br 1 (fun n => rfl) (fun hc => ?_) (fun hc => ?_)
  · replace H := H.1 hc
    refine Ek.br 2 (fun n => rfl) (fun hc => ?_) (fun hc => ?_)
    · replace H := H.1 hc
      refine Ek.callT 3 (fun n => rfl) c1 ?_
      refine Ek.chk 2 (fun n => rfl) c1 ?_
      obtain ⟨p17, e18, H⟩ := H
      show Ek _ _ _ (va_rf (mP h a0 21) :: _) _ _
      rw [e18]
      refine Ek.chk 4 (fun n => rfl) c1 ?_
      show Ek _ _ _ (va_rf (mP h a0 5) :: _) _ _
      rw [e6]
      refine Ek.chk 2 (fun n => rfl) c7 ?_
      refine Ek.chk 4 (fun n => rfl) c1 ?_
      show Ek _ _ _ (va_rf (mP h a0 5) :: _) _ _
      rw [e6]
      refine Ek.chk 2 (fun n => rfl) c7 ?_
      refine Ek.callT 1 (fun n => rfl) c1 ?_
      refine Ek.chk 5 (fun n => rfl) c1 ?_
      refine Ek.nch 1 (fun n => rfl) c8 ?_
      refine Ek.ret 1 (fun n => rfl) ?_
      refine Ek.callT 0 (fun n => rfl) c1 ?_
      refine Ek.nch 6 (fun n => rfl) c12 ?_
      refine Ek.ret 10 (fun n => rfl) ?_
      have c21 := H.1
      refine Ek.chk 1 (fun n => rfl) c21 ?_
      replace H := H.2
      refine Ek.ret 1 (fun n => rfl) ?_
      refine Ek.br 4 (fun n => rfl) (fun hc => ?_) (fun hc => ?_)
      · replace H := H.1 hc
        refine Ek.chk 2 (fun n => rfl) c1 ?_
        obtain ⟨p22, e23, H⟩ := H
        show Ek _ _ _ (va_rf (mP h a0 9) :: _) _ _
        rw [e23]
        have c24 := H.1
        refine Ek.chk 2 (fun n => rfl) c24 ?_
        replace H := H.2
        refine Ek.br 1 (fun n => rfl) (fun hc => ?_) (fun hc => ?_)
        · replace H := H.1 hc
          refine Ek.callT 11 (fun n => rfl) c1 ?_
          refine Ek.mono H ?_
          rintro _ h25 ⟨rfl, H⟩
          have c26 := H.1
          refine Ek.chk 2 (fun n => rfl) c26 ?_
          replace H := H.2
          obtain ⟨p27, e28, H⟩ := H
          show Ek _ _ _ (va_rf (mP h25 a0 7) :: _) _ _
          rw [e28]
          have c30 := H.1
          refine Ek.chk 3 (fun n => rfl) c30 ?_
          replace H := H.2
          let h29 : mH := wI h25 p27 (a1.toNatClampNeg) 1
          replace H := H h29 rfl
          show Ek _ _ _ _ h29 _
          exact Ek.ret 2 (fun n => rfl) H
        · replace H := H.2 hc
          refine Ek.chk 2 (fun n => rfl) c1 ?_
          obtain ⟨p31, e32, H⟩ := H
          show Ek _ _ _ (va_rf (mP h a0 8) :: _) _ _
          rw [e32]
          have c33 := H.1
          refine Ek.chk 2 (fun n => rfl) c33 ?_
          replace H := H.2
          refine Ek.br 2 (fun n => rfl) (fun hc => ?_) (fun hc => ?_)
          · replace H := H.1 hc
            refine Ek.callT 11 (fun n => rfl) c1 ?_
            refine Ek.mono H ?_
            rintro _ h34 ⟨rfl, H⟩
            have c35 := H.1
            refine Ek.chk 2 (fun n => rfl) c35 ?_
            replace H := H.2
            obtain ⟨p36, e37, H⟩ := H
            show Ek _ _ _ (va_rf (mP h34 a0 7) :: _) _ _
            rw [e37]
            have c39 := H.1
            refine Ek.chk 3 (fun n => rfl) c39 ?_
            replace H := H.2
            let h38 : mH := wI h34 p36 (a1.toNatClampNeg) 1
            replace H := H h38 rfl
            show Ek _ _ _ _ h38 _
            exact Ek.ret 2 (fun n => rfl) H
          · replace H := H.2 hc
            refine Ek.br 3 (fun n => rfl) (fun hc => ?_) (fun hc => ?_)
            · replace H := H.1 hc
              exact H
            · replace H := H.2 hc
              refine Ek.chk 2 (fun n => rfl) c1 ?_
              show Ek _ _ _ (va_rf (mP h a0 9) :: _) _ _
              rw [e23]
              refine Ek.chk 2 (fun n => rfl) c24 ?_
              refine Ek.br 2 (fun n => rfl) (fun hc => ?_) (fun hc => ?_)
              · replace H := H.1 hc
                refine Ek.callT 11 (fun n => rfl) c1 ?_
                refine Ek.mono H ?_
                rintro _ h41 ⟨rfl, H⟩
                have c42 := H.1
                refine Ek.chk 2 (fun n => rfl) c42 ?_
                replace H := H.2
                obtain ⟨p43, e44, H⟩ := H
                show Ek _ _ _ (va_rf (mP h41 a0 7) :: _) _ _
                rw [e44]
                have c46 := H.1
                refine Ek.chk 3 (fun n => rfl) c46 ?_
                replace H := H.2
                let h45 : mH := wI h41 p43 (a1.toNatClampNeg) 1
                replace H := H h45 rfl
                show Ek _ _ _ _ h45 _
                exact Ek.ret 2 (fun n => rfl) H
              · replace H := H.2 hc
                exact H
      · replace H := H.2 hc
        refine Ek.call 7 (fun n => rfl) ?_
        refine Ek.br 4 (fun n => rfl) (fun hc => ?_) (fun hc => ?_)
        · replace H := H.1 hc
          refine Ek.ret 2 (fun n => rfl) ?_
          exact Ek.ret 3 (fun n => rfl) H
        · replace H := H.2 hc
          refine Ek.br 4 (fun n => rfl) (fun hc => ?_) (fun hc => ?_)
          · replace H := H.1 hc
            refine Ek.ret 2 (fun n => rfl) ?_
            exact Ek.ret 3 (fun n => rfl) H
          · replace H := H.2 hc
            refine Ek.ret 3 (fun n => rfl) ?_
            refine Ek.callT 7 (fun n => rfl) c1 ?_
            refine Ek.mono H ?_
            rintro _ h47 ⟨x48, rfl, H⟩
            have c49 := H.1
            refine Ek.chk 2 (fun n => rfl) c49 ?_
            replace H := H.2
            obtain ⟨p50, e51, H⟩ := H
            show Ek _ _ _ (va_rf (mP h47 a0 5) :: _) _ _
            rw [e51]
            have c52 := H.1
            refine Ek.chk 2 (fun n => rfl) c52 ?_
            replace H := H.2
            refine Ek.callT 0 (fun n => rfl) c49 ?_
            refine Ek.mono H ?_
            rintro _ h53 ⟨x54, rfl, H⟩
            refine Ek.br 1 (fun n => rfl) (fun hc => ?_) (fun hc => ?_)
            · replace H := H.1 hc
              exact Ek.ret 2 (fun n => rfl) H
            · replace H := H.2 hc
              have c55 := H.1
              refine Ek.chk 2 (fun n => rfl) c55 ?_
              replace H := H.2
              obtain ⟨p56, e57, H⟩ := H
              show Ek _ _ _ (va_rf (mP h53 a0 9) :: _) _ _
              rw [e57]
              have c58 := H.1
              refine Ek.chk 2 (fun n => rfl) c58 ?_
              replace H := H.2
              refine Ek.br 1 (fun n => rfl) (fun hc => ?_) (fun hc => ?_)
              · replace H := H.1 hc
                refine Ek.callT 11 (fun n => rfl) c55 ?_
                refine Ek.mono H ?_
                rintro _ h59 ⟨rfl, H⟩
                have c60 := H.1
                refine Ek.chk 2 (fun n => rfl) c60 ?_
                replace H := H.2
                obtain ⟨p61, e62, H⟩ := H
                show Ek _ _ _ (va_rf (mP h59 a0 7) :: _) _ _
                rw [e62]
                have c64 := H.1
                refine Ek.chk 3 (fun n => rfl) c64 ?_
                replace H := H.2
                let h63 : mH := wI h59 p61 (a1.toNatClampNeg) 1
                replace H := H h63 rfl
                show Ek _ _ _ _ h63 _
                exact Ek.ret 2 (fun n => rfl) H
              · replace H := H.2 hc
                refine Ek.chk 2 (fun n => rfl) c55 ?_
                obtain ⟨p65, e66, H⟩ := H
                show Ek _ _ _ (va_rf (mP h53 a0 8) :: _) _ _
                rw [e66]
                have c67 := H.1
                refine Ek.chk 2 (fun n => rfl) c67 ?_
                replace H := H.2
                refine Ek.br 2 (fun n => rfl) (fun hc => ?_) (fun hc => ?_)
                · replace H := H.1 hc
                  refine Ek.callT 11 (fun n => rfl) c55 ?_
                  refine Ek.mono H ?_
                  rintro _ h68 ⟨rfl, H⟩
                  have c69 := H.1
                  refine Ek.chk 2 (fun n => rfl) c69 ?_
                  replace H := H.2
                  obtain ⟨p70, e71, H⟩ := H
                  show Ek _ _ _ (va_rf (mP h68 a0 7) :: _) _ _
                  rw [e71]
                  have c73 := H.1
                  refine Ek.chk 3 (fun n => rfl) c73 ?_
                  replace H := H.2
                  let h72 : mH := wI h68 p70 (a1.toNatClampNeg) 1
                  replace H := H h72 rfl
                  show Ek _ _ _ _ h72 _
                  exact Ek.ret 2 (fun n => rfl) H
                · replace H := H.2 hc
                  refine Ek.br 3 (fun n => rfl) (fun hc => ?_) (fun hc => ?_)
                  · replace H := H.1 hc
                    exact H
                  · replace H := H.2 hc
                    refine Ek.chk 2 (fun n => rfl) c55 ?_
                    show Ek _ _ _ (va_rf (mP h53 a0 9) :: _) _ _
                    rw [e57]
                    refine Ek.chk 2 (fun n => rfl) c58 ?_
                    refine Ek.br 2 (fun n => rfl) (fun hc => ?_) (fun hc => ?_)
                    · replace H := H.1 hc
                      refine Ek.callT 11 (fun n => rfl) c55 ?_
                      refine Ek.mono H ?_
                      rintro _ h75 ⟨rfl, H⟩
                      have c76 := H.1
                      refine Ek.chk 2 (fun n => rfl) c76 ?_
                      replace H := H.2
                      obtain ⟨p77, e78, H⟩ := H
                      show Ek _ _ _ (va_rf (mP h75 a0 7) :: _) _ _
                      rw [e78]
                      have c80 := H.1
                      refine Ek.chk 3 (fun n => rfl) c80 ?_
                      replace H := H.2
                      let h79 : mH := wI h75 p77 (a1.toNatClampNeg) 1
                      replace H := H h79 rfl
                      show Ek _ _ _ _ h79 _
                      exact Ek.ret 2 (fun n => rfl) H
                    · replace H := H.2 hc
                      exact H
    · replace H := H.2 hc
      exact Ek.ret 2 (fun n => rfl) H
  · replace H := H.2 hc
    exact Ek.ret 2 (fun n => rfl) H

/-- RoundVotesModel.ruleC(I)Z, from 117 -/
set_option maxRecDepth 4000 in
theorem T120_117 {v0 : Nat} {v1 : Int32} {v2 : Int32} {v3 : Int32} {v4 : Int32} {h : mH} {K : Option Value → mH → Prop} (H : (mTg h v0 = 12) ∧ (∃ p2, mP h v0 14 = some p2 ∧ (((mTg h p2 = 20 ∨ mTg h p2 = 30) ∧ ¬ v1 < 0 ∧ (v1.toNatClampNeg) < mLn h p2) ∧ (((mI h p2 (v1.toNatClampNeg)) = 4 → (Ek 101 0 [some (.ref v0), some (.int v1), some (.int 1), some (.int v3), some (.int (-9)), none, none, none, none, none, none, none] [] h (fun r h5 => r = none ∧ ((mTg h5 v0 = 12) ∧ (∃ p7, mP h5 v0 7 = some p7 ∧ ((mTg h5 p7 = 20 ∧ ¬ v1 < 0 ∧ (v1.toNatClampNeg) < mLn h5 p7) ∧ (∀ h9, h9 = wI h5 p7 (v1.toNatClampNeg) 1 → (K (some (.int 1)) h9)))))))) ∧ (¬ (mI h p2 (v1.toNatClampNeg)) = 4 → (Ek 101 0 [some (.ref v0), some (.int v1), some (.int 1), some (.int 0), some (.int (-9)), none, none, none, none, none, none, none] [] h (fun r h11 => r = none ∧ ((mTg h11 v0 = 12) ∧ (∃ p13, mP h11 v0 7 = some p13 ∧ ((mTg h11 p13 = 20 ∧ ¬ v1 < 0 ∧ (v1.toNatClampNeg) < mLn h11 p13) ∧ (∀ h15, h15 = wI h11 p13 (v1.toNatClampNeg) 1 → (K (some (.int 1)) h15)))))))))))) : Ek 120 117 [some (.ref v0), some (.int v1), some (.int v2), some (.int v3), some (.int v4), none] [] h K := by
  have c1 := H.1
  refine Ek.chk 2 (fun n => rfl) c1 ?_
  replace H := H.2
  obtain ⟨p2, e3, H⟩ := H
  show Ek _ _ _ (va_rf (mP h v0 14) :: _) _ _
  rw [e3]
  have c4 := H.1
  refine Ek.chk 2 (fun n => rfl) c4 ?_
  replace H := H.2
  refine Ek.br 2 (fun n => rfl) (fun hc => ?_) (fun hc => ?_)
  · replace H := H.1 hc
    refine Ek.callT 11 (fun n => rfl) c1 ?_
    refine Ek.mono H ?_
    rintro _ h5 ⟨rfl, H⟩
    have c6 := H.1
    refine Ek.chk 2 (fun n => rfl) c6 ?_
    replace H := H.2
    obtain ⟨p7, e8, H⟩ := H
    show Ek _ _ _ (va_rf (mP h5 v0 7) :: _) _ _
    rw [e8]
    have c10 := H.1
    refine Ek.chk 3 (fun n => rfl) c10 ?_
    replace H := H.2
    let h9 : mH := wI h5 p7 (v1.toNatClampNeg) 1
    replace H := H h9 rfl
    show Ek _ _ _ _ h9 _
    exact Ek.ret 2 (fun n => rfl) H
  · replace H := H.2 hc
    refine Ek.callT 9 (fun n => rfl) c1 ?_
    refine Ek.mono H ?_
    rintro _ h11 ⟨rfl, H⟩
    have c12 := H.1
    refine Ek.chk 2 (fun n => rfl) c12 ?_
    replace H := H.2
    obtain ⟨p13, e14, H⟩ := H
    show Ek _ _ _ (va_rf (mP h11 v0 7) :: _) _ _
    rw [e14]
    have c16 := H.1
    refine Ek.chk 3 (fun n => rfl) c16 ?_
    replace H := H.2
    let h15 : mH := wI h11 p13 (v1.toNatClampNeg) 1
    replace H := H h15 rfl
    show Ek _ _ _ _ h15 _
    exact Ek.ret 2 (fun n => rfl) H

/-- RoundVotesModel.proposalSince(II)I, from 0 -/
set_option maxRecDepth 4000 in
theorem T121 {a0 : Nat} {a1 : Int32} {a2 : Int32} {h : mH} {K : Option Value → mH → Prop} (H : (mTg h a0 = 12) ∧ (∃ p2, mP h a0 21 = some p2 ∧ (∃ p4, mP h a0 5 = some p4 ∧ (((mTg h p4 = 20 ∨ mTg h p4 = 30) ∧ ¬ a1 < 0 ∧ (a1.toNatClampNeg) < mLn h p4) ∧ ((¬ (mI h a0 1) = 0) ∧ ((¬ 2 = 0) ∧ (((mTg h p2 = 20 ∨ mTg h p2 = 30) ∧ ¬ ((((((2 * a1) + ((mI h p4 (a1.toNatClampNeg)) - (mI h p4 (a1.toNatClampNeg)) / 2 * 2)) * 30) + a2) * 10) + (((mI h p4 (a1.toNatClampNeg)) + a2) - ((mI h p4 (a1.toNatClampNeg)) + a2) / (mI h a0 1) * (mI h a0 1))) < 0 ∧ (((((((2 * a1) + ((mI h p4 (a1.toNatClampNeg)) - (mI h p4 (a1.toNatClampNeg)) / 2 * 2)) * 30) + a2) * 10) + (((mI h p4 (a1.toNatClampNeg)) + a2) - ((mI h p4 (a1.toNatClampNeg)) + a2) / (mI h a0 1) * (mI h a0 1))).toNatClampNeg) < mLn h p2) ∧ (K (some (.int (mI h p2 (((((((2 * a1) + ((mI h p4 (a1.toNatClampNeg)) - (mI h p4 (a1.toNatClampNeg)) / 2 * 2)) * 30) + a2) * 10) + (((mI h p4 (a1.toNatClampNeg)) + a2) - ((mI h p4 (a1.toNatClampNeg)) + a2) / (mI h a0 1) * (mI h a0 1))).toNatClampNeg)))) h)))))))) : Ek 121 0 [some (.ref a0), some (.int a1), some (.int a2)] [] h K := by
  have c1 := H.1
  refine Ek.chk 2 (fun n => rfl) c1 ?_
  replace H := H.2
  obtain ⟨p2, e3, H⟩ := H
  show Ek _ _ _ (va_rf (mP h a0 21) :: _) _ _
  rw [e3]
  refine Ek.chk 4 (fun n => rfl) c1 ?_
  obtain ⟨p4, e5, H⟩ := H
  show Ek _ _ _ (va_rf (mP h a0 5) :: _) _ _
  rw [e5]
  have c6 := H.1
  refine Ek.chk 2 (fun n => rfl) c6 ?_
  replace H := H.2
  refine Ek.chk 4 (fun n => rfl) c1 ?_
  show Ek _ _ _ (va_rf (mP h a0 5) :: _) _ _
  rw [e5]
  refine Ek.chk 2 (fun n => rfl) c6 ?_
  refine Ek.callT 1 (fun n => rfl) c1 ?_
  refine Ek.chk 5 (fun n => rfl) c1 ?_
  have c8 := H.1
  refine Ek.nch 1 (fun n => rfl) c8 ?_
  replace H := H.2
  refine Ek.ret 1 (fun n => rfl) ?_
  refine Ek.callT 0 (fun n => rfl) c1 ?_
  have c9 := H.1
  refine Ek.nch 6 (fun n => rfl) c9 ?_
  replace H := H.2
  refine Ek.ret 10 (fun n => rfl) ?_
  have c10 := H.1
  refine Ek.chk 1 (fun n => rfl) c10 ?_
  replace H := H.2
  exact Ek.ret 1 (fun n => rfl) H

/-- RoundVotesModel.ruleD(I)Z, from 0 -/
set_option maxRecDepth 4000 in
theorem T122 {a0 : Nat} {a1 : Int32} {h : mH} {K : Option Value → mH → Prop} (H : (mTg h a0 = 12) ∧ (∃ p2, mP h a0 6 = some p2 ∧ (((mTg h p2 = 20 ∨ mTg h p2 = 30) ∧ ¬ a1 < 0 ∧ (a1.toNatClampNeg) < mLn h p2) ∧ (∃ p5, mP h a0 5 = some p5 ∧ (((mTg h p5 = 20 ∨ mTg h p5 = 30) ∧ ¬ a1 < 0 ∧ (a1.toNatClampNeg) < mLn h p5) ∧ ((¬ (mI h a0 1) = 0) ∧ (∃ p9, mP h a0 20 = some p9 ∧ ((¬ 2 = 0) ∧ (((mTg h p9 = 20 ∨ mTg h p9 = 30) ∧ ¬ ((((((((2 * a1) + ((mI h p5 (a1.toNatClampNeg)) - (mI h p5 (a1.toNatClampNeg)) / 2 * 2)) * 30) + (mI h p2 (a1.toNatClampNeg))) * 10) + (((mI h p5 (a1.toNatClampNeg)) + (mI h p2 (a1.toNatClampNeg))) - ((mI h p5 (a1.toNatClampNeg)) + (mI h p2 (a1.toNatClampNeg))) / (mI h a0 1) * (mI h a0 1))) * 3) + 0) < 0 ∧ (((((((((2 * a1) + ((mI h p5 (a1.toNatClampNeg)) - (mI h p5 (a1.toNatClampNeg)) / 2 * 2)) * 30) + (mI h p2 (a1.toNatClampNeg))) * 10) + (((mI h p5 (a1.toNatClampNeg)) + (mI h p2 (a1.toNatClampNeg))) - ((mI h p5 (a1.toNatClampNeg)) + (mI h p2 (a1.toNatClampNeg))) / (mI h a0 1) * (mI h a0 1))) * 3) + 0).toNatClampNeg) < mLn h p9) ∧ (∃ p14, mP h a0 16 = some p14 ∧ ((mTg h p14 = 21 ∧ ¬ a1 < 0 ∧ (a1.toNatClampNeg) < mLn h p14) ∧ (((mI h p14 (a1.toNatClampNeg)) = 0 → (∃ p17, mP h a0 7 = some p17 ∧ (((mTg h p17 = 20 ∨ mTg h p17 = 30) ∧ ¬ a1 < 0 ∧ (a1.toNatClampNeg) < mLn h p17) ∧ (((mI h p17 (a1.toNatClampNeg)) = 0 → (K (some (.int 0)) h)) ∧ (¬ (mI h p17 (a1.toNatClampNeg)) = 0 → (((mI h p9 (((((((((2 * a1) + ((mI h p5 (a1.toNatClampNeg)) - (mI h p5 (a1.toNatClampNeg)) / 2 * 2)) * 30) + (mI h p2 (a1.toNatClampNeg))) * 10) + (((mI h p5 (a1.toNatClampNeg)) + (mI h p2 (a1.toNatClampNeg))) - ((mI h p5 (a1.toNatClampNeg)) + (mI h p2 (a1.toNatClampNeg))) / (mI h a0 1) * (mI h a0 1))) * 3) + 0).toNatClampNeg)) < 0 → (K (some (.int 0)) h)) ∧ (¬ (mI h p9 (((((((((2 * a1) + ((mI h p5 (a1.toNatClampNeg)) - (mI h p5 (a1.toNatClampNeg)) / 2 * 2)) * 30) + (mI h p2 (a1.toNatClampNeg))) * 10) + (((mI h p5 (a1.toNatClampNeg)) + (mI h p2 (a1.toNatClampNeg))) - ((mI h p5 (a1.toNatClampNeg)) + (mI h p2 (a1.toNatClampNeg))) / (mI h a0 1) * (mI h a0 1))) * 3) + 0).toNatClampNeg)) < 0 → (Ek 115 0 [some (.ref a0), some (.int a1), some (.int (mI h p2 (a1.toNatClampNeg))), some (.int 1), some (.int (mI h p9 (((((((((2 * a1) + ((mI h p5 (a1.toNatClampNeg)) - (mI h p5 (a1.toNatClampNeg)) / 2 * 2)) * 30) + (mI h p2 (a1.toNatClampNeg))) * 10) + (((mI h p5 (a1.toNatClampNeg)) + (mI h p2 (a1.toNatClampNeg))) - ((mI h p5 (a1.toNatClampNeg)) + (mI h p2 (a1.toNatClampNeg))) / (mI h a0 1) * (mI h a0 1))) * 3) + 0).toNatClampNeg))), none, none, none, none] [] h (fun r h20 => ∃ x21 : Int64, r = some (.long x21) ∧ ((mTg h20 a0 = 12) ∧ (∃ p23, mP h20 a0 5 = some p23 ∧ (((mTg h20 p23 = 20 ∨ mTg h20 p23 = 30) ∧ ¬ a1 < 0 ∧ (a1.toNatClampNeg) < mLn h20 p23) ∧ (Ek 116 0 [some (.ref a0), some (.long x21), none, some (.int (mI h20 p23 (a1.toNatClampNeg)))] [] h20 (fun r h26 => ∃ x27 : Int32, r = some (.int x27) ∧ ((x27 = 0 → (K (some (.int 0)) h26)) ∧ (¬ x27 = 0 → ((mTg h26 a0 = 12) ∧ (∃ p29, mP h26 a0 16 = some p29 ∧ ((mTg h26 p29 = 21 ∧ ((1 : Int32) = 0 ∨ (1 : Int32) = 1) ∧ ¬ a1 < 0 ∧ (a1.toNatClampNeg) < mLn h26 p29) ∧ (∀ h31, h31 = wI h26 p29 (a1.toNatClampNeg) 1 → (∃ p33, mP h26 a0 7 = some p33 ∧ (((mTg h26 p33 = 20 ∨ mTg h26 p33 = 30) ∧ ¬ a1 < 0 ∧ (a1.toNatClampNeg) < mLn h26 p33) ∧ (((mI h31 p33 (a1.toNatClampNeg)) = 1 → (∃ p36, mP h26 a0 8 = some p36 ∧ ((mTg h26 p36 = 20 ∧ ¬ a1 < 0 ∧ (a1.toNatClampNeg) < mLn h26 p36) ∧ (∀ h38, h38 = wI h31 p36 (a1.toNatClampNeg) (mI h p9 (((((((((2 * a1) + ((mI h p5 (a1.toNatClampNeg)) - (mI h p5 (a1.toNatClampNeg)) / 2 * 2)) * 30) + (mI h p2 (a1.toNatClampNeg))) * 10) + (((mI h p5 (a1.toNatClampNeg)) + (mI h p2 (a1.toNatClampNeg))) - ((mI h p5 (a1.toNatClampNeg)) + (mI h p2 (a1.toNatClampNeg))) / (mI h a0 1) * (mI h a0 1))) * 3) + 0).toNatClampNeg)) → (∃ p40, mP h26 a0 9 = some p40 ∧ ((mTg h26 p40 = 20 ∧ ¬ a1 < 0 ∧ (a1.toNatClampNeg) < mLn h26 p40) ∧ (∀ h42, h42 = wI h38 p40 (a1.toNatClampNeg) (mI h p2 (a1.toNatClampNeg)) → (Ek 101 0 [some (.ref a0), some (.int a1), some (.int 2), some (.int (mI h p9 (((((((((2 * a1) + ((mI h p5 (a1.toNatClampNeg)) - (mI h p5 (a1.toNatClampNeg)) / 2 * 2)) * 30) + (mI h p2 (a1.toNatClampNeg))) * 10) + (((mI h p5 (a1.toNatClampNeg)) + (mI h p2 (a1.toNatClampNeg))) - ((mI h p5 (a1.toNatClampNeg)) + (mI h p2 (a1.toNatClampNeg))) / (mI h a0 1) * (mI h a0 1))) * 3) + 0).toNatClampNeg))), some (.int (-9)), none, none, none, none, none, none, none] [] h42 (fun r h44 => r = none ∧ ((mTg h44 a0 = 12) ∧ (∃ p46, mP h44 a0 7 = some p46 ∧ ((mTg h44 p46 = 20 ∧ ¬ a1 < 0 ∧ (a1.toNatClampNeg) < mLn h44 p46) ∧ (∀ h48, h48 = wI h44 p46 (a1.toNatClampNeg) 2 → (∃ p50, mP h44 a0 10 = some p50 ∧ ((mTg h44 p50 = 20 ∧ ¬ a1 < 0 ∧ (a1.toNatClampNeg) < mLn h44 p50) ∧ (∀ h52, h52 = wI h48 p50 (a1.toNatClampNeg) (mI h p9 (((((((((2 * a1) + ((mI h p5 (a1.toNatClampNeg)) - (mI h p5 (a1.toNatClampNeg)) / 2 * 2)) * 30) + (mI h p2 (a1.toNatClampNeg))) * 10) + (((mI h p5 (a1.toNatClampNeg)) + (mI h p2 (a1.toNatClampNeg))) - ((mI h p5 (a1.toNatClampNeg)) + (mI h p2 (a1.toNatClampNeg))) / (mI h a0 1) * (mI h a0 1))) * 3) + 0).toNatClampNeg)) → (∃ p54, mP h44 a0 11 = some p54 ∧ ((mTg h44 p54 = 20 ∧ ¬ a1 < 0 ∧ (a1.toNatClampNeg) < mLn h44 p54) ∧ (∀ h56, h56 = wI h52 p54 (a1.toNatClampNeg) (mI h p2 (a1.toNatClampNeg)) → (K (some (.int 1)) h56)))))))))))))))))))) ∧ (¬ (mI h31 p33 (a1.toNatClampNeg)) = 1 → (∃ p58, mP h26 a0 10 = some p58 ∧ ((mTg h26 p58 = 20 ∧ ¬ a1 < 0 ∧ (a1.toNatClampNeg) < mLn h26 p58) ∧ (∀ h60, h60 = wI h31 p58 (a1.toNatClampNeg) (mI h p9 (((((((((2 * a1) + ((mI h p5 (a1.toNatClampNeg)) - (mI h p5 (a1.toNatClampNeg)) / 2 * 2)) * 30) + (mI h p2 (a1.toNatClampNeg))) * 10) + (((mI h p5 (a1.toNatClampNeg)) + (mI h p2 (a1.toNatClampNeg))) - ((mI h p5 (a1.toNatClampNeg)) + (mI h p2 (a1.toNatClampNeg))) / (mI h a0 1) * (mI h a0 1))) * 3) + 0).toNatClampNeg)) → (∃ p62, mP h26 a0 11 = some p62 ∧ ((mTg h26 p62 = 20 ∧ ¬ a1 < 0 ∧ (a1.toNatClampNeg) < mLn h26 p62) ∧ (∀ h64, h64 = wI h60 p62 (a1.toNatClampNeg) (mI h p2 (a1.toNatClampNeg)) → (K (some (.int 1)) h64))))))))))))))))))))))))))))))) ∧ (¬ (mI h p14 (a1.toNatClampNeg)) = 0 → (K (some (.int 0)) h)))))))))))))) : Ek 122 0 [some (.ref a0), some (.int a1), none, none] [] h K := by
  have c1 := H.1
  refine Ek.chk 2 (fun n => rfl) c1 ?_
  replace H := H.2
  obtain ⟨p2, e3, H⟩ := H
  show Ek _ _ _ (va_rf (mP h a0 6) :: _) _ _
  rw [e3]
  have c4 := H.1
  refine Ek.chk 2 (fun n => rfl) c4 ?_
  replace H := H.2
  refine Ek.callT 4 (fun n => rfl) c1 ?_
  refine Ek.chk 6 (fun n => rfl) c1 ?_
  obtain ⟨p5, e6, H⟩ := H
  show Ek _ _ _ (va_rf (mP h a0 5) :: _) _ _
  rw [e6]
  have c7 := H.1
  refine Ek.chk 2 (fun n => rfl) c7 ?_
  replace H := H.2
  refine Ek.callT 1 (fun n => rfl) c1 ?_
  refine Ek.chk 5 (fun n => rfl) c1 ?_
  have c8 := H.1
  refine Ek.nch 1 (fun n => rfl) c8 ?_
  replace H := H.2
  refine Ek.ret 1 (fun n => rfl) ?_
  refine Ek.callT 1 (fun n => rfl) c1 ?_
  refine Ek.chk 2 (fun n => rfl) c1 ?_
  obtain ⟨p9, e10, H⟩ := H
  show Ek _ _ _ (va_rf (mP h a0 20) :: _) _ _
  rw [e10]
  refine Ek.chk 4 (fun n => rfl) c1 ?_
  show Ek _ _ _ (va_rf (mP h a0 5) :: _) _ _
  rw [e6]
  refine Ek.chk 2 (fun n => rfl) c7 ?_
  refine Ek.callT 3 (fun n => rfl) c1 ?_
  have c12 := H.1
  refine Ek.nch 6 (fun n => rfl) c12 ?_
  replace H := H.2
  refine Ek.ret 14 (fun n => rfl) ?_
  have c13 := H.1
  refine Ek.chk 1 (fun n => rfl) c13 ?_
  replace H := H.2
  refine Ek.ret 1 (fun n => rfl) ?_
  refine Ek.ret 1 (fun n => rfl) ?_
  refine Ek.chk 3 (fun n => rfl) c1 ?_
  obtain ⟨p14, e15, H⟩ := H
  show Ek _ _ _ (va_rf (mP h a0 16) :: _) _ _
  rw [e15]
  have c16 := H.1
  refine Ek.chk 2 (fun n => rfl) c16 ?_
  replace H := H.2
  refine Ek.br 1 (fun n => rfl) (fun hc => ?_) (fun hc => ?_)
  · replace H := H.1 hc
    refine Ek.chk 2 (fun n => rfl) c1 ?_
    obtain ⟨p17, e18, H⟩ := H
    show Ek _ _ _ (va_rf (mP h a0 7) :: _) _ _
    rw [e18]
    have c19 := H.1
    refine Ek.chk 2 (fun n => rfl) c19 ?_
    replace H := H.2
    refine Ek.br 1 (fun n => rfl) (fun hc => ?_) (fun hc => ?_)
    · replace H := H.1 hc
      exact Ek.ret 2 (fun n => rfl) H
    · replace H := H.2 hc
      refine Ek.br 2 (fun n => rfl) (fun hc => ?_) (fun hc => ?_)
      · replace H := H.1 hc
        exact Ek.ret 2 (fun n => rfl) H
      · replace H := H.2 hc
        refine Ek.callT 6 (fun n => rfl) c1 ?_
        refine Ek.mono H ?_
        rintro _ h20 ⟨x21, rfl, H⟩
        have c22 := H.1
        refine Ek.chk 2 (fun n => rfl) c22 ?_
        replace H := H.2
        obtain ⟨p23, e24, H⟩ := H
        show Ek _ _ _ (va_rf (mP h20 a0 5) :: _) _ _
        rw [e24]
        have c25 := H.1
        refine Ek.chk 2 (fun n => rfl) c25 ?_
        replace H := H.2
        refine Ek.callT 0 (fun n => rfl) c22 ?_
        refine Ek.mono H ?_
        rintro _ h26 ⟨x27, rfl, H⟩
        refine Ek.br 1 (fun n => rfl) (fun hc => ?_) (fun hc => ?_)
        · replace H := H.1 hc
          exact Ek.ret 2 (fun n => rfl) H
        · replace H := H.2 hc
          have c28 := H.1
          refine Ek.chk 2 (fun n => rfl) c28 ?_
          replace H := H.2
          obtain ⟨p29, e30, H⟩ := H
          show Ek _ _ _ (va_rf (mP h26 a0 16) :: _) _ _
          rw [e30]
          have c32 := H.1
          refine Ek.chk 3 (fun n => rfl) c32 ?_
          replace H := H.2
          let h31 : mH := wI h26 p29 (a1.toNatClampNeg) 1
          replace H := H h31 rfl
          show Ek _ _ _ _ h31 _
          refine Ek.chk 2 (fun n => rfl) c28 ?_
          obtain ⟨p33, e34, H⟩ := H
          show Ek _ _ _ (va_rf (mP h26 a0 7) :: _) _ _
          rw [e34]
          have c35 := H.1
          refine Ek.chk 2 (fun n => rfl) c35 ?_
          replace H := H.2
          refine Ek.br 2 (fun n => rfl) (fun hc => ?_) (fun hc => ?_)
          · replace H := H.1 hc
            refine Ek.chk 2 (fun n => rfl) c28 ?_
            obtain ⟨p36, e37, H⟩ := H
            show Ek _ _ _ (va_rf (mP h26 a0 8) :: _) _ _
            rw [e37]
            have c39 := H.1
            refine Ek.chk 3 (fun n => rfl) c39 ?_
            replace H := H.2
            let h38 : mH := wI h31 p36 (a1.toNatClampNeg) (mI h p9 (((((((((2 * a1) + ((mI h p5 (a1.toNatClampNeg)) - (mI h p5 (a1.toNatClampNeg)) / 2 * 2)) * 30) + (mI h p2 (a1.toNatClampNeg))) * 10) + (((mI h p5 (a1.toNatClampNeg)) + (mI h p2 (a1.toNatClampNeg))) - ((mI h p5 (a1.toNatClampNeg)) + (mI h p2 (a1.toNatClampNeg))) / (mI h a0 1) * (mI h a0 1))) * 3) + 0).toNatClampNeg))
            replace H := H h38 rfl
            show Ek _ _ _ _ h38 _
            refine Ek.chk 2 (fun n => rfl) c28 ?_
            obtain ⟨p40, e41, H⟩ := H
            show Ek _ _ _ (va_rf (mP h26 a0 9) :: _) _ _
            rw [e41]
            have c43 := H.1
            refine Ek.chk 3 (fun n => rfl) c43 ?_
            replace H := H.2
            let h42 : mH := wI h38 p40 (a1.toNatClampNeg) (mI h p2 (a1.toNatClampNeg))
            replace H := H h42 rfl
            show Ek _ _ _ _ h42 _
            refine Ek.callT 5 (fun n => rfl) c28 ?_
            refine Ek.mono H ?_
            rintro _ h44 ⟨rfl, H⟩
            have c45 := H.1
            refine Ek.chk 2 (fun n => rfl) c45 ?_
            replace H := H.2
            obtain ⟨p46, e47, H⟩ := H
            show Ek _ _ _ (va_rf (mP h44 a0 7) :: _) _ _
            rw [e47]
            have c49 := H.1
            refine Ek.chk 3 (fun n => rfl) c49 ?_
            replace H := H.2
            let h48 : mH := wI h44 p46 (a1.toNatClampNeg) 2
            replace H := H h48 rfl
            show Ek _ _ _ _ h48 _
            refine Ek.chk 2 (fun n => rfl) c45 ?_
            obtain ⟨p50, e51, H⟩ := H
            show Ek _ _ _ (va_rf (mP h44 a0 10) :: _) _ _
            rw [e51]
            have c53 := H.1
            refine Ek.chk 3 (fun n => rfl) c53 ?_
            replace H := H.2
            let h52 : mH := wI h48 p50 (a1.toNatClampNeg) (mI h p9 (((((((((2 * a1) + ((mI h p5 (a1.toNatClampNeg)) - (mI h p5 (a1.toNatClampNeg)) / 2 * 2)) * 30) + (mI h p2 (a1.toNatClampNeg))) * 10) + (((mI h p5 (a1.toNatClampNeg)) + (mI h p2 (a1.toNatClampNeg))) - ((mI h p5 (a1.toNatClampNeg)) + (mI h p2 (a1.toNatClampNeg))) / (mI h a0 1) * (mI h a0 1))) * 3) + 0).toNatClampNeg))
            replace H := H h52 rfl
            show Ek _ _ _ _ h52 _
            refine Ek.chk 2 (fun n => rfl) c45 ?_
            obtain ⟨p54, e55, H⟩ := H
            show Ek _ _ _ (va_rf (mP h44 a0 11) :: _) _ _
            rw [e55]
            have c57 := H.1
            refine Ek.chk 3 (fun n => rfl) c57 ?_
            replace H := H.2
            let h56 : mH := wI h52 p54 (a1.toNatClampNeg) (mI h p2 (a1.toNatClampNeg))
            replace H := H h56 rfl
            show Ek _ _ _ _ h56 _
            exact Ek.ret 2 (fun n => rfl) H
          · replace H := H.2 hc
            refine Ek.chk 2 (fun n => rfl) c28 ?_
            obtain ⟨p58, e59, H⟩ := H
            show Ek _ _ _ (va_rf (mP h26 a0 10) :: _) _ _
            rw [e59]
            have c61 := H.1
            refine Ek.chk 3 (fun n => rfl) c61 ?_
            replace H := H.2
            let h60 : mH := wI h31 p58 (a1.toNatClampNeg) (mI h p9 (((((((((2 * a1) + ((mI h p5 (a1.toNatClampNeg)) - (mI h p5 (a1.toNatClampNeg)) / 2 * 2)) * 30) + (mI h p2 (a1.toNatClampNeg))) * 10) + (((mI h p5 (a1.toNatClampNeg)) + (mI h p2 (a1.toNatClampNeg))) - ((mI h p5 (a1.toNatClampNeg)) + (mI h p2 (a1.toNatClampNeg))) / (mI h a0 1) * (mI h a0 1))) * 3) + 0).toNatClampNeg))
            replace H := H h60 rfl
            show Ek _ _ _ _ h60 _
            refine Ek.chk 2 (fun n => rfl) c28 ?_
            obtain ⟨p62, e63, H⟩ := H
            show Ek _ _ _ (va_rf (mP h26 a0 11) :: _) _ _
            rw [e63]
            have c65 := H.1
            refine Ek.chk 3 (fun n => rfl) c65 ?_
            replace H := H.2
            let h64 : mH := wI h60 p62 (a1.toNatClampNeg) (mI h p2 (a1.toNatClampNeg))
            replace H := H h64 rfl
            show Ek _ _ _ _ h64 _
            exact Ek.ret 2 (fun n => rfl) H
  · replace H := H.2 hc
    exact Ek.ret 2 (fun n => rfl) H

/-- RoundVotesModel.ruleE(I)Z, from 0 -/
set_option maxRecDepth 4000 in
theorem T123 {a0 : Nat} {a1 : Int32} {h : mH} {K : Option Value → mH → Prop} (H : (mTg h a0 = 12) ∧ (∃ p2, mP h a0 7 = some p2 ∧ (((mTg h p2 = 20 ∨ mTg h p2 = 30) ∧ ¬ a1 < 0 ∧ (a1.toNatClampNeg) < mLn h p2) ∧ (((mI h p2 (a1.toNatClampNeg)) = 1 → (∃ p5, mP h a0 6 = some p5 ∧ (((mTg h p5 = 20 ∨ mTg h p5 = 30) ∧ ¬ a1 < 0 ∧ (a1.toNatClampNeg) < mLn h p5) ∧ (Ek 115 0 [some (.ref a0), some (.int a1), some (.int (mI h p5 (a1.toNatClampNeg))), some (.int 1), some (.int 0), none, none, none, none] [] h (fun r h8 => ∃ x9 : Int64, r = some (.long x9) ∧ ((mTg h8 a0 = 12) ∧ (∃ p11, mP h8 a0 5 = some p11 ∧ (((mTg h8 p11 = 20 ∨ mTg h8 p11 = 30) ∧ ¬ a1 < 0 ∧ (a1.toNatClampNeg) < mLn h8 p11) ∧ (Ek 116 0 [some (.ref a0), some (.long x9), none, some (.int (mI h8 p11 (a1.toNatClampNeg)))] [] h8 (fun r h14 => ∃ x15 : Int32, r = some (.int x15) ∧ ((x15 = 0 → (K (some (.int 0)) h14)) ∧ (¬ x15 = 0 → ((mTg h14 a0 = 12) ∧ (Ek 101 0 [some (.ref a0), some (.int a1), some (.int 2), some (.int 0), some (.int (-9)), none, none, none, none, none, none, none] [] h14 (fun r h17 => r = none ∧ ((mTg h17 a0 = 12) ∧ (∃ p19, mP h17 a0 7 = some p19 ∧ ((mTg h17 p19 = 20 ∧ ¬ a1 < 0 ∧ (a1.toNatClampNeg) < mLn h17 p19) ∧ (∀ h21, h21 = wI h17 p19 (a1.toNatClampNeg) 2 → (K (some (.int 1)) h21)))))))))))))))))))) ∧ (¬ (mI h p2 (a1.toNatClampNeg)) = 1 → (K (some (.int 0)) h)))))) : Ek 123 0 [some (.ref a0), some (.int a1)] [] h K := by
  have c1 := H.1
  refine Ek.chk 2 (fun n => rfl) c1 ?_
  replace H := H.2
  obtain ⟨p2, e3, H⟩ := H
  show Ek _ _ _ (va_rf (mP h a0 7) :: _) _ _
  rw [e3]
  have c4 := H.1
  refine Ek.chk 2 (fun n => rfl) c4 ?_
  replace H := H.2
  refine Ek.br 2 (fun n => rfl) (fun hc => ?_) (fun hc => ?_)
  · replace H := H.1 hc
    refine Ek.chk 5 (fun n => rfl) c1 ?_
    obtain ⟨p5, e6, H⟩ := H
    show Ek _ _ _ (va_rf (mP h a0 6) :: _) _ _
    rw [e6]
    have c7 := H.1
    refine Ek.chk 2 (fun n => rfl) c7 ?_
    replace H := H.2
    refine Ek.callT 2 (fun n => rfl) c1 ?_
    refine Ek.mono H ?_
    rintro _ h8 ⟨x9, rfl, H⟩
    have c10 := H.1
    refine Ek.chk 2 (fun n => rfl) c10 ?_
    replace H := H.2
    obtain ⟨p11, e12, H⟩ := H
    show Ek _ _ _ (va_rf (mP h8 a0 5) :: _) _ _
    rw [e12]
    have c13 := H.1
    refine Ek.chk 2 (fun n => rfl) c13 ?_
    replace H := H.2
    refine Ek.callT 0 (fun n => rfl) c10 ?_
    refine Ek.mono H ?_
    rintro _ h14 ⟨x15, rfl, H⟩
    refine Ek.br 1 (fun n => rfl) (fun hc => ?_) (fun hc => ?_)
    · replace H := H.1 hc
      exact Ek.ret 2 (fun n => rfl) H
    · replace H := H.2 hc
      have c16 := H.1
      refine Ek.callT 5 (fun n => rfl) c16 ?_
      replace H := H.2
      refine Ek.mono H ?_
      rintro _ h17 ⟨rfl, H⟩
      have c18 := H.1
      refine Ek.chk 2 (fun n => rfl) c18 ?_
      replace H := H.2
      obtain ⟨p19, e20, H⟩ := H
      show Ek _ _ _ (va_rf (mP h17 a0 7) :: _) _ _
      rw [e20]
      have c22 := H.1
      refine Ek.chk 3 (fun n => rfl) c22 ?_
      replace H := H.2
      let h21 : mH := wI h17 p19 (a1.toNatClampNeg) 2
      replace H := H h21 rfl
      show Ek _ _ _ _ h21 _
      exact Ek.ret 2 (fun n => rfl) H
  · replace H := H.2 hc
    exact Ek.ret 2 (fun n => rfl) H

/-- RoundVotesModel.ruleF(I)Z, from 0 -/
set_option maxRecDepth 4000 in
theorem T124 {a0 : Nat} {a1 : Int32} {h : mH} {K : Option Value → mH → Prop} (H : (mTg h a0 = 12) ∧ (∃ p2, mP h a0 17 = some p2 ∧ ((mTg h p2 = 21 ∧ ¬ a1 < 0 ∧ (a1.toNatClampNeg) < mLn h p2) ∧ (((mI h p2 (a1.toNatClampNeg)) = 0 → (∃ p5, mP h a0 7 = some p5 ∧ (((mTg h p5 = 20 ∨ mTg h p5 = 30) ∧ ¬ a1 < 0 ∧ (a1.toNatClampNeg) < mLn h p5) ∧ (((mI h p5 (a1.toNatClampNeg)) = 1 → (∃ p8, mP h a0 6 = some p8 ∧ (((mTg h p8 = 20 ∨ mTg h p8 = 30) ∧ ¬ a1 < 0 ∧ (a1.toNatClampNeg) < mLn h p8) ∧ (Ek 115 0 [some (.ref a0), some (.int a1), some (.int (mI h p8 (a1.toNatClampNeg))), some (.int 1), some (.int (-1)), none, none, none, none] [] h (fun r h11 => ∃ x12 : Int64, r = some (.long x12) ∧ ((mTg h11 a0 = 12) ∧ (∃ p14, mP h11 a0 5 = some p14 ∧ (((mTg h11 p14 = 20 ∨ mTg h11 p14 = 30) ∧ ¬ a1 < 0 ∧ (a1.toNatClampNeg) < mLn h11 p14) ∧ (Ek 116 0 [some (.ref a0), some (.long x12), none, some (.int (mI h11 p14 (a1.toNatClampNeg)))] [] h11 (fun r h17 => ∃ x18 : Int32, r = some (.int x18) ∧ ((x18 = 0 → (K (some (.int 0)) h17)) ∧ (¬ x18 = 0 → ((mTg h17 a0 = 12) ∧ (∃ p20, mP h17 a0 17 = some p20 ∧ ((mTg h17 p20 = 21 ∧ ((1 : Int32) = 0 ∨ (1 : Int32) = 1) ∧ ¬ a1 < 0 ∧ (a1.toNatClampNeg) < mLn h17 p20) ∧ (∀ h22, h22 = wI h17 p20 (a1.toNatClampNeg) 1 → (∃ p24, mP h17 a0 15 = some p24 ∧ (∃ p26, mP h17 a0 6 = some p26 ∧ (((mTg h17 p26 = 20 ∨ mTg h17 p26 = 30) ∧ ¬ a1 < 0 ∧ (a1.toNatClampNeg) < mLn h17 p26) ∧ ((mTg h17 p24 = 20 ∧ ¬ ((3 * a1) + 1) < 0 ∧ (((3 * a1) + 1).toNatClampNeg) < mLn h17 p24) ∧ (∀ h29, h29 = wI h22 p24 (((3 * a1) + 1).toNatClampNeg) (((mI h22 a0 3) + 3) + (mI h22 p26 (a1.toNatClampNeg))) → (K (some (.int 1)) h29)))))))))))))))))))))) ∧ (¬ (mI h p5 (a1.toNatClampNeg)) = 1 → (K (some (.int 0)) h)))))) ∧ (¬ (mI h p2 (a1.toNatClampNeg)) = 0 → (K (some (.int 0)) h)))))) : Ek 124 0 [some (.ref a0), some (.int a1)] [] h K := by
  have c1 := H.1
  refine Ek.chk 2 (fun n => rfl) c1 ?_
  replace H := H.2
  obtain ⟨p2, e3, H⟩ := H
  show Ek _ _ _ (va_rf (mP h a0 17) :: _) _ _
  rw [e3]
  have c4 := H.1
  refine Ek.chk 2 (fun n => rfl) c4 ?_
  replace H := H.2
  refine Ek.br 1 (fun n => rfl) (fun hc => ?_) (fun hc => ?_)
  · replace H := H.1 hc
    refine Ek.chk 2 (fun n => rfl) c1 ?_
    obtain ⟨p5, e6, H⟩ := H
    show Ek _ _ _ (va_rf (mP h a0 7) :: _) _ _
    rw [e6]
    have c7 := H.1
    refine Ek.chk 2 (fun n => rfl) c7 ?_
    replace H := H.2
    refine Ek.br 2 (fun n => rfl) (fun hc => ?_) (fun hc => ?_)
    · replace H := H.1 hc
      refine Ek.chk 5 (fun n => rfl) c1 ?_
      obtain ⟨p8, e9, H⟩ := H
      show Ek _ _ _ (va_rf (mP h a0 6) :: _) _ _
      rw [e9]
      have c10 := H.1
      refine Ek.chk 2 (fun n => rfl) c10 ?_
      replace H := H.2
      refine Ek.callT 2 (fun n => rfl) c1 ?_
      refine Ek.mono H ?_
      rintro _ h11 ⟨x12, rfl, H⟩
      have c13 := H.1
      refine Ek.chk 2 (fun n => rfl) c13 ?_
      replace H := H.2
      obtain ⟨p14, e15, H⟩ := H
      show Ek _ _ _ (va_rf (mP h11 a0 5) :: _) _ _
      rw [e15]
      have c16 := H.1
      refine Ek.chk 2 (fun n => rfl) c16 ?_
      replace H := H.2
      refine Ek.callT 0 (fun n => rfl) c13 ?_
      refine Ek.mono H ?_
      rintro _ h17 ⟨x18, rfl, H⟩
      refine Ek.br 1 (fun n => rfl) (fun hc => ?_) (fun hc => ?_)
      · replace H := H.1 hc
        exact Ek.ret 2 (fun n => rfl) H
      · replace H := H.2 hc
        have c19 := H.1
        refine Ek.chk 2 (fun n => rfl) c19 ?_
        replace H := H.2
        obtain ⟨p20, e21, H⟩ := H
        show Ek _ _ _ (va_rf (mP h17 a0 17) :: _) _ _
        rw [e21]
        have c23 := H.1
        refine Ek.chk 3 (fun n => rfl) c23 ?_
        replace H := H.2
        let h22 : mH := wI h17 p20 (a1.toNatClampNeg) 1
        replace H := H h22 rfl
        show Ek _ _ _ _ h22 _
        refine Ek.chk 2 (fun n => rfl) c19 ?_
        obtain ⟨p24, e25, H⟩ := H
        show Ek _ _ _ (va_rf (mP h17 a0 15) :: _) _ _
        rw [e25]
        refine Ek.chk 7 (fun n => rfl) c19 ?_
        refine Ek.chk 4 (fun n => rfl) c19 ?_
        obtain ⟨p26, e27, H⟩ := H
        show Ek _ _ _ (va_rf (mP h17 a0 6) :: _) _ _
        rw [e27]
        have c28 := H.1
        refine Ek.chk 2 (fun n => rfl) c28 ?_
        replace H := H.2
        have c30 := H.1
        refine Ek.chk 2 (fun n => rfl) c30 ?_
        replace H := H.2
        let h29 : mH := wI h22 p24 (((3 * a1) + 1).toNatClampNeg) (((mI h22 a0 3) + 3) + (mI h22 p26 (a1.toNatClampNeg)))
        replace H := H h29 rfl
        show Ek _ _ _ _ h29 _
        exact Ek.ret 2 (fun n => rfl) H
    · replace H := H.2 hc
      exact Ek.ret 2 (fun n => rfl) H
  · replace H := H.2 hc
    exact Ek.ret 2 (fun n => rfl) H

/-- RoundVotesModel.ruleG(I)Z, from 0 -/
set_option maxRecDepth 4000 in
theorem T125 {a0 : Nat} {a1 : Int32} {h : mH} {K : Option Value → mH → Prop} (H : (mTg h a0 = 12) ∧ (∃ p2, mP h a0 18 = some p2 ∧ ((mTg h p2 = 21 ∧ ¬ a1 < 0 ∧ (a1.toNatClampNeg) < mLn h p2) ∧ (((mI h p2 (a1.toNatClampNeg)) = 0 → (∃ p5, mP h a0 6 = some p5 ∧ (((mTg h p5 = 20 ∨ mTg h p5 = 30) ∧ ¬ a1 < 0 ∧ (a1.toNatClampNeg) < mLn h p5) ∧ (Ek 115 0 [some (.ref a0), some (.int a1), some (.int (mI h p5 (a1.toNatClampNeg))), some (.int 2), some (.int (-1)), none, none, none, none] [] h (fun r h8 => ∃ x9 : Int64, r = some (.long x9) ∧ ((mTg h8 a0 = 12) ∧ (∃ p11, mP h8 a0 5 = some p11 ∧ (((mTg h8 p11 = 20 ∨ mTg h8 p11 = 30) ∧ ¬ a1 < 0 ∧ (a1.toNatClampNeg) < mLn h8 p11) ∧ (Ek 116 0 [some (.ref a0), some (.long x9), none, some (.int (mI h8 p11 (a1.toNatClampNeg)))] [] h8 (fun r h14 => ∃ x15 : Int32, r = some (.int x15) ∧ ((x15 = 0 → (K (some (.int 0)) h14)) ∧ (¬ x15 = 0 → ((mTg h14 a0 = 12) ∧ (∃ p17, mP h14 a0 18 = some p17 ∧ ((mTg h14 p17 = 21 ∧ ((1 : Int32) = 0 ∨ (1 : Int32) = 1) ∧ ¬ a1 < 0 ∧ (a1.toNatClampNeg) < mLn h14 p17) ∧ (∀ h19, h19 = wI h14 p17 (a1.toNatClampNeg) 1 → (∃ p21, mP h14 a0 15 = some p21 ∧ (∃ p23, mP h14 a0 6 = some p23 ∧ (((mTg h14 p23 = 20 ∨ mTg h14 p23 = 30) ∧ ¬ a1 < 0 ∧ (a1.toNatClampNeg) < mLn h14 p23) ∧ ((mTg h14 p21 = 20 ∧ ¬ ((3 * a1) + 2) < 0 ∧ (((3 * a1) + 2).toNatClampNeg) < mLn h14 p21) ∧ (∀ h26, h26 = wI h19 p21 (((3 * a1) + 2).toNatClampNeg) (((mI h19 a0 3) + 3) + (mI h19 p23 (a1.toNatClampNeg))) → (K (some (.int 1)) h26)))))))))))))))))))))) ∧ (¬ (mI h p2 (a1.toNatClampNeg)) = 0 → (K (some (.int 0)) h)))))) : Ek 125 0 [some (.ref a0), some (.int a1)] [] h K := by
  have c1 := H.1
  refine Ek.chk 2 (fun n => rfl) c1 ?_
  replace H := H.2
  obtain ⟨p2, e3, H⟩ := H
  show Ek _ _ _ (va_rf (mP h a0 18) :: _) _ _
  rw [e3]
  have c4 := H.1
  refine Ek.chk 2 (fun n => rfl) c4 ?_
  replace H := H.2
  refine Ek.br 1 (fun n => rfl) (fun hc => ?_) (fun hc => ?_)
  · replace H := H.1 hc
    refine Ek.chk 5 (fun n => rfl) c1 ?_
    obtain ⟨p5, e6, H⟩ := H
    show Ek _ _ _ (va_rf (mP h a0 6) :: _) _ _
    rw [e6]
    have c7 := H.1
    refine Ek.chk 2 (fun n => rfl) c7 ?_
    replace H := H.2
    refine Ek.callT 2 (fun n => rfl) c1 ?_
    refine Ek.mono H ?_
    rintro _ h8 ⟨x9, rfl, H⟩
    have c10 := H.1
    refine Ek.chk 2 (fun n => rfl) c10 ?_
    replace H := H.2
    obtain ⟨p11, e12, H⟩ := H
    show Ek _ _ _ (va_rf (mP h8 a0 5) :: _) _ _
    rw [e12]
    have c13 := H.1
    refine Ek.chk 2 (fun n => rfl) c13 ?_
    replace H := H.2
    refine Ek.callT 0 (fun n => rfl) c10 ?_
    refine Ek.mono H ?_
    rintro _ h14 ⟨x15, rfl, H⟩
    refine Ek.br 1 (fun n => rfl) (fun hc => ?_) (fun hc => ?_)
    · replace H := H.1 hc
      exact Ek.ret 2 (fun n => rfl) H
    · replace H := H.2 hc
      have c16 := H.1
      refine Ek.chk 2 (fun n => rfl) c16 ?_
      replace H := H.2
      obtain ⟨p17, e18, H⟩ := H
      show Ek _ _ _ (va_rf (mP h14 a0 18) :: _) _ _
      rw [e18]
      have c20 := H.1
      refine Ek.chk 3 (fun n => rfl) c20 ?_
      replace H := H.2
      let h19 : mH := wI h14 p17 (a1.toNatClampNeg) 1
      replace H := H h19 rfl
      show Ek _ _ _ _ h19 _
      refine Ek.chk 2 (fun n => rfl) c16 ?_
      obtain ⟨p21, e22, H⟩ := H
      show Ek _ _ _ (va_rf (mP h14 a0 15) :: _) _ _
      rw [e22]
      refine Ek.chk 7 (fun n => rfl) c16 ?_
      refine Ek.chk 4 (fun n => rfl) c16 ?_
      obtain ⟨p23, e24, H⟩ := H
      show Ek _ _ _ (va_rf (mP h14 a0 6) :: _) _ _
      rw [e24]
      have c25 := H.1
      refine Ek.chk 2 (fun n => rfl) c25 ?_
      replace H := H.2
      have c27 := H.1
      refine Ek.chk 2 (fun n => rfl) c27 ?_
      replace H := H.2
      let h26 : mH := wI h19 p21 (((3 * a1) + 2).toNatClampNeg) (((mI h19 a0 3) + 3) + (mI h19 p23 (a1.toNatClampNeg)))
      replace H := H h26 rfl
      show Ek _ _ _ _ h26 _
      exact Ek.ret 2 (fun n => rfl) H
  · replace H := H.2 hc
    exact Ek.ret 2 (fun n => rfl) H

/-- RoundVotesModel.comeBack(I)V, from 0 -/
set_option maxRecDepth 4000 in
theorem T126 {a0 : Nat} {a1 : Int32} {h : mH} {K : Option Value → mH → Prop} (H : (mTg h a0 = 12) ∧ (∃ p2, mP h a0 13 = some p2 ∧ ((mTg h p2 = 21 ∧ ((0 : Int32) = 0 ∨ (0 : Int32) = 1) ∧ ¬ a1 < 0 ∧ (a1.toNatClampNeg) < mLn h p2) ∧ (∀ h4, h4 = wI h p2 (a1.toNatClampNeg) 0 → (Ek 92 0 [some (.ref a0), some (.int a1), some (.int 0), none, none, none] [] h4 (fun r h6 => r = none ∧ ((mTg h6 a0 = 12) ∧ (Ek 92 0 [some (.ref a0), some (.int a1), some (.int 1), none, none, none] [] h6 (fun r h8 => r = none ∧ ((mTg h8 a0 = 12) ∧ (∃ p10, mP h8 a0 5 = some p10 ∧ (((mTg h8 p10 = 20 ∨ mTg h8 p10 = 30) ∧ ¬ a1 < 0 ∧ (a1.toNatClampNeg) < mLn h8 p10) ∧ (((mI h8 p10 (a1.toNatClampNeg)) ≤ 40 → (Ek 126 33 [some (.ref a0), some (.int a1), some (.int 0), none, none] [] h8 K)) ∧ (¬ (mI h8 p10 (a1.toNatClampNeg)) ≤ 40 → (K none h8))))))))))))))) : Ek 126 0 [some (.ref a0), some (.int a1), none, none, none] [] h K := by
  have c1 := H.1
  refine Ek.chk 2 (fun n => rfl) c1 ?_
  replace H := H.2
  obtain ⟨p2, e3, H⟩ := H
  show Ek _ _ _ (va_rf (mP h a0 13) :: _) _ _
  rw [e3]
  have c5 := H.1
  refine Ek.chk 3 (fun n => rfl) c5 ?_
  replace H := H.2
  let h4 : mH := wI h p2 (a1.toNatClampNeg) 0
  replace H := H h4 rfl
  show Ek _ _ _ _ h4 _
  refine Ek.callT 3 (fun n => rfl) c1 ?_
  refine Ek.mono H ?_
  rintro _ h6 ⟨rfl, H⟩
  have c7 := H.1
  refine Ek.callT 3 (fun n => rfl) c7 ?_
  replace H := H.2
  refine Ek.mono H ?_
  rintro _ h8 ⟨rfl, H⟩
  have c9 := H.1
  refine Ek.chk 2 (fun n => rfl) c9 ?_
  replace H := H.2
  obtain ⟨p10, e11, H⟩ := H
  show Ek _ _ _ (va_rf (mP h8 a0 5) :: _) _ _
  rw [e11]
  have c12 := H.1
  refine Ek.chk 2 (fun n => rfl) c12 ?_
  replace H := H.2
  refine Ek.br 2 (fun n => rfl) (fun hc => ?_) (fun hc => ?_)
  · replace H := H.1 hc
    exact Ek.go 2 (fun n => rfl) H
  · replace H := H.2 hc
    exact Ek.ret 1 (fun n => rfl) H

/-- RoundVotesModel.comeBack(I)V, from 33 -/
set_option maxRecDepth 4000 in
theorem T126_33 {v0 : Nat} {v1 : Int32} {v2 : Int32} {h : mH} {K : Option Value → mH → Prop} (H : ((30 : Int32) ≤ v2 → ((mTg h v0 = 12) ∧ (∃ p2, mP h v0 6 = some p2 ∧ (((mTg h p2 = 20 ∨ mTg h p2 = 30) ∧ ¬ v1 < 0 ∧ (v1.toNatClampNeg) < mLn h p2) ∧ (Ek 99 0 [some (.ref v0), some (.int v1), some (.int (mI h p2 (v1.toNatClampNeg))), none] [] h (fun r h5 => r = none ∧ ((mTg h5 v0 = 12) ∧ (Ek 111 0 [some (.ref v0), some (.int v1), none] [] h5 (fun r h7 => r = none ∧ (K none h7)))))))))) ∧ (¬ (30 : Int32) ≤ v2 → (Ek 126 41 [some (.ref v0), some (.int v1), some (.int v2), some (.int 0), none] [] h K))) : Ek 126 33 [some (.ref v0), some (.int v1), some (.int v2), none, none] [] h K := by
  refine Ek.br 3 (fun n => rfl) (fun hc => ?_) (fun hc => ?_)
  · replace H := H.1 hc
    have c1 := H.1
    refine Ek.chk 4 (fun n => rfl) c1 ?_
    replace H := H.2
    obtain ⟨p2, e3, H⟩ := H
    show Ek _ _ _ (va_rf (mP h v0 6) :: _) _ _
    rw [e3]
    have c4 := H.1
    refine Ek.chk 2 (fun n => rfl) c4 ?_
    replace H := H.2
    refine Ek.callT 0 (fun n => rfl) c1 ?_
    refine Ek.mono H ?_
    rintro _ h5 ⟨rfl, H⟩
    have c6 := H.1
    refine Ek.callT 2 (fun n => rfl) c6 ?_
    replace H := H.2
    refine Ek.mono H ?_
    rintro _ h7 ⟨rfl, H⟩
    exact Ek.ret 1 (fun n => rfl) H
  · replace H := H.2 hc
    exact Ek.go 2 (fun n => rfl) H

/-- RoundVotesModel.comeBack(I)V, from 41 -/
set_option maxRecDepth 4000 in
theorem T126_41 {v0 : Nat} {v1 : Int32} {v2 : Int32} {v3 : Int32} {h : mH} {K : Option Value → mH → Prop} (H : ((3 : Int32) ≤ v3 → (Ek 126 33 [some (.ref v0), some (.int v1), some (.int (v2 + 1)), some (.int v3), none] [] h K)) ∧ (¬ (3 : Int32) ≤ v3 → ((mTg h v0 = 12) ∧ (∃ p2, mP h v0 22 = some p2 ∧ (((mTg h p2 = 20 ∨ mTg h p2 = 30) ∧ ¬ (((90 * v1) + (3 * v2)) + v3) < 0 ∧ ((((90 * v1) + (3 * v2)) + v3).toNatClampNeg) < mLn h p2) ∧ (((mI h p2 ((((90 * v1) + (3 * v2)) + v3).toNatClampNeg)) < 0 → (Ek 126 41 [some (.ref v0), some (.int v1), some (.int v2), some (.int (v3 + 1)), some (.int (((90 * v1) + (3 * v2)) + v3))] [] h K)) ∧ (¬ (mI h p2 ((((90 * v1) + (3 * v2)) + v3).toNatClampNeg)) < 0 → (∃ p5, mP h v0 5 = some p5 ∧ (((mTg h p5 = 20 ∨ mTg h p5 = 30) ∧ ¬ v1 < 0 ∧ (v1.toNatClampNeg) < mLn h p5) ∧ (∃ p9, mP h v0 23 = some p9 ∧ (((mTg h p9 = 20 ∨ mTg h p9 = 30) ∧ ¬ (((90 * v1) + (3 * v2)) + v3) < 0 ∧ ((((90 * v1) + (3 * v2)) + v3).toNatClampNeg) < mLn h p9) ∧ (Ek 102 0 [some (.ref v0), some (.int v1), some (.int v1), some (.int (mI h p5 (v1.toNatClampNeg))), some (.int v2), some (.int v3), some (.int (mI h p2 ((((90 * v1) + (3 * v2)) + v3).toNatClampNeg))), some (.int (mI h p9 ((((90 * v1) + (3 * v2)) + v3).toNatClampNeg))), some (.int 0), none, none] [] h (fun r h12 => r = none ∧ (Ek 126 41 [some (.ref v0), some (.int v1), some (.int v2), some (.int (v3 + 1)), some (.int (((90 * v1) + (3 * v2)) + v3))] [] h12 K)))))))))))))) : Ek 126 41 [some (.ref v0), some (.int v1), some (.int v2), some (.int v3), none] [] h K := by
  refine Ek.br 3 (fun n => rfl) (fun hc => ?_) (fun hc => ?_)
  · replace H := H.1 hc
    exact Ek.go 2 (fun n => rfl) H
  · replace H := H.2 hc
    have c1 := H.1
    refine Ek.chk 12 (fun n => rfl) c1 ?_
    replace H := H.2
    obtain ⟨p2, e3, H⟩ := H
    show Ek _ _ _ (va_rf (mP h v0 22) :: _) _ _
    rw [e3]
    have c4 := H.1
    refine Ek.chk 2 (fun n => rfl) c4 ?_
    replace H := H.2
    refine Ek.br 1 (fun n => rfl) (fun hc => ?_) (fun hc => ?_)
    · replace H := H.1 hc
      exact Ek.go 2 (fun n => rfl) H
    · replace H := H.2 hc
      refine Ek.chk 5 (fun n => rfl) c1 ?_
      obtain ⟨p5, e6, H⟩ := H
      show Ek _ _ _ (va_rf (mP h v0 5) :: _) _ _
      rw [e6]
      have c7 := H.1
      refine Ek.chk 2 (fun n => rfl) c7 ?_
      replace H := H.2
      refine Ek.chk 4 (fun n => rfl) c1 ?_
      show Ek _ _ _ (va_rf (mP h v0 22) :: _) _ _
      rw [e3]
      refine Ek.chk 2 (fun n => rfl) c4 ?_
      refine Ek.chk 2 (fun n => rfl) c1 ?_
      obtain ⟨p9, e10, H⟩ := H
      show Ek _ _ _ (va_rf (mP h v0 23) :: _) _ _
      rw [e10]
      have c11 := H.1
      refine Ek.chk 2 (fun n => rfl) c11 ?_
      replace H := H.2
      refine Ek.callT 1 (fun n => rfl) c1 ?_
      refine Ek.mono H ?_
      rintro _ h12 ⟨rfl, H⟩
      exact Ek.go 2 (fun n => rfl) H

/-- RoundVotesModel.deliver(ZI)V, from 0 -/
set_option maxRecDepth 4000 in
theorem T127 {a0 : Nat} {a1 : Int32} {a2 : Int32} {h : mH} {K : Option Value → mH → Prop} (H : Ek 127 2 [some (.ref a0), some (.int a1), some (.int a2), some (.int 0), none] [] h K) : Ek 127 0 [some (.ref a0), some (.int a1), some (.int a2), none, none] [] h K := by
  exact Ek.go 2 (fun n => rfl) H

/-- RoundVotesModel.deliver(ZI)V, from 2 -/
set_option maxRecDepth 4000 in
theorem T127_2 {v0 : Nat} {v1 : Int32} {v2 : Int32} {v3 : Int32} {h : mH} {K : Option Value → mH → Prop} (H : (v2 ≤ v3 → (K none h)) ∧ (¬ v2 ≤ v3 → ((mTg h v0 = 12) ∧ (∃ p2, mP h v0 28 = some p2 ∧ (((mTg h p2 = 20 ∨ mTg h p2 = 30) ∧ ¬ v3 < 0 ∧ (v3.toNatClampNeg) < mLn h p2) ∧ (((mI h p2 (v3.toNatClampNeg)) = (mI h v0 3) → (∃ p5, mP h v0 36 = some p5 ∧ ((mTg h p5 = 21 ∧ ¬ v3 < 0 ∧ (v3.toNatClampNeg) < mLn h p5) ∧ (((mI h p5 (v3.toNatClampNeg)) = v1 → ((mTg h p2 = 20 ∧ ¬ v3 < 0 ∧ (v3.toNatClampNeg) < mLn h p2) ∧ (∀ h9, h9 = wI h p2 (v3.toNatClampNeg) (-1) → (∀ h11, h11 = wI h9 v0 38 ((mI h9 v0 38) - 1) → (∃ p12, mP h v0 30 = some p12 ∧ (((mTg h p12 = 20 ∨ mTg h p12 = 30) ∧ ¬ v3 < 0 ∧ (v3.toNatClampNeg) < mLn h p12) ∧ (∃ p15, mP h v0 13 = some p15 ∧ ((mTg h p15 = 21 ∧ ¬ (mI h11 p12 (v3.toNatClampNeg)) < 0 ∧ ((mI h11 p12 (v3.toNatClampNeg)).toNatClampNeg) < mLn h p15) ∧ (((mI h11 p15 ((mI h11 p12 (v3.toNatClampNeg)).toNatClampNeg)) = 0 → (∀ h18, h18 = wI h11 v0 40 ((mI h11 v0 40) + 1) → (∃ p19, mP h v0 29 = some p19 ∧ (((mTg h p19 = 20 ∨ mTg h p19 = 30) ∧ ¬ v3 < 0 ∧ (v3.toNatClampNeg) < mLn h p19) ∧ (∃ p22, mP h v0 31 = some p22 ∧ (((mTg h p22 = 20 ∨ mTg h p22 = 30) ∧ ¬ v3 < 0 ∧ (v3.toNatClampNeg) < mLn h p22) ∧ (∃ p25, mP h v0 32 = some p25 ∧ (((mTg h p25 = 20 ∨ mTg h p25 = 30) ∧ ¬ v3 < 0 ∧ (v3.toNatClampNeg) < mLn h p25) ∧ (∃ p28, mP h v0 33 = some p28 ∧ (((mTg h p28 = 20 ∨ mTg h p28 = 30) ∧ ¬ v3 < 0 ∧ (v3.toNatClampNeg) < mLn h p28) ∧ (∃ p31, mP h v0 34 = some p31 ∧ (((mTg h p31 = 20 ∨ mTg h p31 = 30) ∧ ¬ v3 < 0 ∧ (v3.toNatClampNeg) < mLn h p31) ∧ (∃ p34, mP h v0 35 = some p34 ∧ (((mTg h p34 = 20 ∨ mTg h p34 = 30) ∧ ¬ v3 < 0 ∧ (v3.toNatClampNeg) < mLn h p34) ∧ (Ek 102 0 [some (.ref v0), some (.int (mI h11 p12 (v3.toNatClampNeg))), some (.int (mI h18 p19 (v3.toNatClampNeg))), some (.int (mI h18 p22 (v3.toNatClampNeg))), some (.int (mI h18 p25 (v3.toNatClampNeg))), some (.int (mI h18 p28 (v3.toNatClampNeg))), some (.int (mI h18 p31 (v3.toNatClampNeg))), some (.int (mI h18 p34 (v3.toNatClampNeg))), some (.int 1), none, none] [] h18 (fun r h37 => r = none ∧ ((mTg h37 v0 = 12) ∧ (Ek 111 0 [some (.ref v0), some (.int (mI h11 p12 (v3.toNatClampNeg))), none] [] h37 (fun r h39 => r = none ∧ (Ek 127 2 [some (.ref v0), some (.int v1), some (.int v2), some (.int (v3 + 1)), some (.int (mI h11 p12 (v3.toNatClampNeg)))] [] h39 K)))))))))))))))))))) ∧ (¬ (mI h11 p15 ((mI h11 p12 (v3.toNatClampNeg)).toNatClampNeg)) = 0 → (∀ h40, h40 = wI h11 v0 41 ((mI h11 v0 41) + 1) → (Ek 127 2 [some (.ref v0), some (.int v1), some (.int v2), some (.int (v3 + 1)), some (.int (mI h11 p12 (v3.toNatClampNeg)))] [] h40 K)))))))))))) ∧ (¬ (mI h p5 (v3.toNatClampNeg)) = v1 → (Ek 127 2 [some (.ref v0), some (.int v1), some (.int v2), some (.int (v3 + 1)), none] [] h K)))))) ∧ (¬ (mI h p2 (v3.toNatClampNeg)) = (mI h v0 3) → (Ek 127 2 [some (.ref v0), some (.int v1), some (.int v2), some (.int (v3 + 1)), none] [] h K)))))))) : Ek 127 2 [some (.ref v0), some (.int v1), some (.int v2), some (.int v3), none] [] h K := by
  refine Ek.br 3 (fun n => rfl) (fun hc => ?_) (fun hc => ?_)
  · replace H := H.1 hc
    exact Ek.ret 1 (fun n => rfl) H
  · replace H := H.2 hc
    have c1 := H.1
    refine Ek.chk 2 (fun n => rfl) c1 ?_
    replace H := H.2
    obtain ⟨p2, e3, H⟩ := H
    show Ek _ _ _ (va_rf (mP h v0 28) :: _) _ _
    rw [e3]
    have c4 := H.1
    refine Ek.chk 2 (fun n => rfl) c4 ?_
    replace H := H.2
    refine Ek.chk 2 (fun n => rfl) c1 ?_
    refine Ek.br 1 (fun n => rfl) (fun hc => ?_) (fun hc => ?_)
    · replace H := H.1 hc
      refine Ek.chk 2 (fun n => rfl) c1 ?_
      obtain ⟨p5, e6, H⟩ := H
      show Ek _ _ _ (va_rf (mP h v0 36) :: _) _ _
      rw [e6]
      have c7 := H.1
      refine Ek.chk 2 (fun n => rfl) c7 ?_
      replace H := H.2
      refine Ek.br 2 (fun n => rfl) (fun hc => ?_) (fun hc => ?_)
      · replace H := H.1 hc
        refine Ek.chk 2 (fun n => rfl) c1 ?_
        show Ek _ _ _ (va_rf (mP h v0 28) :: _) _ _
        rw [e3]
        have c10 := H.1
        refine Ek.chk 3 (fun n => rfl) c10 ?_
        replace H := H.2
        let h9 : mH := wI h p2 (v3.toNatClampNeg) (-1)
        replace H := H h9 rfl
        show Ek _ _ _ _ h9 _
        refine Ek.chk 3 (fun n => rfl) c1 ?_
        refine Ek.chk 3 (fun n => rfl) c1 ?_
        let h11 : mH := wI h9 v0 38 ((mI h9 v0 38) - 1)
        replace H := H h11 rfl
        show Ek _ _ _ _ h11 _
        refine Ek.chk 2 (fun n => rfl) c1 ?_
        obtain ⟨p12, e13, H⟩ := H
        show Ek _ _ _ (va_rf (mP h v0 30) :: _) _ _
        rw [e13]
        have c14 := H.1
        refine Ek.chk 2 (fun n => rfl) c14 ?_
        replace H := H.2
        refine Ek.chk 3 (fun n => rfl) c1 ?_
        obtain ⟨p15, e16, H⟩ := H
        show Ek _ _ _ (va_rf (mP h v0 13) :: _) _ _
        rw [e16]
        have c17 := H.1
        refine Ek.chk 2 (fun n => rfl) c17 ?_
        replace H := H.2
        refine Ek.br 1 (fun n => rfl) (fun hc => ?_) (fun hc => ?_)
        · replace H := H.1 hc
          refine Ek.chk 3 (fun n => rfl) c1 ?_
          refine Ek.chk 3 (fun n => rfl) c1 ?_
          let h18 : mH := wI h11 v0 40 ((mI h11 v0 40) + 1)
          replace H := H h18 rfl
          show Ek _ _ _ _ h18 _
          refine Ek.chk 4 (fun n => rfl) c1 ?_
          obtain ⟨p19, e20, H⟩ := H
          show Ek _ _ _ (va_rf (mP h v0 29) :: _) _ _
          rw [e20]
          have c21 := H.1
          refine Ek.chk 2 (fun n => rfl) c21 ?_
          replace H := H.2
          refine Ek.chk 2 (fun n => rfl) c1 ?_
          obtain ⟨p22, e23, H⟩ := H
          show Ek _ _ _ (va_rf (mP h v0 31) :: _) _ _
          rw [e23]
          have c24 := H.1
          refine Ek.chk 2 (fun n => rfl) c24 ?_
          replace H := H.2
          refine Ek.chk 2 (fun n => rfl) c1 ?_
          obtain ⟨p25, e26, H⟩ := H
          show Ek _ _ _ (va_rf (mP h v0 32) :: _) _ _
          rw [e26]
          have c27 := H.1
          refine Ek.chk 2 (fun n => rfl) c27 ?_
          replace H := H.2
          refine Ek.chk 2 (fun n => rfl) c1 ?_
          obtain ⟨p28, e29, H⟩ := H
          show Ek _ _ _ (va_rf (mP h v0 33) :: _) _ _
          rw [e29]
          have c30 := H.1
          refine Ek.chk 2 (fun n => rfl) c30 ?_
          replace H := H.2
          refine Ek.chk 2 (fun n => rfl) c1 ?_
          obtain ⟨p31, e32, H⟩ := H
          show Ek _ _ _ (va_rf (mP h v0 34) :: _) _ _
          rw [e32]
          have c33 := H.1
          refine Ek.chk 2 (fun n => rfl) c33 ?_
          replace H := H.2
          refine Ek.chk 2 (fun n => rfl) c1 ?_
          obtain ⟨p34, e35, H⟩ := H
          show Ek _ _ _ (va_rf (mP h v0 35) :: _) _ _
          rw [e35]
          have c36 := H.1
          refine Ek.chk 2 (fun n => rfl) c36 ?_
          replace H := H.2
          refine Ek.callT 1 (fun n => rfl) c1 ?_
          refine Ek.mono H ?_
          rintro _ h37 ⟨rfl, H⟩
          have c38 := H.1
          refine Ek.callT 2 (fun n => rfl) c38 ?_
          replace H := H.2
          refine Ek.mono H ?_
          rintro _ h39 ⟨rfl, H⟩
          exact Ek.go 2 (fun n => rfl) H
        · replace H := H.2 hc
          refine Ek.chk 3 (fun n => rfl) c1 ?_
          refine Ek.chk 3 (fun n => rfl) c1 ?_
          let h40 : mH := wI h11 v0 41 ((mI h11 v0 41) + 1)
          replace H := H h40 rfl
          show Ek _ _ _ _ h40 _
          exact Ek.go 3 (fun n => rfl) H
      · replace H := H.2 hc
        exact Ek.go 2 (fun n => rfl) H
    · replace H := H.2 hc
      exact Ek.go 2 (fun n => rfl) H

/-- RoundVotesModel.timerEnds(II)V, from 0 -/
set_option maxRecDepth 4000 in
theorem T128 {a0 : Nat} {a1 : Int32} {a2 : Int32} {h : mH} {K : Option Value → mH → Prop} (H : (mTg h a0 = 12) ∧ (∃ p2, mP h a0 13 = some p2 ∧ ((mTg h p2 = 21 ∧ ¬ a1 < 0 ∧ (a1.toNatClampNeg) < mLn h p2) ∧ (((mI h p2 (a1.toNatClampNeg)) = 0 → (∃ p5, mP h a0 15 = some p5 ∧ (((mTg h p5 = 20 ∨ mTg h p5 = 30) ∧ ¬ ((3 * a1) + a2) < 0 ∧ (((3 * a1) + a2).toNatClampNeg) < mLn h p5) ∧ (((mI h p5 (((3 * a1) + a2).toNatClampNeg)) = (mI h a0 3) → ((mTg h p5 = 20 ∧ ¬ ((3 * a1) + a2) < 0 ∧ (((3 * a1) + a2).toNatClampNeg) < mLn h p5) ∧ (∀ h9, h9 = wI h p5 (((3 * a1) + a2).toNatClampNeg) 0 → ((a2 = 0 → (∃ p11, mP h a0 7 = some p11 ∧ (((mTg h p11 = 20 ∨ mTg h p11 = 30) ∧ ¬ a1 < 0 ∧ (a1.toNatClampNeg) < mLn h p11) ∧ (((mI h9 p11 (a1.toNatClampNeg)) = 0 → (Ek 101 0 [some (.ref a0), some (.int a1), some (.int 1), some (.int 0), some (.int (-9)), none, none, none, none, none, none, none] [] h9 (fun r h14 => r = none ∧ ((mTg h14 a0 = 12) ∧ (∃ p16, mP h14 a0 7 = some p16 ∧ ((mTg h14 p16 = 20 ∧ ¬ a1 < 0 ∧ (a1.toNatClampNeg) < mLn h14 p16) ∧ (∀ h18, h18 = wI h14 p16 (a1.toNatClampNeg) 1 → (Ek 111 0 [some (.ref a0), some (.int a1), none] [] h18 (fun r h20 => r = none ∧ (K none h20)))))))))) ∧ (¬ (mI h9 p11 (a1.toNatClampNeg)) = 0 → ((a2 = 1 → (((mI h9 p11 (a1.toNatClampNeg)) = 1 → (Ek 101 0 [some (.ref a0), some (.int a1), some (.int 2), some (.int 0), some (.int (-9)), none, none, none, none, none, none, none] [] h9 (fun r h22 => r = none ∧ ((mTg h22 a0 = 12) ∧ (∃ p24, mP h22 a0 7 = some p24 ∧ ((mTg h22 p24 = 20 ∧ ¬ a1 < 0 ∧ (a1.toNatClampNeg) < mLn h22 p24) ∧ (∀ h26, h26 = wI h22 p24 (a1.toNatClampNeg) 2 → (Ek 111 0 [some (.ref a0), some (.int a1), none] [] h26 (fun r h28 => r = none ∧ (K none h28)))))))))) ∧ (¬ (mI h9 p11 (a1.toNatClampNeg)) = 1 → ((a2 = 2 → (∃ p29, mP h a0 6 = some p29 ∧ (((mTg h p29 = 20 ∨ mTg h p29 = 30) ∧ ¬ a1 < 0 ∧ (a1.toNatClampNeg) < mLn h p29) ∧ (Ek 99 0 [some (.ref a0), some (.int a1), some (.int ((mI h9 p29 (a1.toNatClampNeg)) + 1)), none] [] h9 (fun r h32 => r = none ∧ ((mTg h32 a0 = 12) ∧ (Ek 111 0 [some (.ref a0), some (.int a1), none] [] h32 (fun r h34 => r = none ∧ (K none h34))))))))) ∧ (¬ a2 = 2 → (Ek 111 0 [some (.ref a0), some (.int a1), none] [] h9 (fun r h35 => r = none ∧ (K none h35)))))))) ∧ (¬ a2 = 1 → ((a2 = 2 → (∃ p36, mP h a0 6 = some p36 ∧ (((mTg h p36 = 20 ∨ mTg h p36 = 30) ∧ ¬ a1 < 0 ∧ (a1.toNatClampNeg) < mLn h p36) ∧ (Ek 99 0 [some (.ref a0), some (.int a1), some (.int ((mI h9 p36 (a1.toNatClampNeg)) + 1)), none] [] h9 (fun r h39 => r = none ∧ ((mTg h39 a0 = 12) ∧ (Ek 111 0 [some (.ref a0), some (.int a1), none] [] h39 (fun r h41 => r = none ∧ (K none h41))))))))) ∧ (¬ a2 = 2 → (Ek 111 0 [some (.ref a0), some (.int a1), none] [] h9 (fun r h42 => r = none ∧ (K none h42)))))))))))) ∧ (¬ a2 = 0 → ((a2 = 1 → (∃ p43, mP h a0 7 = some p43 ∧ (((mTg h p43 = 20 ∨ mTg h p43 = 30) ∧ ¬ a1 < 0 ∧ (a1.toNatClampNeg) < mLn h p43) ∧ (((mI h9 p43 (a1.toNatClampNeg)) = 1 → (Ek 101 0 [some (.ref a0), some (.int a1), some (.int 2), some (.int 0), some (.int (-9)), none, none, none, none, none, none, none] [] h9 (fun r h46 => r = none ∧ ((mTg h46 a0 = 12) ∧ (∃ p48, mP h46 a0 7 = some p48 ∧ ((mTg h46 p48 = 20 ∧ ¬ a1 < 0 ∧ (a1.toNatClampNeg) < mLn h46 p48) ∧ (∀ h50, h50 = wI h46 p48 (a1.toNatClampNeg) 2 → (Ek 111 0 [some (.ref a0), some (.int a1), none] [] h50 (fun r h52 => r = none ∧ (K none h52)))))))))) ∧ (¬ (mI h9 p43 (a1.toNatClampNeg)) = 1 → ((a2 = 2 → (∃ p53, mP h a0 6 = some p53 ∧ (((mTg h p53 = 20 ∨ mTg h p53 = 30) ∧ ¬ a1 < 0 ∧ (a1.toNatClampNeg) < mLn h p53) ∧ (Ek 99 0 [some (.ref a0), some (.int a1), some (.int ((mI h9 p53 (a1.toNatClampNeg)) + 1)), none] [] h9 (fun r h56 => r = none ∧ ((mTg h56 a0 = 12) ∧ (Ek 111 0 [some (.ref a0), some (.int a1), none] [] h56 (fun r h58 => r = none ∧ (K none h58))))))))) ∧ (¬ a2 = 2 → (Ek 111 0 [some (.ref a0), some (.int a1), none] [] h9 (fun r h59 => r = none ∧ (K none h59)))))))))) ∧ (¬ a2 = 1 → ((a2 = 2 → (∃ p60, mP h a0 6 = some p60 ∧ (((mTg h p60 = 20 ∨ mTg h p60 = 30) ∧ ¬ a1 < 0 ∧ (a1.toNatClampNeg) < mLn h p60) ∧ (Ek 99 0 [some (.ref a0), some (.int a1), some (.int ((mI h9 p60 (a1.toNatClampNeg)) + 1)), none] [] h9 (fun r h63 => r = none ∧ ((mTg h63 a0 = 12) ∧ (Ek 111 0 [some (.ref a0), some (.int a1), none] [] h63 (fun r h65 => r = none ∧ (K none h65))))))))) ∧ (¬ a2 = 2 → (Ek 111 0 [some (.ref a0), some (.int a1), none] [] h9 (fun r h66 => r = none ∧ (K none h66)))))))))))) ∧ (¬ (mI h p5 (((3 * a1) + a2).toNatClampNeg)) = (mI h a0 3) → (K none h)))))) ∧ (¬ (mI h p2 (a1.toNatClampNeg)) = 0 → (K none h)))))) : Ek 128 0 [some (.ref a0), some (.int a1), some (.int a2)] [] h K := by
  have c1 := H.1
  refine Ek.chk 2 (fun n => rfl) c1 ?_
  replace H := H.2
  obtain ⟨p2, e3, H⟩ := H
  show Ek _ _ _ (va_rf (mP h a0 13) :: _) _ _
  rw [e3]
  have c4 := H.1
  refine Ek.chk 2 (fun n => rfl) c4 ?_
  replace H := H.2
  refine Ek.br 1 (fun n => rfl) (fun hc => ?_) (fun hc => ?_)
  · replace H := H.1 hc
    refine Ek.chk 2 (fun n => rfl) c1 ?_
    obtain ⟨p5, e6, H⟩ := H
    show Ek _ _ _ (va_rf (mP h a0 15) :: _) _ _
    rw [e6]
    have c7 := H.1
    refine Ek.chk 6 (fun n => rfl) c7 ?_
    replace H := H.2
    refine Ek.chk 2 (fun n => rfl) c1 ?_
    refine Ek.br 1 (fun n => rfl) (fun hc => ?_) (fun hc => ?_)
    · replace H := H.1 hc
      refine Ek.chk 2 (fun n => rfl) c1 ?_
      show Ek _ _ _ (va_rf (mP h a0 15) :: _) _ _
      rw [e6]
      have c10 := H.1
      refine Ek.chk 7 (fun n => rfl) c10 ?_
      replace H := H.2
      let h9 : mH := wI h p5 (((3 * a1) + a2).toNatClampNeg) 0
      replace H := H h9 rfl
      show Ek _ _ _ _ h9 _
      refine Ek.br 2 (fun n => rfl) (fun hc => ?_) (fun hc => ?_)
      · replace H := H.1 hc
        refine Ek.chk 2 (fun n => rfl) c1 ?_
        obtain ⟨p11, e12, H⟩ := H
        show Ek _ _ _ (va_rf (mP h a0 7) :: _) _ _
        rw [e12]
        have c13 := H.1
        refine Ek.chk 2 (fun n => rfl) c13 ?_
        replace H := H.2
        refine Ek.br 1 (fun n => rfl) (fun hc => ?_) (fun hc => ?_)
        · replace H := H.1 hc
          refine Ek.callT 5 (fun n => rfl) c1 ?_
          refine Ek.mono H ?_
          rintro _ h14 ⟨rfl, H⟩
          have c15 := H.1
          refine Ek.chk 2 (fun n => rfl) c15 ?_
          replace H := H.2
          obtain ⟨p16, e17, H⟩ := H
          show Ek _ _ _ (va_rf (mP h14 a0 7) :: _) _ _
          rw [e17]
          have c19 := H.1
          refine Ek.chk 3 (fun n => rfl) c19 ?_
          replace H := H.2
          let h18 : mH := wI h14 p16 (a1.toNatClampNeg) 1
          replace H := H h18 rfl
          show Ek _ _ _ _ h18 _
          refine Ek.callT 3 (fun n => rfl) c15 ?_
          refine Ek.mono H ?_
          rintro _ h20 ⟨rfl, H⟩
          exact Ek.ret 1 (fun n => rfl) H
        · replace H := H.2 hc
          refine Ek.br 3 (fun n => rfl) (fun hc => ?_) (fun hc => ?_)
          · replace H := H.1 hc
            refine Ek.chk 2 (fun n => rfl) c1 ?_
            show Ek _ _ _ (va_rf (mP h a0 7) :: _) _ _
            rw [e12]
            refine Ek.chk 2 (fun n => rfl) c13 ?_
            refine Ek.br 2 (fun n => rfl) (fun hc => ?_) (fun hc => ?_)
            · replace H := H.1 hc
              refine Ek.callT 5 (fun n => rfl) c1 ?_
              refine Ek.mono H ?_
              rintro _ h22 ⟨rfl, H⟩
              have c23 := H.1
              refine Ek.chk 2 (fun n => rfl) c23 ?_
              replace H := H.2
              obtain ⟨p24, e25, H⟩ := H
              show Ek _ _ _ (va_rf (mP h22 a0 7) :: _) _ _
              rw [e25]
              have c27 := H.1
              refine Ek.chk 3 (fun n => rfl) c27 ?_
              replace H := H.2
              let h26 : mH := wI h22 p24 (a1.toNatClampNeg) 2
              replace H := H h26 rfl
              show Ek _ _ _ _ h26 _
              refine Ek.callT 3 (fun n => rfl) c23 ?_
              refine Ek.mono H ?_
              rintro _ h28 ⟨rfl, H⟩
              exact Ek.ret 1 (fun n => rfl) H
            · replace H := H.2 hc
              refine Ek.br 3 (fun n => rfl) (fun hc => ?_) (fun hc => ?_)
              · replace H := H.1 hc
                refine Ek.chk 4 (fun n => rfl) c1 ?_
                obtain ⟨p29, e30, H⟩ := H
                show Ek _ _ _ (va_rf (mP h a0 6) :: _) _ _
                rw [e30]
                have c31 := H.1
                refine Ek.chk 2 (fun n => rfl) c31 ?_
                replace H := H.2
                refine Ek.callT 2 (fun n => rfl) c1 ?_
                refine Ek.mono H ?_
                rintro _ h32 ⟨rfl, H⟩
                have c33 := H.1
                refine Ek.callT 2 (fun n => rfl) c33 ?_
                replace H := H.2
                refine Ek.mono H ?_
                rintro _ h34 ⟨rfl, H⟩
                exact Ek.ret 1 (fun n => rfl) H
              · replace H := H.2 hc
                refine Ek.callT 2 (fun n => rfl) c1 ?_
                refine Ek.mono H ?_
                rintro _ h35 ⟨rfl, H⟩
                exact Ek.ret 1 (fun n => rfl) H
          · replace H := H.2 hc
            refine Ek.br 3 (fun n => rfl) (fun hc => ?_) (fun hc => ?_)
            · replace H := H.1 hc
              refine Ek.chk 4 (fun n => rfl) c1 ?_
              obtain ⟨p36, e37, H⟩ := H
              show Ek _ _ _ (va_rf (mP h a0 6) :: _) _ _
              rw [e37]
              have c38 := H.1
              refine Ek.chk 2 (fun n => rfl) c38 ?_
              replace H := H.2
              refine Ek.callT 2 (fun n => rfl) c1 ?_
              refine Ek.mono H ?_
              rintro _ h39 ⟨rfl, H⟩
              have c40 := H.1
              refine Ek.callT 2 (fun n => rfl) c40 ?_
              replace H := H.2
              refine Ek.mono H ?_
              rintro _ h41 ⟨rfl, H⟩
              exact Ek.ret 1 (fun n => rfl) H
            · replace H := H.2 hc
              refine Ek.callT 2 (fun n => rfl) c1 ?_
              refine Ek.mono H ?_
              rintro _ h42 ⟨rfl, H⟩
              exact Ek.ret 1 (fun n => rfl) H
      · replace H := H.2 hc
        refine Ek.br 3 (fun n => rfl) (fun hc => ?_) (fun hc => ?_)
        · replace H := H.1 hc
          refine Ek.chk 2 (fun n => rfl) c1 ?_
          obtain ⟨p43, e44, H⟩ := H
          show Ek _ _ _ (va_rf (mP h a0 7) :: _) _ _
          rw [e44]
          have c45 := H.1
          refine Ek.chk 2 (fun n => rfl) c45 ?_
          replace H := H.2
          refine Ek.br 2 (fun n => rfl) (fun hc => ?_) (fun hc => ?_)
          · replace H := H.1 hc
            refine Ek.callT 5 (fun n => rfl) c1 ?_
            refine Ek.mono H ?_
            rintro _ h46 ⟨rfl, H⟩
            have c47 := H.1
            refine Ek.chk 2 (fun n => rfl) c47 ?_
            replace H := H.2
            obtain ⟨p48, e49, H⟩ := H
            show Ek _ _ _ (va_rf (mP h46 a0 7) :: _) _ _
            rw [e49]
            have c51 := H.1
            refine Ek.chk 3 (fun n => rfl) c51 ?_
            replace H := H.2
            let h50 : mH := wI h46 p48 (a1.toNatClampNeg) 2
            replace H := H h50 rfl
            show Ek _ _ _ _ h50 _
            refine Ek.callT 3 (fun n => rfl) c47 ?_
            refine Ek.mono H ?_
            rintro _ h52 ⟨rfl, H⟩
            exact Ek.ret 1 (fun n => rfl) H
          · replace H := H.2 hc
            refine Ek.br 3 (fun n => rfl) (fun hc => ?_) (fun hc => ?_)
            · replace H := H.1 hc
              refine Ek.chk 4 (fun n => rfl) c1 ?_
              obtain ⟨p53, e54, H⟩ := H
              show Ek _ _ _ (va_rf (mP h a0 6) :: _) _ _
              rw [e54]
              have c55 := H.1
              refine Ek.chk 2 (fun n => rfl) c55 ?_
              replace H := H.2
              refine Ek.callT 2 (fun n => rfl) c1 ?_
              refine Ek.mono H ?_
              rintro _ h56 ⟨rfl, H⟩
              have c57 := H.1
              refine Ek.callT 2 (fun n => rfl) c57 ?_
              replace H := H.2
              refine Ek.mono H ?_
              rintro _ h58 ⟨rfl, H⟩
              exact Ek.ret 1 (fun n => rfl) H
            · replace H := H.2 hc
              refine Ek.callT 2 (fun n => rfl) c1 ?_
              refine Ek.mono H ?_
              rintro _ h59 ⟨rfl, H⟩
              exact Ek.ret 1 (fun n => rfl) H
        · replace H := H.2 hc
          refine Ek.br 3 (fun n => rfl) (fun hc => ?_) (fun hc => ?_)
          · replace H := H.1 hc
            refine Ek.chk 4 (fun n => rfl) c1 ?_
            obtain ⟨p60, e61, H⟩ := H
            show Ek _ _ _ (va_rf (mP h a0 6) :: _) _ _
            rw [e61]
            have c62 := H.1
            refine Ek.chk 2 (fun n => rfl) c62 ?_
            replace H := H.2
            refine Ek.callT 2 (fun n => rfl) c1 ?_
            refine Ek.mono H ?_
            rintro _ h63 ⟨rfl, H⟩
            have c64 := H.1
            refine Ek.callT 2 (fun n => rfl) c64 ?_
            replace H := H.2
            refine Ek.mono H ?_
            rintro _ h65 ⟨rfl, H⟩
            exact Ek.ret 1 (fun n => rfl) H
          · replace H := H.2 hc
            refine Ek.callT 2 (fun n => rfl) c1 ?_
            refine Ek.mono H ?_
            rintro _ h66 ⟨rfl, H⟩
            exact Ek.ret 1 (fun n => rfl) H
    · replace H := H.2 hc
      exact Ek.ret 1 (fun n => rfl) H
  · replace H := H.2 hc
    exact Ek.ret 1 (fun n => rfl) H

/-- RoundVotesModel.tidy()V, from 0 -/
set_option maxRecDepth 4000 in
theorem T129 {a0 : Nat} {h : mH} {K : Option Value → mH → Prop} (H : Ek 129 4 [some (.ref a0), some (.int 0), some (.int 0)] [] h K) : Ek 129 0 [some (.ref a0), none, none] [] h K := by
  exact Ek.go 4 (fun n => rfl) H

/-- RoundVotesModel.tidy()V, from 4 -/
set_option maxRecDepth 4000 in
theorem T129_4 {v0 : Nat} {v1 : Int32} {v2 : Int32} {h : mH} {K : Option Value → mH → Prop} (H : (mTg h v0 = 12) ∧ (((mI h v0 37) ≤ v2 → (∀ h2, h2 = wI h v0 37 v1 → (K none h2))) ∧ (¬ (mI h v0 37) ≤ v2 → (∃ p3, mP h v0 28 = some p3 ∧ (((mTg h p3 = 20 ∨ mTg h p3 = 30) ∧ ¬ v2 < 0 ∧ (v2.toNatClampNeg) < mLn h p3) ∧ (((mI h p3 (v2.toNatClampNeg)) < 0 → (Ek 129 4 [some (.ref v0), some (.int v1), some (.int (v2 + 1))] [] h K)) ∧ (¬ (mI h p3 (v2.toNatClampNeg)) < 0 → ((mTg h p3 = 20 ∧ ¬ v1 < 0 ∧ (v1.toNatClampNeg) < mLn h p3) ∧ (∀ h8, h8 = wI h p3 (v1.toNatClampNeg) (mI h p3 (v2.toNatClampNeg)) → (∃ p10, mP h v0 29 = some p10 ∧ (((mTg h p10 = 20 ∨ mTg h p10 = 30) ∧ ¬ v2 < 0 ∧ (v2.toNatClampNeg) < mLn h p10) ∧ ((mTg h p10 = 20 ∧ ¬ v1 < 0 ∧ (v1.toNatClampNeg) < mLn h p10) ∧ (∀ h14, h14 = wI h8 p10 (v1.toNatClampNeg) (mI h8 p10 (v2.toNatClampNeg)) → (∃ p16, mP h v0 30 = some p16 ∧ (((mTg h p16 = 20 ∨ mTg h p16 = 30) ∧ ¬ v2 < 0 ∧ (v2.toNatClampNeg) < mLn h p16) ∧ ((mTg h p16 = 20 ∧ ¬ v1 < 0 ∧ (v1.toNatClampNeg) < mLn h p16) ∧ (∀ h20, h20 = wI h14 p16 (v1.toNatClampNeg) (mI h14 p16 (v2.toNatClampNeg)) → (∃ p22, mP h v0 31 = some p22 ∧ (((mTg h p22 = 20 ∨ mTg h p22 = 30) ∧ ¬ v2 < 0 ∧ (v2.toNatClampNeg) < mLn h p22) ∧ ((mTg h p22 = 20 ∧ ¬ v1 < 0 ∧ (v1.toNatClampNeg) < mLn h p22) ∧ (∀ h26, h26 = wI h20 p22 (v1.toNatClampNeg) (mI h20 p22 (v2.toNatClampNeg)) → (∃ p28, mP h v0 32 = some p28 ∧ (((mTg h p28 = 20 ∨ mTg h p28 = 30) ∧ ¬ v2 < 0 ∧ (v2.toNatClampNeg) < mLn h p28) ∧ ((mTg h p28 = 20 ∧ ¬ v1 < 0 ∧ (v1.toNatClampNeg) < mLn h p28) ∧ (∀ h32, h32 = wI h26 p28 (v1.toNatClampNeg) (mI h26 p28 (v2.toNatClampNeg)) → (∃ p34, mP h v0 33 = some p34 ∧ (((mTg h p34 = 20 ∨ mTg h p34 = 30) ∧ ¬ v2 < 0 ∧ (v2.toNatClampNeg) < mLn h p34) ∧ ((mTg h p34 = 20 ∧ ¬ v1 < 0 ∧ (v1.toNatClampNeg) < mLn h p34) ∧ (∀ h38, h38 = wI h32 p34 (v1.toNatClampNeg) (mI h32 p34 (v2.toNatClampNeg)) → (∃ p40, mP h v0 34 = some p40 ∧ (((mTg h p40 = 20 ∨ mTg h p40 = 30) ∧ ¬ v2 < 0 ∧ (v2.toNatClampNeg) < mLn h p40) ∧ ((mTg h p40 = 20 ∧ ¬ v1 < 0 ∧ (v1.toNatClampNeg) < mLn h p40) ∧ (∀ h44, h44 = wI h38 p40 (v1.toNatClampNeg) (mI h38 p40 (v2.toNatClampNeg)) → (∃ p46, mP h v0 35 = some p46 ∧ (((mTg h p46 = 20 ∨ mTg h p46 = 30) ∧ ¬ v2 < 0 ∧ (v2.toNatClampNeg) < mLn h p46) ∧ ((mTg h p46 = 20 ∧ ¬ v1 < 0 ∧ (v1.toNatClampNeg) < mLn h p46) ∧ (∀ h50, h50 = wI h44 p46 (v1.toNatClampNeg) (mI h44 p46 (v2.toNatClampNeg)) → (∃ p52, mP h v0 36 = some p52 ∧ ((mTg h p52 = 21 ∧ ¬ v2 < 0 ∧ (v2.toNatClampNeg) < mLn h p52) ∧ ((mTg h p52 = 21 ∧ ((mI h50 p52 (v2.toNatClampNeg)) = 0 ∨ (mI h50 p52 (v2.toNatClampNeg)) = 1) ∧ ¬ v1 < 0 ∧ (v1.toNatClampNeg) < mLn h p52) ∧ (∀ h56, h56 = wI h50 p52 (v1.toNatClampNeg) (mI h50 p52 (v2.toNatClampNeg)) → (Ek 129 4 [some (.ref v0), some (.int (v1 + 1)), some (.int (v2 + 1))] [] h56 K)))))))))))))))))))))))))))))))))))))))))) : Ek 129 4 [some (.ref v0), some (.int v1), some (.int v2)] [] h K := by
  have c1 := H.1
  refine Ek.chk 3 (fun n => rfl) c1 ?_
  replace H := H.2
  refine Ek.br 1 (fun n => rfl) (fun hc => ?_) (fun hc => ?_)
  · replace H := H.1 hc
    refine Ek.chk 3 (fun n => rfl) c1 ?_
    let h2 : mH := wI h v0 37 v1
    replace H := H h2 rfl
    show Ek _ _ _ _ h2 _
    exact Ek.ret 1 (fun n => rfl) H
  · replace H := H.2 hc
    refine Ek.chk 2 (fun n => rfl) c1 ?_
    obtain ⟨p3, e4, H⟩ := H
    show Ek _ _ _ (va_rf (mP h v0 28) :: _) _ _
    rw [e4]
    have c5 := H.1
    refine Ek.chk 2 (fun n => rfl) c5 ?_
    replace H := H.2
    refine Ek.br 1 (fun n => rfl) (fun hc => ?_) (fun hc => ?_)
    · replace H := H.1 hc
      exact Ek.go 2 (fun n => rfl) H
    · replace H := H.2 hc
      refine Ek.chk 2 (fun n => rfl) c1 ?_
      show Ek _ _ _ (va_rf (mP h v0 28) :: _) _ _
      rw [e4]
      refine Ek.chk 3 (fun n => rfl) c1 ?_
      show Ek _ _ _ (va_rf (mP h v0 28) :: _) _ _
      rw [e4]
      refine Ek.chk 2 (fun n => rfl) c5 ?_
      have c9 := H.1
      refine Ek.chk 1 (fun n => rfl) c9 ?_
      replace H := H.2
      let h8 : mH := wI h p3 (v1.toNatClampNeg) (mI h p3 (v2.toNatClampNeg))
      replace H := H h8 rfl
      show Ek _ _ _ _ h8 _
      refine Ek.chk 2 (fun n => rfl) c1 ?_
      obtain ⟨p10, e11, H⟩ := H
      show Ek _ _ _ (va_rf (mP h v0 29) :: _) _ _
      rw [e11]
      refine Ek.chk 3 (fun n => rfl) c1 ?_
      show Ek _ _ _ (va_rf (mP h v0 29) :: _) _ _
      rw [e11]
      have c13 := H.1
      refine Ek.chk 2 (fun n => rfl) c13 ?_
      replace H := H.2
      have c15 := H.1
      refine Ek.chk 1 (fun n => rfl) c15 ?_
      replace H := H.2
      let h14 : mH := wI h8 p10 (v1.toNatClampNeg) (mI h8 p10 (v2.toNatClampNeg))
      replace H := H h14 rfl
      show Ek _ _ _ _ h14 _
      refine Ek.chk 2 (fun n => rfl) c1 ?_
      obtain ⟨p16, e17, H⟩ := H
      show Ek _ _ _ (va_rf (mP h v0 30) :: _) _ _
      rw [e17]
      refine Ek.chk 3 (fun n => rfl) c1 ?_
      show Ek _ _ _ (va_rf (mP h v0 30) :: _) _ _
      rw [e17]
      have c19 := H.1
      refine Ek.chk 2 (fun n => rfl) c19 ?_
      replace H := H.2
      have c21 := H.1
      refine Ek.chk 1 (fun n => rfl) c21 ?_
      replace H := H.2
      let h20 : mH := wI h14 p16 (v1.toNatClampNeg) (mI h14 p16 (v2.toNatClampNeg))
      replace H := H h20 rfl
      show Ek _ _ _ _ h20 _
      refine Ek.chk 2 (fun n => rfl) c1 ?_
      obtain ⟨p22, e23, H⟩ := H
      show Ek _ _ _ (va_rf (mP h v0 31) :: _) _ _
      rw [e23]
      refine Ek.chk 3 (fun n => rfl) c1 ?_
      show Ek _ _ _ (va_rf (mP h v0 31) :: _) _ _
      rw [e23]
      have c25 := H.1
      refine Ek.chk 2 (fun n => rfl) c25 ?_
      replace H := H.2
      have c27 := H.1
      refine Ek.chk 1 (fun n => rfl) c27 ?_
      replace H := H.2
      let h26 : mH := wI h20 p22 (v1.toNatClampNeg) (mI h20 p22 (v2.toNatClampNeg))
      replace H := H h26 rfl
      show Ek _ _ _ _ h26 _
      refine Ek.chk 2 (fun n => rfl) c1 ?_
      obtain ⟨p28, e29, H⟩ := H
      show Ek _ _ _ (va_rf (mP h v0 32) :: _) _ _
      rw [e29]
      refine Ek.chk 3 (fun n => rfl) c1 ?_
      show Ek _ _ _ (va_rf (mP h v0 32) :: _) _ _
      rw [e29]
      have c31 := H.1
      refine Ek.chk 2 (fun n => rfl) c31 ?_
      replace H := H.2
      have c33 := H.1
      refine Ek.chk 1 (fun n => rfl) c33 ?_
      replace H := H.2
      let h32 : mH := wI h26 p28 (v1.toNatClampNeg) (mI h26 p28 (v2.toNatClampNeg))
      replace H := H h32 rfl
      show Ek _ _ _ _ h32 _
      refine Ek.chk 2 (fun n => rfl) c1 ?_
      obtain ⟨p34, e35, H⟩ := H
      show Ek _ _ _ (va_rf (mP h v0 33) :: _) _ _
      rw [e35]
      refine Ek.chk 3 (fun n => rfl) c1 ?_
      show Ek _ _ _ (va_rf (mP h v0 33) :: _) _ _
      rw [e35]
      have c37 := H.1
      refine Ek.chk 2 (fun n => rfl) c37 ?_
      replace H := H.2
      have c39 := H.1
      refine Ek.chk 1 (fun n => rfl) c39 ?_
      replace H := H.2
      let h38 : mH := wI h32 p34 (v1.toNatClampNeg) (mI h32 p34 (v2.toNatClampNeg))
      replace H := H h38 rfl
      show Ek _ _ _ _ h38 _
      refine Ek.chk 2 (fun n => rfl) c1 ?_
      obtain ⟨p40, e41, H⟩ := H
      show Ek _ _ _ (va_rf (mP h v0 34) :: _) _ _
      rw [e41]
      refine Ek.chk 3 (fun n => rfl) c1 ?_
      show Ek _ _ _ (va_rf (mP h v0 34) :: _) _ _
      rw [e41]
      have c43 := H.1
      refine Ek.chk 2 (fun n => rfl) c43 ?_
      replace H := H.2
      have c45 := H.1
      refine Ek.chk 1 (fun n => rfl) c45 ?_
      replace H := H.2
      let h44 : mH := wI h38 p40 (v1.toNatClampNeg) (mI h38 p40 (v2.toNatClampNeg))
      replace H := H h44 rfl
      show Ek _ _ _ _ h44 _
      refine Ek.chk 2 (fun n => rfl) c1 ?_
      obtain ⟨p46, e47, H⟩ := H
      show Ek _ _ _ (va_rf (mP h v0 35) :: _) _ _
      rw [e47]
      refine Ek.chk 3 (fun n => rfl) c1 ?_
      show Ek _ _ _ (va_rf (mP h v0 35) :: _) _ _
      rw [e47]
      have c49 := H.1
      refine Ek.chk 2 (fun n => rfl) c49 ?_
      replace H := H.2
      have c51 := H.1
      refine Ek.chk 1 (fun n => rfl) c51 ?_
      replace H := H.2
      let h50 : mH := wI h44 p46 (v1.toNatClampNeg) (mI h44 p46 (v2.toNatClampNeg))
      replace H := H h50 rfl
      show Ek _ _ _ _ h50 _
      refine Ek.chk 2 (fun n => rfl) c1 ?_
      obtain ⟨p52, e53, H⟩ := H
      show Ek _ _ _ (va_rf (mP h v0 36) :: _) _ _
      rw [e53]
      refine Ek.chk 3 (fun n => rfl) c1 ?_
      show Ek _ _ _ (va_rf (mP h v0 36) :: _) _ _
      rw [e53]
      have c55 := H.1
      refine Ek.chk 2 (fun n => rfl) c55 ?_
      replace H := H.2
      have c57 := H.1
      refine Ek.chk 1 (fun n => rfl) c57 ?_
      replace H := H.2
      let h56 : mH := wI h50 p52 (v1.toNatClampNeg) (mI h50 p52 (v2.toNatClampNeg))
      replace H := H h56 rfl
      show Ek _ _ _ _ h56 _
      exact Ek.go 3 (fun n => rfl) H

