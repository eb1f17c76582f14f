/-! ===== Math.max, Math.min ===== -/
def o_max (nx : Nat) : mOp := fun _ k l st h => match st with
  | .int y :: .int x :: st => bif Nat.ble (mCat st) 8 then k nx l (.int (if x < y then y else x) :: st) h else none
  | _ => none
def o_min (nx : Nat) : mOp := fun _ k l st h => match st with
  | .int y :: .int x :: st => bif Nat.ble (mCat st) 8 then k nx l (.int (if y < x then y else x) :: st) h else none
  | _ => none
theorem s_max {g : mG} {lau : Launch} {mt : Nat → mM} {M : mM} {pc idx : Nat} (hlk : Cond.methodLink (mCn M) idx Lib.Math.max.name ∈ mTb) (hst : Cond.static Lib.Math.max.name ∈ mTb) (hin : Cond.initialized "java/lang/Math" ∈ mTb) (hcd : Cond.code Lib.Math.max.name Lib.Math.max.code 2 (some .int) ∈ mTb) (hfr : 1 ≤ mFr M) (hlo : 21 ≤ mLo M) (hd : decode (mCc M) pc = .ok (.invokestatic idx, 3)) : mSnd g lau mt M pc (o_max (pc + 3)) := by
  intro cl k _ hk l st h o ho
  unfold o_max at ho
  split at ho
  · next y x st' =>
    cases hb9 : Nat.ble (mCat st') 8
    · rw [hb9] at ho
      cases ho
    · rw [hb9] at ho
      have h8 : (st'.map fun v => v.category).sum ≤ 8 := Nat.le_of_ble_eq_true hb9
      refine mG_run (o1 := (none, h)) ⟨Nat.le_refl _, Nat.le_refl _⟩ (fun p e R s mth args below meth c Q hC hf hL9 ls H locs cells slots hl hH hL hcs hss kk => ?_) (hk _ _ _ _ _ ho)
      have kk := kk H locs hH hL
      simp only [Nat.sub_self, Nat.add_zero] at kk hcs hss
      obtain ⟨hx, hb, hml, hown, hts, hK, hX, hnm⟩ := hC
      exact va_mmax hx hb (hml.trans hl.1.symm) hown (hts _ hlk) (hts _ hst) (hts _ hin) (hts _ hcd) (by omega) (by omega) hcs hss hd kk
  · cases ho
theorem s_min {g : mG} {lau : Launch} {mt : Nat → mM} {M : mM} {pc idx : Nat} (hlk : Cond.methodLink (mCn M) idx Lib.Math.min.name ∈ mTb) (hst : Cond.static Lib.Math.min.name ∈ mTb) (hin : Cond.initialized "java/lang/Math" ∈ mTb) (hcd : Cond.code Lib.Math.min.name Lib.Math.min.code 2 (some .int) ∈ mTb) (hfr : 1 ≤ mFr M) (hlo : 21 ≤ mLo M) (hd : decode (mCc M) pc = .ok (.invokestatic idx, 3)) : mSnd g lau mt M pc (o_min (pc + 3)) := by
  intro cl k _ hk l st h o ho
  unfold o_min at ho
  split at ho
  · next y x st' =>
    cases hb9 : Nat.ble (mCat st') 8
    · rw [hb9] at ho
      cases ho
    · rw [hb9] at ho
      have h8 : (st'.map fun v => v.category).sum ≤ 8 := Nat.le_of_ble_eq_true hb9
      refine mG_run (o1 := (none, h)) ⟨Nat.le_refl _, Nat.le_refl _⟩ (fun p e R s mth args below meth c Q hC hf hL9 ls H locs cells slots hl hH hL hcs hss kk => ?_) (hk _ _ _ _ _ ho)
      have kk := kk H locs hH hL
      simp only [Nat.sub_self, Nat.add_zero] at kk hcs hss
      obtain ⟨hx, hb, hml, hown, hts, hK, hX, hnm⟩ := hC
      exact va_mmin hx hb (hml.trans hl.1.symm) hown (hts _ hlk) (hts _ hst) (hts _ hin) (hts _ hcd) (by omega) (by omega) hcs hss hd kk
  · cases ho
