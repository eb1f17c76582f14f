/-! ===== the operations are sound: those that leave the heap ===== -/
section MPure
variable {g : mG} {lau : Launch} {mt : Nat → mM} {M : mM} {pc : Nat}
theorem s_iconst {n : Int} {v : Int32} (hd : decode (mCc M) pc = .ok (.iconst n, 1)) (hv : Int32.ofInt n = v) : mSnd g lau mt M pc (o_ic (pc + 1) v) := by
  intro c k _ hk l st h o ho
  exact mG_pure (fun p e R s mth args below meth c Q hC _ _ ls H locs cells slots hl _ kk => lv_iconst hC.1 hC.2.1 hd hv (kk ls hl)) (hk _ _ _ _ _ ho)
theorem s_bipush {n : Int} {v : Int32} (hd : decode (mCc M) pc = .ok (.bipush n, 2)) (hv : (Int8.ofInt n).toInt32 = v) : mSnd g lau mt M pc (o_ic (pc + 2) v) := by
  intro c k _ hk l st h o ho
  exact mG_pure (fun p e R s mth args below meth c Q hC _ _ ls H locs cells slots hl _ kk => lv_bipush hC.1 hC.2.1 hd hv (kk ls hl)) (hk _ _ _ _ _ ho)
theorem s_sipush {n : Int} {v : Int32} (hd : decode (mCc M) pc = .ok (.sipush n, 3)) (hv : (Int16.ofInt n).toInt32 = v) : mSnd g lau mt M pc (o_ic (pc + 3) v) := by
  intro c k _ hk l st h o ho
  exact mG_pure (fun p e R s mth args below meth c Q hC _ _ ls H locs cells slots hl _ kk => lv_sipush hC.1 hC.2.1 hd hv (kk ls hl)) (hk _ _ _ _ _ ho)
theorem s_lconst {n : Fin 2} {v : Int64} (hd : decode (mCc M) pc = .ok (.lconst n, 1)) (hv : Int64.ofNat (n : Nat) = v) : mSnd g lau mt M pc (o_lc (pc + 1) v) := by
  intro c k _ hk l st h o ho
  exact mG_pure (fun p e R s mth args below meth c Q hC _ _ ls H locs cells slots hl _ kk => lv_lconst hC.1 hC.2.1 hd hv (kk ls hl)) (hk _ _ _ _ _ ho)
theorem s_ldc {i : Nat} {v : Int32} (hd : decode (mCc M) pc = .ok (.ldc i, 2)) (hw : Cond.constant (mCn M) i v ∈ mTb) : mSnd g lau mt M pc (o_ic (pc + 2) v) := by
  intro c k _ hk l st h o ho
  exact mG_pure (fun p e R s mth args below meth c Q hC _ _ ls H locs cells slots hl _ kk => W.ldc hC.1 hC.2.1 hC.2.2.2.1 (hC.2.2.2.2.1 _ hw) rfl hd (kk ls hl)) (hk _ _ _ _ _ ho)
theorem s_ldc2 {i : Nat} {v : Int64} (hd : decode (mCc M) pc = .ok (.ldc2_w i, 3)) (hw : Cond.constantLong (mCn M) i v ∈ mTb) : mSnd g lau mt M pc (o_lc (pc + 3) v) := by
  intro c k _ hk l st h o ho
  exact mG_pure (fun p e R s mth args below meth c Q hC _ _ ls H locs cells slots hl _ kk => W.ldc2 hC.1 hC.2.1 hC.2.2.2.1 (hC.2.2.2.2.1 _ hw) rfl hd (kk ls hl)) (hk _ _ _ _ _ ho)
theorem o_ld_spec {c : mC} {k : mK} {nx i : Nat} {l : mL} {st : List Value} {h : mH} {o : mO} (ho : o_ld nx i c k l st h = some o) : ∃ v, l[i]? = some (some v) ∧ k nx l (v :: st) h = some o := by
  unfold o_ld at ho
  split at ho
  · next v hv => exact ⟨v, hv, ho⟩
  · cases ho
def o_il (nx i : Nat) : mOp := fun _ k l st h => match l[i]? with
  | some (some (.int x)) => k nx l (.int x :: st) h
  | _ => none
theorem o_il_spec {c : mC} {k : mK} {nx i : Nat} {l : mL} {st : List Value} {h : mH} {o : mO} (ho : o_il nx i c k l st h = some o) : ∃ x : Int32, l[i]? = some (some (.int x)) ∧ k nx l (.int x :: st) h = some o := by
  unfold o_il at ho
  split at ho
  · next x hv => exact ⟨x, hv, ho⟩
  · cases ho
theorem s_iload {i : Nat} (hd : decode (mCc M) pc = .ok (.iload i, 2)) : mSnd g lau mt M pc (o_il (pc + 2) i) := by
  intro c k _ hk l st h o ho
  obtain ⟨x, hx, ho⟩ := o_il_spec ho
  exact mG_pure (fun p e R s mth args below meth c Q hC _ _ ls H locs cells slots hl _ kk => lv_iload hC.1 hC.2.1 hd (hl.2.2.2 _ _ hx) (kk ls hl)) (hk _ _ _ _ _ ho)
theorem s_iload_n {j : Fin 4} {i : Nat} (hd : decode (mCc M) pc = .ok (.iload_n j, 1)) (hi : (j : Nat) = i) : mSnd g lau mt M pc (o_il (pc + 1) i) := by
  intro c k _ hk l st h o ho
  obtain ⟨x, hx, ho⟩ := o_il_spec ho
  exact mG_pure (fun p e R s mth args below meth c Q hC _ _ ls H locs cells slots hl _ kk => lv_iload_n hC.1 hC.2.1 hd hi (hl.2.2.2 _ _ hx) (kk ls hl)) (hk _ _ _ _ _ ho)
def o_llo (nx i : Nat) : mOp := fun _ k l st h => match l[i]? with
  | some (some (.long x)) => k nx l (.long x :: st) h
  | _ => none
theorem o_llo_spec {c : mC} {k : mK} {nx i : Nat} {l : mL} {st : List Value} {h : mH} {o : mO} (ho : o_llo nx i c k l st h = some o) : ∃ x : Int64, l[i]? = some (some (.long x)) ∧ k nx l (.long x :: st) h = some o := by
  unfold o_llo at ho
  split at ho
  · next x hv => exact ⟨x, hv, ho⟩
  · cases ho
theorem s_lload {i : Nat} (hd : decode (mCc M) pc = .ok (.lload i, 2)) : mSnd g lau mt M pc (o_llo (pc + 2) i) := by
  intro c k _ hk l st h o ho
  obtain ⟨x, hx, ho⟩ := o_llo_spec ho
  exact mG_pure (fun p e R s mth args below meth c Q hC _ _ ls H locs cells slots hl _ kk => lv_lload hC.1 hC.2.1 hd (hl.2.2.2 _ _ hx) (kk ls hl)) (hk _ _ _ _ _ ho)
theorem s_lload_n {j : Fin 4} {i : Nat} (hd : decode (mCc M) pc = .ok (.lload_n j, 1)) (hi : (j : Nat) = i) : mSnd g lau mt M pc (o_llo (pc + 1) i) := by
  intro c k _ hk l st h o ho
  obtain ⟨x, hx, ho⟩ := o_llo_spec ho
  exact mG_pure (fun p e R s mth args below meth c Q hC _ _ ls H locs cells slots hl _ kk => lv_lload_n hC.1 hC.2.1 hd hi (hl.2.2.2 _ _ hx) (kk ls hl)) (hk _ _ _ _ _ ho)
def o_al (nx i : Nat) : mOp := fun _ k l st h => match l[i]? with
  | some (some (.ref x)) => k nx l (.ref x :: st) h
  | _ => none
theorem o_al_spec {c : mC} {k : mK} {nx i : Nat} {l : mL} {st : List Value} {h : mH} {o : mO} (ho : o_al nx i c k l st h = some o) : ∃ x : Nat, l[i]? = some (some (.ref x)) ∧ k nx l (.ref x :: st) h = some o := by
  unfold o_al at ho
  split at ho
  · next x hv => exact ⟨x, hv, ho⟩
  · cases ho
theorem s_aload {i : Nat} (hd : decode (mCc M) pc = .ok (.aload i, 2)) : mSnd g lau mt M pc (o_al (pc + 2) i) := by
  intro c k _ hk l st h o ho
  obtain ⟨x, hx, ho⟩ := o_al_spec ho
  exact mG_pure (fun p e R s mth args below meth c Q hC _ _ ls H locs cells slots hl _ kk => lv_aload hC.1 hC.2.1 hd (hl.2.2.2 _ _ hx) (kk ls hl)) (hk _ _ _ _ _ ho)
theorem s_aload_n {j : Fin 4} {i : Nat} (hd : decode (mCc M) pc = .ok (.aload_n j, 1)) (hi : (j : Nat) = i) : mSnd g lau mt M pc (o_al (pc + 1) i) := by
  intro c k _ hk l st h o ho
  obtain ⟨x, hx, ho⟩ := o_al_spec ho
  exact mG_pure (fun p e R s mth args below meth c Q hC _ _ ls H locs cells slots hl _ kk => lv_aload_n hC.1 hC.2.1 hd hi (hl.2.2.2 _ _ hx) (kk ls hl)) (hk _ _ _ _ _ ho)
theorem o_ist_spec {c : mC} {k : mK} {nx i : Nat} {l : mL} {st : List Value} {h : mH} {o : mO} (ho : o_ist nx i c k l st h = some o) : ∃ (x : Int32) (st' : List Value), st = .int x :: st' ∧ mFree l i = true ∧ i < l.length ∧ k nx (l.set i (some (.int x))) st' h = some o := by
  unfold o_ist at ho
  split at ho
  · next x st' =>
    cases hb : (mFree l i && Nat.blt (i) l.length)
    · rw [hb] at ho
      cases ho
    · rw [hb] at ho
      rw [Bool.and_eq_true] at hb
      exact ⟨x, st', rfl, hb.1, Nat.le_of_ble_eq_true hb.2, ho⟩
  · cases ho
theorem s_istore {i : Nat} (hd : decode (mCc M) pc = .ok (.istore i, 2)) : mSnd g lau mt M pc (o_ist (pc + 2) i) := by
  intro c k _ hk l st h o ho
  obtain ⟨x, st', rfl, hf, hlt, ho⟩ := o_ist_spec ho
  exact mG_pure (fun p e R s mth args below meth c Q hC _ _ ls H locs cells slots hl _ kk => lv_istore hC.1 hC.2.1 hd hl.has (by rw [← hl.2.2.1]; exact hlt) rfl (fun ls' hl' => kk ls' (hl.set1 hf hlt hl'))) (hk _ _ _ _ _ ho)
theorem s_istore_n {j : Fin 4} {i : Nat} (hd : decode (mCc M) pc = .ok (.istore_n j, 1)) (hi : (j : Nat) = i) : mSnd g lau mt M pc (o_ist (pc + 1) i) := by
  intro c k _ hk l st h o ho
  obtain ⟨x, st', rfl, hf, hlt, ho⟩ := o_ist_spec ho
  exact mG_pure (fun p e R s mth args below meth c Q hC _ _ ls H locs cells slots hl _ kk => lv_istore_n hC.1 hC.2.1 hd hi hl.has (by rw [← hl.2.2.1]; exact hlt) rfl (fun ls' hl' => kk ls' (hl.set1 hf hlt hl'))) (hk _ _ _ _ _ ho)
theorem o_ast_spec {c : mC} {k : mK} {nx i : Nat} {l : mL} {st : List Value} {h : mH} {o : mO} (ho : o_ast nx i c k l st h = some o) : ∃ (x : Nat) (st' : List Value), st = .ref x :: st' ∧ mFree l i = true ∧ i < l.length ∧ k nx (l.set i (some (.ref x))) st' h = some o := by
  unfold o_ast at ho
  split at ho
  · next x st' =>
    cases hb : (mFree l i && Nat.blt (i) l.length)
    · rw [hb] at ho
      cases ho
    · rw [hb] at ho
      rw [Bool.and_eq_true] at hb
      exact ⟨x, st', rfl, hb.1, Nat.le_of_ble_eq_true hb.2, ho⟩
  · cases ho
theorem s_astore {i : Nat} (hd : decode (mCc M) pc = .ok (.astore i, 2)) : mSnd g lau mt M pc (o_ast (pc + 2) i) := by
  intro c k _ hk l st h o ho
  obtain ⟨x, st', rfl, hf, hlt, ho⟩ := o_ast_spec ho
  exact mG_pure (fun p e R s mth args below meth c Q hC _ _ ls H locs cells slots hl _ kk => lv_astore hC.1 hC.2.1 hd hl.has (by rw [← hl.2.2.1]; exact hlt) rfl (fun ls' hl' => kk ls' (hl.set1 hf hlt hl'))) (hk _ _ _ _ _ ho)
theorem s_astore_n {j : Fin 4} {i : Nat} (hd : decode (mCc M) pc = .ok (.astore_n j, 1)) (hi : (j : Nat) = i) : mSnd g lau mt M pc (o_ast (pc + 1) i) := by
  intro c k _ hk l st h o ho
  obtain ⟨x, st', rfl, hf, hlt, ho⟩ := o_ast_spec ho
  exact mG_pure (fun p e R s mth args below meth c Q hC _ _ ls H locs cells slots hl _ kk => lv_astore_n hC.1 hC.2.1 hd hi hl.has (by rw [← hl.2.2.1]; exact hlt) rfl (fun ls' hl' => kk ls' (hl.set1 hf hlt hl'))) (hk _ _ _ _ _ ho)
theorem o_lst_spec {c : mC} {k : mK} {nx i : Nat} {l : mL} {st : List Value} {h : mH} {o : mO} (ho : o_lst nx i c k l st h = some o) : ∃ (x : Int64) (st' : List Value), st = .long x :: st' ∧ mFree l i = true ∧ i + 1 < l.length ∧ k nx ((l.set i (some (.long x))).set (i + 1) none) st' h = some o := by
  unfold o_lst at ho
  split at ho
  · next x st' =>
    cases hb : (mFree l i && Nat.blt (i + 1) l.length)
    · rw [hb] at ho
      cases ho
    · rw [hb] at ho
      rw [Bool.and_eq_true] at hb
      exact ⟨x, st', rfl, hb.1, Nat.le_of_ble_eq_true hb.2, ho⟩
  · cases ho
theorem s_lstore {i : Nat} (hd : decode (mCc M) pc = .ok (.lstore i, 2)) : mSnd g lau mt M pc (o_lst (pc + 2) i) := by
  intro c k _ hk l st h o ho
  obtain ⟨x, st', rfl, hf, hlt, ho⟩ := o_lst_spec ho
  exact mG_pure (fun p e R s mth args below meth c Q hC _ _ ls H locs cells slots hl _ kk => lv_lstore hC.1 hC.2.1 hd hl.has (by rw [← hl.2.2.1]; exact hlt) rfl (fun ls' hl' => kk ls' (hl.set2 hf hlt hl'))) (hk _ _ _ _ _ ho)
theorem s_lstore_n {j : Fin 4} {i : Nat} (hd : decode (mCc M) pc = .ok (.lstore_n j, 1)) (hi : (j : Nat) = i) : mSnd g lau mt M pc (o_lst (pc + 1) i) := by
  intro c k _ hk l st h o ho
  obtain ⟨x, st', rfl, hf, hlt, ho⟩ := o_lst_spec ho
  exact mG_pure (fun p e R s mth args below meth c Q hC _ _ ls H locs cells slots hl _ kk => lv_lstore_n hC.1 hC.2.1 hd hi hl.has (by rw [← hl.2.2.1]; exact hlt) rfl (fun ls' hl' => kk ls' (hl.set2 hf hlt hl'))) (hk _ _ _ _ _ ho)
theorem o_inc_spec {c : mC} {k : mK} {nx i : Nat} {n : Int32} {l : mL} {st : List Value} {h : mH} {o : mO} (ho : o_inc nx i n c k l st h = some o) : ∃ x : Int32, l[i]? = some (some (.int x)) ∧ mFree l i = true ∧ i < l.length ∧ k nx (l.set i (some (.int (x + n)))) st h = some o := by
  unfold o_inc at ho
  split at ho
  · next x hx =>
    cases hb : (mFree l i && Nat.blt i l.length)
    · rw [hb] at ho
      cases ho
    · rw [hb] at ho
      rw [Bool.and_eq_true] at hb
      exact ⟨x, hx, hb.1, Nat.le_of_ble_eq_true hb.2, ho⟩
  · cases ho
theorem s_iinc {i : Nat} {n : Int} {v : Int32} (hd : decode (mCc M) pc = .ok (.iinc i n, 3)) (hv : Int32.ofInt n = v) : mSnd g lau mt M pc (o_inc (pc + 3) i v) := by
  intro c k _ hk l st h o ho
  obtain ⟨x, hx, hf, hlt, ho⟩ := o_inc_spec ho
  subst hv
  obtain ⟨j, hj⟩ := List.getElem?_of_mem (mAs_in.mpr hx)
  exact mG_pure (fun p e R s mth args below meth c Q hC _ _ ls H locs cells slots hl _ kk => lv_iinc hC.1 hC.2.1 hd hl.has hj rfl (by rw [← hl.2.2.1]; exact hlt) rfl (fun ls' hl' => kk ls' (hl.set1 hf hlt hl'))) (hk _ _ _ _ _ ho)
theorem o_ii_spec {c : mC} {k : mK} {nx : Nat} {f : Int32 → Int32 → Int32} {l : mL} {st : List Value} {h : mH} {o : mO} (ho : o_ii nx f c k l st h = some o) : ∃ (x y : Int32) (st' : List Value), st = .int y :: .int x :: st' ∧ k nx l (.int (f x y) :: st') h = some o := by
  unfold o_ii at ho
  split at ho
  · next y x st' => exact ⟨x, y, st', rfl, ho⟩
  · cases ho
theorem o_ll_spec {c : mC} {k : mK} {nx : Nat} {f : Int64 → Int64 → Int64} {l : mL} {st : List Value} {h : mH} {o : mO} (ho : o_ll nx f c k l st h = some o) : ∃ (x y : Int64) (st' : List Value), st = .long y :: .long x :: st' ∧ k nx l (.long (f x y) :: st') h = some o := by
  unfold o_ll at ho
  split at ho
  · next y x st' => exact ⟨x, y, st', rfl, ho⟩
  · cases ho
theorem s_iadd (hd : decode (mCc M) pc = .ok (.iadd, 1)) : mSnd g lau mt M pc (o_ii (pc + 1) (fun x y => x + y)) := by
  intro c k _ hk l st h o ho
  obtain ⟨x, y, st', rfl, ho⟩ := o_ii_spec ho
  exact mG_pure (fun p e R s mth args below meth c Q hC _ _ ls H locs cells slots hl _ kk => lv_iadd hC.1 hC.2.1 hd (kk ls hl)) (hk _ _ _ _ _ ho)
theorem s_isub (hd : decode (mCc M) pc = .ok (.isub, 1)) : mSnd g lau mt M pc (o_ii (pc + 1) (fun x y => x - y)) := by
  intro c k _ hk l st h o ho
  obtain ⟨x, y, st', rfl, ho⟩ := o_ii_spec ho
  exact mG_pure (fun p e R s mth args below meth c Q hC _ _ ls H locs cells slots hl _ kk => lv_isub hC.1 hC.2.1 hd (kk ls hl)) (hk _ _ _ _ _ ho)
theorem s_imul (hd : decode (mCc M) pc = .ok (.imul, 1)) : mSnd g lau mt M pc (o_ii (pc + 1) (fun x y => x * y)) := by
  intro c k _ hk l st h o ho
  obtain ⟨x, y, st', rfl, ho⟩ := o_ii_spec ho
  exact mG_pure (fun p e R s mth args below meth c Q hC _ _ ls H locs cells slots hl _ kk => lv_imul hC.1 hC.2.1 hd (kk ls hl)) (hk _ _ _ _ _ ho)
theorem s_iand (hd : decode (mCc M) pc = .ok (.iand, 1)) : mSnd g lau mt M pc (o_ii (pc + 1) (fun x y => x &&& y)) := by
  intro c k _ hk l st h o ho
  obtain ⟨x, y, st', rfl, ho⟩ := o_ii_spec ho
  exact mG_pure (fun p e R s mth args below meth c Q hC _ _ ls H locs cells slots hl _ kk => lv_iand hC.1 hC.2.1 hd (kk ls hl)) (hk _ _ _ _ _ ho)
theorem s_ior (hd : decode (mCc M) pc = .ok (.ior, 1)) : mSnd g lau mt M pc (o_ii (pc + 1) (fun x y => x ||| y)) := by
  intro c k _ hk l st h o ho
  obtain ⟨x, y, st', rfl, ho⟩ := o_ii_spec ho
  exact mG_pure (fun p e R s mth args below meth c Q hC _ _ ls H locs cells slots hl _ kk => lv_ior hC.1 hC.2.1 hd (kk ls hl)) (hk _ _ _ _ _ ho)
theorem s_ixor (hd : decode (mCc M) pc = .ok (.ixor, 1)) : mSnd g lau mt M pc (o_ii (pc + 1) (fun x y => x ^^^ y)) := by
  intro c k _ hk l st h o ho
  obtain ⟨x, y, st', rfl, ho⟩ := o_ii_spec ho
  exact mG_pure (fun p e R s mth args below meth c Q hC _ _ ls H locs cells slots hl _ kk => lv_ixor hC.1 hC.2.1 hd (kk ls hl)) (hk _ _ _ _ _ ho)
theorem s_ishl (hd : decode (mCc M) pc = .ok (.ishl, 1)) : mSnd g lau mt M pc (o_ii (pc + 1) (fun x y => x <<< (y &&& 31))) := by
  intro c k _ hk l st h o ho
  obtain ⟨x, y, st', rfl, ho⟩ := o_ii_spec ho
  exact mG_pure (fun p e R s mth args below meth c Q hC _ _ ls H locs cells slots hl _ kk => lv_ishl hC.1 hC.2.1 hd (kk ls hl)) (hk _ _ _ _ _ ho)
theorem s_ishr (hd : decode (mCc M) pc = .ok (.ishr, 1)) : mSnd g lau mt M pc (o_ii (pc + 1) (fun x y => x >>> (y &&& 31))) := by
  intro c k _ hk l st h o ho
  obtain ⟨x, y, st', rfl, ho⟩ := o_ii_spec ho
  exact mG_pure (fun p e R s mth args below meth c Q hC _ _ ls H locs cells slots hl _ kk => lv_ishr hC.1 hC.2.1 hd (kk ls hl)) (hk _ _ _ _ _ ho)
theorem s_ladd (hd : decode (mCc M) pc = .ok (.ladd, 1)) : mSnd g lau mt M pc (o_ll (pc + 1) (fun x y => x + y)) := by
  intro c k _ hk l st h o ho
  obtain ⟨x, y, st', rfl, ho⟩ := o_ll_spec ho
  exact mG_pure (fun p e R s mth args below meth c Q hC _ _ ls H locs cells slots hl _ kk => lv_ladd hC.1 hC.2.1 hd (kk ls hl)) (hk _ _ _ _ _ ho)
theorem s_lmul (hd : decode (mCc M) pc = .ok (.lmul, 1)) : mSnd g lau mt M pc (o_ll (pc + 1) (fun x y => x * y)) := by
  intro c k _ hk l st h o ho
  obtain ⟨x, y, st', rfl, ho⟩ := o_ll_spec ho
  exact mG_pure (fun p e R s mth args below meth c Q hC _ _ ls H locs cells slots hl _ kk => lv_lmul hC.1 hC.2.1 hd (kk ls hl)) (hk _ _ _ _ _ ho)
theorem s_irem (hd : decode (mCc M) pc = .ok (.irem, 1)) : mSnd g lau mt M pc (o_rem (pc + 1)) := by
  intro c k _ hk l st h o ho
  unfold o_rem at ho
  split at ho
  · next y x st' =>
    split at ho
    · cases ho
    · next hy => exact mG_pure (fun p e R s mth args below meth c Q hC _ _ ls H locs cells slots hl _ kk => lv_irem hC.1 hC.2.1 hd hy (kk ls hl)) (hk _ _ _ _ _ ho)
  · cases ho
theorem s_i2l (hd : decode (mCc M) pc = .ok (.i2l, 1)) : mSnd g lau mt M pc (o_i2l (pc + 1)) := by
  intro c k _ hk l st h o ho
  unfold o_i2l at ho
  split at ho
  · exact mG_pure (fun p e R s mth args below meth c Q hC _ _ ls H locs cells slots hl _ kk => lv_i2l hC.1 hC.2.1 hd rfl (kk ls hl)) (hk _ _ _ _ _ ho)
  · cases ho
theorem s_l2i (hd : decode (mCc M) pc = .ok (.l2i, 1)) : mSnd g lau mt M pc (o_l2i (pc + 1)) := by
  intro c k _ hk l st h o ho
  unfold o_l2i at ho
  split at ho
  · exact mG_pure (fun p e R s mth args below meth c Q hC _ _ ls H locs cells slots hl _ kk => lv_l2i hC.1 hC.2.1 hd rfl (kk ls hl)) (hk _ _ _ _ _ ho)
  · cases ho
theorem s_lcmp (hd : decode (mCc M) pc = .ok (.lcmp, 1)) : mSnd g lau mt M pc (o_lcmp (pc + 1)) := by
  intro c k _ hk l st h o ho
  unfold o_lcmp at ho
  split at ho
  · exact mG_pure (fun p e R s mth args below meth c Q hC _ _ ls H locs cells slots hl _ kk => W.lcmp hC.1 hC.2.1 hd (kk ls hl)) (hk _ _ _ _ _ ho)
  · cases ho
theorem s_dup (hd : decode (mCc M) pc = .ok (.dup, 1)) : mSnd g lau mt M pc (o_dup (pc + 1)) := by
  intro c k _ hk l st h o ho
  unfold o_dup at ho
  split at ho
  · exact mG_pure (fun p e R s mth args below meth c Q hC _ _ ls H locs cells slots hl _ kk => lv_dup hC.1 hC.2.1 hd rfl (kk ls hl)) (hk _ _ _ _ _ ho)
  · exact mG_pure (fun p e R s mth args below meth c Q hC _ _ ls H locs cells slots hl _ kk => lv_dup hC.1 hC.2.1 hd rfl (kk ls hl)) (hk _ _ _ _ _ ho)
  · cases ho
theorem s_dup2 (hd : decode (mCc M) pc = .ok (.dup2, 1)) : mSnd g lau mt M pc (o_dup2 (pc + 1)) := by
  intro c k _ hk l st h o ho
  unfold o_dup2 at ho
  split at ho
  · exact mG_pure (fun p e R s mth args below meth c Q hC _ _ ls H locs cells slots hl _ kk => lv_dup2_11 hC.1 hC.2.1 hd rfl rfl (kk ls hl)) (hk _ _ _ _ _ ho)
  · cases ho
theorem s_goto {off : Int} {tg : Nat} (hd : decode (mCc M) pc = .ok (.goto off, 3)) (ht : (pc : Int) + off = (tg : Int)) : mSnd g lau mt M pc (o_goto tg) := by
  intro c k _ hk l st h o ho
  exact mG_pure (fun p e R s mth args below meth c Q hC _ _ ls H locs cells slots hl _ kk => lv_goto hC.1 hC.2.1 hd ht (kk ls hl)) (hk _ _ _ _ _ ho)
theorem mLV_clr {ls : Array Slot} {nL : Nat} : ∀ (cl : List Nat) {l : mL}, mLV ls nL l → mLV ls nL (mClr l cl)
  | [], _, h => h
  | i :: cl, l, h => by
    refine mLV_clr cl (l := l.set i none) ⟨h.1, h.2.1, by rw [List.length_set]; exact h.2.2.1, fun j v hj => ?_⟩
    by_cases e : i = j
    · subst e
      rw [List.getElem?_set] at hj
      split at hj
      · split at hj <;> cases hj
      · exact h.2.2.2 i v hj
    · rw [List.getElem?_set_ne e] at hj
      exact h.2.2.2 j v hj
theorem s_back {off : Int} {tg : Nat} {cl : List Nat} (hd : decode (mCc M) pc = .ok (.goto off, 3)) (ht : (pc : Int) + off = (tg : Int)) : mSnd g lau mt M pc (o_back tg cl) := by
  intro c k _ hk l st h o ho
  exact mG_pure (fun p e R s mth args below meth c Q hC _ _ ls H locs cells slots hl _ kk => lv_goto hC.1 hC.2.1 hd ht (kk ls (mLV_clr cl hl))) (hk _ _ _ _ _ ho)
theorem s_icmp_eq {off : Int} {tg : Nat} (hd : decode (mCc M) pc = .ok (.if_icmp .eq off, 3)) (ht : (pc : Int) + off = (tg : Int)) : mSnd g lau mt M pc (o_eq (pc + 3) tg) := by
  intro c k _ hk l st h o ho
  unfold o_eq at ho
  split at ho
  · split at ho
    · next hc => exact mG_pure (fun p e R s mth args below meth c Q hC _ _ ls H locs cells slots hl _ kk => lv_icmp_eq hC.1 hC.2.1 hd ht (fun q => kk ls hl) (fun q => absurd hc q)) (hk _ _ _ _ _ ho)
    · next hc => exact mG_pure (fun p e R s mth args below meth c Q hC _ _ ls H locs cells slots hl _ kk => lv_icmp_eq hC.1 hC.2.1 hd ht (fun q => absurd q hc) (fun q => kk ls hl)) (hk _ _ _ _ _ ho)
  · cases ho
theorem s_if_eq {off : Int} {tg : Nat} (hd : decode (mCc M) pc = .ok (.ifCond .eq off, 3)) (ht : (pc : Int) + off = (tg : Int)) : mSnd g lau mt M pc (o_eq0 (pc + 3) tg) := by
  intro c k _ hk l st h o ho
  unfold o_eq0 at ho
  split at ho
  · split at ho
    · next hc => exact mG_pure (fun p e R s mth args below meth c Q hC _ _ ls H locs cells slots hl _ kk => lv_if_eq hC.1 hC.2.1 hd ht (fun q => kk ls hl) (fun q => absurd hc q)) (hk _ _ _ _ _ ho)
    · next hc => exact mG_pure (fun p e R s mth args below meth c Q hC _ _ ls H locs cells slots hl _ kk => lv_if_eq hC.1 hC.2.1 hd ht (fun q => absurd q hc) (fun q => kk ls hl)) (hk _ _ _ _ _ ho)
  · cases ho
theorem s_icmp_ne {off : Int} {tg : Nat} (hd : decode (mCc M) pc = .ok (.if_icmp .ne off, 3)) (ht : (pc : Int) + off = (tg : Int)) : mSnd g lau mt M pc (o_ne (pc + 3) tg) := by
  intro c k _ hk l st h o ho
  unfold o_ne at ho
  split at ho
  · split at ho
    · next hc => exact mG_pure (fun p e R s mth args below meth c Q hC _ _ ls H locs cells slots hl _ kk => lv_icmp_ne hC.1 hC.2.1 hd ht (fun q => absurd hc q) (fun q => kk ls hl)) (hk _ _ _ _ _ ho)
    · next hc => exact mG_pure (fun p e R s mth args below meth c Q hC _ _ ls H locs cells slots hl _ kk => lv_icmp_ne hC.1 hC.2.1 hd ht (fun q => kk ls hl) (fun q => absurd q hc)) (hk _ _ _ _ _ ho)
  · cases ho
theorem s_if_ne {off : Int} {tg : Nat} (hd : decode (mCc M) pc = .ok (.ifCond .ne off, 3)) (ht : (pc : Int) + off = (tg : Int)) : mSnd g lau mt M pc (o_ne0 (pc + 3) tg) := by
  intro c k _ hk l st h o ho
  unfold o_ne0 at ho
  split at ho
  · split at ho
    · next hc => exact mG_pure (fun p e R s mth args below meth c Q hC _ _ ls H locs cells slots hl _ kk => lv_if_ne hC.1 hC.2.1 hd ht (fun q => absurd hc q) (fun q => kk ls hl)) (hk _ _ _ _ _ ho)
    · next hc => exact mG_pure (fun p e R s mth args below meth c Q hC _ _ ls H locs cells slots hl _ kk => lv_if_ne hC.1 hC.2.1 hd ht (fun q => kk ls hl) (fun q => absurd q hc)) (hk _ _ _ _ _ ho)
  · cases ho
theorem s_icmp_lt {off : Int} {tg : Nat} (hd : decode (mCc M) pc = .ok (.if_icmp .lt off, 3)) (ht : (pc : Int) + off = (tg : Int)) : mSnd g lau mt M pc (o_lt (pc + 3) tg) := by
  intro c k _ hk l st h o ho
  unfold o_lt at ho
  split at ho
  · split at ho
    · next hc => exact mG_pure (fun p e R s mth args below meth c Q hC _ _ ls H locs cells slots hl _ kk => lv_icmp_lt hC.1 hC.2.1 hd ht (fun q => kk ls hl) (fun q => absurd hc q)) (hk _ _ _ _ _ ho)
    · next hc => exact mG_pure (fun p e R s mth args below meth c Q hC _ _ ls H locs cells slots hl _ kk => lv_icmp_lt hC.1 hC.2.1 hd ht (fun q => absurd q hc) (fun q => kk ls hl)) (hk _ _ _ _ _ ho)
  · cases ho
theorem s_if_lt {off : Int} {tg : Nat} (hd : decode (mCc M) pc = .ok (.ifCond .lt off, 3)) (ht : (pc : Int) + off = (tg : Int)) : mSnd g lau mt M pc (o_lt0 (pc + 3) tg) := by
  intro c k _ hk l st h o ho
  unfold o_lt0 at ho
  split at ho
  · split at ho
    · next hc => exact mG_pure (fun p e R s mth args below meth c Q hC _ _ ls H locs cells slots hl _ kk => lv_if_lt hC.1 hC.2.1 hd ht (fun q => kk ls hl) (fun q => absurd hc q)) (hk _ _ _ _ _ ho)
    · next hc => exact mG_pure (fun p e R s mth args below meth c Q hC _ _ ls H locs cells slots hl _ kk => lv_if_lt hC.1 hC.2.1 hd ht (fun q => absurd q hc) (fun q => kk ls hl)) (hk _ _ _ _ _ ho)
  · cases ho
theorem s_icmp_ge {off : Int} {tg : Nat} (hd : decode (mCc M) pc = .ok (.if_icmp .ge off, 3)) (ht : (pc : Int) + off = (tg : Int)) : mSnd g lau mt M pc (o_ge (pc + 3) tg) := by
  intro c k _ hk l st h o ho
  unfold o_ge at ho
  split at ho
  · split at ho
    · next hc => exact mG_pure (fun p e R s mth args below meth c Q hC _ _ ls H locs cells slots hl _ kk => lv_icmp_ge hC.1 hC.2.1 hd ht (fun q => kk ls hl) (fun q => absurd hc q)) (hk _ _ _ _ _ ho)
    · next hc => exact mG_pure (fun p e R s mth args below meth c Q hC _ _ ls H locs cells slots hl _ kk => lv_icmp_ge hC.1 hC.2.1 hd ht (fun q => absurd q hc) (fun q => kk ls hl)) (hk _ _ _ _ _ ho)
  · cases ho
theorem s_if_ge {off : Int} {tg : Nat} (hd : decode (mCc M) pc = .ok (.ifCond .ge off, 3)) (ht : (pc : Int) + off = (tg : Int)) : mSnd g lau mt M pc (o_ge0 (pc + 3) tg) := by
  intro c k _ hk l st h o ho
  unfold o_ge0 at ho
  split at ho
  · split at ho
    · next hc => exact mG_pure (fun p e R s mth args below meth c Q hC _ _ ls H locs cells slots hl _ kk => lv_if_ge hC.1 hC.2.1 hd ht (fun q => kk ls hl) (fun q => absurd hc q)) (hk _ _ _ _ _ ho)
    · next hc => exact mG_pure (fun p e R s mth args below meth c Q hC _ _ ls H locs cells slots hl _ kk => lv_if_ge hC.1 hC.2.1 hd ht (fun q => absurd q hc) (fun q => kk ls hl)) (hk _ _ _ _ _ ho)
  · cases ho
theorem s_icmp_gt {off : Int} {tg : Nat} (hd : decode (mCc M) pc = .ok (.if_icmp .gt off, 3)) (ht : (pc : Int) + off = (tg : Int)) : mSnd g lau mt M pc (o_gt (pc + 3) tg) := by
  intro c k _ hk l st h o ho
  unfold o_gt at ho
  split at ho
  · split at ho
    · next hc => exact mG_pure (fun p e R s mth args below meth c Q hC _ _ ls H locs cells slots hl _ kk => lv_icmp_gt hC.1 hC.2.1 hd ht (fun q => kk ls hl) (fun q => absurd hc q)) (hk _ _ _ _ _ ho)
    · next hc => exact mG_pure (fun p e R s mth args below meth c Q hC _ _ ls H locs cells slots hl _ kk => lv_icmp_gt hC.1 hC.2.1 hd ht (fun q => absurd q hc) (fun q => kk ls hl)) (hk _ _ _ _ _ ho)
  · cases ho
theorem s_if_gt {off : Int} {tg : Nat} (hd : decode (mCc M) pc = .ok (.ifCond .gt off, 3)) (ht : (pc : Int) + off = (tg : Int)) : mSnd g lau mt M pc (o_gt0 (pc + 3) tg) := by
  intro c k _ hk l st h o ho
  unfold o_gt0 at ho
  split at ho
  · split at ho
    · next hc => exact mG_pure (fun p e R s mth args below meth c Q hC _ _ ls H locs cells slots hl _ kk => lv_if_gt hC.1 hC.2.1 hd ht (fun q => kk ls hl) (fun q => absurd hc q)) (hk _ _ _ _ _ ho)
    · next hc => exact mG_pure (fun p e R s mth args below meth c Q hC _ _ ls H locs cells slots hl _ kk => lv_if_gt hC.1 hC.2.1 hd ht (fun q => absurd q hc) (fun q => kk ls hl)) (hk _ _ _ _ _ ho)
  · cases ho
theorem s_icmp_le {off : Int} {tg : Nat} (hd : decode (mCc M) pc = .ok (.if_icmp .le off, 3)) (ht : (pc : Int) + off = (tg : Int)) : mSnd g lau mt M pc (o_le (pc + 3) tg) := by
  intro c k _ hk l st h o ho
  unfold o_le at ho
  split at ho
  · split at ho
    · next hc => exact mG_pure (fun p e R s mth args below meth c Q hC _ _ ls H locs cells slots hl _ kk => lv_icmp_le hC.1 hC.2.1 hd ht (fun q => kk ls hl) (fun q => absurd hc q)) (hk _ _ _ _ _ ho)
    · next hc => exact mG_pure (fun p e R s mth args below meth c Q hC _ _ ls H locs cells slots hl _ kk => lv_icmp_le hC.1 hC.2.1 hd ht (fun q => absurd q hc) (fun q => kk ls hl)) (hk _ _ _ _ _ ho)
  · cases ho
theorem s_if_le {off : Int} {tg : Nat} (hd : decode (mCc M) pc = .ok (.ifCond .le off, 3)) (ht : (pc : Int) + off = (tg : Int)) : mSnd g lau mt M pc (o_le0 (pc + 3) tg) := by
  intro c k _ hk l st h o ho
  unfold o_le0 at ho
  split at ho
  · split at ho
    · next hc => exact mG_pure (fun p e R s mth args below meth c Q hC _ _ ls H locs cells slots hl _ kk => lv_if_le hC.1 hC.2.1 hd ht (fun q => kk ls hl) (fun q => absurd hc q)) (hk _ _ _ _ _ ho)
    · next hc => exact mG_pure (fun p e R s mth args below meth c Q hC _ _ ls H locs cells slots hl _ kk => lv_if_le hC.1 hC.2.1 hd ht (fun q => absurd q hc) (fun q => kk ls hl)) (hk _ _ _ _ _ ho)
  · cases ho
theorem s_ifnull {off : Int} {tg : Nat} (hd : decode (mCc M) pc = .ok (.ifnull off, 3)) (ht : (pc : Int) + off = (tg : Int)) : mSnd g lau mt M pc (o_nul (pc + 3) tg) := by
  intro c k _ hk l st h o ho
  unfold o_nul at ho
  split at ho
  · exact mG_pure (fun p e R s mth args below meth c Q hC _ _ ls H locs cells slots hl _ kk => lv_ifnullN hC.1 hC.2.1 hd ht (kk ls hl)) (hk _ _ _ _ _ ho)
  · exact mG_pure (fun p e R s mth args below meth c Q hC _ _ ls H locs cells slots hl _ kk => lv_ifnull hC.1 hC.2.1 hd (kk ls hl)) (hk _ _ _ _ _ ho)
  · cases ho
theorem s_ifnonnull {off : Int} {tg : Nat} (hd : decode (mCc M) pc = .ok (.ifnonnull off, 3)) (ht : (pc : Int) + off = (tg : Int)) : mSnd g lau mt M pc (o_nnul (pc + 3) tg) := by
  intro c k _ hk l st h o ho
  unfold o_nnul at ho
  split at ho
  · exact mG_pure (fun p e R s mth args below meth c Q hC _ _ ls H locs cells slots hl _ kk => lv_ifnonnullN hC.1 hC.2.1 hd (kk ls hl)) (hk _ _ _ _ _ ho)
  · exact mG_pure (fun p e R s mth args below meth c Q hC _ _ ls H locs cells slots hl _ kk => lv_ifnonnull hC.1 hC.2.1 hd ht (kk ls hl)) (hk _ _ _ _ _ ho)
  · cases ho
theorem mClamp {x : Int32} (h : ¬ x < 0) : ((x.toNatClampNeg : Nat) : Int) = x.toInt := by
  obtain ⟨j, hj, rfl⟩ := nI_of h
  rw [nI_clamp hj, nI_toInt hj]
/-- a switch from 0 to n - 1: the targets as the table has them -/
theorem s_tsw {df hi : Int} {offs : Array Int} {len n dt : Nat} {tgs : List Nat} (hd : decode (mCc M) pc = .ok (.tableswitch df 0 hi offs, len)) (hn : hi = (n : Int) - 1) (hl : tgs.length = n) (ht : ∀ i, i < n → (offs[i]?).map (fun (f : Int) => (pc : Int) + f) = some ((tgs.getD i dt : Nat) : Int)) (hdt : (pc : Int) + df = (dt : Int)) : mSnd g lau mt M pc (o_tsw tgs dt) := by
  intro c k _ hk l st h o ho
  unfold o_tsw at ho
  split at ho
  · next x st' =>
    split at ho
    · next hc =>
      refine mG_pure (fun p e R s mth args below meth c Q hC _ _ ls H locs cells slots hl _ kk => lv_tableOut hC.1 hC.2.1 hd ?_ hdt (kk ls hl)) (hk _ _ _ _ _ ho)
      by_cases h0 : x < 0
      · exact Or.inl (by rw [Int32.lt_iff_toInt_lt, Int32.toInt_zero] at h0; exact h0)
      · have h1 := mClamp h0
        rcases hc with hc | hc
        · exact absurd hc h0
        · right
          omega
    · next hc =>
      have h0 : ¬ x < 0 := fun q => hc (Or.inl q)
      have h1 := mClamp h0
      have h2 : x.toNatClampNeg < n := by
        rw [← hl]
        exact Nat.not_le.mp fun q => hc (Or.inr q)
      have h3 := ht _ h2
      have h4 : (x.toInt - 0).toNat = x.toNatClampNeg := by omega
      cases h5 : offs[x.toNatClampNeg]? with
      | none => rw [h5] at h3; cases h3
      | some f =>
        rw [h5] at h3
        exact mG_pure (fun p e R s mth args below meth c Q hC _ _ ls H locs cells slots hl _ kk => lv_tableIn hC.1 hC.2.1 hd (by omega) (by omega) (by rw [h4]; exact h5) (Option.some.inj h3) (kk ls hl)) (hk _ _ _ _ _ ho)
  · cases ho
end MPure
