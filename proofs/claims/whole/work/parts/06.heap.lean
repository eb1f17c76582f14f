/-! ===== the operations are sound: fields and rows ===== -/
theorem mV_wI {h : mH} {a k : Nat} {x : Int32} (hv : ∀ i j p, mVal (mTy (mTg h a) k) i j p = .int i) (j : Nat) : mV (wI h a k x) a j = updV (mV h a) k (.int x) j := by
  unfold mV updV
  rw [mTg_wI, mI_wI, mJ_wI, mP_wI]
  by_cases hj : j = k
  · subst hj
    rw [if_pos ⟨rfl, rfl⟩, if_pos rfl]
    exact hv _ _ _
  · rw [if_neg (fun q => hj q.2), if_neg hj]
theorem mV_wI_ne {h : mH} {a k : Nat} {x : Int32} {b : Nat} (hb : b ≠ a) (j : Nat) : mV (wI h a k x) b j = mV h b j := by
  unfold mV
  rw [mTg_wI, mI_wI, mJ_wI, mP_wI, if_neg (fun q => hb q.1)]
theorem mV_wJ {h : mH} {a k : Nat} {x : Int64} (hv : ∀ i j p, mVal (mTy (mTg h a) k) i j p = .long j) (j : Nat) : mV (wJ h a k x) a j = updV (mV h a) k (.long x) j := by
  unfold mV updV
  rw [mTg_wJ, mI_wJ, mJ_wJ, mP_wJ]
  by_cases hj : j = k
  · subst hj
    rw [if_pos ⟨rfl, rfl⟩, if_pos rfl]
    exact hv _ _ _
  · rw [if_neg (fun q => hj q.2), if_neg hj]
theorem mV_wJ_ne {h : mH} {a k : Nat} {x : Int64} {b : Nat} (hb : b ≠ a) (j : Nat) : mV (wJ h a k x) b j = mV h b j := by
  unfold mV
  rw [mTg_wJ, mI_wJ, mJ_wJ, mP_wJ, if_neg (fun q => hb q.1)]
theorem mV_wP {h : mH} {a k : Nat} {x : Option Nat} (hv : ∀ i j p, mVal (mTy (mTg h a) k) i j p = va_rf p) (j : Nat) : mV (wP h a k x) a j = updV (mV h a) k (va_rf x) j := by
  unfold mV updV
  rw [mTg_wP, mI_wP, mJ_wP, mP_wP]
  by_cases hj : j = k
  · subst hj
    rw [if_pos ⟨rfl, rfl⟩, if_pos rfl]
    exact hv _ _ _
  · rw [if_neg (fun q => hj q.2), if_neg hj]
theorem mV_wP_ne {h : mH} {a k : Nat} {x : Option Nat} {b : Nat} (hb : b ≠ a) (j : Nat) : mV (wP h a k x) b j = mV h b j := by
  unfold mV
  rw [mTg_wP, mI_wP, mJ_wP, mP_wP, if_neg (fun q => hb q.1)]
theorem mLocs {g : mG} {locs : List Loc} {a i : Nat} (h : ∀ q ∈ locs, gB g ≤ q.base) (ha : gB g ≤ a) : ∀ q ∈ locs ++ [(⟨a, i⟩ : Loc)], gB g ≤ q.base := by
  intro q hq
  rcases List.mem_append.mp hq with h1 | h1
  · exact h q h1
  · rw [List.mem_singleton.mp h1]
    exact ha
section MHeap
variable {g : mG} {lau : Launch} {mt : Nat → mM} {M : mM} {pc : Nat}
/-- a field is read -/
theorem mGet {ci f idx : Nat} {C : String} {T : u_T} {N : Nat} (h12 : ci < 12) (hr : mCl[ci]? = some (C, T, N)) (hin : ∀ w ∈ u_ws C T N, w ∈ mTb) (hf : f < N) (hw : Cond.fieldLink (mCn M) idx (T f).1 (T f).2.1 (T f).2.2.1 ∈ mTb) (hd : decode (mCc M) pc = .ok (.getfield idx, 3))
    {h : mH} {a : Nat} (ht : mTg h a = ci + 1) {l : mL} {st : List Value} {o : mO} (hg : mGood g lau M (pc + 3) l (mV h a f :: st) h o) : mGood g lau M pc l (.ref a :: st) h o := by
  refine mG_pure (fun p e R s mth args below meth c Q hC _ _ ls H locs cells slots hl hH kk => ?_) hg
  obtain ⟨hx, hb, hml, hown, hts, hK, hX, hnm⟩ := hC
  obtain ⟨cell, q1, q2, q3, q4⟩ := hH.obj ht h12 hr
  obtain ⟨hS, hfc, kC, hkC, hkind⟩ := hK.1 ci _ hr
  obtain ⟨cf, kf, fi, fd, hi, hsl⟩ := hS f hf
  refine W.getf hx hb hown (hts _ hw) hi (u_facts hfc hkC (u_lays hts hin hf) hi).1 q1 (by rw [q3]; exact fun h => by cases h) (v := mV h a f) ?_ rfl rfl hd (kk ls hl)
  rw [hsl, q4 f hf]
theorem s_getI {ci f idx : Nat} {C : String} {T : u_T} {N : Nat} (h12 : ci < 12) (hr : mCl[ci]? = some (C, T, N)) (hin : ∀ w ∈ u_ws C T N, w ∈ mTb) (hf : f < N) (hv : ∀ i j p, mVal (mTy (ci + 1) f) i j p = .int i) (hw : Cond.fieldLink (mCn M) idx (T f).1 (T f).2.1 (T f).2.2.1 ∈ mTb) (hd : decode (mCc M) pc = .ok (.getfield idx, 3)) : mSnd g lau mt M pc (o_gI (pc + 3) (ci + 1) f) := by
  intro c k _ hk l st h o ho
  unfold o_gI at ho
  split at ho
  · split at ho
    · next a st' ht =>
      refine mGet h12 hr hin hf hw hd ht ?_
      rw [show mV h a f = .int (mI h a f) by unfold mV; rw [ht]; exact hv _ _ _]
      exact hk _ _ _ _ _ ho
    · cases ho
  · cases ho
theorem s_getP {ci f idx : Nat} {C : String} {T : u_T} {N : Nat} (h12 : ci < 12) (hr : mCl[ci]? = some (C, T, N)) (hin : ∀ w ∈ u_ws C T N, w ∈ mTb) (hf : f < N) (hv : ∀ i j p, mVal (mTy (ci + 1) f) i j p = va_rf p) (hw : Cond.fieldLink (mCn M) idx (T f).1 (T f).2.1 (T f).2.2.1 ∈ mTb) (hd : decode (mCc M) pc = .ok (.getfield idx, 3)) : mSnd g lau mt M pc (o_gP (pc + 3) (ci + 1) f) := by
  intro c k _ hk l st h o ho
  unfold o_gP at ho
  split at ho
  · split at ho
    · next a st' ht =>
      refine mGet h12 hr hin hf hw hd ht ?_
      rw [show mV h a f = va_rf (mP h a f) by unfold mV; rw [ht]; exact hv _ _ _]
      exact hk _ _ _ _ _ ho
    · cases ho
  · cases ho
/-- a field is written: what the great machine's heap is behind it -/
theorem mPut {ci f idx : Nat} {C : String} {T : u_T} {N : Nat} (h12 : ci < 12) (hr : mCl[ci]? = some (C, T, N)) (hin : ∀ w ∈ u_ws C T N, w ∈ mTb) (hf : f < N) (ty0 : Nat → FieldType) (hty : ∀ k, k < N → parseFieldDescriptor (T k).2.2.1 = some (ty0 k)) (hnm0 : ∀ a, a < N → ∀ b, b < N → a ≠ b → (T a).2.1 ≠ (T b).2.1)
    (hfin : (T f).2.2.2 = false ∨ ((mNm M).name = "<init>" ∧ (T f).1 = mCn M)) (hw : Cond.fieldLink (mCn M) idx (T f).1 (T f).2.1 (T f).2.2.1 ∈ mTb) (hd : decode (mCc M) pc = .ok (.putfield idx, 3))
    {h h' : mH} {a : Nat} {v : Value} (ht : mTg h a = ci + 1) (hn : narrow (ty0 f) v = v) (hfit : fits (ty0 f) v = true) (e0 : mTop h' = mTop h) (e1 : mSl h' = mSl h) (e2 : mTg h' = mTg h) (e3 : mLn h' = mLn h) (e4 : ∀ b, b ≠ a → mI h' b = mI h b) (e5 : ∀ b j, b ≠ a → mV h' b j = mV h b j) (e6 : ∀ j, mV h' a j = updV (mV h a) f v j)
    {l : mL} {st : List Value} {o : mO} (hg : mGood g lau M (pc + 3) l st h' o) : mGood g lau M pc l (v :: .ref a :: st) h o := by
  refine mG_heap (dc := 0) (ds := 0) e0 e1 (fun p e R s mth args below meth c Q hC ls H locs cells slots hl hH hL _ _ kk => ?_) hg
  obtain ⟨hx, hb, hml, hown, hts, hK, hX, hnm⟩ := hC
  have hap := va_apart (own := mCn M) hts hin ty0 hty hnm0 hK hr
  obtain ⟨cell, q1, q2, q3, q4⟩ := hH.obj ht h12 hr
  have hB := hH.base ht (by omega) (by omega)
  obtain ⟨hS, hfc, kC, hkC, hkind⟩ := hK.1 ci _ hr
  obtain ⟨cf, kf, fi, fd, hi, hsl⟩ := hS f hf
  have hst := (u_facts hfc hkC (u_lays hts hin hf) hi).1
  have done : ∀ H' : Heap, H'[a]? = some (cell.setSlot fd.slot v) → H'.size = H.size → (∀ q, q ≠ a → H'[q]? = H[q]?) → mHR g h' H' := by
    intro H' w1 w2 w3
    refine hH.put ht (by omega) (by omega) e0 e2 e3 e4 e5 w2 w3 ⟨fun r hr1 hr2 => ?_, fun h20 => ?_⟩
    · rw [e2, ht] at hr2 ⊢
      have hrr : r = (C, T, N) := Option.some.inj (hr2.symm.trans hr)
      subst hrr
      rw [hsl] at w1
      exact t_OB.to (V := updV (mV h a) f v) ⟨_, w1, q2, q3, t_set q4 hap hf v⟩ (fun j _ => (e6 j).symm)
    · rw [e2, ht] at h20
      omega
  have hfit2 := u_fits hfc hkC hkind (u_lays hts hin hf) hi (hty f hf) hn hfit
  by_cases hff : (T f).2.2.2 = false
  · have hlay := hts _ (hin _ (u_in_lay hf))
    unfold u_lay at hlay
    rw [if_neg (by rw [hff]; decide)] at hlay
    have h6 := u_store hfc hkC hkind hlay hi (hty f hf) hn hfit
    exact W.putK hx hb (f := fd) ⟨hown, hts _ hw, ⟨_, _, _, hi⟩, hst⟩ (by rw [q2]; exact h6) q1 q3 (by rw [hsl]; exact k2_hasslot (q4 f hf)) rfl rfl hd (fun H' w1 w2 w3 => kk H' _ (done H' w1 w2 w3) (mLocs hL hB))
  · have hff : (T f).2.2.2 = true := by
      cases hq : (T f).2.2.2
      · exact absurd hq hff
      · rfl
    rcases hfin with hfin | ⟨hfin, hdecl⟩
    · rw [hff] at hfin
      cases hfin
    · have hlay := hts _ (hin _ (u_in_lay hf))
      unfold u_lay at hlay
      rw [if_pos hff] at hlay
      have hcf : mth.cls = cf := by
        obtain ⟨_, _, c', _, _, _, -, -, hf', -, -, -, hown2, -⟩ := Cond.laysFinal_spec hlay
        have e1 : c' = cf := by have := hi.symm.trans hf'; simp at this; exact this.1.symm
        rw [hdecl] at hown2
        rw [← e1]
        exact Option.some.inj (hown.symm.trans hown2)
      exact W.putFinK hx hb hown (hts _ hw) hi hst hcf (hnm.1 hfin) (by rw [q2]; exact hfit2) q1 q3 (by rw [hsl]; exact k2_hasslot (q4 f hf)) rfl rfl hd (fun H' w1 w2 w3 => kk H' _ (done H' w1 w2 w3) (mLocs hL hB))
theorem s_putI {ci f idx : Nat} {C : String} {T : u_T} {N : Nat} (h12 : ci < 12) (hr : mCl[ci]? = some (C, T, N)) (hin : ∀ w ∈ u_ws C T N, w ∈ mTb) (hf : f < N) (ty0 : Nat → FieldType) (hty : ∀ k, k < N → parseFieldDescriptor (T k).2.2.1 = some (ty0 k)) (hnm0 : ∀ a, a < N → ∀ b, b < N → a ≠ b → (T a).2.1 ≠ (T b).2.1)
    (hfin : (T f).2.2.2 = false ∨ ((mNm M).name = "<init>" ∧ (T f).1 = mCn M)) (hw : Cond.fieldLink (mCn M) idx (T f).1 (T f).2.1 (T f).2.2.1 ∈ mTb) (hd : decode (mCc M) pc = .ok (.putfield idx, 3)) (hv : ∀ i j p, mVal (mTy (ci + 1) f) i j p = .int i) (hi : ty0 f = .int) : mSnd g lau mt M pc (o_pI (pc + 3) (ci + 1) f) := by
  intro c k _ hk l st h o ho
  unfold o_pI at ho
  split at ho
  · split at ho
    · next x a st' ht => exact mPut (h' := wI h a f x) h12 hr hin hf ty0 hty hnm0 hfin hw hd ht (by rw [hi]; rfl) (by rw [hi]; rfl) rfl rfl rfl rfl (fun b hb => funext fun j => by rw [mI_wI, if_neg (fun q => hb q.1)]) (fun b j hb => mV_wI_ne hb j) (mV_wI (by rw [ht]; exact hv)) (hk _ _ _ _ _ ho)
    · cases ho
  · cases ho
theorem s_putZ {ci f idx : Nat} {C : String} {T : u_T} {N : Nat} (h12 : ci < 12) (hr : mCl[ci]? = some (C, T, N)) (hin : ∀ w ∈ u_ws C T N, w ∈ mTb) (hf : f < N) (ty0 : Nat → FieldType) (hty : ∀ k, k < N → parseFieldDescriptor (T k).2.2.1 = some (ty0 k)) (hnm0 : ∀ a, a < N → ∀ b, b < N → a ≠ b → (T a).2.1 ≠ (T b).2.1)
    (hfin : (T f).2.2.2 = false ∨ ((mNm M).name = "<init>" ∧ (T f).1 = mCn M)) (hw : Cond.fieldLink (mCn M) idx (T f).1 (T f).2.1 (T f).2.2.1 ∈ mTb) (hd : decode (mCc M) pc = .ok (.putfield idx, 3)) (hv : ∀ i j p, mVal (mTy (ci + 1) f) i j p = .int i) (hi : ty0 f = .boolean) : mSnd g lau mt M pc (o_pZ (pc + 3) (ci + 1) f) := by
  intro c k _ hk l st h o ho
  unfold o_pZ at ho
  split at ho
  · split at ho
    · next x a st' ht => exact mPut (h' := wI h a f x) h12 hr hin hf ty0 hty hnm0 hfin hw hd ht.1 (by rw [hi]; rcases ht.2 with rfl | rfl <;> rfl) (by rw [hi]; rcases ht.2 with rfl | rfl <;> rfl) rfl rfl rfl rfl (fun b hb => funext fun j => by rw [mI_wI, if_neg (fun q => hb q.1)]) (fun b j hb => mV_wI_ne hb j) (mV_wI (by rw [ht.1]; exact hv)) (hk _ _ _ _ _ ho)
    · cases ho
  · cases ho
theorem s_putP {ci f idx : Nat} {C : String} {T : u_T} {N : Nat} (h12 : ci < 12) (hr : mCl[ci]? = some (C, T, N)) (hin : ∀ w ∈ u_ws C T N, w ∈ mTb) (hf : f < N) (ty0 : Nat → FieldType) (hty : ∀ k, k < N → parseFieldDescriptor (T k).2.2.1 = some (ty0 k)) (hnm0 : ∀ a, a < N → ∀ b, b < N → a ≠ b → (T a).2.1 ≠ (T b).2.1)
    (hfin : (T f).2.2.2 = false ∨ ((mNm M).name = "<init>" ∧ (T f).1 = mCn M)) (hw : Cond.fieldLink (mCn M) idx (T f).1 (T f).2.1 (T f).2.2.1 ∈ mTb) (hd : decode (mCc M) pc = .ok (.putfield idx, 3)) (hv : ∀ i j p, mVal (mTy (ci + 1) f) i j p = va_rf p) (hi : (ty0 f).isReference = true) : mSnd g lau mt M pc (o_pP (pc + 3) (ci + 1) f) := by
  intro c k _ hk l st h o ho
  unfold o_pP at ho
  split at ho
  · split at ho
    · next x a st' ht => exact mPut (h' := wP h a f (some x)) h12 hr hin hf ty0 hty hnm0 hfin hw hd ht (by generalize ty0 f = z at hi; cases z <;> first | rfl | cases hi) (by generalize ty0 f = z at hi; cases z <;> first | rfl | cases hi) rfl rfl rfl rfl (fun b hb => rfl) (fun b j hb => mV_wP_ne hb j) (mV_wP (x := some x) (by rw [ht]; exact hv)) (hk _ _ _ _ _ ho)
    · cases ho
  · cases ho
-- rows
theorem mArr {p : Program} {s : State} {mth : MethodId} {args : Array Value} {meth : Method} {c : Code} (hC : mCx g M p s mth args meth c) {t : Nat} {ty : FieldType} (h20 : 20 ≤ t) (ht : (mTys (gA g))[t - 20]? = some (gA g t, ty)) (n : Nat) (z : Nat → Value) : s.isArrayOf (arrV (gA g t) n z) ty := (hC.2.2.2.2.2.1.2 _ _ ht).1 n z
theorem mIn {i : Int32} {n : Nat} {c : ClassId} {f : Nat → Value} (h : ¬ i < 0 ∧ i.toNatClampNeg < n) : ¬ (i < 0 ∨ (arrV c n f).slots.size ≤ i.toNatClampNeg) := by
  rw [arrV_size]
  rintro (q | q)
  · exact h.1 q
  · exact absurd h.2 (Nat.not_lt.mpr q)
theorem s_iald (hd : decode (mCc M) pc = .ok (.iaload, 1)) : mSnd g lau mt M pc (o_ial (pc + 1)) := by
  intro c k _ hk l st h o ho
  unfold o_ial at ho
  split at ho
  · split at ho
    · next i a st' ht =>
      obtain ⟨ht, hi⟩ := ht
      refine mG_pure (fun p e R s mth args below meth c Q hC _ _ ls H locs cells slots hl hH kk => ?_) (hk _ _ _ _ _ ho)
      rcases ht with ht | ht
      · have hv : mV h a i.toNatClampNeg = .int (mI h a i.toNatClampNeg) := by unfold mV; rw [ht]; rfl
        exact W.iald (v := .int (mI h a i.toNatClampNeg)) hC.1 hC.2.1 (hH.arr ht (by omega) (by omega)) (mArr hC (by omega) rfl _ _) (fun q => by cases q) (mIn hi) (by rw [arrV_read _ _ hi.2, hv]) rfl rfl hd (kk ls hl)
      · rcases hH.2.2.2.2 a (by rw [ht]; omega) with ⟨x1, x2, x3, x4⟩ | ⟨x1, -⟩
        · obtain ⟨scr, h1, h2, h3, h4, h5⟩ := hC.2.2.2.2.2.2.1
          subst x1
          rw [x3] at hi
          exact W.iald (v := .int (mI h (gb g) i.toNatClampNeg)) hC.1 hC.2.1 (by rw [hH.2.2.2.1 _ hH.2.2.1]; exact h1) h2 h3 (by rw [h4]; rintro (q | q); exact hi.1 q; exact absurd hi.2 (Nat.not_lt.mpr q)) (by rw [x4]; exact h5 _ hi.2) rfl rfl hd (kk ls hl)
        · omega
    · cases ho
  · cases ho
theorem s_zald (hd : decode (mCc M) pc = .ok (.baload, 1)) : mSnd g lau mt M pc (o_bal (pc + 1)) := by
  intro c k _ hk l st h o ho
  unfold o_bal at ho
  split at ho
  · split at ho
    · next i a st' ht =>
      obtain ⟨ht, hi⟩ := ht
      refine mG_pure (fun p e R s mth args below meth c Q hC _ _ ls H locs cells slots hl hH kk => ?_) (hk _ _ _ _ _ ho)
      have hv : mV h a i.toNatClampNeg = .int (mI h a i.toNatClampNeg) := by unfold mV; rw [ht]; rfl
      exact W.zald (v := .int (mI h a i.toNatClampNeg)) hC.1 hC.2.1 (hH.arr ht (by omega) (by omega)) (mArr hC (by omega) rfl _ _) (fun q => by cases q) (mIn hi) (by rw [arrV_read _ _ hi.2, hv]) rfl rfl hd (kk ls hl)
    · cases ho
  · cases ho
theorem s_lald (hd : decode (mCc M) pc = .ok (.laload, 1)) : mSnd g lau mt M pc (o_lal (pc + 1)) := by
  intro c k _ hk l st h o ho
  unfold o_lal at ho
  split at ho
  · split at ho
    · next i a st' ht =>
      obtain ⟨ht, hi⟩ := ht
      refine mG_pure (fun p e R s mth args below meth c Q hC _ _ ls H locs cells slots hl hH kk => ?_) (hk _ _ _ _ _ ho)
      have hv : mV h a i.toNatClampNeg = .long (mJ h a i.toNatClampNeg) := by unfold mV; rw [ht]; rfl
      exact W.lald (v := .long (mJ h a i.toNatClampNeg)) hC.1 hC.2.1 (hH.arr ht (by omega) (by omega)) (mArr hC (by omega) rfl _ _) (fun q => by cases q) (mIn hi) (by rw [arrV_read _ _ hi.2, hv]) rfl rfl hd (kk ls hl)
    · cases ho
  · cases ho
theorem s_aald (hd : decode (mCc M) pc = .ok (.aaload, 1)) : mSnd g lau mt M pc (o_aal (pc + 1)) := by
  intro c k _ hk l st h o ho
  unfold o_aal at ho
  split at ho
  · split at ho
    · next i a st' ht =>
      obtain ⟨ht, hi⟩ := ht
      refine mG_pure (fun p e R s mth args below meth c Q hC _ _ ls H locs cells slots hl hH kk => ?_) (hk _ _ _ _ _ ho)
      rcases ht with ht | ht | ht
      · have hv : mV h a i.toNatClampNeg = va_rf (mP h a i.toNatClampNeg) := by unfold mV; rw [ht]; rfl
        exact W.aald (v := va_rf (mP h a i.toNatClampNeg)) hC.1 hC.2.1 (hH.arr ht (by omega) (by omega)) (mArr hC (t := 23) (by omega) rfl _ _) rfl (fun q => by cases q) (mIn hi) (by rw [arrV_read _ _ hi.2, hv]) rfl rfl hd (kk ls hl)
      · have hv : mV h a i.toNatClampNeg = va_rf (mP h a i.toNatClampNeg) := by unfold mV; rw [ht]; rfl
        exact W.aald (v := va_rf (mP h a i.toNatClampNeg)) hC.1 hC.2.1 (hH.arr ht (by omega) (by omega)) (mArr hC (t := 24) (by omega) rfl _ _) rfl (fun q => by cases q) (mIn hi) (by rw [arrV_read _ _ hi.2, hv]) rfl rfl hd (kk ls hl)
      · have hv : mV h a i.toNatClampNeg = va_rf (mP h a i.toNatClampNeg) := by unfold mV; rw [ht]; rfl
        exact W.aald (v := va_rf (mP h a i.toNatClampNeg)) hC.1 hC.2.1 (hH.arr ht (by omega) (by omega)) (mArr hC (t := 25) (by omega) rfl _ _) rfl (fun q => by cases q) (mIn hi) (by rw [arrV_read _ _ hi.2, hv]) rfl rfl hd (kk ls hl)
    · cases ho
  · cases ho
/-- the relation behind a store into a row -/
theorem mStore {h h' : mH} {H H' : Heap} {a t j : Nat} {v : Value} (hH : mHR g h H) (ht : mTg h a = t) (h20 : 20 ≤ t) (h30 : t ≠ 30) (e0 : mTop h' = mTop h) (e2 : mTg h' = mTg h) (e3 : mLn h' = mLn h) (e4 : ∀ b, b ≠ a → mI h' b = mI h b) (e5 : ∀ b j, b ≠ a → mV h' b j = mV h b j) (e6 : ∀ i, mV h' a i = updV (mV h a) j v i)
    (w1 : H'[a]? = some ((arrV (gA g t) (mLn h a) (mV h a)).setSlot j v)) (w2 : H'.size = H.size) (w3 : ∀ q, q ≠ a → H'[q]? = H[q]?) : mHR g h' H' := by
  refine hH.put ht (by omega) h30 e0 e2 e3 e4 e5 w2 w3 ⟨fun r hr1 hr2 => ?_, fun _ => ?_⟩
  · rw [e2, ht] at hr1
    omega
  · rw [w1, arrV_store, e2, e3, ht, show mV h' a = updV (mV h a) j v from funext e6]
theorem s_iast (hd : decode (mCc M) pc = .ok (.iastore, 1)) : mSnd g lau mt M pc (o_ias (pc + 1)) := by
  intro c k _ hk l st h o ho
  unfold o_ias at ho
  split at ho
  · split at ho
    · next x i a st' ht =>
      obtain ⟨ht, hi⟩ := ht
      refine mG_heap (h' := wI h a i.toNatClampNeg x) (dc := 0) (ds := 0) rfl rfl (fun p e R s mth args below meth c Q hC ls H locs cells slots hl hH hL _ _ kk => ?_) (hk _ _ _ _ _ ho)
      refine W.iast hC.1 hC.2.1 (hH.arr ht (by omega) (by omega)) (mArr hC (by omega) rfl _ _) (fun q => by cases q) (mIn hi) rfl rfl hd (fun H' w1 w2 w3 => kk H' _ ?_ (mLocs hL (hH.base ht (by omega) (by omega))))
      exact mStore hH ht (by omega) (by omega) rfl rfl rfl (fun b hb => funext fun j => by rw [mI_wI, if_neg (fun q => hb q.1)]) (fun b j hb => mV_wI_ne hb j) (mV_wI (by rw [ht]; exact fun _ _ _ => rfl)) w1 w2 w3
    · cases ho
  · cases ho
theorem s_zast (hd : decode (mCc M) pc = .ok (.bastore, 1)) : mSnd g lau mt M pc (o_bas (pc + 1)) := by
  intro c k _ hk l st h o ho
  unfold o_bas at ho
  split at ho
  · split at ho
    · next x i a st' ht =>
      obtain ⟨ht, hxx, hi⟩ := ht
      have hnx : narrow .boolean (.int x) = .int x := by rcases hxx with rfl | rfl <;> rfl
      refine mG_heap (h' := wI h a i.toNatClampNeg x) (dc := 0) (ds := 0) rfl rfl (fun p e R s mth args below meth c Q hC ls H locs cells slots hl hH hL _ _ kk => ?_) (hk _ _ _ _ _ ho)
      refine W.zast hC.1 hC.2.1 (hH.arr ht (by omega) (by omega)) (mArr hC (by omega) rfl _ _) (fun q => by cases q) (mIn hi) rfl rfl hd (fun H' w1 w2 w3 => kk H' _ ?_ (mLocs hL (hH.base ht (by omega) (by omega))))
      rw [hnx] at w1
      exact mStore hH ht (by omega) (by omega) rfl rfl rfl (fun b hb => funext fun j => by rw [mI_wI, if_neg (fun q => hb q.1)]) (fun b j hb => mV_wI_ne hb j) (mV_wI (by rw [ht]; exact fun _ _ _ => rfl)) w1 w2 w3
    · cases ho
  · cases ho
theorem s_last (hd : decode (mCc M) pc = .ok (.lastore, 1)) : mSnd g lau mt M pc (o_las (pc + 1)) := by
  intro c k _ hk l st h o ho
  unfold o_las at ho
  split at ho
  · split at ho
    · next x i a st' ht =>
      obtain ⟨ht, hi⟩ := ht
      refine mG_heap (h' := wJ h a i.toNatClampNeg x) (dc := 0) (ds := 0) rfl rfl (fun p e R s mth args below meth c Q hC ls H locs cells slots hl hH hL _ _ kk => ?_) (hk _ _ _ _ _ ho)
      refine W.last hC.1 hC.2.1 (hH.arr ht (by omega) (by omega)) (mArr hC (by omega) rfl _ _) (fun q => by cases q) (mIn hi) rfl rfl hd (fun H' w1 w2 w3 => kk H' _ ?_ (mLocs hL (hH.base ht (by omega) (by omega))))
      exact mStore hH ht (by omega) (by omega) rfl rfl rfl (fun b hb => rfl) (fun b j hb => mV_wJ_ne hb j) (mV_wJ (by rw [ht]; exact fun _ _ _ => rfl)) w1 w2 w3
    · cases ho
  · cases ho
theorem mAast {t ci x i' : Nat} {i : Int32} {h : mH} {a : Nat} {l : mL} {st : List Value} {o : mO} {r : vw_C} (hd : decode (mCc M) pc = .ok (.aastore, 1)) (h20 : 20 ≤ t) (h30 : t ≠ 30) (ht : mTg h a = t) (hty : (mTys (gA g))[t - 20]? = some (gA g t, .object r.1)) (h12 : ci < 12) (hr : mCl[ci]? = some r) (hx : mTg h x = ci + 1) (hi : ¬ i < 0 ∧ i.toNatClampNeg < mLn h a) (hi' : i.toNatClampNeg = i') (hv : ∀ i j p, mVal (mTy t i') i j p = va_rf p) (hg : mGood g lau M (pc + 1) l st (wP h a i' (some x)) o) : mGood g lau M pc l (.ref x :: .int i :: .ref a :: st) h o := by
  subst hi'
  refine mG_heap (h' := wP h a i.toNatClampNeg (some x)) (dc := 0) (ds := 0) rfl rfl (fun p e R s mth args below meth c Q hC ls H locs cells slots hl hH hL _ _ kk => ?_) hg
  obtain ⟨cellV, g1, g2, g3, -⟩ := hH.obj hx h12 hr
  have hK := hC.2.2.2.2.2.1
  have hcls := (hK.1 ci r hr).2
  obtain ⟨kA, comp, k1, k2, k3, -⟩ := (hK.2 _ _ hty).2
  have hcomp : comp = (gD g).1 ci := Option.some.inj (k3.symm.trans hcls.1)
  subst hcomp
  obtain ⟨kC, hkC, -⟩ := hcls.2
  refine W.aast hC.1 hC.2.1 (hH.arr ht h20 h30) (fun q h => by cases h) (fun h => by cases h) k1 k2 rfl hkC ⟨hi.1, by rw [arrV_size]; exact hi.2⟩ g1 (fun q h => by rw [g3] at h; cases h) (by rw [g2]; exact hkC) (by rw [g2]; exact va_assign hcls) rfl rfl hd (fun H' w1 w2 w3 => kk H' _ ?_ (mLocs hL (hH.base ht (by omega) h30)))
  exact mStore hH ht h20 h30 rfl rfl rfl (fun b hb => rfl) (fun b j hb => mV_wP_ne hb j) (mV_wP (x := some x) (by rw [ht]; exact hv)) w1 w2 w3
theorem s_aast (hd : decode (mCc M) pc = .ok (.aastore, 1)) : mSnd g lau mt M pc (o_aas (pc + 1)) := by
  intro c k _ hk l st h o ho
  unfold o_aas at ho
  split at ho
  · split at ho
    · next x i a st' ht =>
      obtain ⟨ht, hi⟩ := ht
      rcases ht with ⟨ht, hx⟩ | ⟨ht, hx⟩
      · exact mAast (t := 23) (ci := 5) (r := (RX5, TX5, 9)) hd (by omega) (by omega) ht rfl (by omega) rfl hx hi rfl (fun _ _ _ => rfl) (hk _ _ _ _ _ ho)
      · exact mAast (t := 24) (ci := 6) (r := (RX6, TX6, 18)) hd (by omega) (by omega) ht rfl (by omega) rfl hx hi rfl (fun _ _ _ => rfl) (hk _ _ _ _ _ ho)
    · cases ho
  · cases ho
theorem s_alen (hd : decode (mCc M) pc = .ok (.arraylength, 1)) : mSnd g lau mt M pc (o_aln (pc + 1)) := by
  intro c k _ hk l st h o ho
  unfold o_aln at ho
  split at ho
  · split at ho
    · next a st' ht =>
      refine mG_pure (fun p e R s mth args below meth c Q hC _ _ ls H locs cells slots hl hH kk => ?_) (hk _ _ _ _ _ ho)
      rcases ht with ht | ht | ht
      · exact W.alen (n := nI (mLn h a)) hC.1 hC.2.1 (hH.arr ht (by omega) (by omega)) (mArr hC (t := 20) (by omega) rfl _ _) (by rw [arrV_size] <;> rfl) rfl rfl hd (kk ls hl)
      · exact W.alen (n := nI (mLn h a)) hC.1 hC.2.1 (hH.arr ht (by omega) (by omega)) (mArr hC (t := 23) (by omega) rfl _ _) (by rw [arrV_size] <;> rfl) rfl rfl hd (kk ls hl)
      · rcases hH.2.2.2.2 a (by rw [ht]; omega) with ⟨x1, x2, x3, x4⟩ | ⟨x1, -⟩
        · obtain ⟨scr, h1, h2, h3, h4, h5⟩ := hC.2.2.2.2.2.2.1
          subst x1
          exact W.alen (n := nI (mLn h (gb g))) hC.1 hC.2.1 (by rw [hH.2.2.2.1 _ hH.2.2.1]; exact h1) h2 (by rw [h4, x3] <;> rfl) rfl rfl hd (kk ls hl)
        · omega
    · cases ho
  · cases ho
end MHeap
