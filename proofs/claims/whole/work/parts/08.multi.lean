/-! ===== new int[n][k] ===== -/
theorem mTop_wM {h : mH} {n k : Nat} : mTop (wM h n k) = mTop h + (1 + n) := rfl
theorem mSl_wM {h : mH} {n k : Nat} : mSl (wM h n k) = mSl h + (n + n * k) := rfl
theorem mTg_wM {h : mH} {n k a : Nat} : mTg (wM h n k) a = if a = mTop h then 25 else if mTop h < a ∧ a < mTop h + (1 + n) then 20 else mTg h a := rfl
theorem mLn_wM {h : mH} {n k a : Nat} : mLn (wM h n k) a = if a = mTop h then n else if mTop h < a ∧ a < mTop h + (1 + n) then k else mLn h a := rfl
theorem mI_wM {h : mH} {n k a : Nat} : mI (wM h n k) a = if mTop h ≤ a ∧ a < mTop h + (1 + n) then (fun _ => 0) else mI h a := rfl
theorem mJ_wM {h : mH} {n k a : Nat} : mJ (wM h n k) a = if mTop h ≤ a ∧ a < mTop h + (1 + n) then (fun _ => 0) else mJ h a := rfl
theorem mP_wM {h : mH} {n k a : Nat} : mP (wM h n k) a = if a = mTop h then (fun j => if j < n then some (mTop h + 1 + j) else none) else if mTop h < a ∧ a < mTop h + (1 + n) then (fun _ => none) else mP h a := rfl
theorem mOuter (c : ClassId) (N h0 : Nat) : ∀ i : Nat, Jvm.Free.Multi.outerC c N h0 i = arrV c N (fun j => va_rf (if j < i then some (h0 + 1 + j) else none))
  | 0 => by
    show ({ cls := c, slots := Array.replicate N .null, vm := .none } : Cell) = _
    rw [arrV_new]
    refine congrArg (arrV c N) (funext fun j => ?_)
    simp [va_rf]
  | i + 1 => by
    show (Jvm.Free.Multi.outerC c N h0 i).setSlot i (.ref (h0 + 1 + i)) = _
    rw [mOuter c N h0 i, arrV_store]
    refine congrArg (arrV c N) (funext fun j => ?_)
    unfold updV
    by_cases e : j = i
    · subst e
      rw [if_pos rfl, if_pos (Nat.lt_succ_self j)]
      rfl
    · rw [if_neg e]
      show va_rf (if j < i then some (h0 + 1 + j) else none) = va_rf (if j < i + 1 then some (h0 + 1 + j) else none)
      by_cases h : j < i
      · rw [if_pos h, if_pos (by omega)]
      · rw [if_neg h, if_neg (by omega)]
theorem mHR.multi {g : mG} {h : mH} {H H' : Heap} {n k : Nat} (R : mHR g h H) (hz : H'.size = mTop h + (1 + n)) (oq : ∀ q : Nat, q < mTop h → H'[q]? = H[q]?) (ho : H'[mTop h]? = some (arrV (gA g 25) n (fun j => va_rf (if j < n then some (mTop h + 1 + j) else none)))) (hi : ∀ j, j < n → H'[mTop h + 1 + j]? = some (arrV (gA g 20) k (fun _ => .int 0))) : mHR g (wM h n k) H' := by
  obtain ⟨r1, r2, r3, r4, r5⟩ := id R
  refine ⟨hz, by rw [mTop_wM]; omega, r3, fun q hq => ?_, fun b hb0 => ?_⟩
  · rw [oq q (by omega)]
    exact r4 q hq
  · by_cases hb : b = mTop h
    · subst hb
      refine Or.inr ⟨by rw [mTg_wM, if_pos rfl]; omega, r2, by rw [mTop_wM]; omega, ⟨fun r hr1 _ => ?_, fun _ => ?_⟩⟩
      · rw [mTg_wM, if_pos rfl] at hr1
        omega
      · rw [ho, mTg_wM, if_pos rfl, mLn_wM, if_pos rfl]
        refine congrArg some (congrArg (arrV (gA g 25) n) (funext fun j => ?_))
        unfold mV
        rw [mTg_wM, if_pos rfl, mP_wM, if_pos rfl]
        rfl
    · by_cases hb2 : mTop h < b ∧ b < mTop h + (1 + n)
      · refine Or.inr ⟨by rw [mTg_wM, if_neg hb, if_pos hb2]; omega, by omega, by rw [mTop_wM]; omega, ⟨fun r hr1 _ => ?_, fun _ => ?_⟩⟩
        · rw [mTg_wM, if_neg hb, if_pos hb2] at hr1
          omega
        · have e := hi (b - (mTop h + 1)) (by omega)
          rw [show mTop h + 1 + (b - (mTop h + 1)) = b by omega] at e
          rw [e, mTg_wM, if_neg hb, if_pos hb2, mLn_wM, if_neg hb, if_pos hb2]
          refine congrArg some (congrArg (arrV (gA g 20) k) (funext fun j => ?_))
          unfold mV
          rw [mTg_wM, if_neg hb, if_pos hb2, mI_wM, if_pos (by omega)]
          rfl
      · have hb3 : ¬ (mTop h ≤ b ∧ b < mTop h + (1 + n)) := fun q => hb2 ⟨by omega, q.2⟩
        have q1 : mTg (wM h n k) b = mTg h b := by rw [mTg_wM, if_neg hb, if_neg hb2]
        have q2 : mLn (wM h n k) b = mLn h b := by rw [mLn_wM, if_neg hb, if_neg hb2]
        have q3 : mI (wM h n k) b = mI h b := by rw [mI_wM, if_neg hb3]
        have q4 : mJ (wM h n k) b = mJ h b := by rw [mJ_wM, if_neg hb3]
        have q5 : mP (wM h n k) b = mP h b := by rw [mP_wM, if_neg hb, if_neg hb2]
        have q6 : mV (wM h n k) b = mV h b := funext fun j => by unfold mV; rw [q1, q3, q4, q5]
        rw [q1] at hb0
        rcases r5 b hb0 with ⟨x1, x2, x3, x4⟩ | ⟨x1, x2, x3, x4⟩
        · exact Or.inl ⟨x1, by rw [q1]; exact x2, by rw [q2]; exact x3, by rw [q3]; exact x4⟩
        · refine Or.inr ⟨by rw [q1]; exact x1, x2, by rw [mTop_wM]; omega, ⟨fun r hr1 hr2 => ?_, fun h20 => ?_⟩⟩
          · rw [q1] at hr1 hr2 ⊢
            rw [q6]
            exact (x4.1 r hr1 hr2).kept (oq b x3)
          · rw [q1] at h20 ⊢
            rw [q2, q6, oq b x3]
            exact x4.2 h20
theorem s_mna {g : mG} {lau : Launch} {mt : Nat → mM} {M : mM} {pc idx : Nat} (hw1 : Cond.classLink (mCn M) idx ("[" ++ (FieldType.array .int).toString) ∈ mTb) (hw2 : FieldType.array .int ∈ mNxA) (hw3 : Cond.arrayClass .int ∈ mTb) (hd : decode (mCc M) pc = .ok (.multianewarray idx 2, 4)) : mSnd g lau mt M pc (o_mna (pc + 4)) := by
  intro cl k _ hk l st h o ho
  unfold o_mna at ho
  split at ho
  · split at ho
    · next m n st' hn =>
      refine mG_heap (h' := wM h n.toNatClampNeg m.toNatClampNeg) (dc := 1 + n.toNatClampNeg) (ds := n.toNatClampNeg + n.toNatClampNeg * m.toNatClampNeg) rfl rfl (fun p e R s mth args below meth c Q hC ls H locs cells slots hl hH hL hcells hslots kk => ?_) (hk _ _ _ _ _ ho)
      obtain ⟨hx, hb, hml, hown, hts, hK, hX, hnm⟩ := hC
      intro T hT X
      obtain ⟨vm₁, cA, comp, -, fA, fC, -, -, X', step⟩ := X.multianewarray2F hx hown (hts _ hw1) (hnm.2.1 _ hw2) (hts _ hw3) (g := F0 mth pc ls (.int m :: .int n :: st')) rfl (by rw [hb]; exact hd) rfl hn.1.1 hn.2.1 (Nat.le_trans (Nat.mul_le_mul hn.1.2 (Nat.le_refl 4)) (by decide)) (Nat.le_trans (Nat.mul_le_mul hn.2.2 (Nat.le_refl _)) (by decide)) (Nat.le_trans hn.2.2 (by decide)) rfl rfl hcells hslots
      have eA : cA = gA g 25 := Option.some.inj (fA.symm.trans (hK.2 5 _ rfl).2)
      have eC : comp = gA g 20 := Option.some.inj (fC.symm.trans (hK.2 0 _ rfl).2)
      subst eA
      subst eC
      generalize hF : Jvm.Free.Multi.fill (T.setVm vm₁) (gA g 25) (gA g 20) n.toNatClampNeg m.toNatClampNeg (defaultValue .int) n.toNatClampNeg = F at X' step
      have hTh : (T.setVm vm₁).heap = H := hT
      obtain ⟨f1, f2, -, -⟩ := Jvm.Free.Multi.fill_facts (T.setVm vm₁) (gA g 25) (gA g 20) n.toNatClampNeg m.toNatClampNeg (defaultValue .int) n.toNatClampNeg
      rw [hF, hTh, hH.1] at f1 f2
      have hrow : ∀ j : Nat, j < n.toNatClampNeg → F.heap[mTop h + 1 + j]? = some (arrV (gA g 20) m.toNatClampNeg (fun _ => .int 0)) := fun j hj => by
        have := Jvm.Free.Multi.fill_inner (T.setVm vm₁) (gA g 25) (gA g 20) n.toNatClampNeg m.toNatClampNeg (defaultValue .int) n.toNatClampNeg j hj
        rw [hF, hTh, hH.1] at this
        rw [this, ← arrV_new]
        rfl
      have hold : ∀ x : Nat, x < mTop h → F.heap[x]? = H[x]? := fun x hx => by
        have := Jvm.Free.Multi.fill_old (T.setVm vm₁) (gA g 25) (gA g 20) n.toNatClampNeg m.toNatClampNeg (defaultValue .int) (a := x) (by rw [hTh, hH.1]; exact hx) n.toNatClampNeg
        rw [hF, hTh] at this
        exact this
      rw [mOuter] at f2
      have hH' : mHR g (wM h n.toNatClampNeg m.toNatClampNeg) F.heap := hH.multi (by rw [f1]; omega) hold f2 hrow
      rw [show cells + 1 + n.toNatClampNeg = cells + (1 + n.toNatClampNeg) by omega, show slots + n.toNatClampNeg + n.toNatClampNeg * m.toNatClampNeg = slots + (n.toNatClampNeg + n.toNatClampNeg * m.toNatClampNeg) by omega] at X'
      obtain ⟨t, a1, b1⟩ := kk F.heap locs hH' hL F rfl X'
      refine ⟨t, step t ?_, b1⟩
      have e : T.heap.size = mTop h := by rw [hT]; exact hH.1
      rw [e]
      exact a1
    · cases ho
  · cases ho
