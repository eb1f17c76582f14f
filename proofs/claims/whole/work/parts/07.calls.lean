/-! ===== the operations are sound: what is made, calls, ends ===== -/
section MCalls
variable {g : mG} {lau : Launch} {mt : Nat → mM} {M : mM} {pc : Nat}
theorem s_new {ci idx : Nat} {C : String} {T : u_T} {N : Nat} (h12 : ci < 12) (hr : mCl[ci]? = some (C, T, N)) (hin : ∀ w ∈ u_ws C T N, w ∈ mTb) (ty0 : Nat → FieldType) (hty : ∀ k, k < N → parseFieldDescriptor (T k).2.2.1 = some (ty0 k)) (hdef : ∀ j, j < N → defaultValue (ty0 j) = mVal (mTy (ci + 1) j) 0 0 none)
    (hw1 : Cond.classLink (mCn M) idx C ∈ mTb) (hw2 : Cond.instantiable C N ∈ mTb) (hw3 : Cond.initialized C ∈ mTb) (hd : decode (mCc M) pc = .ok (.new idx, 3)) : mSnd g lau mt M pc (o_new (pc + 3) (ci + 1) N) := by
  intro c k _ hk l st h o ho
  unfold o_new at ho
  refine mG_heap (h' := wN h (ci + 1) N) (dc := 1) (ds := N) rfl rfl (fun p e R s mth args below meth c Q hC ls H locs cells slots hl hH hL hcells hslots kk => ?_) (hk _ _ _ _ _ ho)
  obtain ⟨hx, hb, hml, hown, hts, hK, hX, hnm⟩ := hC
  have hKn := hK.1 ci _ hr
  refine W.newcK hx hb hown (hts _ hw1) (hts _ hw2) (hts _ hw3) rfl hd hcells hslots hKn.2.1 hH.1 (fun H1 kC hkC e1 z1 o1 => ?_)
  refine kk H1 locs (hH.push (by omega) z1 o1 ⟨fun r hr1 hr2 => ?_, fun h20 => ?_⟩) hL
  · rw [mTg_wN, if_pos rfl] at hr2 ⊢
    have hrr : r = (C, T, N) := Option.some.inj (hr2.symm.trans hr)
    subst hrr
    refine (u_born ty0 hts hin hKn hkC e1 hty).to (fun j hj => ?_)
    unfold mV
    rw [mTg_wN, if_pos rfl, mI_wN, if_pos rfl, mJ_wN, if_pos rfl, mP_wN, if_pos rfl]
    exact hdef j hj
  · rw [mTg_wN, if_pos rfl] at h20
    omega
theorem mNewArr {h : mH} {H H' : Heap} {t n : Nat} {dv : Value} (hH : mHR g h H) (h20 : 20 ≤ t) (h30 : t < 30) (hdv : ∀ j, mVal (mTy t j) 0 0 none = dv) (hz : H'.size = mTop h + 1) (oq : ∀ q : Nat, q < mTop h → H'[q]? = H[q]?) (hc : H'[mTop h]? = some (arrV (gA g t) n (fun _ => dv))) : mHR g (wN h t n) H' := by
  refine hH.push h30 hz oq ⟨fun r hr1 _ => ?_, fun _ => ?_⟩
  · rw [mTg_wN, if_pos rfl] at hr1
    omega
  · rw [hc, mTg_wN, if_pos rfl, mLn_wN, if_pos rfl]
    congr 2
    funext j
    unfold mV
    rw [mTg_wN, if_pos rfl, mI_wN, if_pos rfl, mJ_wN, if_pos rfl, mP_wN, if_pos rfl, hdv]
theorem s_newa {t : Nat} {atype : ArrayType} (h20 : 20 ≤ t) (h22 : t ≤ 22) (hty : (mTys (gA g))[t - 20]? = some (gA g t, newarray.typeOf atype)) (hdv : ∀ j, mVal (mTy t j) 0 0 none = defaultValue (newarray.typeOf atype)) (hcb : componentBytes (newarray.typeOf atype) ≤ 8) (hra : ∀ (U : State) (cA : ClassId), va_RA U cA (newarray.typeOf atype) → U.vm.findClass ("[" ++ (newarray.typeOf atype).toString) = some cA)
    (hw : Cond.arrayClass (newarray.typeOf atype) ∈ mTb) (hd : decode (mCc M) pc = .ok (.newarray atype, 2)) : mSnd g lau mt M pc (o_nwa (pc + 2) t) := by
  intro c k _ hk l st h o ho
  unfold o_nwa at ho
  split at ho
  · split at ho
    · next n st' hn =>
      refine mG_heap (h' := wN h t n.toNatClampNeg) (dc := 1) (ds := n.toNatClampNeg) rfl rfl (fun p e R s mth args below meth c Q hC ls H locs cells slots hl hH hL hcells hslots kk => ?_) (hk _ _ _ _ _ ho)
      obtain ⟨hx, hb, hml, hown, hts, hK, hX, hnm⟩ := hC
      refine W.newa hx hb (hts _ hw) rfl hd rfl hn.1 (Nat.le_trans (Nat.mul_le_mul hn.2 hcb) (by decide)) hcells hslots (fun cA kA comp h1 h2 h3 => ?_)
      have hcA : cA = gA g t := Option.some.inj (h1.symm.trans (hra _ _ (hK.2 _ _ hty).2))
      rw [hH.1]
      refine kk _ locs (mNewArr hH h20 (by omega) hdv (by simp [hH.1]) (fun q hq => by rw [Array.getElem?_push, if_neg (by rw [hH.1]; omega)]) ?_) hL
      rw [← hcA, ← hH.1, ← arrV_new]
      simp
    · cases ho
  · cases ho
theorem s_anew {t idx : Nat} {C : String} (h20 : 20 ≤ t) (h24 : t ≤ 24) (hty : (mTys (gA g))[t - 20]? = some (gA g t, .object C)) (hdv : ∀ j, mVal (mTy t j) 0 0 none = .null) (hw1 : Cond.classLink (mCn M) idx C ∈ mTb) (hw2 : FieldType.object C ∈ mNxA) (hd : decode (mCc M) pc = .ok (.anewarray idx, 3)) : mSnd g lau mt M pc (o_nwa (pc + 3) t) := by
  intro c k _ hk l st h o ho
  unfold o_nwa at ho
  split at ho
  · split at ho
    · next n st' hn =>
      refine mG_heap (h' := wN h t n.toNatClampNeg) (dc := 1) (ds := n.toNatClampNeg) rfl rfl (fun p e R s mth args below meth c Q hC ls H locs cells slots hl hH hL hcells hslots kk => ?_) (hk _ _ _ _ _ ho)
      obtain ⟨hx, hb, hml, hown, hts, hK, hX, hnm⟩ := hC
      refine W.anew hx hb hown (hts _ hw1) (va_AO.use (hnm.2.1 _ hw2)) rfl hd rfl hn.1 (Nat.le_trans (Nat.mul_le_mul hn.2 (Nat.le_refl 4)) (by decide)) hcells hslots (fun cA kA comp f1 f2 f3 f4 => ?_)
      have hcA : cA = gA g t := by
        obtain ⟨kA', comp', -, -, -, k4⟩ := (hK.2 _ _ hty).2
        exact Option.some.inj (f1.symm.trans k4)
      rw [hH.1]
      refine kk _ locs (mNewArr hH h20 (by omega) hdv (by simp [hH.1]) (fun q hq => by rw [Array.getElem?_push, if_neg (by rw [hH.1]; omega)]) ?_) hL
      rw [← hcA, ← hH.1, ← arrV_new]
      simp
    · cases ho
  · cases ho
theorem s_obj {idx : Nat} (hw1 : Cond.methodLink (mCn M) idx objectInit ∈ mTb) (hw2 : Cond.instanceMethod objectInit ∈ mTb) (hw3 : Cond.code objectInit ⟨#[0xb1]⟩ 1 none ∈ mTb) (hfr : 1 ≤ mFr M) (hlo : 20 ≤ mLo M) (hd : decode (mCc M) pc = .ok (.invokespecial idx, 3)) : mSnd g lau mt M pc (o_obj (pc + 3)) := by
  intro c k _ hk l st h o ho
  unfold o_obj at ho
  split at ho
  · next a st' =>
    cases hb9 : Nat.ble (mCat st') 8
    · rw [hb9] at ho
      cases ho
    · rw [hb9] at ho
      refine mG_pure (fun p e R s mth args below meth c Q hC hF hL9 ls H locs cells slots hl hH kk => ?_) (hk _ _ _ _ _ ho)
      obtain ⟨hx, hb, hml, hown, hts, hK, hX, hnm⟩ := hC
      have h8 : mCat st' ≤ 8 := Nat.le_of_ble_eq_true hb9
      refine W.objInit hx hb hown (hts _ hw1) (hts _ hw2) (hts _ hw3) rfl (by rw [hml]; exact hl.1) rfl hd (by omega) ?_ (kk ls hl)
      have := lv_room (m := mth) (pc := pc) (ls := ls) (rest := .ref a :: st') (st := st') h8
      have e8 : (st'.map fun v => v.category).sum = mCat st' := rfl
      omega
  · cases ho
/-- behind a call -/
theorem mRun {p : Program} {e : Env} {R : Room} {s : State} {mth : MethodId} {args : Array Value} {below : List Frame} {meth : Method} {c : Code} {H : Heap} {locs : List Loc} {cells slots mc ms : Nat} {Q : State → Prop} {ls : Array Slot} {st rest : List Value} {o : mO} {a : Array Value}
    (hr : va_Run p lau e R s mth args below meth c H locs cells slots mc ms (F0 mth pc ls st) rest (mQc g o a) (fun q => gB g ≤ q)) (hL : ∀ q ∈ locs, gB g ≤ q.base)
    (kk : ∀ (H' : Heap) (locs' : List Loc), mHR g o.2 H' → (∀ q ∈ locs', gB g ≤ q.base) → W p lau e R s mth args below meth c H' locs' (cells + mc) (slots + ms) Q (F0 mth (pc + 3) ls (o.1.toList ++ rest))) : W p lau e R s mth args below meth c H locs cells slots Q (F0 mth pc ls st) := by
  intro T hT X
  obtain ⟨v, st₀, t, T', L, h0, X', hL2, e1, e2, ⟨hv, hH'⟩, st9⟩ := hr T hT X
  have hv := Outcome.returned.inj hv
  subst hv
  obtain ⟨t2, a1, b1⟩ := kk T'.heap (locs ++ L) (by rw [e1]; exact hH') (fun q hq => by
    rcases List.mem_append.mp hq with h | h
    · exact hL q h
    · exact hL2 q h) T' rfl X'
  exact ⟨t2, st9 t2 a1, b1⟩
theorem mBlind {as : List Value} {h : mH} : FrameBlind (mPc g as h) := fun a U g' mk hq => ⟨hq.1, hq.2.1, va_K.moved (u := U) (U := U.calling g' mk a) (Vm.Alike.refl U.vm) hq.2.2.1, va_X.moved (u := U) (U := U.calling g' mk a) (Vm.Alike.refl U.vm) hq.2.2.2.1, mNw.same (u := U) (U := U.calling g' mk a) rfl hq.2.2.2.2⟩
theorem mPre {p : Program} {s : State} {mth : MethodId} {args : Array Value} {meth : Method} {c : Code} (hC : mCx g M p s mth args meth c) {h : mH} {H : Heap} (hH : mHR g h H) (as : List Value) : ∀ U : State, U.heap = H → s.WarmedH U.vm → mPc g as h as.toArray U := fun U hU hW => ⟨rfl, by rw [hU]; exact hH, va_K.moved hW.alike hC.2.2.2.2.2.1, va_X.moved hW.alike hC.2.2.2.2.2.2.1, mNw.warm hW hC.2.2.2.2.2.2.2.2⟩
theorem mWsGood {M' : mM} (hc : Cond.code (mNm M') (mCc M') (mNl M') (mRt M') ∈ mTb) : GoodIn mTb (mWs M') := fun w hw => by
  have hm : w ∈ mTb := by
    rcases List.mem_cons.mp hw with h | h
    · rw [h]; exact hc
    · exact h
  exact ⟨hm, good_of_word (mTb_good hm)⟩
/-- what is asked of a call of m: its words, its room -/
def mCw (M M' : mM) (n : Nat) : Prop :=
  Cond.code (mNm M') (mCc M') (mNl M') (mRt M') ∈ mTb ∧ Cond.initialized (mNm M').cls ∈ mTb ∧ ((mNm M').cls ≠ "java/lang/invoke/MethodHandle" ∧ (mNm M').cls ≠ "java/lang/invoke/VarHandle" ∧ (parseMethodDescriptor (mNm M').desc).map (fun d => d.parameters.length) = some n) ∧ (mFr M' + 1 ≤ mFr M ∧ 8 + (mNl M' + 11) + mLo M' ≤ mLo M)
theorem mCwB {M' : mM} {n idx : Nat} (hw : mCw M M' n) (hlk : Cond.methodLink (mCn M) idx (mNm M') ∈ mTb) {p : Program} {s : State} {mth : MethodId} {args : Array Value} {meth : Method} {c : Code} (hC : mCx g M p s mth args meth c) {R : Room} (hf : mFr M ≤ R.frames) (hlo : mLo M ≤ R.locals) (mc ms : Nat) :
    CallB R s args (mCn M) idx (mNm M') (mCc M') (mNl M') (mRt M') (mWs M') (mRm M' mc ms) mc ms n :=
  callB_of n hC.2.2.2.2.1 (mWsGood hw.1) rfl rfl rfl (hC.2.2.2.2.1 _ hw.2.1) (hC.2.2.2.2.1 _ hlk) hw.2.2.1 ⟨Nat.le_trans hw.2.2.2.1 hf, Nat.le_trans hw.2.2.2.2 hlo⟩
/-- the heap behind a call, and the rest of the run -/
theorem mG_run {h : mH} {o1 o : mO} {pc' : Nat} {l : mL} {st st' : List Value} (hm : mTop h ≤ mTop o1.2 ∧ mSl h ≤ mSl o1.2)
    (hs : ∀ (p : Program) (e : Env) (R : Room) (s : State) (mth : MethodId) (args : Array Value) (below : List Frame) (meth : Method) (c : Code) (Q : State → Prop), mCx g M p s mth args meth c → mFr M ≤ R.frames → mLo M ≤ R.locals →
      ∀ (ls : Array Slot) (H : Heap) (locs : List Loc) (cells slots : Nat), mLV ls (mNl M) l → mHR g h H → (∀ q ∈ locs, gB g ≤ q.base) → cells + (mTop o1.2 - mTop h) ≤ R.cells → slots + (mSl o1.2 - mSl h) ≤ R.slots →
        (∀ (H' : Heap) (locs' : List Loc), mHR g o1.2 H' → (∀ q ∈ locs', gB g ≤ q.base) → W p lau e R s mth args below meth c H' locs' (cells + (mTop o1.2 - mTop h)) (slots + (mSl o1.2 - mSl h)) Q (F0 mth pc' ls st')) → W p lau e R s mth args below meth c H locs cells slots Q (F0 mth pc ls st))
    (hg : mGood g lau M pc' l st' o1.2 o) : mGood g lau M pc l st h o := by
  obtain ⟨g1, g2, g3⟩ := hg
  obtain ⟨m1, m2⟩ := hm
  refine ⟨by omega, by omega, fun p e R s mth args below meth c Q hC hf hlo hR ls H locs cells slots hl hH hL hc hsl => ?_⟩
  exact hs p e R s mth args below meth c Q hC hf hlo ls H locs cells slots hl hH hL (by omega) (by omega) (fun H' locs' hH' hL' => g3 p e R s mth args below meth c Q hC hf hlo hR ls H' locs' _ _ hl hH' hL' (by omega) (by omega))
theorem s_cS {m' n idx : Nat} (hw : mCw M (mt m') n) (hlk : Cond.methodLink (mCn M) idx (mNm (mt m')) ∈ mTb) (hst : Cond.static (mNm (mt m')) ∈ mTb) (hd : decode (mCc M) pc = .ok (.invokestatic idx, 3)) : mSnd g lau mt M pc (o_cS (pc + 3) m' n) := by
  intro cl k hcl hk l st h o ho
  unfold o_cS at ho
  cases hb9 : (Nat.ble (mCat (st.drop n)) 8 && Nat.ble n st.length)
  · rw [hb9] at ho
    cases ho
  · rw [hb9] at ho
    rw [Bool.and_eq_true] at hb9
    have h8 : mCat (st.drop n) ≤ 8 := Nat.le_of_ble_eq_true hb9.1
    have hn : n ≤ st.length := Nat.le_of_ble_eq_true hb9.2
    rw [cond_true] at ho
    split at ho
    · next r h1 hr =>
      have hcall := hcl _ _ _ _ hr
      refine mG_run (o1 := (r, h1)) ⟨hcall.1, hcall.2.1⟩ (fun p e R s mth args below meth c Q hC hf hlo ls H locs cells slots hl hH hL hcs hss kk => ?_) (hk _ _ _ _ _ ho)
      obtain ⟨hx, hb, hml, hown, hts, hK, hX, hnm⟩ := id hC
      refine mRun (rest := st.drop n) (a := ((st.take n).reverse).toArray) (va_runS (As := (st.take n).reverse) (Ts := mTb) ⟨hx, hb, hml, hown, hts⟩ hcall.2.2 ⟨mCwB hw hlk hC hf hlo _ _, hts _ hst⟩ ⟨mBlind, mPre hC hH _⟩ rfl (by rw [List.length_reverse, List.length_take]; omega) hl.1 (by rw [List.reverse_reverse]; exact (List.take_append_drop n st).symm) (lv_room h8) hd ⟨hcs, hss⟩) hL kk
    · cases ho
theorem s_cV {m' n t ci idx : Nat} {r0 : vw_C} (hw : mCw M (mt m') n) (hlk : Cond.methodLink (mCn M) idx (mNm (mt m')) ∈ mTb) (hti : t = ci + 1) (h12 : ci < 12) (hr0 : mCl[ci]? = some r0) (hin : Cond.instanceMethod (mNm (mt m')) ∈ mTb) (hse : Cond.selects r0.1 (mNm (mt m')) (mNm (mt m')) ∈ mTb) (hd : decode (mCc M) pc = .ok (.invokevirtual idx, 3)) : mSnd g lau mt M pc (o_cV (pc + 3) m' n t) := by
  intro cl k hcl hk l st h o ho
  subst hti
  unfold o_cV at ho
  split at ho
  · next a rest hdr =>
    cases hb9 : (Nat.ble (mCat rest) 8 && Nat.ble n st.length)
    · rw [hb9] at ho
      cases ho
    · rw [hb9] at ho
      rw [Bool.and_eq_true] at hb9
      have h8 : mCat rest ≤ 8 := Nat.le_of_ble_eq_true hb9.1
      have hn : n ≤ st.length := Nat.le_of_ble_eq_true hb9.2
      rw [cond_true] at ho
      split at ho
      · next htg =>
        split at ho
        · next r h1 hr =>
          have hcall := hcl _ _ _ _ hr
          refine mG_run (o1 := (r, h1)) ⟨hcall.1, hcall.2.1⟩ (fun p e R s mth args below meth c Q hC hf hlo ls H locs cells slots hl hH hL hcs hss kk => ?_) (hk _ _ _ _ _ ho)
          obtain ⟨hx, hb, hml, hown, hts, hK, hX, hnm⟩ := id hC
          obtain ⟨cellB, q1, q2, q3, -⟩ := hH.obj htg h12 hr0
          refine mRun (rest := rest) (a := (Value.ref a :: (st.take n).reverse).toArray) (va_runV (As := (st.take n).reverse) (Ts := mTb) (C := r0.1) ⟨hx, hb, hml, hown, hts⟩ hcall.2.2 ⟨mCwB hw hlk hC hf hlo _ _, hts _ hin, hts _ hse⟩ ⟨mBlind, ⟨cellB, q1, by rw [q3]; rfl, by rw [q2]; exact (hK.1 ci r0 hr0).2.1⟩, mPre hC hH _⟩ rfl (by rw [List.length_reverse, List.length_take]; omega) hl.1 (by rw [List.reverse_reverse, ← hdr]; exact (List.take_append_drop n st).symm) (lv_room h8) hd ⟨hcs, hss⟩) hL kk
        · cases ho
      · cases ho
  · cases ho
theorem s_cI {m' n idx : Nat} (hw : mCw M (mt m') n) (hrt : mRt (mt m') = none) (hlk : Cond.methodLink (mCn M) idx (mNm (mt m')) ∈ mTb) (hy : (mNm (mt m')).name = "<init>") (hin : Cond.instanceMethod (mNm (mt m')) ∈ mTb) (hd : decode (mCc M) pc = .ok (.invokespecial idx, 3)) : mSnd g lau mt M pc (o_cI (pc + 3) m' n) := by
  intro cl k hcl hk l st h o ho
  unfold o_cI at ho
  split at ho
  · next a rest hdr =>
    cases hb9 : (Nat.ble (mCat rest) 8 && Nat.ble n st.length)
    · rw [hb9] at ho
      cases ho
    · rw [hb9] at ho
      rw [Bool.and_eq_true] at hb9
      have h8 : mCat rest ≤ 8 := Nat.le_of_ble_eq_true hb9.1
      have hn : n ≤ st.length := Nat.le_of_ble_eq_true hb9.2
      rw [cond_true] at ho
      split at ho
      · next r h1 hr =>
        have hcall := hcl _ _ _ _ hr
        refine mG_run (o1 := (r, h1)) ⟨hcall.1, hcall.2.1⟩ (fun p e R s mth args below meth c Q hC hf hlo ls H locs cells slots hl hH hL hcs hss kk => ?_) (hk _ _ _ _ _ ho)
        obtain ⟨hx, hb, hml, hown, hts, hK, hX, hnm⟩ := id hC
        have hcb := mCwB hw hlk hC hf hlo (mTop h1 - mTop h) (mSl h1 - mSl h)
        rw [hrt] at hcb
        refine mRun (rest := rest) (a := (Value.ref a :: (st.take n).reverse).toArray) (va_runI (As := (st.take n).reverse) (Ts := mTb) ⟨hx, hb, hml, hown, hts⟩ hcall.2.2 ⟨hcb, hy, hts _ hin⟩ ⟨mBlind, mPre hC hH _⟩ rfl (by rw [List.length_reverse, List.length_take]; omega) hl.1 (by rw [List.reverse_reverse, ← hdr]; exact (List.take_append_drop n st).symm) (lv_room h8) hd ⟨hcs, hss⟩) hL kk
      · cases ho
  · cases ho
theorem s_cN {m' n idx : Nat} {host : String} (hw : mCw M (mt m') n) (hrt : mRt (mt m') = none) (hlk : (mCn M, idx, mNm (mt m'), host) ∈ mNxM) (hy : (mNm (mt m')).name = "<init>") (hin : Cond.instanceMethod (mNm (mt m')) ∈ mTb) (hd : decode (mCc M) pc = .ok (.invokespecial idx, 3)) : mSnd g lau mt M pc (o_cI (pc + 3) m' n) := by
  intro cl k hcl hk l st h o ho
  unfold o_cI at ho
  split at ho
  · next a rest hdr =>
    cases hb9 : (Nat.ble (mCat rest) 8 && Nat.ble n st.length)
    · rw [hb9] at ho
      cases ho
    · rw [hb9] at ho
      rw [Bool.and_eq_true] at hb9
      have h8 : mCat rest ≤ 8 := Nat.le_of_ble_eq_true hb9.1
      have hn : n ≤ st.length := Nat.le_of_ble_eq_true hb9.2
      rw [cond_true] at ho
      split at ho
      · next r h1 hr =>
        have hcall := hcl _ _ _ _ hr
        refine mG_run (o1 := (r, h1)) ⟨hcall.1, hcall.2.1⟩ (fun p e R s mth args below meth c Q hC hf hlo ls H locs cells slots hl hH hL hcs hss kk => ?_) (hk _ _ _ _ _ ho)
        obtain ⟨hx, hb, hml, hown, hts, hK, hX, hnm⟩ := id hC
        have hG := mWsGood hw.1
        have hcb : va_CN R s args (mCn M) idx (mNm (mt m')) host (mCc (mt m')) (mNl (mt m')) none (mWs (mt m')) (mRm (mt m') (mTop h1 - mTop h) (mSl h1 - mSl h)) (mTop h1 - mTop h) (mSl h1 - mSl h) n := by
          have h9 := va_cnB (R := R) (own := mCn M) (host := host) (index := idx) (rm := mRm (mt m') (mTop h1 - mTop h) (mSl h1 - mSl h)) (mc := mTop h1 - mTop h) (ms := mSl h1 - mSl h) n hts hG rfl rfl rfl (hnm.2.2 _ hlk) (hts _ hw.2.1) hw.2.2.1 ⟨Nat.le_trans hw.2.2.2.1 hf, Nat.le_trans hw.2.2.2.2 hlo⟩
          rw [hrt] at h9
          exact h9
        refine mRun (rest := rest) (a := (Value.ref a :: (st.take n).reverse).toArray) (va_runIN (As := (st.take n).reverse) (Ts := mTb) ⟨hx, hb, hml, hown, hts⟩ hcall.2.2 ⟨hcb, hy, hts _ hin⟩ ⟨mBlind, mPre hC hH _⟩ rfl (by rw [List.length_reverse, List.length_take]; omega) hl.1 (by rw [List.reverse_reverse, ← hdr]; exact (List.take_append_drop n st).symm) (lv_room h8) hd ⟨hcs, hss⟩) hL kk
      · cases ho
  · cases ho
-- ends
theorem mG_end {l : mL} {h : mH} {r : Option Value} {st : List Value} (hst : st = r.toList) (hd : mDr M pc r) : mGood g lau M pc l st h (r, h) := by
  subst hst
  refine ⟨Nat.le_refl _, Nat.le_refl _, fun p e R s mth args below meth c Q hC hf hlo hR ls H locs cells slots hl hH hL hc hsl => ?_⟩
  exact hR pc ls H locs cells slots hd hH hL (by omega) (by omega)
theorem s_ri (hd : decode (mCc M) pc = .ok (.ireturn, 1)) (hr : mRt M = some .int) : mSnd g lau mt M pc o_ri := by
  intro c k _ hk l st h o ho
  unfold o_ri at ho
  split at ho
  · cases ho
    exact mG_end rfl ⟨hd, Or.inl hr⟩
  · cases ho
theorem s_rz (hd : decode (mCc M) pc = .ok (.ireturn, 1)) (hr : mRt M = some .boolean) : mSnd g lau mt M pc o_rz := by
  intro c k _ hk l st h o ho
  unfold o_rz at ho
  split at ho
  · split at ho
    · next hx =>
      cases ho
      exact mG_end rfl ⟨hd, Or.inr ⟨hr, hx⟩⟩
    · cases ho
  · cases ho
theorem s_rl (hd : decode (mCc M) pc = .ok (.lreturn, 1)) (hr : mRt M = some .long) : mSnd g lau mt M pc o_rl := by
  intro c k _ hk l st h o ho
  unfold o_rl at ho
  split at ho
  · cases ho
    exact mG_end rfl ⟨hd, hr⟩
  · cases ho
theorem s_rv (hd : decode (mCc M) pc = .ok (.return_, 1)) (hr : mRt M = none) : mSnd g lau mt M pc o_rv := by
  intro c k _ hk l st h o ho
  unfold o_rv at ho
  split at ho
  · cases ho
    exact mG_end rfl ⟨hd, hr⟩
  · cases ho
end MCalls
