/-! ===== the small machine beside the great one ===== -/
def mTy : Nat → Nat → FieldType := fun t k => match t with
  | 1 => tyX0 k
  | 2 => tyX1 k
  | 3 => tyX2 k
  | 4 => tyX3 k
  | 5 => tyX4 k
  | 6 => tyX5 k
  | 7 => tyX6 k
  | 8 => tyX7 k
  | 9 => tyX8 k
  | 10 => tyX9 k
  | 11 => tyX10 k
  | 12 => tyX11 k
  | 20 => .int
  | 21 => .boolean
  | 22 => .long
  | 23 => .object RX5
  | 24 => .object RX6
  | _ => .array .int
def mVal (ty : FieldType) (i : Int32) (j : Int64) (p : Option Nat) : Value := match ty with
  | .long => .long j
  | .object _ => va_rf p
  | .array _ => va_rf p
  | _ => .int i
def mV (h : mH) (a k : Nat) : Value := mVal (mTy (mTg h a) k) (mI h a k) (mJ h a k) (mP h a k)
abbrev mCl : List vw_C := [(RX0, TX0, 4), (RX1, TX1, 2), (RX2, TX2, 3), (RX3, TX3, 2), (RX4, TX4, 3), (RX5, TX5, 9), (RX6, TX6, 18), (RX7, TX7, 3), (RX8, TX8, 4), (RX9, TX9, 4), (RX10, TX10, 12), (RX11, TX11, 53)]
/-- array classes by tag less 20 -/
abbrev mTys (dA : Nat → ClassId) : List (ClassId × FieldType) := [(dA 20, .int), (dA 21, .boolean), (dA 22, .long), (dA 23, .object RX5), (dA 24, .object RX6), (dA 25, .array .int)]
/-- what is fixed for the whole run: the classes' numbers and slots, the arrays' classes, where the new cells begin, where the script lies, its length, its ints, the heap at the start -/
abbrev mG : Type := va_G × (Nat → ClassId) × Nat × Nat × Nat × (Nat → Int32) × Heap
def gD (g : mG) : va_G := g.1
def gA (g : mG) : Nat → ClassId := g.2.1
def gB (g : mG) : Nat := g.2.2.1
def gb (g : mG) : Nat := g.2.2.2.1
def gL (g : mG) : Nat := g.2.2.2.2.1
def gx (g : mG) : Nat → Int32 := g.2.2.2.2.2.1
def gH (g : mG) : Heap := g.2.2.2.2.2.2
/-- the cell at a is as the small heap says -/
def mCR (g : mG) (h : mH) (H : Heap) (a : Nat) : Prop :=
  (∀ r : vw_C, mTg h a ≤ 12 → mCl[mTg h a - 1]? = some r → t_OB a ((gD g).1 (mTg h a - 1)) r.2.2 ((gD g).2 (mTg h a - 1)) H (mV h a)) ∧
  (20 ≤ mTg h a → H[a]? = some (arrV (gA g (mTg h a)) (mLn h a) (mV h a)))
def mHR (g : mG) (h : mH) (H : Heap) : Prop :=
  H.size = mTop h ∧ gB g ≤ mTop h ∧ gb g < gB g ∧ (∀ q : Nat, q < gB g → H[q]? = (gH g)[q]?) ∧
  ∀ a : Nat, mTg h a ≠ 0 → (a = gb g ∧ mTg h a = 30 ∧ mLn h a = gL g ∧ mI h a = gx g) ∨ (mTg h a < 30 ∧ gB g ≤ a ∧ a < mTop h ∧ mCR g h H a)
theorem mHR.in {g : mG} {h : mH} {H : Heap} (R : mHR g h H) {a t : Nat} (ht : mTg h a = t) (h0 : t ≠ 0) (h30 : t ≠ 30) : gB g ≤ a ∧ a < mTop h ∧ mCR g h H a := by
  rcases R.2.2.2.2 a (by rw [ht]; exact h0) with ⟨-, h2, -⟩ | ⟨-, h2⟩
  · exact absurd (ht.symm.trans h2) h30
  · exact h2
theorem mHR.obj {g : mG} {h : mH} {H : Heap} (R : mHR g h H) {a t : Nat} (ht : mTg h a = t + 1) (h12 : t < 12) {r : vw_C} (hr : mCl[t]? = some r) : t_OB a ((gD g).1 t) r.2.2 ((gD g).2 t) H (mV h a) := by
  have h1 := (R.in ht (by omega) (by omega)).2.2.1 r (by omega)
  rw [ht] at h1
  exact h1 hr
theorem mHR.arr {g : mG} {h : mH} {H : Heap} (R : mHR g h H) {a t : Nat} (ht : mTg h a = t) (h20 : 20 ≤ t) (h30 : t ≠ 30) : H[a]? = some (arrV (gA g t) (mLn h a) (mV h a)) := by
  have h1 := (R.in ht (by omega) h30).2.2.2 (by omega)
  rw [ht] at h1
  exact h1
theorem mHR.base {g : mG} {h : mH} {H : Heap} (R : mHR g h H) {a t : Nat} (ht : mTg h a = t) (h0 : t ≠ 0) (h30 : t ≠ 30) : gB g ≤ a := (R.in ht h0 h30).1
-- the small heap's own words
theorem mTop_wI {h : mH} {a k : Nat} {v : Int32} : mTop (wI h a k v) = mTop h := rfl
theorem mSl_wI {h : mH} {a k : Nat} {v : Int32} : mSl (wI h a k v) = mSl h := rfl
theorem mTg_wI {h : mH} {a k : Nat} {v : Int32} : mTg (wI h a k v) = mTg h := rfl
theorem mLn_wI {h : mH} {a k : Nat} {v : Int32} : mLn (wI h a k v) = mLn h := rfl
theorem mI_wI {h : mH} {a k : Nat} {v : Int32} {b j : Nat} : mI (wI h a k v) b j = if b = a ∧ j = k then v else mI h b j := rfl
theorem mJ_wI {h : mH} {a k : Nat} {v : Int32} : mJ (wI h a k v) = mJ h := rfl
theorem mP_wI {h : mH} {a k : Nat} {v : Int32} : mP (wI h a k v) = mP h := rfl
theorem mTop_wJ {h : mH} {a k : Nat} {v : Int64} : mTop (wJ h a k v) = mTop h := rfl
theorem mSl_wJ {h : mH} {a k : Nat} {v : Int64} : mSl (wJ h a k v) = mSl h := rfl
theorem mTg_wJ {h : mH} {a k : Nat} {v : Int64} : mTg (wJ h a k v) = mTg h := rfl
theorem mLn_wJ {h : mH} {a k : Nat} {v : Int64} : mLn (wJ h a k v) = mLn h := rfl
theorem mI_wJ {h : mH} {a k : Nat} {v : Int64} : mI (wJ h a k v) = mI h := rfl
theorem mJ_wJ {h : mH} {a k : Nat} {v : Int64} {b j : Nat} : mJ (wJ h a k v) b j = if b = a ∧ j = k then v else mJ h b j := rfl
theorem mP_wJ {h : mH} {a k : Nat} {v : Int64} : mP (wJ h a k v) = mP h := rfl
theorem mTop_wP {h : mH} {a k : Nat} {v : Option Nat} : mTop (wP h a k v) = mTop h := rfl
theorem mSl_wP {h : mH} {a k : Nat} {v : Option Nat} : mSl (wP h a k v) = mSl h := rfl
theorem mTg_wP {h : mH} {a k : Nat} {v : Option Nat} : mTg (wP h a k v) = mTg h := rfl
theorem mLn_wP {h : mH} {a k : Nat} {v : Option Nat} : mLn (wP h a k v) = mLn h := rfl
theorem mI_wP {h : mH} {a k : Nat} {v : Option Nat} : mI (wP h a k v) = mI h := rfl
theorem mJ_wP {h : mH} {a k : Nat} {v : Option Nat} : mJ (wP h a k v) = mJ h := rfl
theorem mP_wP {h : mH} {a k : Nat} {v : Option Nat} {b j : Nat} : mP (wP h a k v) b j = if b = a ∧ j = k then v else mP h b j := rfl
theorem mTop_wN {h : mH} {t n : Nat} : mTop (wN h t n) = mTop h + 1 := rfl
theorem mSl_wN {h : mH} {t n : Nat} : mSl (wN h t n) = mSl h + n := rfl
theorem mTg_wN {h : mH} {t n a : Nat} : mTg (wN h t n) a = if a = mTop h then t else mTg h a := rfl
theorem mLn_wN {h : mH} {t n a : Nat} : mLn (wN h t n) a = if a = mTop h then n else mLn h a := rfl
theorem mI_wN {h : mH} {t n a : Nat} : mI (wN h t n) a = if a = mTop h then (fun _ => 0) else mI h a := rfl
theorem mJ_wN {h : mH} {t n a : Nat} : mJ (wN h t n) a = if a = mTop h then (fun _ => 0) else mJ h a := rfl
theorem mP_wN {h : mH} {t n a : Nat} : mP (wN h t n) a = if a = mTop h then (fun _ => none) else mP h a := rfl
/-- one cell's contents have changed, at one place -/
theorem mHR.put {g : mG} {h h' : mH} {H H' : Heap} {a t : Nat} (R : mHR g h H) (ht : mTg h a = t) (h0 : t ≠ 0) (h30 : t ≠ 30)
    (e1 : mTop h' = mTop h) (e2 : mTg h' = mTg h) (e3 : mLn h' = mLn h) (e4 : ∀ b, b ≠ a → mI h' b = mI h b) (e5 : ∀ b j, b ≠ a → mV h' b j = mV h b j)
    (hz : H'.size = H.size) (oq : ∀ q : Nat, q ≠ a → H'[q]? = H[q]?) (hc : mCR g h' H' a) : mHR g h' H' := by
  obtain ⟨r1, r2, r3, r4, r5⟩ := id R
  have hb := (R.in ht h0 h30)
  refine ⟨by rw [hz, r1, e1], by rw [e1]; exact r2, r3, fun q hq => ?_, fun b hb0 => ?_⟩
  · rw [oq q (by omega)]
    exact r4 q hq
  · rw [e2] at hb0
    rcases r5 b hb0 with ⟨x1, x2, x3, x4⟩ | ⟨x1, x2, x3, x4⟩
    · have hne : b ≠ a := by
        intro e
        rw [e] at x1
        omega
      exact Or.inl ⟨x1, by rw [e2]; exact x2, by rw [e3]; exact x3, by rw [e4 b hne]; exact x4⟩
    · refine Or.inr ⟨by rw [e2]; exact x1, x2, by rw [e1]; exact x3, ?_⟩
      by_cases hne : b = a
      · subst hne
        exact hc
      · have hv : mV h' b = mV h b := funext fun j => e5 b j hne
        refine ⟨fun r hr1 hr2 => ?_, fun h20 => ?_⟩
        · rw [e2] at hr1 hr2 ⊢
          rw [hv]
          exact (x4.1 r hr1 hr2).kept (oq b hne)
        · rw [e2] at h20 ⊢
          rw [e3, hv, oq b hne]
          exact x4.2 h20
/-- a new cell at the top -/
theorem mHR.push {g : mG} {h : mH} {H H' : Heap} {t n : Nat} (R : mHR g h H) (ht : t < 30) (hz : H'.size = mTop h + 1) (oq : ∀ q : Nat, q < mTop h → H'[q]? = H[q]?) (hc : mCR g (wN h t n) H' (mTop h)) : mHR g (wN h t n) H' := by
  obtain ⟨r1, r2, r3, r4, r5⟩ := id R
  refine ⟨hz, by rw [mTop_wN]; omega, r3, fun q hq => ?_, fun b hb0 => ?_⟩
  · rw [oq q (by omega)]
    exact r4 q hq
  · by_cases hb : b = mTop h
    · subst hb
      exact Or.inr ⟨by rw [mTg_wN, if_pos rfl]; exact ht, r2, by rw [mTop_wN]; omega, hc⟩
    · have q1 : mTg (wN h t n) b = mTg h b := by rw [mTg_wN, if_neg hb]
      have q2 : mLn (wN h t n) b = mLn h b := by rw [mLn_wN, if_neg hb]
      have q3 : mI (wN h t n) b = mI h b := by rw [mI_wN, if_neg hb]
      have q4 : mJ (wN h t n) b = mJ h b := by rw [mJ_wN, if_neg hb]
      have q5 : mP (wN h t n) b = mP h b := by rw [mP_wN, if_neg hb]
      have q6 : mV (wN h t n) b = mV h b := funext fun j => by unfold mV; rw [q1, q3, q4, q5]
      rw [q1] at hb0
      rcases r5 b hb0 with ⟨x1, x2, x3, x4⟩ | ⟨x1, x2, x3, x4⟩
      · exact Or.inl ⟨x1, by rw [q1]; exact x2, by rw [q2]; exact x3, by rw [q3]; exact x4⟩
      · refine Or.inr ⟨by rw [q1]; exact x1, x2, by rw [mTop_wN]; omega, ⟨fun r hr1 hr2 => ?_, fun h20 => ?_⟩⟩
        · rw [q1] at hr1 hr2 ⊢
          rw [q6]
          exact (x4.1 r hr1 hr2).kept (oq b x3)
        · rw [q1] at h20 ⊢
          rw [q2, q6, oq b x3]
          exact x4.2 h20
-- locals
def mLV (ls : Array Slot) (nL : Nat) (l : mL) : Prop := ls.size = nL ∧ lv_wf ls ∧ l.length = nL ∧ ∀ (i : Nat) (v : Value), l[i]? = some (some v) → ls[i]? = some (.val v)
def mAs (l : mL) : List (Nat × Value) := (List.range l.length).filterMap (fun i => match l[i]? with
  | some (some v) => some (i, v)
  | _ => none)
theorem mAs_in {l : mL} {i : Nat} {v : Value} : (i, v) ∈ mAs l ↔ l[i]? = some (some v) := by
  unfold mAs
  rw [List.mem_filterMap]
  constructor
  · rintro ⟨j, -, hj⟩
    split at hj
    · next w hw =>
      cases hj
      exact hw
    · cases hj
  · intro h
    refine ⟨i, List.mem_range.mpr (List.getElem?_eq_some_iff.mp h).1, ?_⟩
    rw [h]
theorem mLV.has {ls : Array Slot} {nL : Nat} {l : mL} (h : mLV ls nL l) : lv_has ls nL (mAs l) := ⟨h.1, h.2.1, fun q hq => h.2.2.2 q.1 q.2 (mAs_in.mp hq)⟩
theorem mFree_spec {l : mL} {i j : Nat} {v : Value} (h : mFree l i = true) (hj : j + 1 = i) (hv : l[j]? = some (some v)) : ¬ v.category = 2 := by
  subst hj
  simp only [mFree, hv] at h
  cases v <;> simp_all [Value.category]
theorem mLV.set1 {ls ls' : Array Slot} {nL : Nat} {l : mL} {i : Nat} {v : Value} (h : mLV ls nL l) (hf : mFree l i = true) (hi : i < l.length) (h' : lv_has ls' nL ((i, v) :: (mAs l).filter (fun q => !(q.1 == i) && !(q.1 + 1 == i && q.2.category == 2)))) : mLV ls' nL (l.set i (some v)) := by
  refine ⟨h'.1, h'.2.1, by rw [List.length_set]; exact h.2.2.1, fun j w hj => ?_⟩
  by_cases hji : j = i
  · subst hji
    rw [List.getElem?_set_self hi] at hj
    cases hj
    exact h'.2.2 (j, v) List.mem_cons_self
  · rw [List.getElem?_set_ne (Ne.symm hji)] at hj
    refine h'.2.2 (j, w) (List.mem_cons_of_mem _ (List.mem_filter.mpr ⟨mAs_in.mpr hj, ?_⟩))
    have h3 : ¬ (j + 1 = i ∧ w.category = 2) := fun q => mFree_spec hf q.1 hj q.2
    simp only [Bool.and_eq_true, Bool.not_eq_true', beq_eq_false_iff_ne, ne_eq, Bool.and_eq_false_iff]
    exact ⟨hji, by
      by_cases e1 : j + 1 = i
      · exact Or.inr fun e2 => h3 ⟨e1, e2⟩
      · exact Or.inl e1⟩
theorem mLV.set2 {ls ls' : Array Slot} {nL : Nat} {l : mL} {i : Nat} {v : Value} (h : mLV ls nL l) (hf : mFree l i = true) (hi : i + 1 < l.length) (h' : lv_has ls' nL ((i, v) :: (mAs l).filter (fun q => !(q.1 == i) && (!(q.1 == i + 1) && !(q.1 + 1 == i && q.2.category == 2))))) : mLV ls' nL ((l.set i (some v)).set (i + 1) none) := by
  refine ⟨h'.1, h'.2.1, by rw [List.length_set, List.length_set]; exact h.2.2.1, fun j w hj => ?_⟩
  by_cases hj1 : j = i + 1
  · subst hj1
    rw [List.getElem?_set_self (by rw [List.length_set]; exact hi)] at hj
    cases hj
  · rw [List.getElem?_set_ne (Ne.symm hj1)] at hj
    by_cases hji : j = i
    · subst hji
      rw [List.getElem?_set_self (by omega)] at hj
      cases hj
      exact h'.2.2 (j, v) List.mem_cons_self
    · rw [List.getElem?_set_ne (Ne.symm hji)] at hj
      refine h'.2.2 (j, w) (List.mem_cons_of_mem _ (List.mem_filter.mpr ⟨mAs_in.mpr hj, ?_⟩))
      have h3 : ¬ (j + 1 = i ∧ w.category = 2) := fun q => mFree_spec hf q.1 hj q.2
      simp only [Bool.and_eq_true, Bool.not_eq_true', beq_eq_false_iff_ne, ne_eq, Bool.and_eq_false_iff]
      exact ⟨hji, hj1, by
        by_cases e1 : j + 1 = i
        · exact Or.inr fun e2 => h3 ⟨e1, e2⟩
        · exact Or.inl e1⟩
theorem mEn_args : ∀ (vs : List Value) (i j : Nat) (v : Value), (mEn vs)[j]? = some (some v) → (i + j, v) ∈ lv_args i vs
  | [], i, j, v, h => by simp [mEn] at h
  | w :: vs, i, j, v, h => by
    unfold mEn at h
    unfold lv_args
    by_cases hc : w.category = 2
    · rw [if_pos hc] at h ⊢
      match j, h with
      | 0, h => cases h; exact List.mem_cons_self
      | 1, h => cases h
      | j + 2, h =>
        have := mEn_args vs (i + 2) j v h
        rw [show i + (j + 2) = i + 2 + j by omega]
        exact List.mem_cons_of_mem _ this
    · rw [if_neg hc] at h ⊢
      match j, h with
      | 0, h => cases h; exact List.mem_cons_self
      | j + 1, h =>
        have := mEn_args vs (i + 1) j v h
        rw [show i + (j + 1) = i + 1 + j by omega]
        exact List.mem_cons_of_mem _ this
theorem mEn_len : ∀ vs : List Value, (mEn vs).length = (lg_sl vs).length
  | [] => rfl
  | w :: vs => by
    have := mEn_len vs
    unfold mEn
    by_cases hc : w.category = 2
    · rw [if_pos hc]
      simp [lg_sl, hc] at this ⊢
      omega
    · rw [if_neg hc]
      simp [lg_sl, hc] at this ⊢
      omega
theorem mLV_entry (vs : List Value) {n : Nat} (h : (mEn vs).length ≤ n) : mLV ((lg_sl vs ++ List.replicate (n - (lg_sl vs).length) Slot.unset).toArray) n (mArgs n vs) := by
  have h1 := lv_entry vs (n := n) (by rw [← mEn_len]; exact h)
  refine ⟨h1.1, h1.2.1, by unfold mArgs; rw [List.length_append, List.length_replicate]; omega, fun i v hi => ?_⟩
  unfold mArgs at hi
  by_cases hl : i < (mEn vs).length
  · rw [List.getElem?_append_left hl] at hi
    have := mEn_args vs 0 i v hi
    rw [Nat.zero_add] at this
    exact h1.2.2 (i, v) this
  · rw [List.getElem?_append_right (by omega), List.getElem?_replicate] at hi
    split at hi <;> cases hi
