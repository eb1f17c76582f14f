/-! ===== what a run of the small machine says of the great one ===== -/
/-- the words that last over every call -/
def mTb : List Cond := lw_tbl.filter goodWord
theorem mTb_of {w : Cond} (h : w ∈ lw_tbl) (hg : goodWord w = true) : w ∈ mTb := List.mem_filter.mpr ⟨h, hg⟩
theorem mTb_lw {w : Cond} (h : w ∈ mTb) : w ∈ lw_tbl := (List.mem_filter.mp h).1
theorem mTb_good {w : Cond} (h : w ∈ mTb) : goodWord w = true := (List.mem_filter.mp h).2
/-- those that last in another way: arrays of references, private constructors of nest mates -/
def mNxA : List FieldType := [.object RX5, .object RX6, .array .int]
def mNxM : List (String × Nat × MethodName × String) := [(RX10, 9, yX4_init, RX10), (RX10, 18, yX9_init, RX10), (RX10, 25, yX3_init, RX10), (RX6, 20, yX1_init, RX10), (RX6, 38, yX2_init, RX10), (RX6, 54, yX7_init, RX10), (RX6, 61, yX5_init, RX10), (RX4, 24, yX5_init, RX10)]
def mNw (U : State) : Prop := (∀ t ∈ mNxA, va_Nw (.arrayOver t) U) ∧ ∀ q ∈ mNxM, va_Nw (.methodLinkNest q.1 q.2.1 q.2.2.1 q.2.2.2) U
theorem mAO {t : FieldType} {u U : State} (hvm : u.vm.Alike U.vm) (h : va_Nw (.arrayOver t) u) : va_Nw (.arrayOver t) U := by
  have e := Cond.arrayOver_setVmC (args := #[]) hvm t
  have h2 : (Cond.arrayOver t).before #[] (u.setVm U.vm) = true := by rw [e]; exact h
  exact h2
theorem mNw.warm {u U : State} (hW : u.WarmedH U.vm) (h : mNw u) : mNw U := ⟨fun t ht => mAO hW.alike (h.1 t ht), fun q hq => va_Nw.warmM hW (h.2 q hq)⟩
theorem mNw.same {u U : State} (e : u.vm = U.vm) (h : mNw u) : mNw U := ⟨fun t ht => mAO (by rw [e]; exact Vm.Alike.refl _) (h.1 t ht), fun q hq => va_Nw.same rfl e (h.2 q hq)⟩
/-- a method: its class, its name, its bytes, places for locals, answer's type, frames and locals' words that it may need -/
abbrev mM : Type := String × MethodName × ByteArray × Nat × Option FieldType × Nat × Nat
def mCn (M : mM) : String := M.1
def mNm (M : mM) : MethodName := M.2.1
def mCc (M : mM) : ByteArray := M.2.2.1
def mNl (M : mM) : Nat := M.2.2.2.1
def mRt (M : mM) : Option FieldType := M.2.2.2.2.1
def mFr (M : mM) : Nat := M.2.2.2.2.2.1
def mLo (M : mM) : Nat := M.2.2.2.2.2.2
/-- what holds in a frame of method M -/
def mCx (g : mG) (M : mM) (p : Program) (s : State) (mth : MethodId) (args : Array Value) (meth : Method) (c : Code) : Prop :=
  p.tables.exec = Jvm.exec ∧ c.code = mCc M ∧ c.maxLocals = mNl M ∧ s.vm.findClass (mCn M) = some mth.cls ∧ (∀ w ∈ mTb, w.before args s = true) ∧
  va_K (gD g) mCl (mTys (gA g)) s ∧ va_X (gb g) (gL g) (gx g) s (gH g) ∧ ((mNm M).name = "<init>" → meth.name = "<init>") ∧ mNw s
/-- the instruction at pc gives this answer -/
def mDr (M : mM) (pc : Nat) (r : Option Value) : Prop := match r with
  | some (.int v) => decode (mCc M) pc = .ok (.ireturn, 1) ∧ (mRt M = some .int ∨ (mRt M = some .boolean ∧ (v = 0 ∨ v = 1)))
  | some (.long _) => decode (mCc M) pc = .ok (.lreturn, 1) ∧ mRt M = some .long
  | none => decode (mCc M) pc = .ok (.return_, 1) ∧ mRt M = none
  | _ => False
def mRet (g : mG) (lau : Launch) (M : mM) (p : Program) (e : Env) (R : Room) (s : State) (mth : MethodId) (args : Array Value) (below : List Frame) (meth : Method) (c : Code) (Q : State → Prop) (o : mO) : Prop :=
  ∀ (pc : Nat) (ls : Array Slot) (H : Heap) (locs : List Loc) (cells slots : Nat), mDr M pc o.1 → mHR g o.2 H → (∀ q ∈ locs, gB g ≤ q.base) → cells ≤ R.cells → slots ≤ R.slots →
    W p lau e R s mth args below meth c H locs cells slots Q (F0 mth pc ls o.1.toList)
def mGood (g : mG) (lau : Launch) (M : mM) (pc : Nat) (l : mL) (st : List Value) (h : mH) (o : mO) : Prop :=
  mTop h ≤ mTop o.2 ∧ mSl h ≤ mSl o.2 ∧
  ∀ (p : Program) (e : Env) (R : Room) (s : State) (mth : MethodId) (args : Array Value) (below : List Frame) (meth : Method) (c : Code) (Q : State → Prop), mCx g M p s mth args meth c → mFr M ≤ R.frames → mLo M ≤ R.locals → mRet g lau M p e R s mth args below meth c Q o →
  ∀ (ls : Array Slot) (H : Heap) (locs : List Loc) (cells slots : Nat), mLV ls (mNl M) l → mHR g h H → (∀ q ∈ locs, gB g ≤ q.base) → cells + (mTop o.2 - mTop h) ≤ R.cells → slots + (mSl o.2 - mSl h) ≤ R.slots →
    W p lau e R s mth args below meth c H locs cells slots Q (F0 mth pc ls st)
/-- one step that leaves the heap -/
theorem mG_pure {g : mG} {lau : Launch} {M : mM} {pc pc' : Nat} {l l' : mL} {st st' : List Value} {h : mH} {o : mO}
    (hs : ∀ (p : Program) (e : Env) (R : Room) (s : State) (mth : MethodId) (args : Array Value) (below : List Frame) (meth : Method) (c : Code) (Q : State → Prop), mCx g M p s mth args meth c → mFr M ≤ R.frames → mLo M ≤ R.locals →
      ∀ (ls : Array Slot) (H : Heap) (locs : List Loc) (cells slots : Nat), mLV ls (mNl M) l → mHR g h H →
        (∀ ls' : Array Slot, mLV ls' (mNl M) l' → W p lau e R s mth args below meth c H locs cells slots Q (F0 mth pc' ls' st')) → W p lau e R s mth args below meth c H locs cells slots Q (F0 mth pc ls st))
    (hg : mGood g lau M pc' l' st' h o) : mGood g lau M pc l st h o := by
  refine ⟨hg.1, hg.2.1, fun p e R s mth args below meth c Q hC hf hlo hR ls H locs cells slots hl hH hL hc hsl => ?_⟩
  exact hs p e R s mth args below meth c Q hC hf hlo ls H locs cells slots hl hH (fun ls' hl' => hg.2.2 p e R s mth args below meth c Q hC hf hlo hR ls' H locs cells slots hl' hH hL hc hsl)
/-- one step that writes or makes -/
theorem mG_heap {g : mG} {lau : Launch} {M : mM} {pc pc' : Nat} {l : mL} {st st' : List Value} {h h' : mH} {o : mO} {dc ds : Nat} (h1 : mTop h' = mTop h + dc) (h2 : mSl h' = mSl h + ds)
    (hs : ∀ (p : Program) (e : Env) (R : Room) (s : State) (mth : MethodId) (args : Array Value) (below : List Frame) (meth : Method) (c : Code) (Q : State → Prop), mCx g M p s mth args meth c →
      ∀ (ls : Array Slot) (H : Heap) (locs : List Loc) (cells slots : Nat), mLV ls (mNl M) l → mHR g h H → (∀ q ∈ locs, gB g ≤ q.base) → cells + dc ≤ R.cells → slots + ds ≤ R.slots →
        (∀ (H' : Heap) (locs' : List Loc), mHR g h' H' → (∀ q ∈ locs', gB g ≤ q.base) → W p lau e R s mth args below meth c H' locs' (cells + dc) (slots + ds) Q (F0 mth pc' ls st')) → W p lau e R s mth args below meth c H locs cells slots Q (F0 mth pc ls st))
    (hg : mGood g lau M pc' l st' h' o) : mGood g lau M pc l st h o := by
  obtain ⟨g1, g2, g3⟩ := hg
  refine ⟨by omega, by omega, fun p e R s mth args below meth c Q hC hf hlo hR ls H locs cells slots hl hH hL hc hsl => ?_⟩
  exact hs p e R s mth args below meth c Q hC ls H locs cells slots hl hH hL (by omega) (by omega) (fun H' locs' hH' hL' => g3 p e R s mth args below meth c Q hC hf hlo hR ls H' locs' (cells + dc) (slots + ds) hl hH' hL' (by omega) (by omega))
/-- a call of method M with these arguments, in this heap, ends so -/
def mWs (M : mM) : List Cond := .code (mNm M) (mCc M) (mNl M) (mRt M) :: mTb
def mRm (M : mM) (mc ms : Nat) : Room := { frames := mFr M, cells := mc, slots := ms, locals := mLo M }
def mPc (g : mG) (as : List Value) (h : mH) : Array Value → State → Prop := fun v U => v = as.toArray ∧ mHR g h U.heap ∧ va_K (gD g) mCl (mTys (gA g)) U ∧ va_X (gb g) (gL g) (gx g) U (gH g) ∧ mNw U
def mQc (g : mG) (o : mO) : Array Value → State → Outcome → State → Prop := fun _ _ oc t => oc = .returned o.1 ∧ mHR g o.2 t.heap
def mCall (g : mG) (lau : Launch) (M : mM) (as : List Value) (h : mH) (o : mO) : Prop :=
  mTop h ≤ mTop o.2 ∧ mSl h ≤ mSl o.2 ∧ Met lau (mNm M) (mWs M) (mRm M (mTop o.2 - mTop h) (mSl o.2 - mSl h)) (mPc g as h) (mQc g o) (mTop o.2 - mTop h) (mSl o.2 - mSl h) (fun q => gB g ≤ q)
/-- out of a run of its body -/
theorem mG_call {g : mG} {lau : Launch} {M : mM} {as : List Value} {h : mH} {o : mO} (hp : plainName (mNm M).cls = true) (hcn : (mNm M).cls = mCn M) (hn : (mEn as).length ≤ mNl M) (hg : mGood g lau M 0 (mArgs (mNl M) as) [] h o) : mCall g lau M as h o := by
  obtain ⟨g1, g2, g3⟩ := hg
  refine ⟨g1, g2, ?_⟩
  refine Met.ofW (cc := mCc M) (maxL := mNl M) (ret := mRt M) hp rfl ?_
  intro p e s mth args below meth c s₁ B hml hv
  obtain ⟨rfl, hH, hK, hX, hN⟩ := hv
  have hts := atoms_spec (ws := mWs M) B.pre
  have hown : s.vm.findClass (mCn M) = some mth.cls := by rw [← hcn]; exact findClass_of_methodNamed B.named
  have hlocks := B.notSynchronized
  have hx := B.exec
  have hb := B.bytes
  have hr := B.returns
  have hin : meth.name = (mNm M).name := (name_of_methodNamed B.named B.method).1
  have hl := mLV_entry as hn
  rw [lg_entry_eq]
  generalize (lg_sl as ++ List.replicate (mNl M - (lg_sl as).length) Slot.unset).toArray = ls at hl ⊢
  refine g3 p e (headSpec (mWs M) (mRm M (mTop o.2 - mTop h) (mSl o.2 - mSl h))).room s mth as.toArray below meth c _ ⟨hx, hb, hml, hown, fun w hw => hts w (List.mem_cons_of_mem _ hw), hK, hX, fun h => hin.trans h, hN⟩ (Nat.le_refl _) (Nat.le_refl _) ?_ ls s.heap [] 0 0 hl hH (fun q hq => by cases hq) ?_ ?_
  · intro pc ls H locs cells slots hd hH' hL hc hs
    refine W.widen (k := mTop o.2 - mTop h) (n := mSl o.2 - mSl h) hc hs ?_
    obtain ⟨r, h'⟩ := o
    match r, hd with
    | some (.int v), hd =>
      obtain ⟨hd1, hd2⟩ := hd
      rcases hd2 with hd2 | ⟨hd2, hd3⟩
      · exact W.iret hx hb (hr.trans hd2) (fun t ht _ => ⟨rfl, by rw [ht]; exact hH'⟩) hL hd1
      · exact W.zret hx hb (hr.trans hd2) (by rcases hd3 with rfl | rfl <;> rfl) (fun t ht _ => ⟨rfl, by rw [ht]; exact hH'⟩) hL hd1
    | some (.long v), hd => exact W.lret hx hb (hr.trans hd.2) (fun t ht _ => ⟨rfl, by rw [ht]; exact hH'⟩) hL hd.1
    | none, hd => exact W.vret hx hb (hr.trans hd.2) (fun t ht _ => ⟨rfl, by rw [ht]; exact hH'⟩) hL hd.1
  · rw [Nat.zero_add]
    exact Nat.le_refl _
  · rw [Nat.zero_add]
    exact Nat.le_refl _
/-- an operation at pc of M is sound -/
def mSnd (g : mG) (lau : Launch) (mt : Nat → mM) (M : mM) (pc : Nat) (op : mOp) : Prop :=
  ∀ (c : mC) (k : mK), (∀ m a h o, c m a h = some o → mCall g lau (mt m) a h o) → (∀ pc l st h o, k pc l st h = some o → mGood g lau M pc l st h o) → ∀ l st h o, op c k l st h = some o → mGood g lau M pc l st h o
theorem s_no {g : mG} {lau : Launch} {mt : Nat → mM} {M : mM} {pc : Nat} : mSnd g lau mt M pc o_no := fun c k _ _ l st h o ho => by cases ho
theorem s_bif {g : mG} {lau : Launch} {mt : Nat → mM} {M : mM} {pc : Nat} {b : Bool} {x y : mOp} (hx : mSnd g lau mt M pc x) (hy : mSnd g lau mt M pc y) : mSnd g lau mt M pc (bif b then x else y) := by
  cases b
  · exact hy
  · exact hx
theorem s_leaf {g : mG} {lau : Launch} {mt : Nat → mM} {M : mM} {pc q : Nat} {x : mOp} (hx : mSnd g lau mt M q x) : mSnd g lau mt M pc (bif Nat.beq pc q then x else o_no) := by
  cases hb : Nat.beq pc q
  · exact s_no
  · have := Nat.eq_of_beq_eq_true hb
    subst this
    exact hx
