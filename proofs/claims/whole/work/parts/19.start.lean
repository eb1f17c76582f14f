/-! ===== the claim out of a run of the small machine ===== -/
/-- the small heap at the law's entry: nothing but the script -/
def mH0 (B b L : Nat) (xs : Nat → Int32) : mH := (B, 0, fun a => if a = b then 30 else 0, fun _ => L, fun _ => xs, fun _ _ => 0, fun _ _ => none)
/-- WHAT IS LEFT: the small machine's run of the law ends with 1, within the room -/
def mMain : Prop := ∀ (B b L : Nat) (xs : Nat → Int32), b < B → L ≤ 322 → ∃ (n : Nat) (h : mH), mEx n 146 0 [some (.ref b), none, none, none] [] (mH0 B b L xs) = some (some (.int 1), h) ∧ mTop h ≤ B + 600000 ∧ mSl h ≤ 7302250
theorem mArr1 {s : State} {A : Array Value} {ty : FieldType} (h : (Cond.arrayClass ty).before A s = true) : ∃ c : ClassId, ArrOfT s c ty ∧ s.vm.findClass ("[" ++ ty.toString) = some c := by
  obtain ⟨c, k, comp, h1, h2, h3⟩ := Cond.arrayClass_spec h
  exact ⟨c, fun n z => ⟨(fun q h => by cases h), k, h2, comp, h3⟩, h1⟩
theorem mArr2 {s : State} {C : String} (h : va_Nw (.arrayOver (.object C)) s) : ∃ c : ClassId, ArrOfT s c (.object C) ∧ va_RA s c (.object C) := by
  obtain ⟨comp, c, k, h1, h2, h3, h4, h5⟩ := Cond.arrayOver_spec h
  exact ⟨c, fun n z => ⟨(fun q h => by cases h), k, h3, comp, h4⟩, k, comp, h3, h4, h1, h5⟩
theorem mArr3 {s : State} {ty : FieldType} (h : va_Nw (.arrayOver (.array ty)) s) : ∃ c : ClassId, ArrOfT s c (.array ty) ∧ s.vm.findClass ("[" ++ (FieldType.array ty).toString) = some c := by
  obtain ⟨comp, c, k, h1, h2, h3, h4⟩ := Cond.arrayOver_specA h
  exact ⟨c, fun n z => ⟨(fun q h => by cases h), k, h2, comp, h3⟩, h4⟩
def R_law : String := "RoundVotesLaw"
def lw_P (b : Addr) (xs : List Int32) (args : Array Value) (s : State) : Prop := args = #[.ref b] ∧ s.IntsAt b xs ∧ xs.length ≤ 322 ∧ (Jvm.Cond.and given_1 narrow_1).before args s = true
def lw_Q (_ : Array Value) (s : State) (o : Outcome) (t : State) : Prop := o = .returned (some (.int 1)) ∧ Framed s o t [] 600000 7302250
def lw_Z (below : List Frame) (a : Array Value) (s : State) : State → Prop := fun t => ∃ o, t.status = .running ∧ Ended t below o ∧ lw_Q a s o t
/-- the law's own end, with 1 on the stack, nothing written that was there before, its room as the claim has it -/
theorem lw_ret {p : Program} {l : Launch} {e : Env} {s : State} {m : MethodId} {below : List Frame} {meth : Method} {c : Code} {b : Nat} (hx : p.tables.exec = Jvm.exec) (hb : c.code = code) (hr : meth.sig.returnType = ret) (hlocks : meth.locks = false) {pc : Nat} {H : Heap} {ls : Array Slot} (hdg : decode code pc = .ok (.ireturn, 1)) : W p l e room_1 s m #[Value.ref b] below meth c H [] 600000 7302250 (lw_Z below #[Value.ref b] s) (F0 m pc ls [.int 1]) := by
  intro T hT X
  obtain ⟨fs, hret, hrun, hended, hW, hframe⟩ := X.leave (v := some (.int 1)) (hlocks := hlocks) (fun h => by rw [hr] at h; cases h)
  have hmeth' : T.vm.method? m = some meth := X.method'
  refine ⟨T.setFrames fs, ?_, .returned (some (.int 1)), hrun, hended, rfl, ⟨_, rfl⟩, hW, hframe⟩
  jvm_step X.here [X.here.top, hx, hb, hdg, hmeth', hr, ret, narrow_b1]
  (try refine ⟨rfl, ?_⟩); (try refine ⟨rfl, ?_⟩)
  first | (intro acts; rw [hret _ acts rfl rfl rfl]) | rw [hret _ _ rfl rfl rfl]
  exact Steps.refl _
/-- what holds at the law's entry: the machine, the code, the tables' words (any of lw_tbl by 'hts w (by decide +kernel)'), the script of L ints xs at the cell b, what the Statement gives of the start (any of its parts by flat_of_before) -/
def lw_At (p : Program) (s : State) (m : MethodId) (meth : Method) (c : Code) (b L : Nat) (xs : Nat → Int32) : Prop :=
  p.tables.exec = Jvm.exec ∧ c.code = code ∧ meth.sig.returnType = ret ∧ c.maxLocals = 4 ∧ s.vm.findClass R_law = some m.cls ∧ (∀ w ∈ lw_tbl, w.before #[Value.ref b] s = true) ∧ va_X b L xs s s.heap ∧ b < s.heap.size ∧ meth.locks = false ∧ (Jvm.Cond.and given_1 narrow_1).before #[Value.ref b] s = true
theorem mNw_of {A : Array Value} {s : State} (hts : ∀ w ∈ lw_tbl, w.before A s = true) : mNw s := by
  refine ⟨?_, ?_⟩
  · refine List.forall_mem_cons.mpr ⟨?_, List.forall_mem_cons.mpr ⟨?_, List.forall_mem_cons.mpr ⟨?_, fun _ h => absurd h List.not_mem_nil⟩⟩⟩
    · exact hts (.arrayOver (FieldType.object RX5)) (List.mem_of_getElem? (i := 95) (by decide +kernel))
    · exact hts (.arrayOver (FieldType.object RX6)) (List.mem_of_getElem? (i := 182) (by decide +kernel))
    · exact hts (.arrayOver (FieldType.array .int)) (List.mem_of_getElem? (i := 159) (by decide +kernel))
  · refine List.forall_mem_cons.mpr ⟨?_, List.forall_mem_cons.mpr ⟨?_, List.forall_mem_cons.mpr ⟨?_, List.forall_mem_cons.mpr ⟨?_, List.forall_mem_cons.mpr ⟨?_, List.forall_mem_cons.mpr ⟨?_, List.forall_mem_cons.mpr ⟨?_, List.forall_mem_cons.mpr ⟨?_, fun _ h => absurd h List.not_mem_nil⟩⟩⟩⟩⟩⟩⟩⟩
    · exact va_Nw.of rfl (hts _ (List.mem_of_getElem? (i := 90) (by decide +kernel)))
    · exact va_Nw.of rfl (hts _ (List.mem_of_getElem? (i := 111) (by decide +kernel)))
    · exact va_Nw.of rfl (hts _ (List.mem_of_getElem? (i := 134) (by decide +kernel)))
    · exact va_Nw.of rfl (hts _ (List.mem_of_getElem? (i := 190) (by decide +kernel)))
    · exact va_Nw.of rfl (hts _ (List.mem_of_getElem? (i := 207) (by decide +kernel)))
    · exact va_Nw.of rfl (hts _ (List.mem_of_getElem? (i := 251) (by decide +kernel)))
    · exact va_Nw.of rfl (hts _ (List.mem_of_getElem? (i := 272) (by decide +kernel)))
    · exact va_Nw.of rfl (hts _ (List.mem_of_getElem? (i := 569) (by decide +kernel)))
set_option maxHeartbeats 4000000 in
/-- the law's walk, out of the small machine's run -/
theorem start_of_main (hM : mMain) {p : Program} {e : Env} {s : State} {m : MethodId} {below : List Frame} {meth : Method} {c : Code} (l : Launch) {b L : Nat} {xs : Nat → Int32} (hL : L ≤ 322) (C0 : lw_At p s m meth c b L xs) : W p l e room_1 s m #[Value.ref b] below meth c s.heap [] 0 0 (lw_Z below #[Value.ref b] s) (entryFrame m ([Value.ref b] : List Value).toArray 4) := by
  obtain ⟨hx, hb, hr, hml, hown, hts, hX, hbl, hlocks, hgv⟩ := id C0
  have htm : ∀ w ∈ mTb, w.before #[Value.ref b] s = true := fun w hw => hts w (mTb_lw hw)
  have hN : mNw s := mNw_of hts
  obtain ⟨c0, iS0, hKn0⟩ := u_known (C := RX0) (T := TX0) (N := 4) (n := 4) htm inX0 (htm (.instantiable RX0 4) tb_164)
  obtain ⟨c1, iS1, hKn1⟩ := u_known (C := RX1) (T := TX1) (N := 2) (n := 2) htm inX1 (htm (.instantiable RX1 2) tb_124)
  obtain ⟨c2, iS2, hKn2⟩ := u_known (C := RX2) (T := TX2) (N := 3) (n := 3) htm inX2 (htm (.instantiable RX2 3) tb_141)
  obtain ⟨c3, iS3, hKn3⟩ := u_known (C := RX3) (T := TX3) (N := 2) (n := 2) htm inX3 (htm (.instantiable RX3 2) tb_68)
  obtain ⟨c4, iS4, hKn4⟩ := u_known (C := RX4) (T := TX4) (N := 3) (n := 3) htm inX4 (htm (.instantiable RX4 3) tb_24)
  obtain ⟨c5, iS5, hKn5⟩ := u_known (C := RX5) (T := TX5) (N := 9) (n := 9) htm inX5 (htm (.instantiable RX5 9) tb_206)
  obtain ⟨c6, iS6, hKn6⟩ := u_known (C := RX6) (T := TX6) (N := 18) (n := 18) htm inX6 (htm (.instantiable RX6 18) tb_118)
  obtain ⟨c7, iS7, hKn7⟩ := u_known (C := RX7) (T := TX7) (N := 3) (n := 3) htm inX7 (htm (.instantiable RX7 3) tb_185)
  obtain ⟨c8, iS8, hKn8⟩ := u_known (C := RX8) (T := TX8) (N := 4) (n := 4) htm inX8 (htm (.instantiable RX8 4) tb_82)
  obtain ⟨c9, iS9, hKn9⟩ := u_known (C := RX9) (T := TX9) (N := 4) (n := 4) htm inX9 (htm (.instantiable RX9 4) tb_45)
  obtain ⟨c10, iS10, hKn10⟩ := u_known (C := RX10) (T := TX10) (N := 12) (n := 12) htm inX10 (htm (.instantiable RX10 12) tb_16)
  obtain ⟨c11, iS11, hKn11⟩ := u_known (C := RX11) (T := TX11) (N := 53) (n := 53) htm inX11 (htm (.instantiable RX11 53) tb_700)
  obtain ⟨a0, x0, y0⟩ := mArr1 (htm (.arrayClass .int) tb_66)
  obtain ⟨a1, x1, y1⟩ := mArr1 (htm (.arrayClass .boolean) tb_162)
  obtain ⟨a2, x2, y2⟩ := mArr1 (htm (.arrayClass .long) tb_882)
  obtain ⟨a3, x3, y3⟩ := mArr2 (hN.1 (.object RX5) (List.mem_of_getElem? (i := 0) rfl))
  obtain ⟨a4, x4, y4⟩ := mArr2 (hN.1 (.object RX6) (List.mem_of_getElem? (i := 1) rfl))
  obtain ⟨a5, x5, y5⟩ := mArr3 (hN.1 (.array .int) (List.mem_of_getElem? (i := 2) rfl))
  obtain ⟨dC, eC⟩ : ∃ f : Nat → ClassId, f = fun k => [c0, c1, c2, c3, c4, c5, c6, c7, c8, c9, c10, c11].getD k c0 := ⟨_, rfl⟩
  obtain ⟨dI, eI⟩ : ∃ f : Nat → Nat → Nat, f = fun k => [iS0, iS1, iS2, iS3, iS4, iS5, iS6, iS7, iS8, iS9, iS10, iS11].getD k iS0 := ⟨_, rfl⟩
  obtain ⟨dA, eA⟩ : ∃ f : Nat → ClassId, f = fun k => [a0, a1, a2, a3, a4, a5].getD (k - 20) a0 := ⟨_, rfl⟩
  have hK : va_K (dC, dI) mCl (mTys dA) s := by
    refine ⟨fun k q hq => ?_, fun k q hq => ?_⟩
    · match k, hq with
      | 0, hq => cases hq; rw [eC, eI]; exact hKn0
      | 1, hq => cases hq; rw [eC, eI]; exact hKn1
      | 2, hq => cases hq; rw [eC, eI]; exact hKn2
      | 3, hq => cases hq; rw [eC, eI]; exact hKn3
      | 4, hq => cases hq; rw [eC, eI]; exact hKn4
      | 5, hq => cases hq; rw [eC, eI]; exact hKn5
      | 6, hq => cases hq; rw [eC, eI]; exact hKn6
      | 7, hq => cases hq; rw [eC, eI]; exact hKn7
      | 8, hq => cases hq; rw [eC, eI]; exact hKn8
      | 9, hq => cases hq; rw [eC, eI]; exact hKn9
      | 10, hq => cases hq; rw [eC, eI]; exact hKn10
      | 11, hq => cases hq; rw [eC, eI]; exact hKn11
      | k + 12, hq => simp at hq
    · match k, hq with
      | 0, hq => cases hq; rw [eA]; exact ⟨x0, y0⟩
      | 1, hq => cases hq; rw [eA]; exact ⟨x1, y1⟩
      | 2, hq => cases hq; rw [eA]; exact ⟨x2, y2⟩
      | 3, hq => cases hq; rw [eA]; exact ⟨x3, y3⟩
      | 4, hq => cases hq; rw [eA]; exact ⟨x4, y4⟩
      | 5, hq => cases hq; rw [eA]; exact ⟨x5, y5⟩
      | k + 6, hq => simp at hq
  obtain ⟨g, hg⟩ : ∃ g : mG, g = ((dC, dI), dA, s.heap.size, b, L, xs, s.heap) := ⟨_, rfl⟩
  have hC : mCx g mm146 p s m #[Value.ref b] meth c := by
    rw [hg]
    exact ⟨hx, hb, hml, hown, htm, hK, hX, fun h => absurd h (by decide), hN⟩
  have hH : mHR g (mH0 s.heap.size b L xs) s.heap := by
    rw [hg]
    refine ⟨rfl, Nat.le_refl _, hbl, fun _ _ => rfl, fun a ha => ?_⟩
    have ha2 : (if a = b then 30 else 0) ≠ 0 := ha
    by_cases hab : a = b
    · subst hab
      exact Or.inl ⟨rfl, if_pos rfl, rfl, rfl⟩
    · rw [if_neg hab] at ha2
      exact absurd rfl ha2
  obtain ⟨n, h, hrun, ht, hs⟩ := hM s.heap.size b L xs hbl hL
  have hgd := mEx_good (g := g) (lau := l) n 146 0 _ _ _ _ hrun
  have hl := mLV_entry [Value.ref b] (n := 4) (Nat.le_of_ble_eq_true rfl)
  rw [lg_entry_eq]
  generalize (lg_sl [Value.ref b] ++ List.replicate (4 - (lg_sl [Value.ref b]).length) Slot.unset).toArray = ls at hl ⊢
  refine hgd.2.2 p e room_1 s m #[Value.ref b] below meth c _ hC (by decide) (by decide) ?_ ls s.heap [] 0 0 hl hH (fun q hq => by cases hq) ?_ ?_
  · intro pc ls H locs cells slots hd hH' hLo hc hs'
    have hB : gB g = s.heap.size := by rw [hg]; rfl
    refine W.widen (k := 600000) (n := 7302250) hc hs' ?_
    refine va_forget (fun q hq => by rw [← hB]; exact hLo q hq) ?_
    exact lw_ret hx hb hr hlocks hd.1
  · show 0 + (mTop h - s.heap.size) ≤ 600000
    omega
  · show 0 + (mSl h - 0) ≤ 7302250
    omega
