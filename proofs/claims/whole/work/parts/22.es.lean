/-! ===== runs over states ===== -/
/-- from every heap that holds S the run ends, with an answer and a heap that holds a state of which K holds -/
def ES (E : mE) (m pc : Nat) (l : mL) (st : List Value) (S : mS) (K : Option Value → mS → Prop) : Prop := ∀ h, HHp E h S → Ek m pc l st h (fun r h' => ∃ S', HHp E h' S' ∧ K r S')
theorem Ek.op {m pc pc' : Nat} {l l' : mL} {st st' : List Value} {h h' : mH} {K : Option Value → mH → Prop} {p : mOp} (hop : mOps m pc = p) (he : ∀ c k, p c k l st h = k pc' l' st' h') (e : Ek m pc' l' st' h' K) : Ek m pc l st h K :=
  Ek.go 1 (fun n => by show mOps m pc _ _ l st h = _; rw [hop]; exact he _ _) e
section ESR
variable {E : mE} {m pc nx : Nat} {l : mL} {st : List Value} {S : mS} {K : Option Value → mS → Prop}
theorem ES.mono {K' : Option Value → mS → Prop} (e : ES E m pc l st S K) (hk : ∀ r S', K r S' → K' r S') : ES E m pc l st S K' := fun h hh => Ek.mono (e h hh) (fun r h' q => by
  obtain ⟨S', q1, q2⟩ := q
  exact ⟨S', q1, hk r S' q2⟩)
/-- an operation that leaves the heap, whatever it is -/
theorem ES.op {pc' : Nat} {l' : mL} {st' : List Value} {p : mOp} (hop : mOps m pc = p) (he : ∀ h c k, p c k l st h = k pc' l' st' h) (e : ES E m pc' l' st' S K) : ES E m pc l st S K := fun h hh => Ek.op hop (he h) (e h hh)
/-- an operation that reads the heap -/
theorem ES.rd {pc' : Nat} {l' : mL} {st' : List Value} {p : mOp} (hop : mOps m pc = p) (he : ∀ h, HHp E h S → ∀ c k, p c k l st h = k pc' l' st' h) (e : ES E m pc' l' st' S K) : ES E m pc l st S K := fun h hh => Ek.op hop (he h hh) (e h hh)
/-- an operation that writes the heap -/
theorem ES.wr {pc' : Nat} {l' : mL} {st' : List Value} {p : mOp} {S' : mS} (hop : mOps m pc = p) (w : mH → mH) (he : ∀ h, HHp E h S → ∀ c k, p c k l st h = k pc' l' st' (w h)) (hw : ∀ h, HHp E h S → HHp E (w h) S') (e : ES E m pc' l' st' S' K) : ES E m pc l st S K := fun h hh => Ek.op hop (he h hh) (e _ (hw h hh))
theorem e_ic {v : Int32} (hop : mOps m pc = o_ic nx v) (e : ES E m nx l (.int v :: st) S K) : ES E m pc l st S K := ES.op hop (fun _ _ _ => rfl) e
theorem e_lc {v : Int64} (hop : mOps m pc = o_lc nx v) (e : ES E m nx l (.long v :: st) S K) : ES E m pc l st S K := ES.op hop (fun _ _ _ => rfl) e
theorem e_il {i : Nat} {x : Int32} (hop : mOps m pc = o_il nx i) (hl : l[i]? = some (some (.int x))) (e : ES E m nx l (.int x :: st) S K) : ES E m pc l st S K := ES.op hop (fun _ _ _ => by unfold o_il; rw [hl]) e
theorem e_al {i : Nat} {x : Nat} (hop : mOps m pc = o_al nx i) (hl : l[i]? = some (some (.ref x))) (e : ES E m nx l (.ref x :: st) S K) : ES E m pc l st S K := ES.op hop (fun _ _ _ => by unfold o_al; rw [hl]) e
theorem e_llo {i : Nat} {x : Int64} (hop : mOps m pc = o_llo nx i) (hl : l[i]? = some (some (.long x))) (e : ES E m nx l (.long x :: st) S K) : ES E m pc l st S K := ES.op hop (fun _ _ _ => by unfold o_llo; rw [hl]) e
theorem e_ist {i : Nat} {x : Int32} {l' : mL} (hop : mOps m pc = o_ist nx i) (hf : (mFree l i && Nat.blt i l.length) = true) (hl : l.set i (some (.int x)) = l') (e : ES E m nx l' st S K) : ES E m pc l (.int x :: st) S K := ES.op hop (fun _ _ _ => by unfold o_ist; simp only [hf, hl, cond_true]) e
theorem e_ast {i : Nat} {x : Nat} {l' : mL} (hop : mOps m pc = o_ast nx i) (hf : (mFree l i && Nat.blt i l.length) = true) (hl : l.set i (some (.ref x)) = l') (e : ES E m nx l' st S K) : ES E m pc l (.ref x :: st) S K := ES.op hop (fun _ _ _ => by unfold o_ast; simp only [hf, hl, cond_true]) e
theorem e_lst {i : Nat} {x : Int64} {l' : mL} (hop : mOps m pc = o_lst nx i) (hf : (mFree l i && Nat.blt (i + 1) l.length) = true) (hl : (l.set i (some (.long x))).set (i + 1) none = l') (e : ES E m nx l' st S K) : ES E m pc l (.long x :: st) S K := ES.op hop (fun _ _ _ => by unfold o_lst; simp only [hf, hl, cond_true]) e
theorem e_inc {i : Nat} {x n : Int32} {l' : mL} (hop : mOps m pc = o_inc nx i n) (hx : l[i]? = some (some (.int x))) (hf : (mFree l i && Nat.blt i l.length) = true) (hl : l.set i (some (.int (x + n))) = l') (e : ES E m nx l' st S K) : ES E m pc l st S K := ES.op hop (fun _ _ _ => by unfold o_inc; simp only [hx, hf, hl, cond_true]) e
theorem e_ii {f : Int32 → Int32 → Int32} {x y v : Int32} (hop : mOps m pc = o_ii nx f) (hv : f x y = v) (e : ES E m nx l (.int v :: st) S K) : ES E m pc l (.int y :: .int x :: st) S K := ES.op hop (fun _ _ _ => by rw [← hv]; rfl) e
theorem e_ll {f : Int64 → Int64 → Int64} {x y v : Int64} (hop : mOps m pc = o_ll nx f) (hv : f x y = v) (e : ES E m nx l (.long v :: st) S K) : ES E m pc l (.long y :: .long x :: st) S K := ES.op hop (fun _ _ _ => by rw [← hv]; rfl) e
theorem e_rem {x y : Int32} (hop : mOps m pc = o_rem nx) (hy : ¬ y = 0) (e : ES E m nx l (.int (x - x / y * y) :: st) S K) : ES E m pc l (.int y :: .int x :: st) S K := ES.op hop (fun _ _ _ => by unfold o_rem; simp only [if_neg hy]) e
theorem e_i2l {x : Int32} (hop : mOps m pc = o_i2l nx) (e : ES E m nx l (.long x.toInt64 :: st) S K) : ES E m pc l (.int x :: st) S K := ES.op hop (fun _ _ _ => rfl) e
theorem e_l2i {x : Int64} (hop : mOps m pc = o_l2i nx) (e : ES E m nx l (.int x.toInt32 :: st) S K) : ES E m pc l (.long x :: st) S K := ES.op hop (fun _ _ _ => rfl) e
theorem e_lcmp {x y : Int64} (hop : mOps m pc = o_lcmp nx) (e : ES E m nx l (.int (lg_cmp x y) :: st) S K) : ES E m pc l (.long y :: .long x :: st) S K := ES.op hop (fun _ _ _ => rfl) e
theorem e_dupi {x : Int32} (hop : mOps m pc = o_dup nx) (e : ES E m nx l (.int x :: .int x :: st) S K) : ES E m pc l (.int x :: st) S K := ES.op hop (fun _ _ _ => rfl) e
theorem e_dupr {x : Nat} (hop : mOps m pc = o_dup nx) (e : ES E m nx l (.ref x :: .ref x :: st) S K) : ES E m pc l (.ref x :: st) S K := ES.op hop (fun _ _ _ => rfl) e
theorem e_dup2 {x : Int32} {y : Nat} (hop : mOps m pc = o_dup2 nx) (e : ES E m nx l (.int x :: .ref y :: .int x :: .ref y :: st) S K) : ES E m pc l (.int x :: .ref y :: st) S K := ES.op hop (fun _ _ _ => rfl) e
theorem e_goto {tg : Nat} (hop : mOps m pc = o_goto tg) (e : ES E m tg l st S K) : ES E m pc l st S K := ES.op hop (fun _ _ _ => rfl) e
theorem e_back {tg : Nat} {cl : List Nat} {l' : mL} (hop : mOps m pc = o_back tg cl) (hl : mClr l cl = l') (e : ES E m tg l' st S K) : ES E m pc l st S K := ES.op hop (fun _ _ _ => by unfold o_back; rw [hl]) e
theorem e_max {x y : Int32} (hop : mOps m pc = o_max nx) (h8 : Nat.ble (mCat st) 8 = true) (e : ES E m nx l (.int (if x < y then y else x) :: st) S K) : ES E m pc l (.int y :: .int x :: st) S K := ES.op hop (fun _ _ _ => by unfold o_max; simp only [h8, cond_true]) e
theorem e_min {x y : Int32} (hop : mOps m pc = o_min nx) (h8 : Nat.ble (mCat st) 8 = true) (e : ES E m nx l (.int (if y < x then y else x) :: st) S K) : ES E m pc l (.int y :: .int x :: st) S K := ES.op hop (fun _ _ _ => by unfold o_min; simp only [h8, cond_true]) e
theorem e_obj {a : Nat} (hop : mOps m pc = o_obj nx) (h8 : Nat.ble (mCat st) 8 = true) (e : ES E m nx l st S K) : ES E m pc l (.ref a :: st) S K := ES.op hop (fun _ _ _ => by unfold o_obj; simp only [h8, cond_true]) e
theorem e_eq {x y : Int32} {tg : Nat} (hop : mOps m pc = o_eq nx tg) (et : x = y → ES E m tg l st S K) (ef : ¬ x = y → ES E m nx l st S K) : ES E m pc l (.int y :: .int x :: st) S K := by
  by_cases hc : x = y
  · exact ES.op hop (fun _ _ _ => by unfold o_eq; simp only [if_pos hc]) (et hc)
  · exact ES.op hop (fun _ _ _ => by unfold o_eq; simp only [if_neg hc]) (ef hc)
theorem e_eq0 {x : Int32} {tg : Nat} (hop : mOps m pc = o_eq0 nx tg) (et : x = 0 → ES E m tg l st S K) (ef : ¬ x = 0 → ES E m nx l st S K) : ES E m pc l (.int x :: st) S K := by
  by_cases hc : x = 0
  · exact ES.op hop (fun _ _ _ => by unfold o_eq0; simp only [if_pos hc]) (et hc)
  · exact ES.op hop (fun _ _ _ => by unfold o_eq0; simp only [if_neg hc]) (ef hc)
theorem e_ne {x y : Int32} {tg : Nat} (hop : mOps m pc = o_ne nx tg) (et : x = y → ES E m nx l st S K) (ef : ¬ x = y → ES E m tg l st S K) : ES E m pc l (.int y :: .int x :: st) S K := by
  by_cases hc : x = y
  · exact ES.op hop (fun _ _ _ => by unfold o_ne; simp only [if_pos hc]) (et hc)
  · exact ES.op hop (fun _ _ _ => by unfold o_ne; simp only [if_neg hc]) (ef hc)
theorem e_ne0 {x : Int32} {tg : Nat} (hop : mOps m pc = o_ne0 nx tg) (et : x = 0 → ES E m nx l st S K) (ef : ¬ x = 0 → ES E m tg l st S K) : ES E m pc l (.int x :: st) S K := by
  by_cases hc : x = 0
  · exact ES.op hop (fun _ _ _ => by unfold o_ne0; simp only [if_pos hc]) (et hc)
  · exact ES.op hop (fun _ _ _ => by unfold o_ne0; simp only [if_neg hc]) (ef hc)
theorem e_lt {x y : Int32} {tg : Nat} (hop : mOps m pc = o_lt nx tg) (et : x < y → ES E m tg l st S K) (ef : ¬ x < y → ES E m nx l st S K) : ES E m pc l (.int y :: .int x :: st) S K := by
  by_cases hc : x < y
  · exact ES.op hop (fun _ _ _ => by unfold o_lt; simp only [if_pos hc]) (et hc)
  · exact ES.op hop (fun _ _ _ => by unfold o_lt; simp only [if_neg hc]) (ef hc)
theorem e_lt0 {x : Int32} {tg : Nat} (hop : mOps m pc = o_lt0 nx tg) (et : x < 0 → ES E m tg l st S K) (ef : ¬ x < 0 → ES E m nx l st S K) : ES E m pc l (.int x :: st) S K := by
  by_cases hc : x < 0
  · exact ES.op hop (fun _ _ _ => by unfold o_lt0; simp only [if_pos hc]) (et hc)
  · exact ES.op hop (fun _ _ _ => by unfold o_lt0; simp only [if_neg hc]) (ef hc)
theorem e_ge {x y : Int32} {tg : Nat} (hop : mOps m pc = o_ge nx tg) (et : y ≤ x → ES E m tg l st S K) (ef : ¬ y ≤ x → ES E m nx l st S K) : ES E m pc l (.int y :: .int x :: st) S K := by
  by_cases hc : y ≤ x
  · exact ES.op hop (fun _ _ _ => by unfold o_ge; simp only [if_pos hc]) (et hc)
  · exact ES.op hop (fun _ _ _ => by unfold o_ge; simp only [if_neg hc]) (ef hc)
theorem e_ge0 {x : Int32} {tg : Nat} (hop : mOps m pc = o_ge0 nx tg) (et : 0 ≤ x → ES E m tg l st S K) (ef : ¬ 0 ≤ x → ES E m nx l st S K) : ES E m pc l (.int x :: st) S K := by
  by_cases hc : 0 ≤ x
  · exact ES.op hop (fun _ _ _ => by unfold o_ge0; simp only [if_pos hc]) (et hc)
  · exact ES.op hop (fun _ _ _ => by unfold o_ge0; simp only [if_neg hc]) (ef hc)
theorem e_gt {x y : Int32} {tg : Nat} (hop : mOps m pc = o_gt nx tg) (et : y < x → ES E m tg l st S K) (ef : ¬ y < x → ES E m nx l st S K) : ES E m pc l (.int y :: .int x :: st) S K := by
  by_cases hc : y < x
  · exact ES.op hop (fun _ _ _ => by unfold o_gt; simp only [if_pos hc]) (et hc)
  · exact ES.op hop (fun _ _ _ => by unfold o_gt; simp only [if_neg hc]) (ef hc)
theorem e_gt0 {x : Int32} {tg : Nat} (hop : mOps m pc = o_gt0 nx tg) (et : 0 < x → ES E m tg l st S K) (ef : ¬ 0 < x → ES E m nx l st S K) : ES E m pc l (.int x :: st) S K := by
  by_cases hc : 0 < x
  · exact ES.op hop (fun _ _ _ => by unfold o_gt0; simp only [if_pos hc]) (et hc)
  · exact ES.op hop (fun _ _ _ => by unfold o_gt0; simp only [if_neg hc]) (ef hc)
theorem e_le {x y : Int32} {tg : Nat} (hop : mOps m pc = o_le nx tg) (et : x ≤ y → ES E m tg l st S K) (ef : ¬ x ≤ y → ES E m nx l st S K) : ES E m pc l (.int y :: .int x :: st) S K := by
  by_cases hc : x ≤ y
  · exact ES.op hop (fun _ _ _ => by unfold o_le; simp only [if_pos hc]) (et hc)
  · exact ES.op hop (fun _ _ _ => by unfold o_le; simp only [if_neg hc]) (ef hc)
theorem e_le0 {x : Int32} {tg : Nat} (hop : mOps m pc = o_le0 nx tg) (et : x ≤ 0 → ES E m tg l st S K) (ef : ¬ x ≤ 0 → ES E m nx l st S K) : ES E m pc l (.int x :: st) S K := by
  by_cases hc : x ≤ 0
  · exact ES.op hop (fun _ _ _ => by unfold o_le0; simp only [if_pos hc]) (et hc)
  · exact ES.op hop (fun _ _ _ => by unfold o_le0; simp only [if_neg hc]) (ef hc)
theorem e_nulN {tg : Nat} (hop : mOps m pc = o_nul nx tg) (e : ES E m tg l st S K) : ES E m pc l (.null :: st) S K := ES.op hop (fun _ _ _ => rfl) e
theorem e_nulR {tg a : Nat} (hop : mOps m pc = o_nul nx tg) (e : ES E m nx l st S K) : ES E m pc l (.ref a :: st) S K := ES.op hop (fun _ _ _ => rfl) e
theorem e_nnulN {tg : Nat} (hop : mOps m pc = o_nnul nx tg) (e : ES E m nx l st S K) : ES E m pc l (.null :: st) S K := ES.op hop (fun _ _ _ => rfl) e
theorem e_nnulR {tg a : Nat} (hop : mOps m pc = o_nnul nx tg) (e : ES E m tg l st S K) : ES E m pc l (.ref a :: st) S K := ES.op hop (fun _ _ _ => rfl) e
theorem e_tswI {tgs : List Nat} {df j t : Nat} {x : Int32} (hop : mOps m pc = o_tsw tgs df) (hj : x = nI j) (hl : j < tgs.length) (hs : tgs.length < 1000) (ht : tgs.getD j df = t) (e : ES E m t l st S K) : ES E m pc l (.int x :: st) S K := by
  subst hj
  refine ES.op hop (fun _ _ _ => ?_) e
  unfold o_tsw
  have h1 : (nI j).toNatClampNeg = j := nI_clamp (by omega)
  simp only
  rw [if_neg (fun q => by
    rcases q with q | q
    · exact nI_pos (by omega) q
    · rw [h1] at q
      omega), h1, ht]
theorem e_tswO {tgs : List Nat} {df : Nat} {x : Int32} (hop : mOps m pc = o_tsw tgs df) (hj : ∀ j, j < tgs.length → ¬ x = nI j) (hs : tgs.length < 1000) (e : ES E m df l st S K) : ES E m pc l (.int x :: st) S K := by
  refine ES.op hop (fun _ _ _ => ?_) e
  unfold o_tsw
  simp only
  rw [if_pos (mSwOut (by omega) hj)]
theorem e_gK {v : Nat} {t f : Nat} (hop : mOps m pc = o_gI nx t f) (hv : v < 54) (ht : tgK v = t) (e : ES E m nx l (.int (sK S v f) :: st) S K) : ES E m pc l (.ref (aK E v) :: st) S K :=
  ES.rd hop (fun h hh _ _ => by unfold o_gI; simp only [hh.tK hv, ht, if_true, hh.iK hv f]) e
theorem e_gN {i c : Nat} {t f : Nat} (hop : mOps m pc = o_gI nx t f) (hi : i < eN E) (hc : c < 23) (ht : tgN c = t) (e : ES E m nx l (.int (sN S i c f) :: st) S K) : ES E m pc l (.ref (aN E i c) :: st) S K :=
  ES.rd hop (fun h hh _ _ => by unfold o_gI; simp only [hh.tN hi hc, ht, if_true, hh.iN hi hc f]) e
theorem e_gS {v : Nat} {t f : Nat} (hop : mOps m pc = o_gI nx t f) (hv : v < 40) (ht : tgS v = t) (e : ES E m nx l (.int (sS S v f) :: st) S K) : ES E m pc l (.ref (aS E v) :: st) S K :=
  ES.rd hop (fun h hh _ _ => by unfold o_gI; simp only [hh.tS hv, ht, if_true, hh.iS hv f]) e
theorem e_gM {q f : Nat} (hop : mOps m pc = o_gI nx 6 f) (hq : q < sU S) (e : ES E m nx l (.int (sM S q f) :: st) S K) : ES E m pc l (.ref (aM E q) :: st) S K :=
  ES.rd hop (fun h hh _ _ => by unfold o_gI; simp only [hh.tM hq, if_true, hh.iM hq f]) e
theorem e_PK {v t f w : Nat} (hop : mOps m pc = o_gP nx t f) (hv : v < 54) (ht : tgK v = t) (hp : ptK v f = some w) (e : ES E m nx l (.ref (aK E w) :: st) S K) : ES E m pc l (.ref (aK E v) :: st) S K :=
  ES.rd hop (fun h hh _ _ => by unfold o_gP; simp only [hh.tK hv, ht, if_true, hh.2.2.2.2.1.1 v f w hp, va_rf]) e
theorem e_PN {i c t f w : Nat} (hop : mOps m pc = o_gP nx t f) (hi : i < eN E) (hc : c < 23) (ht : tgN c = t) (hp : ptN c f = some w) (e : ES E m nx l (.ref (aN E i w) :: st) S K) : ES E m pc l (.ref (aN E i c) :: st) S K :=
  ES.rd hop (fun h hh _ _ => by unfold o_gP; simp only [hh.tN hi hc, ht, if_true, (hh.2.2.2.2.2.2.1 i hi).1 c f w hp, va_rf]) e
theorem e_PNs {i : Nat} (hop : mOps m pc = o_gP nx 7 1) (hi : i < eN E) (e : ES E m nx l (.ref (aK E 9) :: st) S K) : ES E m pc l (.ref (aN E i 0) :: st) S K :=
  ES.rd hop (fun h hh _ _ => by unfold o_gP; simp only [show mTg h (aN E i 0) = 7 from hh.tN hi (by decide), if_true, (hh.2.2.2.2.2.2.1 i hi).2.1, va_rf]) e
theorem e_PNp {i : Nat} (hop : mOps m pc = o_gP nx 7 12) (hi : i < eN E) (e : ES E m nx l (.ref (aN E i (sR S i 0)) :: st) S K) : ES E m pc l (.ref (aN E i 0) :: st) S K :=
  ES.rd hop (fun h hh _ _ => by unfold o_gP; simp only [show mTg h (aN E i 0) = 7 from hh.tN hi (by decide), if_true, (hh.2.2.2.2.2.2.1 i hi).2.2.1, va_rf]) e
theorem e_PNn {i : Nat} (hop : mOps m pc = o_gP nx 7 13) (hi : i < eN E) (e : ES E m nx l (.ref (aN E i (sR S i 1)) :: st) S K) : ES E m pc l (.ref (aN E i 0) :: st) S K :=
  ES.rd hop (fun h hh _ _ => by unfold o_gP; simp only [show mTg h (aN E i 0) = 7 from hh.tN hi (by decide), if_true, (hh.2.2.2.2.2.2.1 i hi).2.2.2.1, va_rf]) e
theorem e_PS {f w : Nat} (hop : mOps m pc = o_gP nx 12 f) (hp : ptS f = some w) (e : ES E m nx l (.ref (aS E w) :: st) S K) : ES E m pc l (.ref (aS E 0) :: st) S K :=
  ES.rd hop (fun h hh _ _ => by unfold o_gP; simp only [show mTg h (aS E 0) = 12 from hh.tS (by decide), if_true, hh.2.2.2.2.2.2.2.2.1.1 f w hp, va_rf]) e
theorem e_pK {v : Nat} {t f : Nat} {x : Int32} (hop : mOps m pc = o_pI nx t f) (hv : v < 54) (ht : tgK v = t) (e : ES E m nx l st (uK S v f x) K) : ES E m pc l (.int x :: .ref (aK E v) :: st) S K :=
  ES.wr hop (fun h => wI h (aK E v) f x) (fun h hh _ _ => by unfold o_pI; simp only [hh.tK hv, ht, if_true]) (fun h hh => hh.wK hv) e
theorem e_zK {v : Nat} {t f : Nat} {x : Int32} (hop : mOps m pc = o_pZ nx t f) (hv : v < 54) (ht : tgK v = t) (hx : x = 0 ∨ x = 1) (e : ES E m nx l st (uK S v f x) K) : ES E m pc l (.int x :: .ref (aK E v) :: st) S K :=
  ES.wr hop (fun h => wI h (aK E v) f x) (fun h hh _ _ => by unfold o_pZ; simp only [hh.tK hv, ht, hx, and_self, if_true]) (fun h hh => hh.wK hv) e
theorem e_pN {i c : Nat} {t f : Nat} {x : Int32} (hop : mOps m pc = o_pI nx t f) (hi : i < eN E) (hc : c < 23) (ht : tgN c = t) (e : ES E m nx l st (uN S i c f x) K) : ES E m pc l (.int x :: .ref (aN E i c) :: st) S K :=
  ES.wr hop (fun h => wI h (aN E i c) f x) (fun h hh _ _ => by unfold o_pI; simp only [hh.tN hi hc, ht, if_true]) (fun h hh => hh.wN hi hc) e
theorem e_zN {i c : Nat} {t f : Nat} {x : Int32} (hop : mOps m pc = o_pZ nx t f) (hi : i < eN E) (hc : c < 23) (ht : tgN c = t) (hx : x = 0 ∨ x = 1) (e : ES E m nx l st (uN S i c f x) K) : ES E m pc l (.int x :: .ref (aN E i c) :: st) S K :=
  ES.wr hop (fun h => wI h (aN E i c) f x) (fun h hh _ _ => by unfold o_pZ; simp only [hh.tN hi hc, ht, hx, and_self, if_true]) (fun h hh => hh.wN hi hc) e
theorem e_pS {v : Nat} {t f : Nat} {x : Int32} (hop : mOps m pc = o_pI nx t f) (hv : v < 40) (ht : tgS v = t) (e : ES E m nx l st (uS S v f x) K) : ES E m pc l (.int x :: .ref (aS E v) :: st) S K :=
  ES.wr hop (fun h => wI h (aS E v) f x) (fun h hh _ _ => by unfold o_pI; simp only [hh.tS hv, ht, if_true]) (fun h hh => hh.wS hv) e
theorem e_zS {v : Nat} {t f : Nat} {x : Int32} (hop : mOps m pc = o_pZ nx t f) (hv : v < 40) (ht : tgS v = t) (hx : x = 0 ∨ x = 1) (e : ES E m nx l st (uS S v f x) K) : ES E m pc l (.int x :: .ref (aS E v) :: st) S K :=
  ES.wr hop (fun h => wI h (aS E v) f x) (fun h hh _ _ => by unfold o_pZ; simp only [hh.tS hv, ht, hx, and_self, if_true]) (fun h hh => hh.wS hv) e
theorem e_pM {q f : Nat} {x : Int32} (hop : mOps m pc = o_pI nx 6 f) (hq : q < sU S) (e : ES E m nx l st (uM S q f x) K) : ES E m pc l (.int x :: .ref (aM E q) :: st) S K :=
  ES.wr hop (fun h => wI h (aM E q) f x) (fun h hh _ _ => by unfold o_pI; simp only [hh.tM hq, if_true]) (fun h hh => hh.wM) e
theorem e_zM {q f : Nat} {x : Int32} (hop : mOps m pc = o_pZ nx 6 f) (hq : q < sU S) (hx : x = 0 ∨ x = 1) (e : ES E m nx l st (uM S q f x) K) : ES E m pc l (.int x :: .ref (aM E q) :: st) S K :=
  ES.wr hop (fun h => wI h (aM E q) f x) (fun h hh _ _ => by unfold o_pZ; simp only [hh.tM hq, hx, and_self, if_true]) (fun h hh => hh.wM) e
/-- a node's present or next ballots are set -/
theorem e_pR {i j c f : Nat} (hop : mOps m pc = o_pP nx 7 f) (hi : i < eN E) (hj : j < 2) (hf : f = 12 + j) (hc : c = 17 ∨ c = 20) (e : ES E m nx l st (uR S i j c) K) : ES E m pc l (.ref (aN E i c) :: .ref (aN E i 0) :: st) S K := by
  subst hf
  exact ES.wr hop (fun h => wP h (aN E i 0) (12 + j) (some (aN E i c))) (fun h hh _ _ => by unfold o_pP; simp only [show mTg h (aN E i 0) = 7 from hh.tN hi (by decide), if_true]) (fun h hh => hh.wR hi hj hc) e
theorem e_iaK {v : Nat} {j : Int32} (hop : mOps m pc = o_ial nx) (hv : v < 54) (ht : tgK v = 20) (hj : ¬ j < 0 ∧ j.toNatClampNeg < lnK (eN E) v) (e : ES E m nx l (.int (sK S v j.toNatClampNeg) :: st) S K) : ES E m pc l (.int j :: .ref (aK E v) :: st) S K :=
  ES.rd hop (fun h hh _ _ => by
    unfold o_ial
    have h1 : mTg h (aK E v) = 20 := (hh.tK hv).trans ht
    have h2 : mLn h (aK E v) = lnK (eN E) v := hh.lK hv
    simp only [h1, h2, true_or, true_and]
    rw [if_pos hj, hh.iK hv]) e
theorem e_waK {v : Nat} {j x : Int32} (hop : mOps m pc = o_ias nx) (hv : v < 54) (ht : tgK v = 20) (hj : ¬ j < 0 ∧ j.toNatClampNeg < lnK (eN E) v) (e : ES E m nx l st (uK S v j.toNatClampNeg x) K) : ES E m pc l (.int x :: .int j :: .ref (aK E v) :: st) S K :=
  ES.wr hop (fun h => wI h (aK E v) j.toNatClampNeg x) (fun h hh _ _ => by
    unfold o_ias
    have h1 : mTg h (aK E v) = 20 := (hh.tK hv).trans ht
    have h2 : mLn h (aK E v) = lnK (eN E) v := hh.lK hv
    simp only [h1, h2, true_and]
    rw [if_pos hj]) (fun h hh => hh.wK hv) e
theorem e_baK {v : Nat} {j : Int32} (hop : mOps m pc = o_bal nx) (hv : v < 54) (ht : tgK v = 21) (hj : ¬ j < 0 ∧ j.toNatClampNeg < lnK (eN E) v) (e : ES E m nx l (.int (sK S v j.toNatClampNeg) :: st) S K) : ES E m pc l (.int j :: .ref (aK E v) :: st) S K :=
  ES.rd hop (fun h hh _ _ => by
    unfold o_bal
    have h1 : mTg h (aK E v) = 21 := (hh.tK hv).trans ht
    have h2 : mLn h (aK E v) = lnK (eN E) v := hh.lK hv
    simp only [h1, h2, true_and]
    rw [if_pos hj, hh.iK hv]) e
theorem e_wzK {v : Nat} {j x : Int32} (hop : mOps m pc = o_bas nx) (hv : v < 54) (ht : tgK v = 21) (hx : x = 0 ∨ x = 1) (hj : ¬ j < 0 ∧ j.toNatClampNeg < lnK (eN E) v) (e : ES E m nx l st (uK S v j.toNatClampNeg x) K) : ES E m pc l (.int x :: .int j :: .ref (aK E v) :: st) S K :=
  ES.wr hop (fun h => wI h (aK E v) j.toNatClampNeg x) (fun h hh _ _ => by
    unfold o_bas
    have h1 : mTg h (aK E v) = 21 := (hh.tK hv).trans ht
    have h2 : mLn h (aK E v) = lnK (eN E) v := hh.lK hv
    simp only [h1, h2, true_and, hx]
    rw [if_pos hj]) (fun h hh => hh.wK hv) e
theorem e_iaN {i c : Nat} {j : Int32} (hop : mOps m pc = o_ial nx) (hi : i < eN E) (hc : c < 23) (ht : tgN c = 20) (hj : ¬ j < 0 ∧ j.toNatClampNeg < lnN (eN E) c) (e : ES E m nx l (.int (sN S i c j.toNatClampNeg) :: st) S K) : ES E m pc l (.int j :: .ref (aN E i c) :: st) S K :=
  ES.rd hop (fun h hh _ _ => by
    unfold o_ial
    have h1 : mTg h (aN E i c) = 20 := (hh.tN hi hc).trans ht
    have h2 : mLn h (aN E i c) = lnN (eN E) c := hh.lN hi hc
    simp only [h1, h2, true_or, true_and]
    rw [if_pos hj, hh.iN hi hc]) e
theorem e_waN {i c : Nat} {j x : Int32} (hop : mOps m pc = o_ias nx) (hi : i < eN E) (hc : c < 23) (ht : tgN c = 20) (hj : ¬ j < 0 ∧ j.toNatClampNeg < lnN (eN E) c) (e : ES E m nx l st (uN S i c j.toNatClampNeg x) K) : ES E m pc l (.int x :: .int j :: .ref (aN E i c) :: st) S K :=
  ES.wr hop (fun h => wI h (aN E i c) j.toNatClampNeg x) (fun h hh _ _ => by
    unfold o_ias
    have h1 : mTg h (aN E i c) = 20 := (hh.tN hi hc).trans ht
    have h2 : mLn h (aN E i c) = lnN (eN E) c := hh.lN hi hc
    simp only [h1, h2, true_and]
    rw [if_pos hj]) (fun h hh => hh.wN hi hc) e
theorem e_baN {i c : Nat} {j : Int32} (hop : mOps m pc = o_bal nx) (hi : i < eN E) (hc : c < 23) (ht : tgN c = 21) (hj : ¬ j < 0 ∧ j.toNatClampNeg < lnN (eN E) c) (e : ES E m nx l (.int (sN S i c j.toNatClampNeg) :: st) S K) : ES E m pc l (.int j :: .ref (aN E i c) :: st) S K :=
  ES.rd hop (fun h hh _ _ => by
    unfold o_bal
    have h1 : mTg h (aN E i c) = 21 := (hh.tN hi hc).trans ht
    have h2 : mLn h (aN E i c) = lnN (eN E) c := hh.lN hi hc
    simp only [h1, h2, true_and]
    rw [if_pos hj, hh.iN hi hc]) e
theorem e_wzN {i c : Nat} {j x : Int32} (hop : mOps m pc = o_bas nx) (hi : i < eN E) (hc : c < 23) (ht : tgN c = 21) (hx : x = 0 ∨ x = 1) (hj : ¬ j < 0 ∧ j.toNatClampNeg < lnN (eN E) c) (e : ES E m nx l st (uN S i c j.toNatClampNeg x) K) : ES E m pc l (.int x :: .int j :: .ref (aN E i c) :: st) S K :=
  ES.wr hop (fun h => wI h (aN E i c) j.toNatClampNeg x) (fun h hh _ _ => by
    unfold o_bas
    have h1 : mTg h (aN E i c) = 21 := (hh.tN hi hc).trans ht
    have h2 : mLn h (aN E i c) = lnN (eN E) c := hh.lN hi hc
    simp only [h1, h2, true_and, hx]
    rw [if_pos hj]) (fun h hh => hh.wN hi hc) e
theorem e_iaS {v : Nat} {j : Int32} (hop : mOps m pc = o_ial nx) (hv : v < 40) (ht : tgS v = 20) (hj : ¬ j < 0 ∧ j.toNatClampNeg < lnS v) (e : ES E m nx l (.int (sS S v j.toNatClampNeg) :: st) S K) : ES E m pc l (.int j :: .ref (aS E v) :: st) S K :=
  ES.rd hop (fun h hh _ _ => by
    unfold o_ial
    have h1 : mTg h (aS E v) = 20 := (hh.tS hv).trans ht
    have h2 : mLn h (aS E v) = lnS v := hh.lS hv
    simp only [h1, h2, true_or, true_and]
    rw [if_pos hj, hh.iS hv]) e
theorem e_waS {v : Nat} {j x : Int32} (hop : mOps m pc = o_ias nx) (hv : v < 40) (ht : tgS v = 20) (hj : ¬ j < 0 ∧ j.toNatClampNeg < lnS v) (e : ES E m nx l st (uS S v j.toNatClampNeg x) K) : ES E m pc l (.int x :: .int j :: .ref (aS E v) :: st) S K :=
  ES.wr hop (fun h => wI h (aS E v) j.toNatClampNeg x) (fun h hh _ _ => by
    unfold o_ias
    have h1 : mTg h (aS E v) = 20 := (hh.tS hv).trans ht
    have h2 : mLn h (aS E v) = lnS v := hh.lS hv
    simp only [h1, h2, true_and]
    rw [if_pos hj]) (fun h hh => hh.wS hv) e
theorem e_baS {v : Nat} {j : Int32} (hop : mOps m pc = o_bal nx) (hv : v < 40) (ht : tgS v = 21) (hj : ¬ j < 0 ∧ j.toNatClampNeg < lnS v) (e : ES E m nx l (.int (sS S v j.toNatClampNeg) :: st) S K) : ES E m pc l (.int j :: .ref (aS E v) :: st) S K :=
  ES.rd hop (fun h hh _ _ => by
    unfold o_bal
    have h1 : mTg h (aS E v) = 21 := (hh.tS hv).trans ht
    have h2 : mLn h (aS E v) = lnS v := hh.lS hv
    simp only [h1, h2, true_and]
    rw [if_pos hj, hh.iS hv]) e
theorem e_wzS {v : Nat} {j x : Int32} (hop : mOps m pc = o_bas nx) (hv : v < 40) (ht : tgS v = 21) (hx : x = 0 ∨ x = 1) (hj : ¬ j < 0 ∧ j.toNatClampNeg < lnS v) (e : ES E m nx l st (uS S v j.toNatClampNeg x) K) : ES E m pc l (.int x :: .int j :: .ref (aS E v) :: st) S K :=
  ES.wr hop (fun h => wI h (aS E v) j.toNatClampNeg x) (fun h hh _ _ => by
    unfold o_bas
    have h1 : mTg h (aS E v) = 21 := (hh.tS hv).trans ht
    have h2 : mLn h (aS E v) = lnS v := hh.lS hv
    simp only [h1, h2, true_and, hx]
    rw [if_pos hj]) (fun h hh => hh.wS hv) e
theorem e_la {j : Int32} (hop : mOps m pc = o_lal nx) (hj : ¬ j < 0 ∧ j.toNatClampNeg < 410) (e : ES E m nx l (.long (sW S j.toNatClampNeg) :: st) S K) : ES E m pc l (.int j :: .ref (aS E 24) :: st) S K :=
  ES.rd hop (fun h hh _ _ => by
    unfold o_lal
    have h1 : mTg h (aS E 24) = 22 := hh.tS (by decide)
    have h2 : mLn h (aS E 24) = 410 := hh.lS (by decide)
    simp only [h1, h2, true_and]
    rw [if_pos hj, hh.2.2.2.2.2.2.2.2.1.2]) e
theorem e_wl {j : Int32} {x : Int64} (hop : mOps m pc = o_las nx) (hj : ¬ j < 0 ∧ j.toNatClampNeg < 410) (e : ES E m nx l st (uW S j.toNatClampNeg x) K) : ES E m pc l (.long x :: .int j :: .ref (aS E 24) :: st) S K :=
  ES.wr hop (fun h => wJ h (aS E 24) j.toNatClampNeg x) (fun h hh _ _ => by
    unfold o_las
    have h1 : mTg h (aS E 24) = 22 := hh.tS (by decide)
    have h2 : mLn h (aS E 24) = 410 := hh.lS (by decide)
    simp only [h1, h2, true_and]
    rw [if_pos hj]) (fun h hh => hh.wL) e
/-- the script -/
theorem e_iaX {j : Int32} (hop : mOps m pc = o_ial nx) (hj : ¬ j < 0 ∧ j.toNatClampNeg < eL E) (e : ES E m nx l (.int (ex E j.toNatClampNeg) :: st) S K) : ES E m pc l (.int j :: .ref (eb E) :: st) S K :=
  ES.rd hop (fun h hh _ _ => by
    unfold o_ial
    obtain ⟨-, h1, h2, h3⟩ := hh.2.2.2.2.2.2.2.2.2.2.1
    simp only [h1, h2, or_true, true_and]
    rw [if_pos hj, h3]) e
theorem e_alX (hop : mOps m pc = o_aln nx) (e : ES E m nx l (.int (nI (eL E)) :: st) S K) : ES E m pc l (.ref (eb E) :: st) S K :=
  ES.rd hop (fun h hh _ _ => by
    unfold o_aln
    obtain ⟨-, h1, h2, h3⟩ := hh.2.2.2.2.2.2.2.2.2.2.1
    simp only [h1, h2, or_true, if_true]) e
theorem e_alQ (hop : mOps m pc = o_aln nx) (e : ES E m nx l (.int (nI 12000) :: st) S K) : ES E m pc l (.ref (aK E 2) :: st) S K :=
  ES.rd hop (fun h hh _ _ => by
    unfold o_aln
    have h1 : mTg h (aK E 2) = 23 := hh.tK (by decide)
    have h2 : mLn h (aK E 2) = 12000 := hh.lK (by decide)
    simp only [h1, h2, true_or, or_true, if_true]) e
/-- a row of the weights -/
theorem e_aaW {j : Int32} (hop : mOps m pc = o_aal nx) (hj : ¬ j < 0 ∧ j.toNatClampNeg < 41) (e : ES E m nx l (.ref (aK E (12 + j.toNatClampNeg)) :: st) S K) : ES E m pc l (.int j :: .ref (aK E 11) :: st) S K :=
  ES.rd hop (fun h hh _ _ => by
    unfold o_aal
    have h1 : mTg h (aK E 11) = 25 := hh.tK (by decide)
    have h2 : mLn h (aK E 11) = 41 := hh.lK (by decide)
    simp only [h1, h2, or_true, true_and]
    rw [if_pos hj, hh.2.2.2.2.1.2.1 _ hj.2]
    rfl) e
/-- a node -/
theorem e_aaN {j : Int32} (hop : mOps m pc = o_aal nx) (hj : ¬ j < 0 ∧ j.toNatClampNeg < eN E) (e : ES E m nx l (.ref (aN E j.toNatClampNeg 0) :: st) S K) : ES E m pc l (.int j :: .ref (aK E 53) :: st) S K :=
  ES.rd hop (fun h hh _ _ => by
    unfold o_aal
    have h1 : mTg h (aK E 53) = 24 := hh.tK (by decide)
    have h2 : mLn h (aK E 53) = eN E := hh.lK (by decide)
    simp only [h1, h2, true_or, or_true, true_and]
    rw [if_pos hj, hh.2.2.2.2.1.2.2.1 _ hj.2]
    rfl) e
/-- a slot of the mail -/
theorem e_aaQ {j : Int32} (hop : mOps m pc = o_aal nx) (hj : ¬ j < 0 ∧ j.toNatClampNeg < 12000) (en : sQ S j.toNatClampNeg = none → ES E m nx l (.null :: st) S K) (es : ∀ q, q < sU S → sQ S j.toNatClampNeg = some q → ES E m nx l (.ref (aM E q) :: st) S K) : ES E m pc l (.int j :: .ref (aK E 2) :: st) S K := by
  have key : ∀ h, HHp E h S → ∀ (c : mC) (k : mK), o_aal nx c k l (.int j :: .ref (aK E 2) :: st) h = k nx l (va_rf ((sQ S j.toNatClampNeg).map (aM E)) :: st) h := fun h hh c k => by
    unfold o_aal
    have h1 : mTg h (aK E 2) = 23 := hh.tK (by decide)
    have h2 : mLn h (aK E 2) = 12000 := hh.lK (by decide)
    simp only [h1, h2, true_or, true_and]
    rw [if_pos hj, hh.2.2.2.2.1.2.2.2 _ hj.2]
  intro h hh
  cases hq : sQ S j.toNatClampNeg with
  | none =>
    rw [hq] at key
    exact ES.rd hop key (en hq) h hh
  | some q =>
    have hu := hh.2.2.2.2.2.2.2.2.2.2.2 _ q hj.2 hq
    rw [hq] at key
    exact ES.rd hop key (es q hu hq) h hh
theorem e_waQ {j : Int32} {q : Nat} (hop : mOps m pc = o_aas nx) (hj : ¬ j < 0 ∧ j.toNatClampNeg < 12000) (hq : q < sU S) (e : ES E m nx l st (uQ S j.toNatClampNeg (some q)) K) : ES E m pc l (.ref (aM E q) :: .int j :: .ref (aK E 2) :: st) S K :=
  ES.wr hop (fun h => wP h (aK E 2) j.toNatClampNeg (some (aM E q))) (fun h hh _ _ => by
    unfold o_aas
    have h1 : mTg h (aK E 2) = 23 := hh.tK (by decide)
    have h2 : mLn h (aK E 2) = 12000 := hh.lK (by decide)
    simp only [h1, h2, hh.tM hq, and_self, true_or, true_and]
    rw [if_pos hj]) (fun h hh => hh.wQ hq) e
theorem e_new (hop : mOps m pc = o_new nx 6 9) (e : ES E m nx l (.ref (aM E (sU S)) :: st) (uA S) K) : ES E m pc l st S K :=
  fun h hh => Ek.op hop (fun _ _ => by unfold o_new; rw [hh.1]) (e _ hh.wA)
-- calls
theorem mEx_call {n m' : Nat} {as : List Value} {h : mH} (hen : Nat.ble (mEn as).length (mNl (mt m')) = true) : (bif Nat.ble (mEn as).length (mNl (mt m')) then mEx n m' 0 (mArgs (mNl (mt m')) as) [] h else none) = mEx n m' 0 (mArgs (mNl (mt m')) as) [] h := by rw [hen]; rfl
theorem e_cV {m' np t a : Nat} {rest as : List Value} {l0 : mL} (hop : mOps m pc = o_cV nx m' np t) (hst : st.drop np = .ref a :: rest) (htk : (st.take np).reverse = as) (h8 : (Nat.ble (mCat rest) 8 && Nat.ble np st.length) = true) (hen : Nat.ble (mEn (.ref a :: as)).length (mNl (mt m')) = true) (hl : mArgs (mNl (mt m')) (.ref a :: as) = l0) (htg : ∀ h, HHp E h S → mTg h a = t)
    (e : ES E m' 0 l0 [] S (fun r S' => ES E m nx l (r.toList ++ rest) S' K)) : ES E m pc l st S K := by
  intro h hh
  subst hl
  refine Ek.call 0 (as := .ref a :: as) (rest := rest) (pc' := nx) (l' := l) (h1 := h) (m' := m') (fun n => ?_) (Ek.mono (e h hh) (fun r h' q => by
    obtain ⟨S', q1, q2⟩ := q
    exact q2 h' q1))
  show mOps m pc _ _ l st h = _
  rw [hop]
  unfold o_cV
  rw [hst, htk]
  simp only [h8, cond_true, htg h hh, if_true, mEx_call hen]
  rfl
theorem e_cS {m' np : Nat} {rest as : List Value} {l0 : mL} (hop : mOps m pc = o_cS nx m' np) (hst : st.drop np = rest) (htk : (st.take np).reverse = as) (h8 : (Nat.ble (mCat rest) 8 && Nat.ble np st.length) = true) (hen : Nat.ble (mEn as).length (mNl (mt m')) = true) (hl : mArgs (mNl (mt m')) as = l0)
    (e : ES E m' 0 l0 [] S (fun r S' => ES E m nx l (r.toList ++ rest) S' K)) : ES E m pc l st S K := by
  intro h hh
  subst hl
  refine Ek.call 0 (as := as) (rest := rest) (pc' := nx) (l' := l) (h1 := h) (m' := m') (fun n => ?_) (Ek.mono (e h hh) (fun r h' q => by
    obtain ⟨S', q1, q2⟩ := q
    exact q2 h' q1))
  show mOps m pc _ _ l st h = _
  rw [hop]
  unfold o_cS
  rw [hst, htk]
  simp only [h8, cond_true, mEx_call hen]
  rfl
theorem e_cI {m' np a : Nat} {rest as : List Value} {l0 : mL} (hop : mOps m pc = o_cI nx m' np) (hst : st.drop np = .ref a :: rest) (htk : (st.take np).reverse = as) (h8 : (Nat.ble (mCat rest) 8 && Nat.ble np st.length) = true) (hen : Nat.ble (mEn (.ref a :: as)).length (mNl (mt m')) = true) (hl : mArgs (mNl (mt m')) (.ref a :: as) = l0)
    (e : ES E m' 0 l0 [] S (fun r S' => ES E m nx l (r.toList ++ rest) S' K)) : ES E m pc l st S K := by
  intro h hh
  subst hl
  refine Ek.call 0 (as := .ref a :: as) (rest := rest) (pc' := nx) (l' := l) (h1 := h) (m' := m') (fun n => ?_) (Ek.mono (e h hh) (fun r h' q => by
    obtain ⟨S', q1, q2⟩ := q
    exact q2 h' q1))
  show mOps m pc _ _ l st h = _
  rw [hop]
  unfold o_cI
  rw [hst, htk]
  simp only [h8, cond_true, mEx_call hen]
  rfl
-- ends
theorem e_ri {x : Int32} (hop : mOps m pc = o_ri) (hk : K (some (.int x)) S) : ES E m pc l [.int x] S K := fun h hh => Ek.ret 1 (fun n => by show mOps m pc _ _ l _ h = _; rw [hop]; rfl) ⟨S, hh, hk⟩
theorem e_rz {x : Int32} (hop : mOps m pc = o_rz) (hx : x = 0 ∨ x = 1) (hk : K (some (.int x)) S) : ES E m pc l [.int x] S K := fun h hh => Ek.ret 1 (fun n => by show mOps m pc _ _ l _ h = _; rw [hop]; unfold o_rz; simp only [hx, if_true]) ⟨S, hh, hk⟩
theorem e_rl {x : Int64} (hop : mOps m pc = o_rl) (hk : K (some (.long x)) S) : ES E m pc l [.long x] S K := fun h hh => Ek.ret 1 (fun n => by show mOps m pc _ _ l _ h = _; rw [hop]; rfl) ⟨S, hh, hk⟩
theorem e_rv (hop : mOps m pc = o_rv) (hk : K none S) : ES E m pc l [] S K := fun h hh => Ek.ret 1 (fun n => by show mOps m pc _ _ l _ h = _; rw [hop]; rfl) ⟨S, hh, hk⟩
end ESR
