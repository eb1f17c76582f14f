/-! ===== what is made: heaps by their cells ===== -/
/-- a cell: tag, length, ints, longs, references -/
abbrev mCe : Type := Nat × Nat × (Nat → Int32) × (Nat → Int64) × (Nat → Option Nat)
def nC (t n : Nat) : mCe := (t, n, fun _ => 0, fun _ => 0, fun _ => none)
def ceI (c : mCe) (k : Nat) (x : Int32) : mCe := (c.1, c.2.1, up1 c.2.2.1 k x, c.2.2.2)
def ceP (c : mCe) (k p : Nat) : mCe := (c.1, c.2.1, c.2.2.1, c.2.2.2.1, up1 c.2.2.2.2 k (some p))
/-- the outer row of a row of rows -/
def ceM (a n : Nat) : mCe := (25, n, fun _ => 0, fun _ => 0, fun j => if j < n then some (a + 1 + j) else none)
def CE (h : mH) (a : Nat) (c : mCe) : Prop := mTg h a = c.1 ∧ mLn h a = c.2.1 ∧ mI h a = c.2.2.1 ∧ mJ h a = c.2.2.2.1 ∧ mP h a = c.2.2.2.2
/-- below t0 the cells g, from t0 on the cells cs, no more; s slots -/
def PH (g : Nat → mCe) (t0 s : Nat) (cs : List mCe) (h : mH) : Prop := mTop h = t0 + cs.length ∧ mSl h = s ∧ (∀ a, a < t0 → CE h a (g a)) ∧ ∀ j c, cs[j]? = some c → CE h (t0 + j) c
def EP (g : Nat → mCe) (t0 s : Nat) (cs : List mCe) (m pc : Nat) (l : mL) (st : List Value) (K : Option Value → mH → Prop) : Prop := ∀ h, PH g t0 s cs h → Ek m pc l st h K
def lay (g : Nat → mCe) (t0 : Nat) (cs : List mCe) : Nat → mCe := fun a => if a < t0 then g a else cs.getD (a - t0) (0, 0, fun _ => 0, fun _ => 0, fun _ => none)
theorem lay_lo {g : Nat → mCe} {t0 : Nat} {cs : List mCe} {a : Nat} (h : a < t0) : lay g t0 cs a = g a := if_pos h
theorem lay_at {g : Nat → mCe} {t0 : Nat} {cs : List mCe} {j : Nat} {c : mCe} (h : cs[j]? = some c) : lay g t0 cs (t0 + j) = c := by
  unfold lay
  rw [if_neg (by omega), Nat.add_sub_cancel_left, List.getD_eq_getElem?_getD, h]
  rfl
section Cells
variable {g : Nat → mCe} {t0 s : Nat} {cs : List mCe} {h : mH}
theorem CE.wi {a b k : Nat} {x : Int32} {c : mCe} (H : CE h b c) (ne : ¬ b = a) : CE (wI h a k x) b c := by
  obtain ⟨h1, h2, h3, h4, h5⟩ := H
  refine ⟨h1, h2, ?_, h4, h5⟩
  rw [← h3]
  funext j
  rw [mI_wI, if_neg (fun q => ne q.1)]
theorem CE.wi' {a k : Nat} {x : Int32} {c : mCe} (H : CE h a c) : CE (wI h a k x) a (ceI c k x) := by
  obtain ⟨h1, h2, h3, h4, h5⟩ := H
  refine ⟨h1, h2, ?_, h4, h5⟩
  funext j
  rw [mI_wI, h3]
  show _ = if j = k then x else c.2.2.1 j
  by_cases e : j = k
  · rw [if_pos ⟨rfl, e⟩, if_pos e]
  · rw [if_neg (fun q => e q.2), if_neg e]
theorem CE.wp {a b k p : Nat} {c : mCe} (H : CE h b c) (ne : ¬ b = a) : CE (wP h a k (some p)) b c := by
  obtain ⟨h1, h2, h3, h4, h5⟩ := H
  refine ⟨h1, h2, h3, h4, ?_⟩
  rw [← h5]
  funext j
  rw [mP_wP, if_neg (fun q => ne q.1)]
theorem CE.wp' {a k p : Nat} {c : mCe} (H : CE h a c) : CE (wP h a k (some p)) a (ceP c k p) := by
  obtain ⟨h1, h2, h3, h4, h5⟩ := H
  refine ⟨h1, h2, h3, h4, ?_⟩
  funext j
  rw [mP_wP, h5]
  show _ = if j = k then some p else c.2.2.2.2 j
  by_cases e : j = k
  · rw [if_pos ⟨rfl, e⟩, if_pos e]
  · rw [if_neg (fun q => e q.2), if_neg e]
theorem CE.wn {b t n : Nat} {c : mCe} (H : CE h b c) (ne : ¬ b = mTop h) : CE (wN h t n) b c := by
  obtain ⟨h1, h2, h3, h4, h5⟩ := H
  exact ⟨by rw [mTg_wN, if_neg ne]; exact h1, by rw [mLn_wN, if_neg ne]; exact h2, by rw [mI_wN, if_neg ne]; exact h3, by rw [mJ_wN, if_neg ne]; exact h4, by rw [mP_wN, if_neg ne]; exact h5⟩
theorem CE.wn' {t n : Nat} : CE (wN h t n) (mTop h) (nC t n) :=
  ⟨by rw [mTg_wN, if_pos rfl]; rfl, by rw [mLn_wN, if_pos rfl]; rfl, by rw [mI_wN, if_pos rfl]; rfl, by rw [mJ_wN, if_pos rfl]; rfl, by rw [mP_wN, if_pos rfl]; rfl⟩
theorem some_lt {j : Nat} {c : mCe} (hj : cs[j]? = some c) : j < cs.length := (List.getElem?_eq_some_iff.mp hj).1
theorem PH.wi {j k : Nat} {c : mCe} {x : Int32} (H : PH g t0 s cs h) (hj : cs[j]? = some c) : PH g t0 s (cs.set j (ceI c k x)) (wI h (t0 + j) k x) := by
  have hl := some_lt hj
  refine ⟨by rw [List.length_set]; exact H.1, H.2.1, fun a ha => (H.2.2.1 a ha).wi (by omega), fun i c' hi => ?_⟩
  rw [List.getElem?_set] at hi
  by_cases e : j = i
  · subst e
    rw [if_pos rfl, if_pos hl] at hi
    cases hi
    exact (H.2.2.2 j c hj).wi'
  · rw [if_neg e] at hi
    exact (H.2.2.2 i c' hi).wi (by omega)
theorem PH.wp {j k p : Nat} {c : mCe} (H : PH g t0 s cs h) (hj : cs[j]? = some c) : PH g t0 s (cs.set j (ceP c k p)) (wP h (t0 + j) k (some p)) := by
  have hl := some_lt hj
  refine ⟨by rw [List.length_set]; exact H.1, H.2.1, fun a ha => (H.2.2.1 a ha).wp (by omega), fun i c' hi => ?_⟩
  rw [List.getElem?_set] at hi
  by_cases e : j = i
  · subst e
    rw [if_pos rfl, if_pos hl] at hi
    cases hi
    exact (H.2.2.2 j c hj).wp'
  · rw [if_neg e] at hi
    exact (H.2.2.2 i c' hi).wp (by omega)
theorem PH.wn {t n : Nat} (H : PH g t0 s cs h) : PH g t0 (s + n) (cs ++ [nC t n]) (wN h t n) := by
  have ht := H.1
  refine ⟨by rw [mTop_wN, List.length_append, H.1]; rfl, ?_, fun a ha => (H.2.2.1 a ha).wn (by omega), fun i c' hi => ?_⟩
  · show mSl h + n = s + n
    rw [H.2.1]
  · rw [List.getElem?_append] at hi
    by_cases e : i < cs.length
    · rw [if_pos e] at hi
      exact (H.2.2.2 i c' hi).wn (by omega)
    · rw [if_neg e] at hi
      by_cases e2 : i = cs.length
      · subst e2
        rw [Nat.sub_self] at hi
        cases hi
        rw [← ht]
        exact CE.wn'
      · obtain ⟨k, hk⟩ : ∃ k, i - cs.length = k + 1 := ⟨i - cs.length - 1, by omega⟩
        rw [hk] at hi
        simp at hi
theorem PH.wm {n k : Nat} (H : PH g t0 s cs h) : PH g t0 (s + (n + n * k)) (cs ++ (ceM (t0 + cs.length) n :: List.replicate n (nC 20 k))) (wM h n k) := by
  have ht := H.1
  have lo : ∀ b c, b < t0 + cs.length → CE h b c → CE (wM h n k) b c := fun b c hb q => by
    obtain ⟨h1, h2, h3, h4, h5⟩ := q
    exact ⟨by rw [mTg_wM, if_neg (by omega), if_neg (by omega)]; exact h1, by rw [mLn_wM, if_neg (by omega), if_neg (by omega)]; exact h2, by rw [mI_wM, if_neg (by omega)]; exact h3, by rw [mJ_wM, if_neg (by omega)]; exact h4, by rw [mP_wM, if_neg (by omega), if_neg (by omega)]; exact h5⟩
  refine ⟨by rw [mTop_wM, List.length_append, List.length_cons, List.length_replicate, H.1]; omega, ?_, fun a ha => lo a _ (by omega) (H.2.2.1 a ha), fun i c' hi => ?_⟩
  · show mSl h + (n + n * k) = s + (n + n * k)
    rw [H.2.1]
  · rw [List.getElem?_append] at hi
    by_cases e : i < cs.length
    · rw [if_pos e] at hi
      exact lo _ _ (by omega) (H.2.2.2 i c' hi)
    · rw [if_neg e] at hi
      by_cases e2 : i = cs.length
      · subst e2
        rw [Nat.sub_self] at hi
        cases hi
        exact ⟨by rw [mTg_wM, if_pos ht.symm]; rfl, by rw [mLn_wM, if_pos ht.symm]; rfl, by rw [mI_wM, if_pos (by omega)]; rfl, by rw [mJ_wM, if_pos (by omega)]; rfl, by rw [mP_wM, if_pos ht.symm, ht]; rfl⟩
      · obtain ⟨q, hq⟩ : ∃ q, i - cs.length = q + 1 := ⟨i - cs.length - 1, by omega⟩
        rw [hq, List.getElem?_cons_succ, List.getElem?_replicate] at hi
        by_cases e3 : q < n
        · rw [if_pos e3] at hi
          cases hi
          exact ⟨by rw [mTg_wM, if_neg (by omega), if_pos (by omega)]; rfl, by rw [mLn_wM, if_neg (by omega), if_pos (by omega)]; rfl, by rw [mI_wM, if_pos (by omega)]; rfl, by rw [mJ_wM, if_pos (by omega)]; rfl, by rw [mP_wM, if_neg (by omega), if_pos (by omega)]; rfl⟩
        · rw [if_neg e3] at hi
          cases hi
theorem PH.up {cs0 : List mCe} (H : PH g t0 s (cs0 ++ cs) h) : PH (lay g t0 cs0) (t0 + cs0.length) s cs h := by
  refine ⟨by rw [H.1, List.length_append]; omega, H.2.1, fun a ha => ?_, fun j c hj => ?_⟩
  · by_cases e : a < t0
    · rw [lay_lo e]
      exact H.2.2.1 a e
    · obtain ⟨q, rfl⟩ : ∃ q, a = t0 + q := ⟨a - t0, by omega⟩
      have hq : q < cs0.length := by omega
      have := H.2.2.2 q cs0[q] (by rw [List.getElem?_append, if_pos hq, List.getElem?_eq_getElem hq])
      rw [lay_at (List.getElem?_eq_getElem hq)]
      exact this
  · have := H.2.2.2 (cs0.length + j) c (by rw [List.getElem?_append, if_neg (by omega), Nat.add_sub_cancel_left]; exact hj)
    rw [Nat.add_assoc]
    exact this
theorem PH.dn {cs0 : List mCe} (H : PH (lay g t0 cs0) (t0 + cs0.length) s cs h) : PH g t0 s (cs0 ++ cs) h := by
  refine ⟨by rw [H.1, List.length_append]; omega, H.2.1, fun a ha => ?_, fun j c hj => ?_⟩
  · have := H.2.2.1 a (by omega)
    rw [lay_lo ha] at this
    exact this
  · rw [List.getElem?_append] at hj
    by_cases e : j < cs0.length
    · rw [if_pos e] at hj
      have := H.2.2.1 (t0 + j) (by omega)
      rw [lay_at hj] at this
      exact this
    · rw [if_neg e] at hj
      have := H.2.2.2 _ c hj
      rw [show t0 + cs0.length + (j - cs0.length) = t0 + j by omega] at this
      exact this
end Cells
section EPR
variable {g : Nat → mCe} {t0 s m pc nx : Nat} {cs cs' : List mCe} {l : mL} {st : List Value} {K : Option Value → mH → Prop}
theorem EP.mono {K' : Option Value → mH → Prop} (e : EP g t0 s cs m pc l st K) (hk : ∀ r h', K r h' → K' r h') : EP g t0 s cs m pc l st K' := fun h hh => Ek.mono (e h hh) hk
theorem EP.up {cs0 : List mCe} (e : EP (lay g t0 cs0) (t0 + cs0.length) s cs m pc l st K) : EP g t0 s (cs0 ++ cs) m pc l st K := fun h hh => e h hh.up
theorem EP.op {pc' : Nat} {l' : mL} {st' : List Value} {p : mOp} (hop : mOps m pc = p) (he : ∀ h c k, p c k l st h = k pc' l' st' h) (e : EP g t0 s cs m pc' l' st' K) : EP g t0 s cs m pc l st K := fun h hh => Ek.op hop (he h) (e h hh)
theorem EP.rd {pc' : Nat} {l' : mL} {st' : List Value} {p : mOp} (hop : mOps m pc = p) (he : ∀ h, PH g t0 s cs h → ∀ c k, p c k l st h = k pc' l' st' h) (e : EP g t0 s cs m pc' l' st' K) : EP g t0 s cs m pc l st K := fun h hh => Ek.op hop (he h hh) (e h hh)
theorem EP.wr {pc' s' : Nat} {l' : mL} {st' : List Value} {p : mOp} (hop : mOps m pc = p) (w : mH → mH) (he : ∀ h, PH g t0 s cs h → ∀ c k, p c k l st h = k pc' l' st' (w h)) (hw : ∀ h, PH g t0 s cs h → PH g t0 s' cs' (w h)) (e : EP g t0 s' cs' m pc' l' st' K) : EP g t0 s cs m pc l st K := fun h hh => Ek.op hop (he h hh) (e _ (hw h hh))
theorem p_ic {v : Int32} (hop : mOps m pc = o_ic nx v) (e : EP g t0 s cs m nx l (.int v :: st) K) : EP g t0 s cs m pc l st K := EP.op hop (fun _ _ _ => rfl) e
theorem p_il {i : Nat} {x : Int32} (hop : mOps m pc = o_il nx i) (hl : l[i]? = some (some (.int x))) (e : EP g t0 s cs m nx l (.int x :: st) K) : EP g t0 s cs m pc l st K := EP.op hop (fun _ _ _ => by unfold o_il; rw [hl]) e
theorem p_al {i : Nat} {x : Nat} (hop : mOps m pc = o_al nx i) (hl : l[i]? = some (some (.ref x))) (e : EP g t0 s cs m nx l (.ref x :: st) K) : EP g t0 s cs m pc l st K := EP.op hop (fun _ _ _ => by unfold o_al; rw [hl]) e
theorem p_ist {i : Nat} {x : Int32} {l' : mL} (hop : mOps m pc = o_ist nx i) (hf : (mFree l i && Nat.blt i l.length) = true) (hl : l.set i (some (.int x)) = l') (e : EP g t0 s cs m nx l' st K) : EP g t0 s cs m pc l (.int x :: st) K := EP.op hop (fun _ _ _ => by unfold o_ist; simp only [hf, hl, cond_true]) e
theorem p_ast {i : Nat} {x : Nat} {l' : mL} (hop : mOps m pc = o_ast nx i) (hf : (mFree l i && Nat.blt i l.length) = true) (hl : l.set i (some (.ref x)) = l') (e : EP g t0 s cs m nx l' st K) : EP g t0 s cs m pc l (.ref x :: st) K := EP.op hop (fun _ _ _ => by unfold o_ast; simp only [hf, hl, cond_true]) e
theorem p_inc {i : Nat} {x n : Int32} {l' : mL} (hop : mOps m pc = o_inc nx i n) (hx : l[i]? = some (some (.int x))) (hf : (mFree l i && Nat.blt i l.length) = true) (hl : l.set i (some (.int (x + n))) = l') (e : EP g t0 s cs m nx l' st K) : EP g t0 s cs m pc l st K := EP.op hop (fun _ _ _ => by unfold o_inc; simp only [hx, hf, hl, cond_true]) e
theorem p_dup {x : Nat} (hop : mOps m pc = o_dup nx) (e : EP g t0 s cs m nx l (.ref x :: .ref x :: st) K) : EP g t0 s cs m pc l (.ref x :: st) K := EP.op hop (fun _ _ _ => rfl) e
theorem p_ii {f : Int32 → Int32 → Int32} {x y v : Int32} (hop : mOps m pc = o_ii nx f) (hv : f x y = v) (e : EP g t0 s cs m nx l (.int v :: st) K) : EP g t0 s cs m pc l (.int y :: .int x :: st) K := EP.op hop (fun _ _ _ => by subst hv; rfl) e
theorem p_goto {tg : Nat} (hop : mOps m pc = o_goto tg) (e : EP g t0 s cs m tg l st K) : EP g t0 s cs m pc l st K := EP.op hop (fun _ _ _ => rfl) e
theorem p_back {tg : Nat} {cl : List Nat} {l' : mL} (hop : mOps m pc = o_back tg cl) (hl : mClr l cl = l') (e : EP g t0 s cs m tg l' st K) : EP g t0 s cs m pc l st K := EP.op hop (fun _ _ _ => by unfold o_back; rw [hl]) e
theorem p_max {x y : Int32} (hop : mOps m pc = o_max nx) (h8 : Nat.ble (mCat st) 8 = true) (e : EP g t0 s cs m nx l (.int (if x < y then y else x) :: st) K) : EP g t0 s cs m pc l (.int y :: .int x :: st) K := EP.op hop (fun _ _ _ => by unfold o_max; simp only [h8, cond_true]) e
theorem p_min {x y : Int32} (hop : mOps m pc = o_min nx) (h8 : Nat.ble (mCat st) 8 = true) (e : EP g t0 s cs m nx l (.int (if y < x then y else x) :: st) K) : EP g t0 s cs m pc l (.int y :: .int x :: st) K := EP.op hop (fun _ _ _ => by unfold o_min; simp only [h8, cond_true]) e
theorem p_obj {a : Nat} (hop : mOps m pc = o_obj nx) (h8 : Nat.ble (mCat st) 8 = true) (e : EP g t0 s cs m nx l st K) : EP g t0 s cs m pc l (.ref a :: st) K := EP.op hop (fun _ _ _ => by unfold o_obj; simp only [h8, cond_true]) e
theorem p_ge {x y : Int32} {tg : Nat} (hop : mOps m pc = o_ge nx tg) (et : y ≤ x → EP g t0 s cs m tg l st K) (ef : ¬ y ≤ x → EP g t0 s cs m nx l st K) : EP g t0 s cs m pc l (.int y :: .int x :: st) K := by
  by_cases hc : y ≤ x
  · exact EP.op hop (fun _ _ _ => by unfold o_ge; simp only [if_pos hc]) (et hc)
  · exact EP.op hop (fun _ _ _ => by unfold o_ge; simp only [if_neg hc]) (ef hc)
theorem p_gt {x y : Int32} {tg : Nat} (hop : mOps m pc = o_gt nx tg) (et : y < x → EP g t0 s cs m tg l st K) (ef : ¬ y < x → EP g t0 s cs m nx l st K) : EP g t0 s cs m pc l (.int y :: .int x :: st) K := by
  by_cases hc : y < x
  · exact EP.op hop (fun _ _ _ => by unfold o_gt; simp only [if_pos hc]) (et hc)
  · exact EP.op hop (fun _ _ _ => by unfold o_gt; simp only [if_neg hc]) (ef hc)
-- fields
theorem p_gI {t f j a : Nat} {c : mCe} {x : Int32} (hop : mOps m pc = o_gI nx t f) (hj : cs[j]? = some c) (ha : t0 + j = a) (ht : c.1 = t) (hx : c.2.2.1 f = x) (e : EP g t0 s cs m nx l (.int x :: st) K) : EP g t0 s cs m pc l (.ref a :: st) K := EP.rd hop (fun h hh c' k => by
  obtain ⟨h1, h2, h3, h4, h5⟩ := hh.2.2.2 j c hj
  subst ha
  unfold o_gI
  simp only [h1, ht, if_true, h3, hx]) e
theorem p_gIl {t f a : Nat} {x : Int32} (hop : mOps m pc = o_gI nx t f) (ha : a < t0) (ht : (g a).1 = t) (hx : (g a).2.2.1 f = x) (e : EP g t0 s cs m nx l (.int x :: st) K) : EP g t0 s cs m pc l (.ref a :: st) K := EP.rd hop (fun h hh c' k => by
  obtain ⟨h1, h2, h3, h4, h5⟩ := hh.2.2.1 a ha
  unfold o_gI
  simp only [h1, ht, if_true, h3, hx]) e
theorem p_gP {t f j a p : Nat} {c : mCe} (hop : mOps m pc = o_gP nx t f) (hj : cs[j]? = some c) (ha : t0 + j = a) (ht : c.1 = t) (hx : c.2.2.2.2 f = some p) (e : EP g t0 s cs m nx l (.ref p :: st) K) : EP g t0 s cs m pc l (.ref a :: st) K := EP.rd hop (fun h hh c' k => by
  obtain ⟨h1, h2, h3, h4, h5⟩ := hh.2.2.2 j c hj
  subst ha
  unfold o_gP
  simp only [h1, ht, if_true, h5, hx]
  rfl) e
theorem p_pI {t f j a : Nat} {c : mCe} {x : Int32} (hop : mOps m pc = o_pI nx t f) (hj : cs[j]? = some c) (ha : t0 + j = a) (ht : c.1 = t) (hc : cs.set j (ceI c f x) = cs') (e : EP g t0 s cs' m nx l st K) : EP g t0 s cs m pc l (.int x :: .ref a :: st) K := EP.wr hop (fun h => wI h (t0 + j) f x) (fun h hh c' k => by
  obtain ⟨h1, h2, h3, h4, h5⟩ := hh.2.2.2 j c hj
  subst ha
  unfold o_pI
  simp only [h1, ht, if_true]) (fun h hh => hc ▸ hh.wi hj) e
theorem p_pP {t f j a p : Nat} {c : mCe} (hop : mOps m pc = o_pP nx t f) (hj : cs[j]? = some c) (ha : t0 + j = a) (ht : c.1 = t) (hc : cs.set j (ceP c f p) = cs') (e : EP g t0 s cs' m nx l st K) : EP g t0 s cs m pc l (.ref p :: .ref a :: st) K := EP.wr hop (fun h => wP h (t0 + j) f (some p)) (fun h hh c' k => by
  obtain ⟨h1, h2, h3, h4, h5⟩ := hh.2.2.2 j c hj
  subst ha
  unfold o_pP
  simp only [h1, ht, if_true]) (fun h hh => hc ▸ hh.wp hj) e
-- rows
theorem p_ias {n j a : Nat} {c : mCe} {x i : Int32} (hop : mOps m pc = o_ias nx) (hj : cs[j]? = some c) (ha : t0 + j = a) (ht : c.1 = 20) (hi : i = nI n) (hn : n < c.2.1) (hb : n < 2 ^ 31) (hc : cs.set j (ceI c n x) = cs') (e : EP g t0 s cs' m nx l st K) : EP g t0 s cs m pc l (.int x :: .int i :: .ref a :: st) K := EP.wr hop (fun h => wI h (t0 + j) n x) (fun h hh c' k => by
  obtain ⟨h1, h2, h3, h4, h5⟩ := hh.2.2.2 j c hj
  subst ha
  subst hi
  have q : mTg h (t0 + j) = 20 ∧ ¬ nI n < 0 ∧ (nI n).toNatClampNeg < mLn h (t0 + j) := ⟨h1.trans ht, nI_pos hb, by rw [nI_clamp hb, h2]; exact hn⟩
  unfold o_ias
  simp only [if_pos q]
  rw [nI_clamp hb]) (fun h hh => hc ▸ hh.wi hj) e
theorem p_aal {n j a p : Nat} {c : mCe} {i : Int32} (hop : mOps m pc = o_aal nx) (hj : cs[j]? = some c) (ha : t0 + j = a) (ht : c.1 = 23 ∨ c.1 = 24 ∨ c.1 = 25) (hi : i = nI n) (hn : n < c.2.1) (hb : n < 2 ^ 31) (hp : c.2.2.2.2 n = some p) (e : EP g t0 s cs m nx l (.ref p :: st) K) : EP g t0 s cs m pc l (.int i :: .ref a :: st) K := EP.rd hop (fun h hh c' k => by
  obtain ⟨h1, h2, h3, h4, h5⟩ := hh.2.2.2 j c hj
  subst ha
  subst hi
  have q : (mTg h (t0 + j) = 23 ∨ mTg h (t0 + j) = 24 ∨ mTg h (t0 + j) = 25) ∧ ¬ nI n < 0 ∧ (nI n).toNatClampNeg < mLn h (t0 + j) := ⟨by rw [h1]; exact ht, nI_pos hb, by rw [nI_clamp hb, h2]; exact hn⟩
  unfold o_aal
  simp only [if_pos q]
  rw [nI_clamp hb, h5, hp]
  rfl) e
theorem p_aas {n j a i' x : Nat} {c d : mCe} {i : Int32} (hop : mOps m pc = o_aas nx) (hj : cs[j]? = some c) (ha : t0 + j = a) (ht : c.1 = 24) (hd : cs[i']? = some d) (hx : t0 + i' = x) (ht' : d.1 = 7) (hi : i = nI n) (hn : n < c.2.1) (hb : n < 2 ^ 31) (hc : cs.set j (ceP c n x) = cs') (e : EP g t0 s cs' m nx l st K) : EP g t0 s cs m pc l (.ref x :: .int i :: .ref a :: st) K := EP.wr hop (fun h => wP h (t0 + j) n (some x)) (fun h hh c' k => by
  obtain ⟨h1, h2, h3, h4, h5⟩ := hh.2.2.2 j c hj
  have h7 := (hh.2.2.2 i' d hd).1
  subst ha
  subst hi
  subst hx
  have q : ((mTg h (t0 + j) = 23 ∧ mTg h (t0 + i') = 6) ∨ (mTg h (t0 + j) = 24 ∧ mTg h (t0 + i') = 7)) ∧ ¬ nI n < 0 ∧ (nI n).toNatClampNeg < mLn h (t0 + j) := ⟨Or.inr ⟨h1.trans ht, h7.trans ht'⟩, nI_pos hb, by rw [nI_clamp hb, h2]; exact hn⟩
  unfold o_aas
  simp only [if_pos q]
  rw [nI_clamp hb]) (fun h hh => hc ▸ hh.wp hj) e
theorem p_aln {j a : Nat} {c : mCe} (hop : mOps m pc = o_aln nx) (hj : cs[j]? = some c) (ha : t0 + j = a) (ht : c.1 = 20) (e : EP g t0 s cs m nx l (.int (nI c.2.1) :: st) K) : EP g t0 s cs m pc l (.ref a :: st) K := EP.rd hop (fun h hh c' k => by
  obtain ⟨h1, h2, h3, h4, h5⟩ := hh.2.2.2 j c hj
  subst ha
  have q : mTg h (t0 + j) = 20 ∨ mTg h (t0 + j) = 23 ∨ mTg h (t0 + j) = 30 := Or.inl (h1.trans ht)
  unfold o_aln
  simp only [if_pos q]
  rw [h2]) e
theorem p_alnl {a : Nat} (hop : mOps m pc = o_aln nx) (ha : a < t0) (ht : (g a).1 = 30) (e : EP g t0 s cs m nx l (.int (nI (g a).2.1) :: st) K) : EP g t0 s cs m pc l (.ref a :: st) K := EP.rd hop (fun h hh c' k => by
  obtain ⟨h1, h2, h3, h4, h5⟩ := hh.2.2.1 a ha
  have q : mTg h a = 20 ∨ mTg h a = 23 ∨ mTg h a = 30 := Or.inr (Or.inr (h1.trans ht))
  unfold o_aln
  simp only [if_pos q]
  rw [h2]) e
theorem p_iall {a n : Nat} {i : Int32} (hop : mOps m pc = o_ial nx) (ha : a < t0) (ht : (g a).1 = 30) (hi : i = nI n) (hn : n < (g a).2.1) (hb : n < 2 ^ 31) (e : EP g t0 s cs m nx l (.int ((g a).2.2.1 n) :: st) K) : EP g t0 s cs m pc l (.int i :: .ref a :: st) K := EP.rd hop (fun h hh c' k => by
  obtain ⟨h1, h2, h3, h4, h5⟩ := hh.2.2.1 a ha
  subst hi
  have q : (mTg h a = 20 ∨ mTg h a = 30) ∧ ¬ nI n < 0 ∧ (nI n).toNatClampNeg < mLn h a := ⟨Or.inr (h1.trans ht), nI_pos hb, by rw [nI_clamp hb, h2]; exact hn⟩
  unfold o_ial
  simp only [if_pos q]
  rw [nI_clamp hb, h3]) e
-- what is made
theorem p_new {t n a : Nat} (hop : mOps m pc = o_new nx t n) (ha : t0 + cs.length = a) (hc : cs ++ [nC t n] = cs') (e : EP g t0 (s + n) cs' m nx l (.ref a :: st) K) : EP g t0 s cs m pc l st K := EP.wr hop (fun h => wN h t n) (fun h hh c' k => by
  subst ha
  unfold o_new
  rw [hh.1]) (fun h hh => hc ▸ hh.wn) e
theorem p_nwa {t n a : Nat} {v : Int32} (hop : mOps m pc = o_nwa nx t) (hv : v = nI n) (hn : n ≤ 1000000) (ha : t0 + cs.length = a) (hc : cs ++ [nC t n] = cs') (e : EP g t0 (s + n) cs' m nx l (.ref a :: st) K) : EP g t0 s cs m pc l (.int v :: st) K := EP.wr hop (fun h => wN h t n) (fun h hh c' k => by
  subst ha
  subst hv
  have q : ¬ nI n < 0 ∧ (nI n).toNatClampNeg ≤ 1000000 := ⟨nI_pos (by omega), by rw [nI_clamp (by omega)]; exact hn⟩
  unfold o_nwa
  simp only [if_pos q]
  rw [nI_clamp (by omega), hh.1]) (fun h hh => hc ▸ hh.wn) e
theorem p_mna {n k a : Nat} {v w : Int32} (hop : mOps m pc = o_mna nx) (hv : v = nI n) (hn : n ≤ 1000000) (hw : w = nI k) (hk : k ≤ 1000000) (ha : t0 + cs.length = a) (hc : cs ++ (ceM (t0 + cs.length) n :: List.replicate n (nC 20 k)) = cs') (e : EP g t0 (s + (n + n * k)) cs' m nx l (.ref a :: st) K) : EP g t0 s cs m pc l (.int w :: .int v :: st) K := EP.wr hop (fun h => wM h n k) (fun h hh c' k' => by
  subst ha
  subst hv
  subst hw
  have q : (¬ nI n < 0 ∧ (nI n).toNatClampNeg ≤ 1000000) ∧ ¬ nI k < 0 ∧ (nI k).toNatClampNeg ≤ 1000000 := ⟨⟨nI_pos (by omega), by rw [nI_clamp (by omega)]; exact hn⟩, nI_pos (by omega), by rw [nI_clamp (by omega)]; exact hk⟩
  unfold o_mna
  simp only [if_pos q]
  rw [nI_clamp (by omega), nI_clamp (by omega), hh.1]) (fun h hh => hc ▸ hh.wm) e
-- calls
theorem p_cS {m' np : Nat} {rest as : List Value} {l0 : mL} (hop : mOps m pc = o_cS nx m' np) (hst : st.drop np = rest) (htk : (st.take np).reverse = as) (h8 : (Nat.ble (mCat rest) 8 && Nat.ble np st.length) = true) (hen : Nat.ble (mEn as).length (mNl (mt m')) = true) (hl : mArgs (mNl (mt m')) as = l0)
    (e : EP g t0 s cs m' 0 l0 [] (fun r h' => Ek m nx l (r.toList ++ rest) h' K)) : EP g t0 s cs m pc l st K := by
  intro h hh
  subst hl
  refine Ek.call 0 (as := as) (rest := rest) (pc' := nx) (l' := l) (h1 := h) (m' := m') (fun n => ?_) (e h hh)
  show mOps m pc _ _ l st h = _
  rw [hop]
  unfold o_cS
  rw [hst, htk]
  simp only [h8, cond_true, mEx_call hen]
  rfl
theorem p_cI {m' np a : Nat} {rest as : List Value} {l0 : mL} (hop : mOps m pc = o_cI nx m' np) (hst : st.drop np = .ref a :: rest) (htk : (st.take np).reverse = as) (h8 : (Nat.ble (mCat rest) 8 && Nat.ble np st.length) = true) (hen : Nat.ble (mEn (.ref a :: as)).length (mNl (mt m')) = true) (hl : mArgs (mNl (mt m')) (.ref a :: as) = l0)
    (e : EP g t0 s cs m' 0 l0 [] (fun r h' => Ek m nx l (r.toList ++ rest) h' K)) : EP g t0 s cs m pc l st K := by
  intro h hh
  subst hl
  refine Ek.call 0 (as := .ref a :: as) (rest := rest) (pc' := nx) (l' := l) (h1 := h) (m' := m') (fun n => ?_) (e h hh)
  show mOps m pc _ _ l st h = _
  rw [hop]
  unfold o_cI
  rw [hst, htk]
  simp only [h8, cond_true, mEx_call hen]
  rfl
theorem p_rv (hop : mOps m pc = o_rv) (hk : ∀ h, PH g t0 s cs h → K none h) : EP g t0 s cs m pc l [] K := fun h hh => Ek.ret 1 (fun n => by show mOps m pc _ _ l _ h = _; rw [hop]; rfl) (hk h hh)
theorem p_ri {x : Int32} (hop : mOps m pc = o_ri) (hk : ∀ h, PH g t0 s cs h → K (some (.int x)) h) : EP g t0 s cs m pc l [.int x] K := fun h hh => Ek.ret 1 (fun n => by show mOps m pc _ _ l _ h = _; rw [hop]; rfl) (hk h hh)
/-- a constructor runs on the cell that was made last -/
theorem p_ctor {m' np a s' : Nat} {rest as : List Value} {l0 : mL} {cs0 cs2 : List mCe} {x : mCe} (hop : mOps m pc = o_cI nx m' np) (hst : st.drop np = .ref a :: rest) (htk : (st.take np).reverse = as) (h8 : (Nat.ble (mCat rest) 8 && Nat.ble np st.length) = true) (hen : Nat.ble (mEn (.ref a :: as)).length (mNl (mt m')) = true) (hl : mArgs (mNl (mt m')) (.ref a :: as) = l0)
    (hcs : cs0 ++ [x] = cs) (hc' : cs0 ++ cs2 = cs') (ct : ∀ K' : Option Value → mH → Prop, (∀ h', PH (lay g t0 cs0) (t0 + cs0.length) s' cs2 h' → K' none h') → EP (lay g t0 cs0) (t0 + cs0.length) s [x] m' 0 l0 [] K') (e : EP g t0 s' cs' m nx l rest K) : EP g t0 s cs m pc l st K := by
  refine p_cI hop hst htk h8 hen hl ?_
  rw [← hcs]
  refine EP.up (ct _ (fun h' hh' => e h' ?_))
  rw [← hc']
  exact hh'.dn
end EPR
section Fill
variable {g : Nat → mCe} {t0 s j n : Nat} {cs : List mCe} {K : Option Value → mH → Prop} {I : Nat → Int32} {J : Nat → Int64} {P : Nat → Option Nat} {v : Int32}
/-- Arrays.fill -/
theorem fill_run (hj : cs[j]? = some (20, n, I, J, P)) (hn : n ≤ 1000000) (hK : ∀ h, PH g t0 s (cs.set j (20, n, fun k => if k < n then v else I k, J, P)) h → K none h) : EP g t0 s cs 0 0 [some (.ref (t0 + j)), some (.int v), none, none] [] K := by
  have hl := some_lt hj
  have loop : ∀ d i, i + d = n → EP g t0 s (cs.set j (20, n, fun k => if k < i then v else I k, J, P)) 0 5 [some (.ref (t0 + j)), some (.int v), some (.int (nI i)), some (.int (nI n))] [] K := by
    intro d
    induction d with
    | zero =>
      intro i hi
      have e : i = n := by omega
      subst e
      exact p_il x0_5 rfl (p_il x0_6 rfl (p_ge x0_7 (fun _ => p_rv x0_20 hK) (fun z => absurd (Int32.le_refl _) z)))
    | succ d ih =>
      intro i hi
      have nx := ih (i + 1) (by omega)
      have hs : (cs.set j (20, n, fun k => if k < i then v else I k, J, P))[j]? = some (20, n, fun k => if k < i then v else I k, J, P) := by rw [List.getElem?_set, if_pos rfl, if_pos hl]
      refine p_il x0_5 rfl (p_il x0_6 rfl (p_ge x0_7 (fun z => ?_) (fun _ => p_al x0_10 rfl (p_il x0_11 rfl (p_il x0_12 rfl (p_ias (n := i) x0_13 hs rfl rfl rfl (show i < n by omega) (by omega) (cs' := cs.set j (20, n, fun k => if k < i + 1 then v else I k, J, P)) ?_ (p_inc x0_14 rfl rfl rfl (p_back x0_17 rfl ?_))))))))
      · rw [le_n (by omega) (by omega)] at z
        omega
      · rw [List.set_set]
        congr 1
        show (20, n, up1 (fun k => if k < i then v else I k) i v, J, P) = _
        congr 3
        funext k
        show (if k = i then v else if k < i then v else I k) = if k < i + 1 then v else I k
        by_cases e1 : k = i
        · rw [if_pos e1, if_pos (by omega)]
        · rw [if_neg e1]
          by_cases e2 : k < i
          · rw [if_pos e2, if_pos (by omega)]
          · rw [if_neg e2, if_neg (by omega)]
      · show EP _ _ _ _ _ _ [some (.ref (t0 + j)), some (.int v), some (.int (nI i + 1)), some (.int (nI n))] _ _
        rw [nI_1]
        exact nx
  have st := loop n 0 (by omega)
  have e0 : cs.set j (20, n, fun k => if k < 0 then v else I k, J, P) = cs := by
    apply List.ext_getElem?
    intro i
    rw [List.getElem?_set]
    by_cases e : j = i
    · subst e
      rw [if_pos rfl, if_pos hl, hj]
      rfl
    · rw [if_neg e]
  rw [e0] at st
  exact p_ic x0_0 (p_ist x0_1 rfl rfl (p_al x0_2 rfl (p_aln x0_3 hj rfl rfl (p_ist x0_4 rfl rfl st))))
end Fill
