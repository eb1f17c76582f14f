/-! ===== calls: weight ===== -/
def hgt (B : mS) (j : Nat) : Nat := (sS B 2 j).toNatClampNeg
def mxh (B : mS) : Nat → Nat
  | 0 => 0
  | j + 1 => if mxh B j < hgt B j then hgt B j else mxh B j
theorem mxh_ge (B : mS) : ∀ n j, j < n → hgt B j ≤ mxh B n
  | 0, j, h => by omega
  | n + 1, j, h => by
    unfold mxh
    by_cases e : j = n
    · subst e
      split <;> omega
    · have := mxh_ge B n j (by omega)
      split <;> omega
theorem mxh_le (B : mS) {m : Nat} : ∀ n, (∀ j, j < n → hgt B j ≤ m) → mxh B n ≤ m
  | 0, _ => by unfold mxh; omega
  | n + 1, h => by
    have h1 := mxh_le B n (fun j hj => h j (by omega))
    have h2 := h n (by omega)
    unfold mxh
    split <;> omega
section Weigh
variable {E : mE} {A B A' B' : mS} {L M N : List Mg} {T i : Nat}
theorem Sim.hg (hS : Sim E A B M N) {j : Nat} (hj : j < eN E) : 1 ≤ hgt B j ∧ hgt B j ≤ 41 ∧ sN A j 0 2 = nI (hgt B j) ∧ sS B 2 j = nI (hgt B j) := by
  obtain ⟨g, g1, g2, a2, b2⟩ := (hS.2.2.2.2 j hj).1.1
  have e : hgt B j = g := by
    unfold hgt
    rw [b2, nI_clamp (by omega)]
  rw [e]
  exact ⟨g1, g2, a2, b2⟩
theorem Sim.mx (hS : Sim E A B M N) {n : Nat} (hn : n ≤ eN E) : mxh B n ≤ 41 := mxh_le B n (fun j hj => (hS.hg (show j < eN E by omega)).2.1)
/-- the class's greatest height -/
theorem c_top (hS : Sim E A B M N) : CR E 64 0 [some (.ref (aK E 0)), none, none] A (some (.int (nI (mxh B (eN E))))) A := by
  have hn := hS.1.1.2.2.2
  have hn1 := hS.1.1.2.2.1
  have m9 : ∀ B0, sK (mix A B0) 9 0 = nI (eN E) := fun B0 => hS.1.1.2.1
  have loop : ∀ d j (B0 : mS) (K : Option Value → mS → Prop), j + d = eN E → K (some (.int (nI (if mxh B (eN E) = 0 then 1 else mxh B (eN E))))) (mix A B0) → ES E 64 4 [some (.ref (aK E 0)), some (.int (nI (if mxh B j = 0 then 1 else mxh B j))), some (.int (nI j))] [] (mix A B0) K := by
    intro d
    induction d with
    | zero =>
      intro j B0 K hj hK
      have e : j = eN E := by omega
      subst e
      exact T64_4 ⟨fun _ => hK, fun z => absurd (by rw [m9]; exact Int32.le_refl _) z⟩
    | succ d ih =>
      intro j B0 K hj hK
      have cj : (nI j).toNatClampNeg = j := nI_clamp (by omega)
      obtain ⟨y1, y2, y3, y4⟩ := hS.hg (show j < eN E by omega)
      have ym := hS.mx (show j ≤ eN E by omega)
      have m2 : sN (mix A B0) j 0 2 = nI (hgt B j) := y3
      refine T64_4 ⟨fun z => ?_, fun _ => ?_⟩
      · rw [m9, le_n (by omega) (by omega)] at z
        omega
      · rw [cj, m2, nI_1]
        refine ⟨⟨nI_pos (by omega), by omega⟩, ?_⟩
        have e : (if nI (if mxh B j = 0 then 1 else mxh B j) < nI (hgt B j) then nI (hgt B j) else nI (if mxh B j = 0 then 1 else mxh B j)) = nI (if mxh B (j + 1) = 0 then 1 else mxh B (j + 1)) := by
          have e1 : mxh B (j + 1) = if mxh B j < hgt B j then hgt B j else mxh B j := rfl
          rw [e1]
          by_cases z0 : mxh B j = 0
          · rw [if_pos z0, z0, if_pos (show 0 < hgt B j by omega), if_neg (show ¬ hgt B j = 0 by omega)]
            by_cases z1 : 1 < hgt B j
            · rw [if_pos (nI_lt z1 (by omega))]
            · rw [if_neg (by rw [nI_ltI (by omega) (by omega)]; exact z1), show hgt B j = 1 by omega]
          · rw [if_neg z0]
            by_cases z1 : mxh B j < hgt B j
            · rw [if_pos (nI_lt z1 (by omega)), if_pos z1, if_neg (show ¬ hgt B j = 0 by omega)]
            · rw [if_neg (by rw [nI_ltI (by omega) (by omega)]; exact z1), if_neg z1, if_neg z0]
        rw [e]
        exact ih (j + 1) B0 K (by omega) hK
  intro B0 K hK
  have h0 := mxh_ge B (eN E) 0 (by omega)
  have h1 := (hS.hg (show 0 < eN E by omega)).1
  have := loop (eN E) 0 B0 K (by omega) (by rw [if_neg (show ¬ mxh B (eN E) = 0 by omega)]; exact hK)
  exact T64 this
/-- the reference's greatest height -/
theorem r_top {a1 a2 : Int32} (hS : Sim E A B M N) (ht : 0 < sK A 0 5) {A0 : mS} {K : Option Value → mS → Prop} (h : ES E 130 83 [some (.ref (aS E 0)), some (.int a1), some (.int a2), some (.int (nI (mxh B (eN E) + 1))), some (.int (nI (mxh B (eN E) + 1)))] [] (mix A0 B) K) : ES E 130 32 [some (.ref (aS E 0)), some (.int a1), some (.int a2), some (.int 0), some (.int 0)] [] (mix A0 B) K := by
  have hn := hS.1.1.2.2.2
  have m1 : sS (mix A0 B) 0 1 = nI (eN E) := hS.1.1.1
  have m3 : sS (mix A0 B) 0 3 = sK A 0 5 := hS.1.2.1.1
  have loop : ∀ d j, j + d = eN E → ES E 130 32 [some (.ref (aS E 0)), some (.int a1), some (.int a2), some (.int (nI (mxh B j))), some (.int (nI j))] [] (mix A0 B) K := by
    intro d
    induction d with
    | zero =>
      intro j hj
      have e : j = eN E := by omega
      subst e
      refine T130_32 ⟨fun _ => ?_, fun z => absurd (by rw [m1]; exact Int32.le_refl _) z⟩
      rw [nI_1]
      exact h
    | succ d ih =>
      intro j hj
      have cj : (nI j).toNatClampNeg = j := nI_clamp (by omega)
      obtain ⟨y1, y2, y3, y4⟩ := hS.hg (show j < eN E by omega)
      have ym := hS.mx (show j ≤ eN E by omega)
      have m2 : sS (mix A0 B) 2 j = nI (hgt B j) := y4
      have nx := ih (j + 1) (by omega)
      have e1 : mxh B (j + 1) = if mxh B j < hgt B j then hgt B j else mxh B j := rfl
      rw [e1] at nx
      refine T130_32 ⟨fun z => ?_, fun _ => ⟨fun z => ?_, fun _ => ?_⟩⟩
      · rw [m1, le_n (by omega) (by omega)] at z
        omega
      · rw [m3] at z
        exact absurd ht (nlt.2 z)
      · rw [cj, m2, nI_1, le_n (by omega) (by omega)]
        refine ⟨⟨nI_pos (by omega), by omega⟩, fun z => ?_, fun z => ?_⟩
        · rw [if_neg (by omega)] at nx
          exact nx
        · rw [if_pos (by omega)] at nx
          exact nx
  exact loop (eN E) 0 (by omega)
theorem nI_shift {a x y c : Nat} (h : c + y = a + x) : nI a + (nI x - nI y) = nI c := by
  have e : nI c + nI y = nI a + nI x := by rw [nI_add, nI_add, h]
  have e2 : nI c = nI a + nI x - nI y := by rw [← e, Int32.add_sub_cancel]
  rw [e2, Int32.sub_eq_add_neg, Int32.sub_eq_add_neg, Int32.add_assoc]
theorem nsum_upd {w w' : Nat → Nat} {x : Nat} (hi : w' i = x) (ho : ∀ k, ¬ k = i → w' k = w k) : ∀ n, i < n → nsum (fun _ => true) w' n + w i = nsum (fun _ => true) w n + x
  | 0, h => by omega
  | n + 1, h => by
    unfold nsum
    rw [if_pos rfl, if_pos rfl]
    by_cases e : i = n
    · subst e
      rw [hi, nsum_cg (p := fun _ => true) (q := fun _ => true) (w := w') (w' := w) i (fun s hs => ⟨rfl, ho s (by omega)⟩)]
      omega
    · have := nsum_upd hi ho n (by omega)
      rw [ho n (by omega)]
      omega
theorem R1.wt (h : R1 E A B i) (hA : ∀ d l, sN A' i d l = sN A i d l) (hw : ∀ v hh, sS B 2 i = nI hh → hh ≤ 41 → v < hh → ∀ l, sK A' (12 + v) l = sK A (12 + v) l) (hB : ∀ v l, ¬ v = 1 → sS B' v l = sS B v l) (hW : ∀ l, sW B' l = sW B l) : R1 E A' B' i := by
  obtain ⟨a, b, c, d, e⟩ := h
  refine ⟨?_, ?_, ?_, ?_, ?_⟩
  · unfold PHt1 at a ⊢
    rw [hA, hB 2 _ (by omega)]
    exact a
  · unfold PBe1 at b ⊢
    rw [hA, hB 11 _ (by omega)]
    exact b
  · unfold PCu1 at c ⊢
    rw [hA, hB 10 _ (by omega), hB 9 _ (by omega)]
    exact c
  · unfold PLk1 at d ⊢
    rw [hA, hA, hB 5 _ (by omega), hB 6 _ (by omega)]
    exact d
  · intro h hh q1 q2 q3 q4
    rw [hB 2 _ (by omega)] at q4
    have := e h hh q1 q2 q3 q4
    rw [hA, hA, hA, hB 21 _ (by omega), hB 22 _ (by omega), hB 23 _ (by omega), hW]
    refine ⟨fun z => ?_, this.2⟩
    rw [wsum_cg (w := fun s => sK A' (12 + h) s) (w' := fun s => sK A (12 + h) s) _ (fun k _ => hw h hh q4 q3 z k)]
    exact this.1 z
/-- one height's weight changes on both sides -/
theorem wstep {v w : Nat} (hS : Sim E A B M N) (hi : i < eN E) (hv1 : 1 ≤ v) (hv : v ≤ 40) (hw1 : 1 ≤ w) (hw : w ≤ 1000000) (hh : ∀ j, j < eN E → hgt B j ≤ v) : Sim E (uK (uK A 10 v (sK A 10 v + (nI w - sK A (12 + v) i))) (12 + v) i (nI w)) (uS B 1 (10 * v + i) (nI w)) M N := by
  have hn := hS.1.1.2.2.2
  generalize hA2 : uK (uK A 10 v (sK A 10 v + (nI w - sK A (12 + v) i))) (12 + v) i (nI w) = A2
  generalize hB2 : uS B 1 (10 * v + i) (nI w) = B2
  have oK : ∀ u l, ¬ (u = 10 ∧ l = v) → ¬ (u = 12 + v ∧ l = i) → sK A2 u l = sK A u l := fun u l y1 y2 => by rw [← hA2, rKo _ y2, rKo _ y1]
  have oB : ∀ u l, ¬ (u = 1 ∧ l = 10 * v + i) → sS B2 u l = sS B u l := fun u l y => by rw [← hB2, rSo _ y]
  have oF : FKk A A2 := hA2 ▸ (FKk.u _ _ _ _).tr (FKk.u _ _ _ _)
  have hW : ∀ l, sW B2 l = sW B l := fun l => by rw [← hB2, fWS]
  have kv : sK A2 (12 + v) i = nI w := by rw [← hA2, rKs]
  have sv : sS B2 1 (10 * v + i) = nI w := by rw [← hB2, rSs]
  have k10 : sK A2 10 v = sK A 10 v + (nI w - sK A (12 + v) i) := by rw [← hA2, rKo _ (by omega), rKs]
  obtain ⟨a, b, c, ⟨gw, ge, gc, gs⟩, rest⟩ := hS
  refine ⟨a.fr2 oF (fun u l z1 z2 => oK u l (by omega) (by omega)) (fun u l z1 z2 z3 => oB u l (by omega)), b.fr oF.2.1 (fun l => oB 2 l (by omega)) (fun j d l z => oF.1 _ _ _) (fun p => oB 17 p (by omega)) (fun p => oB 18 p (by omega)), c.fr (fun l => oB 2 l (by omega)) (fun j d l z1 z2 => oF.1 _ _ _) (fun p => oB 19 p (by omega)) (fun p => oB 20 p (by omega)), ⟨fun h q1 q2 => ?_, ?_, by rw [oB _ _ (by omega), oK _ _ (by omega) (by omega)]; exact gc, by rw [oB _ _ (by omega), oK _ _ (by omega) (by omega)]; exact gs⟩, fun j hj => ⟨?_, (rest j hj).2.fr (oF.1 _ _ _) (oF.1 _ _ _) (fun d l _ _ => oF.1 _ _ _) (fun v z => oB v j (by omega)) (fun k hk => oB 12 _ (by omega))⟩⟩
  · by_cases e : h = v
    · subst e
      have old := gw
      refine ⟨fun j hj => ?_, ?_⟩
      · by_cases ej : j = i
        · subst ej
          rw [sv, kv]
          exact ⟨rfl, w, hw1, hw, rfl⟩
        · rw [oB _ _ (by omega), oK _ _ (by omega) (by omega)]
          exact (gw h q1 q2).1 j hj
      · have e1 := gw.all q1 q2
        have wi := (gw.w q1 q2 i hi).1
        rw [k10, e1, wi]
        have hws : ∀ s, s < eN E → sK A2 (12 + h) s = nI (if s = i then w else ww B h s) := fun s hs => by
          by_cases es : s = i
          · subst es
            rw [if_pos rfl, kv]
          · rw [if_neg es, oK _ _ (by omega) (by omega)]
            exact (gw.w q1 q2 s hs).1
        rw [wsum_n (ω := fun s => if s = i then w else ww B h s) _ hws]
        exact nI_shift (nsum_upd (w := ww B h) (w' := fun s => if s = i then w else ww B h s) (if_pos rfl) (fun k hk => if_neg hk) _ hi)
    · obtain ⟨w1, w2⟩ := gw h q1 q2
      refine ⟨fun j hj => ?_, ?_⟩
      · rw [oB 1 _ (by omega), oK (12 + h) j (by omega) (by omega)]
        exact w1 j hj
      · rw [oK 10 h (by omega) (by omega), w2]
        exact wsum_cg _ (fun k _ => (oK _ _ (by omega) (by omega)).symm)
  · obtain ⟨e, e1, e2, e3, e4⟩ := ge
    exact ⟨e, e1, by rw [oB _ _ (by omega)]; exact e2, by rw [oK _ _ (by omega) (by omega)]; exact e3, fun k hk => by rw [oB _ _ (by omega), oK _ _ (by omega) (by omega)]; exact e4 k hk⟩
  · refine (rest j hj).1.wt (fun d l => oF.1 _ _ _) (fun u x y1 y2 y3 l => oK _ _ (by omega) ?_) (fun u l y => oB u l (by omega)) hW
    have := hh j hj
    unfold hgt at this
    rw [y1, nI_clamp (by omega)] at this
    omega
/-- what a change of weights leaves -/
def FWt (A B A' B' : mS) : Prop := FKk A A' ∧ (∀ l, sK A' 0 l = sK A 0 l) ∧ ∀ v l, ¬ v = 1 → sS B' v l = sS B v l
theorem wloop {w x : Nat} (hi : i < eN E) (hw1 : 1 ≤ w) (hw : w ≤ 1000000) (hx : x ≤ 42) : ∀ d v (A' B' : mS), v + d = (if x ≤ 41 then 41 else x) → 1 ≤ v → Sim E A' B' M N → (∀ j, j < eN E → hgt B' j ≤ v) → ∃ A2 B2, Sim E A2 B2 M N ∧ FWt A' B' A2 B2 ∧ (∀ (v3 : Int32) (B0 : mS) (K : Option Value → mS → Prop), K none (mix A2 B0) → ES E 27 3 [some (.ref (aK E 9)), some (.int (nI i)), some (.int (nI w)), some (.int v3), some (.int (nI v))] [] (mix A' B0) K) ∧ (∀ (v3 : Int32) (A0 : mS) (K : Option Value → mS → Prop), K (some (.int v3)) (mix A0 B2) → ES E 130 83 [some (.ref (aS E 0)), some (.int (nI i)), some (.int (nI w)), some (.int v3), some (.int (nI v))] [] (mix A0 B') K) := by
  intro d
  induction d with
  | zero =>
    intro v A' B' hd hv1 hS hh
    have h40 : (40 : Int32) < nI v := by
      rw [show (40 : Int32) = nI 40 from rfl]
      split at hd
      · exact nI_lt (by omega) (by omega)
      · exact nI_lt (by omega) (by omega)
    exact ⟨A', B', hS, ⟨FKk.rf _, fun _ => rfl, fun _ _ _ => rfl⟩, fun v3 B0 K hK => T27_3 ⟨fun _ => hK, fun z => absurd h40 z⟩, fun v3 A0 K hK => T130_83 ⟨fun _ => hK, fun z => absurd h40 z⟩⟩
  | succ d ih =>
    intro v A' B' hd hv1 hS hh
    have hn := hS.1.1.2.2.2
    by_cases hv : v ≤ 40
    · have n40 : ¬ (40 : Int32) < nI v := by
        rw [show (40 : Int32) = nI 40 from rfl, nI_ltI (by omega) (by omega)]
        omega
      have cv : (nI v).toNatClampNeg = v := nI_clamp (by omega)
      have ci : (nI i).toNatClampNeg = i := nI_clamp (by omega)
      have cw : (nI (10 * v + i)).toNatClampNeg = 10 * v + i := nI_clamp (by omega)
      have hS2 := wstep (v := v) (w := w) hS hi hv1 hv hw1 hw hh
      obtain ⟨A2, B2, y1, ⟨y2, y3, y4⟩, y5, y6⟩ := ih (v + 1) _ _ (by omega) (by omega) hS2 (fun j hj => by
        have := hh j hj
        unfold hgt at this ⊢
        rw [rSo _ (by omega)]
        omega)
      refine ⟨A2, B2, y1, ⟨((FKk.u _ _ _ _).tr (FKk.u _ _ _ _)).tr y2, fun l => by rw [y3, rKo _ (by omega), rKo _ (by omega)], fun u l z => by rw [y4 u l z, rSo _ (by omega)]⟩, fun v3 B0 K hK => T27_3 ⟨fun z => absurd z n40, fun _ => ?_⟩, fun v3 A0 K hK => T130_83 ⟨fun z => absurd z n40, fun _ => ?_⟩⟩
      · rw [cv, ci, nI_1]
        refine ⟨⟨nI_pos (by omega), by omega⟩, ⟨nI_pos (by omega), hi⟩, ?_⟩
        rw [mxK, mxK]
        rintro _ rfl _ rfl
        rw [pK, pK]
        exact y5 v3 B0 K hK
      · rw [ix_w, cw, nI_1]
        refine ⟨⟨nI_pos (by omega), by omega⟩, ?_⟩
        rintro _ rfl
        rw [pS]
        exact y6 v3 A0 K hK
    · have h40 : (40 : Int32) < nI v := by
        rw [show (40 : Int32) = nI 40 from rfl]
        refine nI_lt (by omega) ?_
        split at hd <;> omega
      exact ⟨A', B', hS, ⟨FKk.rf _, fun _ => rfl, fun _ _ _ => rfl⟩, fun v3 B0 K hK => T27_3 ⟨fun _ => hK, fun z => absurd h40 z⟩, fun v3 A0 K hK => T130_83 ⟨fun _ => hK, fun z => absurd h40 z⟩⟩
theorem CI.wt (h : CI E T A B L) (hS : Sim E A' B' L L) (hF : FWt A B A' B') : CI E (T + 100) A' B' L := by
  obtain ⟨c1, c2, c3, ⟨t, d1, d2⟩, e, f, l, g1, gl⟩ := h
  obtain ⟨o1, o2, o3⟩ := hF
  refine ⟨hS, fun j hj => by rw [o1.1]; exact c2 j hj, by rw [o2]; exact c3, ⟨t, by omega, by rw [o2]; exact d2⟩, fun j hj => ?_, fun y j hj => ?_, l, by omega, by rw [o2]; exact gl⟩
  · rw [o3 _ _ (by omega), o3 _ _ (by omega), o2]
    rcases e j hj with y | ⟨x, x1, x2, x3⟩
    · exact Or.inl y
    · exact Or.inr ⟨x, by omega, x2, x3⟩
  · rw [o2] at y
    rw [o3 _ _ (by omega), o3 _ _ (by omega), o3 _ _ (by omega)]
    exact f y j hj
theorem k_weight (h : CI E T A B L) (hT : T ≤ 50000) (a1 a2 : Int32) : ANS E (T + 100) 62 [some (.ref (aK E 0)), some (.int a1), some (.int a2), none] 130 [some (.ref (aS E 0)), some (.int a1), some (.int a2), none, none] A B := by
  have h1 := h.thr
  generalize hB1 : uS B 0 0 0 = B1 at h1
  have hn := h.1.1.1.2.2.2
  have hn1 := h.1.1.1.2.2.1
  have m9 : ∀ B0, sK (mix A B0) 9 0 = nI (eN E) := fun B0 => h.1.1.1.2.1
  have m1 : ∀ A0, sS (mix A0 B1) 0 1 = nI (eN E) := fun A0 => h1.1.1.1.1
  have bad : (∀ B0 K, K (some (.int (-1))) (mix A B0) → ES E 62 0 [some (.ref (aK E 0)), some (.int a1), some (.int a2), none] [] (mix A B0) K) → (∀ A0 K, K (some (.int (-1))) (mix A0 B1) → ES E 130 0 [some (.ref (aS E 0)), some (.int a1), some (.int a2), none, none] [] (mix A0 B) K) → ANS E (T + 100) 62 [some (.ref (aK E 0)), some (.int a1), some (.int a2), none] 130 [some (.ref (aS E 0)), some (.int a1), some (.int a2), none, none] A B := fun c r => ⟨-1, A, B1, L, c, r, h1.mono (by omega)⟩
  rcases nodeC (E := E) a1 hn with z | ⟨z0, z⟩ | ⟨i, hi, rfl⟩
  · refine bad (fun B0 K hK => T62 ⟨fun _ => hK, fun y => absurd z y⟩) (fun A0 K hK => T130 ?_)
    rintro _ rfl
    rw [pS, hB1, q0]
    exact ⟨fun _ => hK, fun y => absurd z y⟩
  · refine bad (fun B0 K hK => T62 ⟨fun y => absurd y z0, fun _ => ⟨fun _ => hK, fun y => absurd (by rw [m9]; exact z) y⟩⟩) (fun A0 K hK => T130 ?_)
    rintro _ rfl
    rw [pS, hB1, q0, m1, gn a1 hn1 (by omega)]
    exact ⟨fun y => absurd y z0, fun _ => ⟨fun _ => hK, fun y => absurd z y⟩⟩
  · have z0 : ¬ nI i < 0 := nI_pos (by omega)
    have z1 : ¬ nI (eN E) ≤ nI i := by rw [le_n (by omega) (by omega)]; omega
    by_cases y1 : a2 < 1
    · refine bad (fun B0 K hK => T62 ⟨fun y => absurd y z0, fun _ => ⟨fun y => absurd (by rw [m9] at y; exact y) z1, fun _ => ⟨fun _ => hK, fun y => absurd y1 y⟩⟩⟩) (fun A0 K hK => T130 ?_)
      rintro _ rfl
      rw [pS, hB1, q0, q1, m1, gn _ hn1 (by omega)]
      exact ⟨fun y => absurd y z0, fun _ => ⟨fun y => absurd y z1, fun _ => ⟨fun _ => hK, fun y => absurd y1 y⟩⟩⟩
    · by_cases y2 : a2 ≤ 1000000
      · obtain ⟨w, w1, w2, rfl⟩ := rangeC (lo := 1) (hi := 1000000) (by omega) (by omega) y1 y2
        have cr : ∀ B0 K, ((sK A 0 5 = 0 → ES E 27 3 [some (.ref (aK E 9)), some (.int (nI i)), some (.int (nI w)), some (.int 1), some (.int 1)] [] (mix A B0) (fun r S6 => r = none ∧ (K (some (.int 1)) S6))) ∧ (¬ sK A 0 5 = 0 → ES E 27 3 [some (.ref (aK E 9)), some (.int (nI i)), some (.int (nI w)), some (.int (nI (mxh B1 (eN E) + 1))), some (.int (nI (mxh B1 (eN E) + 1)))] [] (mix A B0) (fun r S6 => r = none ∧ (K (some (.int (nI (mxh B1 (eN E) + 1)))) S6)))) → ES E 62 0 [some (.ref (aK E 0)), some (.int (nI i)), some (.int (nI w)), none] [] (mix A B0) K := by
          intro B0 K hK
          have e5 : sK (mix A B0) 0 5 = sK A 0 5 := mxK _ _ _ _
          refine T62 ⟨fun y => absurd y z0, fun _ => ⟨fun y => absurd (by rw [m9] at y; exact y) z1, fun _ => ⟨fun y => absurd y y1, fun _ => ⟨fun _ => ?_, fun y => absurd y2 y⟩⟩⟩⟩
          rw [e5]
          refine ⟨fun y => T27 (hK.1 y), fun y => c_top h1.1 B0 _ ⟨_, rfl, ?_⟩⟩
          rw [nI_1]
          exact T27 (hK.2 y)
        have rr : ∀ A0 K, ES E 130 32 [some (.ref (aS E 0)), some (.int (nI i)), some (.int (nI w)), some (.int 0), some (.int 0)] [] (mix A0 B1) K → ES E 130 0 [some (.ref (aS E 0)), some (.int (nI i)), some (.int (nI w)), none, none] [] (mix A0 B) K := by
          intro A0 K hK
          refine T130 ?_
          rintro _ rfl
          rw [pS, hB1, q0, q1, m1, gn _ hn1 (by omega), gmil]
          exact ⟨fun y => absurd y z0, fun _ => ⟨fun y => absurd y z1, fun _ => ⟨fun y => absurd y y1, fun _ => ⟨fun y => absurd y2 y, fun _ => hK⟩⟩⟩⟩
        have tB : sS B1 0 3 = sK A 0 5 := h1.1.1.2.1.1
        by_cases t0 : sK A 0 5 = 0
        · obtain ⟨A2, B2, x1, x2, x3, x4⟩ := wloop (E := E) (i := i) (w := w) (x := 1) (M := L) (N := L) hi w1 w2 (by omega) 40 1 A B1 (by rw [if_pos (by omega)]) (by omega) h1.1 (fun j hj => by
            unfold hgt
            rw [(h1.2.2.2.2.2.1 t0 j hj).1, nI_clamp (by omega)]
            omega)
          refine ⟨1, A2, B2, L, fun B0 K hK => cr B0 K ⟨fun _ => x3 1 B0 _ ⟨rfl, hK⟩, fun y => absurd t0 y⟩, fun A0 K hK => rr A0 K ?_, h1.wt x1 x2⟩
          have e03 : sS (mix A0 B1) 0 3 = 0 := tB.trans t0
          refine T130_32 ⟨fun y => ?_, fun _ => ⟨fun _ => ?_, fun y => absurd (by rw [e03]; decide) y⟩⟩
          · rw [m1, il0, le_n (by omega) (by omega)] at y
            omega
          · exact x4 1 A0 K hK
        · obtain ⟨t, d1, d2⟩ := h1.2.2.2.1
          have tp : 0 < sK A 0 5 := by
            rw [d2, il0, nI_eq (by omega) (by omega)] at t0
            rw [d2, il0, nI_ltI (by omega) (by omega)]
            omega
          have mx := h1.1.mx (Nat.le_refl (eN E))
          obtain ⟨A2, B2, x1, x2, x3, x4⟩ := wloop (E := E) (i := i) (w := w) (x := mxh B1 (eN E) + 1) (M := L) (N := L) hi w1 w2 (by omega) ((if mxh B1 (eN E) + 1 ≤ 41 then 41 else mxh B1 (eN E) + 1) - (mxh B1 (eN E) + 1)) (mxh B1 (eN E) + 1) A B1 (by split <;> omega) (by omega) h1.1 (fun j hj => by
            have := mxh_ge B1 (eN E) j hj
            omega)
          exact ⟨nI (mxh B1 (eN E) + 1), A2, B2, L, fun B0 K hK => cr B0 K ⟨fun y => absurd y t0, fun _ => x3 _ B0 _ ⟨rfl, hK⟩⟩, fun A0 K hK => rr A0 K (r_top h1.1 tp (x4 _ A0 K hK)), h1.wt x1 x2⟩
      · refine bad (fun B0 K hK => T62 ⟨fun y => absurd y z0, fun _ => ⟨fun y => absurd (by rw [m9] at y; exact y) z1, fun _ => ⟨fun y => absurd y y1, fun _ => ⟨fun y => absurd y y2, fun _ => hK⟩⟩⟩⟩) (fun A0 K hK => T130 ?_)
        rintro _ rfl
        rw [pS, hB1, q0, q1, m1, gn _ hn1 (by omega), gmil]
        exact ⟨fun y => absurd y z0, fun _ => ⟨fun y => absurd y z1, fun _ => ⟨fun y => absurd y y1, fun _ => ⟨fun _ => hK, fun y => absurd y2 y⟩⟩⟩⟩
end Weigh
