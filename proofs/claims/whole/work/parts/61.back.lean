/-! ===== a node comes back ===== -/
/-- all but ballots stay -/
def FR (A B A' B' : mS) : Prop := FNn A A' ∧ (∀ j d l, d < 17 → sN A' j d l = sN A j d l) ∧ (∀ v l, ¬ v = 17 → ¬ v = 18 → sS B' v l = sS B v l) ∧ ∀ l, sW B' l = sW B l
theorem FR.rf (A B : mS) : FR A B A B := ⟨FNn.rf A, fun _ _ _ _ => rfl, fun _ _ _ _ => rfl, fun _ => rfl⟩
theorem FR.tr {A B A1 B1 A2 B2 : mS} (h : FR A B A1 B1) (g : FR A1 B1 A2 B2) : FR A B A2 B2 := ⟨h.1.tr g.1, fun j d l z => (g.2.1 j d l z).trans (h.2.1 j d l z), fun v l z1 z2 => (g.2.2.1 v l z1 z2).trans (h.2.2.1 v l z1 z2), fun l => (g.2.2.2 l).trans (h.2.2.2 l)⟩
section Back
variable {E : mE} {A B A' B' : mS} {M N : List Mg} {i g r k : Nat} {t : Int32}
theorem R1.cu (h : R1 E A B i) (h2 : sN A' i 0 2 = sN A i 0 2) (h7 : sN A' i 0 7 = sN A i 0 7) (hd : ∀ d l, d = 1 ∨ (6 ≤ d ∧ d ≤ 8) → sN A' i d l = sN A i d l) (hw : ∀ v l, 12 ≤ v → sK A' v l = sK A v l) (hB : ∀ v, v = 2 ∨ v = 5 ∨ v = 6 ∨ v = 11 → sS B' v i = sS B v i) (hB2 : ∀ v h, 21 ≤ v → v ≤ 23 → h ≤ 40 → sS B' v (10 * h + i) = sS B v (10 * h + i)) (hW : ∀ h, h ≤ 40 → sW B' (10 * h + i) = sW B (10 * h + i)) (hc : PCu1 A' B' i) : R1 E A' B' i := by
  obtain ⟨a, b, _, d, e⟩ := h
  refine ⟨?_, ?_, hc, ?_, ?_⟩
  · unfold PHt1 at a ⊢
    rw [h2, hB 2 (by omega)]
    exact a
  · unfold PBe1 at b ⊢
    rw [h7, hB 11 (by omega)]
    exact b
  · unfold PLk1 at d ⊢
    rw [hd 1 0 (by omega), hd 1 1 (by omega), hB 5 (by omega), hB 6 (by omega)]
    exact d
  · intro h hh q1 q2 q3 q4
    rw [hB 2 (by omega)] at q4
    have := e h hh q1 q2 q3 q4
    rw [hd 6 h (by omega), hd 7 h (by omega), hd 8 h (by omega), hB2 21 h (by omega) (by omega) q2, hB2 22 h (by omega) (by omega) q2, hB2 23 h (by omega) (by omega) q2, hW h q2, wsum_cg (w := fun s => sK A' (12 + h) s) (w' := fun s => sK A (12 + h) s) _ (fun k _ => hw _ _ (by omega))]
    exact this
/-- the cut ends, and both ballots are emptied -/
theorem clr2 (hS : Sim E A B M N) (hi : i < eN E) : ∃ A3 B3, (∀ (B0 : mS) (K : Option Value → mS → Prop), ES E 57 29 [some (.ref (aN E i 0)), some (.int t), some (.int (sN A i 9 3)), some (.int 0), none] [] (mix A3 B0) K → ES E 57 0 [some (.ref (aN E i 0)), some (.int t), none, none, none] [] (mix A B0) K) ∧
    (∀ (A0 : mS) (K : Option Value → mS → Prop), ((sS B 2 i ≤ 40 → ES E 126 33 [some (.ref (aS E 0)), some (.int (nI i)), some (.int 0), none, none] [] (mix A0 B3) K) ∧ (¬ sS B 2 i ≤ 40 → K none (mix A0 B3))) → ES E 126 0 [some (.ref (aS E 0)), some (.int (nI i)), none, none, none] [] (mix A0 B) K) ∧
    Sim E A3 B3 M N ∧ FNn A A3 ∧ (∀ j d l, d < 17 → ¬ (j = i ∧ d = 0 ∧ l = 8) → sN A3 j d l = sN A j d l) ∧ sN A3 i 0 8 = 0 ∧ (∀ v l, ¬ v = 17 → ¬ v = 18 → ¬ (v = 10 ∧ l = i) → sS B3 v l = sS B v l) ∧ sS B3 10 i = 0 ∧ ∀ h r s k, r < 30 → s < 10 → k < 3 → sS B3 17 (pl i h r s k) = -1 := by
  have hn := hS.1.1.2.2.2
  have ci : (nI i).toNatClampNeg = i := nI_clamp (by omega)
  obtain ⟨g, g1, g2, a2, b2⟩ := (hS.2.2.2.2 i hi).1.1
  obtain ⟨p1, p2, p3, p4⟩ := hS.2.1 i hi
  obtain ⟨v1, v2⟩ := p4 g (by omega) b2
  obtain ⟨t1, t11, t12, t13⟩ := v1.2.2.2
  obtain ⟨t2, t21, t22, t23⟩ := v2.2.2.2
  have l0 : 16 < sR A i 0 := by rcases p1 with z | z <;> omega
  have l1 : 16 < sR A i 1 := by rcases p2 with z | z <;> omega
  have ne : sR A i 1 < sR A i 0 ∨ sR A i 0 < sR A i 1 := by omega
  have far : sR A i 1 + 2 < sR A i 0 ∨ sR A i 0 + 2 < sR A i 1 := by rcases p1 with z | z <;> rcases p2 with y | y <;> omega
  generalize hA1 : uN A i 0 8 0 = A1
  have o1 : ∀ j d l, ¬ (j = i ∧ d = 0 ∧ l = 8) → sN A1 j d l = sN A j d l := fun j d l z => by rw [← hA1, rNo _ (by omega)]
  have F1 : FNn A A1 := hA1 ▸ FNn.u _ _ _ _ _
  obtain ⟨A2, c1, c2, c3, c4, c5⟩ := c_clear (E := E) (A := A1) (i := i) (c := sR A i 0) (z := eN E) (t := t1) hi hn p1.b (by rw [o1 _ _ _ (by omega)]; exact v1.1) p1.ln t11 (by rw [o1 _ _ _ (by omega)]; exact t12) (fun r s k x1 x2 x3 x4 => by rw [o1 _ _ _ (by omega)]; exact t13 r s k x1 x2 x3 x4)
  obtain ⟨A3, d1, d2, d3, d4, d5⟩ := c_clear (E := E) (A := A2) (i := i) (c := sR A i 1) (z := eN E) (t := t2) hi hn p2.b (by rw [c3 _ _ _ (by omega), o1 _ _ _ (by omega)]; exact v2.1) p2.ln t21 (by rw [c3 _ _ _ (by omega), o1 _ _ _ (by omega)]; exact t22) (fun r s k x1 x2 x3 x4 => by rw [c3 _ _ _ (by omega), o1 _ _ _ (by omega)]; exact t23 r s k x1 x2 x3 x4)
  generalize hB1 : uS B 10 i 0 = B1
  have u1 : ∀ v l, ¬ (v = 10 ∧ l = i) → sS B1 v l = sS B v l := fun v l z => by rw [← hB1, rSo _ z]
  obtain ⟨B2, e1, e2, e3, e4, e5⟩ := r_clr (E := E) (B := B1) (i := i) (h := 0) (by omega) (by omega)
  obtain ⟨B3, f1, f2, f3, f4, f5⟩ := r_clr (E := E) (B := B2) (i := i) (h := 1) (by omega) (by omega)
  have FA : FNn A A3 := (F1.tr c2).tr d2
  have oA : ∀ j d l, d < 17 → ¬ (j = i ∧ d = 0 ∧ l = 8) → sN A3 j d l = sN A j d l := fun j d l z1 z2 => by rw [d3 j d l (by omega), c3 j d l (by omega), o1 j d l z2]
  have oA8 : sN A3 i 0 8 = 0 := by rw [d3 _ _ _ (by omega), c3 _ _ _ (by omega), ← hA1, rNs]
  have oB : ∀ v l, ¬ v = 17 → ¬ v = 18 → ¬ (v = 10 ∧ l = i) → sS B3 v l = sS B v l := fun v l z1 z2 z3 => by rw [f4 v l z1 z2, e4 v l z1 z2, u1 v l z3]
  have oB10 : sS B3 10 i = 0 := by rw [f4 _ _ (by omega) (by omega), e4 _ _ (by omega) (by omega), ← hB1, rSs]
  have em : ∀ h r s k, r < 30 → s < 10 → k < 3 → sS B3 17 (pl i h r s k) = -1 := fun h r s k z1 z2 z3 => by
    rw [f2, e2, pl_q z1 z2 z3]
    by_cases y : 2 * i + h % 2 = 2 * i + 1 % 2
    · rw [if_pos y]
    · rw [if_neg y, if_pos (by omega)]
  have em8 : ∀ h r s, r < 30 → s < 10 → sS B3 18 (rp i h r s) = -9 := fun h r s z1 z2 => by
    rw [f3, e3, rp_q z1 z2]
    by_cases y : 2 * i + h % 2 = 2 * i + 1 % 2
    · rw [if_pos y]
    · rw [if_neg y, if_pos (by omega)]
  have hP : PBa E A3 B3 := fun j hj => by
    by_cases e : j = i
    · subst e
      refine ⟨by rw [FA.2.1]; exact p1, by rw [FA.2.1]; exact p2, by rw [FA.2.1, FA.2.1]; exact p3, fun h h41 hh => ?_⟩
      rw [FA.2.1, FA.2.1]
      have c0 : ∀ r s k, r < 30 → s < eN E → k < 3 → sN A3 j (sR A j 0 + 2) ((r * eN E + s) * 3 + k) = -2 := fun r s k x1 x2 x3 => by rw [d3 _ _ _ (by omega)]; exact c5 r s k x1 x2 x3
      refine ⟨⟨by rw [d3 _ _ _ (by omega), c3 _ _ _ (by omega), o1 _ _ _ (by omega)]; exact v1.1, fun r s k x1 x2 x3 => ?_, fun r s x1 x2 => ⟨fun _ => em8 _ _ _ x1 (by omega), fun z => ?_⟩, 0, by omega, by rw [d3 _ _ _ (by omega), c4]; rfl, fun r s k _ x1 x2 x3 => c0 r s k x1 x2 x3⟩, ⟨by rw [d3 _ _ _ (by omega), c3 _ _ _ (by omega), o1 _ _ _ (by omega)]; exact v2.1, fun r s k x1 x2 x3 => ?_, fun r s x1 x2 => ⟨fun _ => em8 _ _ _ x1 (by omega), fun z => ?_⟩, 0, by omega, by rw [d4]; rfl, fun r s k _ x1 x2 x3 => d5 r s k x1 x2 x3⟩⟩
      · rw [c0 r s k x1 x2 x3, em _ _ _ _ x1 (by omega) x3]
        exact Or.inl ⟨rfl, rfl⟩
      · rw [em _ _ _ _ x1 (by omega) (by omega)] at z
        exact absurd z (by decide)
      · rw [d5 r s k x1 x2 x3, em _ _ _ _ x1 (by omega) x3]
        exact Or.inl ⟨rfl, rfl⟩
      · rw [em _ _ _ _ x1 (by omega) (by omega)] at z
        exact absurd z (by decide)
    · obtain ⟨j1, j2, j3, j4⟩ := hS.2.1 j hj
      have k0 : 16 < sR A j 0 := by rcases j1 with z | z <;> omega
      have k1 : 16 < sR A j 1 := by rcases j2 with z | z <;> omega
      have hA : ∀ d l, sN A3 j d l = sN A j d l := fun d l => by rw [d3 j d l (by omega), c3 j d l (by omega), o1 j d l (by omega)]
      have h17 : ∀ h r s k, r < 30 → s < eN E → k < 3 → sS B3 17 (pl j h r s k) = sS B 17 (pl j h r s k) := fun h r s k x1 x2 x3 => by
        rw [f2, e2, pl_q x1 (by omega) x3, if_neg (by omega), if_neg (by omega), u1 _ _ (by omega)]
      have h18 : ∀ h r s, r < 30 → s < eN E → sS B3 18 (rp j h r s) = sS B 18 (rp j h r s) := fun h r s x1 x2 => by
        rw [f3, e3, rp_q x1 (by omega), if_neg (by omega), if_neg (by omega), u1 _ _ (by omega)]
      refine ⟨by rw [FA.2.1]; exact j1, by rw [FA.2.1]; exact j2, by rw [FA.2.1, FA.2.1]; exact j3, fun h h41 hh => ?_⟩
      rw [oB 2 j (by omega) (by omega) (by omega)] at hh
      obtain ⟨w1, w2⟩ := j4 h h41 hh
      rw [FA.2.1, FA.2.1]
      exact ⟨w1.fr (fun d l _ _ => hA d l) (fun r s k x1 x2 x3 => h17 _ _ _ _ x1 x2 x3) (fun r s x1 x2 => h18 _ _ _ x1 x2), w2.fr (fun d l _ _ => hA d l) (fun r s k x1 x2 x3 => h17 _ _ _ _ x1 x2 x3) (fun r s x1 x2 => h18 _ _ _ x1 x2)⟩
  have hW : ∀ l, sW B3 l = sW B l := fun l => by rw [f5, e5, ← hB1, fWS]
  have hS3 : Sim E A3 B3 M N := by
    obtain ⟨a, b, c, rg, rest⟩ := hS
    refine ⟨a.fr FA (fun j c l z => oA j c l (by omega) (by omega)) (fun v l z => oB v l (by omega) (by omega) (by omega)), hP, c.fr (fun l => oB 2 l (by omega) (by omega) (by omega)) (fun j d l z1 z2 => oA j d l (by omega) (by omega)) (fun p => oB 19 p (by omega) (by omega) (by omega)) (fun p => oB 20 p (by omega) (by omega) (by omega)), rg.fr (fun v l _ => FA.1 v l) (FA.1 0 7) (fun l => oB 1 l (by omega) (by omega) (by omega)) (fun l => oB 37 l (by omega) (by omega) (by omega)) (fun l _ => oB 0 l (by omega) (by omega) (by omega)), fun j hj => ⟨?_, (rest j hj).2.fr (oA _ _ _ (by omega) (by omega)) (oA _ _ _ (by omega) (by omega)) (fun d l _ _ => oA _ _ _ (by omega) (by omega)) (fun v z => oB v j (by omega) (by omega) (by omega)) (fun k hk => oB 12 _ (by omega) (by omega) (by omega))⟩⟩
    by_cases e : j = i
    · subst e
      exact (rest j hj).1.cu (oA _ _ _ (by omega) (by omega)) (oA _ _ _ (by omega) (by omega)) (fun d l z => oA _ _ _ (by omega) (by omega)) (fun v l _ => FA.1 v l) (fun v z => oB v j (by omega) (by omega) (by omega)) (fun v h _ _ _ => oB v _ (by omega) (by omega) (by omega)) (fun h _ => hW _) (Or.inr ⟨oB10, oA8⟩)
    · exact (rest j hj).1.fr (oA _ _ _ (by omega) (by omega)) (oA _ _ _ (by omega) (by omega)) (oA _ _ _ (by omega) (by omega)) (fun d l z => oA _ _ _ (by omega) (by omega)) (fun v l _ => FA.1 v l) (fun v z => oB v j (by omega) (by omega) (by omega)) (fun v h _ _ _ => oB v _ (by omega) (by omega) (by omega)) (fun h _ => hW _)
  refine ⟨A3, B3, fun B0 K h => T57 hi ?_, fun A0 K h => T126 ⟨in_n rfl (by omega) (by omega), ?_⟩, hS3, FA, oA, oA8, oB, oB10, em⟩
  · rintro _ rfl
    refine ⟨p1, ?_⟩
    rw [mxR, pN, hA1]
    refine c1 B0 _ ⟨rfl, ?_⟩
    have mR : sR (mix A2 B0) i 1 = sR A i 1 := by rw [mxR, c2.2.1, F1.2.1]
    rw [mR]
    refine ⟨p2, d1 B0 _ ⟨rfl, ?_⟩⟩
    have m9 : sN (mix A3 B0) i 9 3 = sN A i 9 3 := by rw [mxN, oA _ _ _ (by omega) (by omega)]
    rw [m9]
    exact h
  · rw [ci]
    rintro _ rfl
    rw [pS, hB1]
    refine e1 A0 _ ⟨rfl, f1 A0 _ ⟨rfl, ?_⟩⟩
    have m2 : sS (mix A0 B3) 2 i = sS B 2 i := by rw [mxS, oB _ _ (by omega) (by omega) (by omega)]
    rw [m2]
    exact h
/-- one signed message is kept again -/
theorem rpl1 (hS : Sim E A B M N) (hi : i < eN E) (b2 : sS B 2 i = nI g) (h40 : g ≤ 40) (hr : r < 30) (hk : k < 3) (he : ∀ r' k', r' < 30 → k' < 3 → r < r' ∨ (r = r' ∧ k ≤ k') → sS B 17 (pl i g r' i k') = -1) : ∃ A' B', Sim E A' B' M N ∧ FR A B A' B' ∧ (∀ r' k', r' < 30 → k' < 3 → r < r' ∨ (r = r' ∧ k + 1 ≤ k') → sS B' 17 (pl i g r' i k') = -1) ∧
    (∀ (v2 : Int32) (B0 : mS) (K : Option Value → mS → Prop), ES E 57 37 [some (.ref (aN E i 0)), some (.int t), some (.int v2), some (.int (nI r)), some (.int (nI (k + 1)))] [] (mix A' B0) K → ES E 57 37 [some (.ref (aN E i 0)), some (.int t), some (.int v2), some (.int (nI r)), some (.int (nI k))] [] (mix A B0) K) ∧
    (∀ (A0 : mS) (K : Option Value → mS → Prop), ES E 126 41 [some (.ref (aS E 0)), some (.int (nI i)), some (.int (nI r)), some (.int (nI (k + 1))), none] [] (mix A0 B') K → ES E 126 41 [some (.ref (aS E 0)), some (.int (nI i)), some (.int (nI r)), some (.int (nI k)), none] [] (mix A0 B) K) := by
  have hn := hS.1.1.2.2.2
  have ci : (nI i).toNatClampNeg = i := nI_clamp (by omega)
  have cr : (nI r).toNatClampNeg = r := nI_clamp (by omega)
  obtain ⟨p1, p2, p3, p4⟩ := hS.2.1 i hi
  obtain ⟨v1, v2⟩ := p4 g (by omega) b2
  obtain ⟨s1, s2, s3, _⟩ := hS.2.2.1 i hi
  have l3 : ¬ (3 : Int32) ≤ nI k := by rw [il3, le_n (by omega) (by omega)]; omega
  have ix : (nI r * 1 + 0) * 3 + nI k = nI (r * 3 + k) := by
    have := ix_b r 1 0 k
    rw [show (r * 1 + 0) * 3 + k = r * 3 + k by omega] at this
    exact this
  have cx : (nI (r * 3 + k)).toNatClampNeg = r * 3 + k := nI_clamp (by omega)
  have jx : 90 * nI i + 3 * nI r + nI k = nI (90 * i + 3 * r + k) := by rw [il90, il3, pk_mul, pk_mul, nI_add, nI_add]
  have cj : (nI (90 * i + 3 * r + k)).toNatClampNeg = 90 * i + 3 * r + k := nI_clamp (by omega)
  have a0 := hS.1.2.2.2.2.2.2 i hi
  have m9 : ∀ B0, sN (mix A B0) i 9 0 = 1 := fun B0 => s1
  have mR : ∀ B0, sR (mix A B0) i 0 = sR A i 0 := fun B0 => mxR _ _ _ _
  have m00 : ∀ B0, sN (mix A B0) i 0 0 = nI i := fun B0 => a0
  have l0 : 16 < sR A i 0 := by rcases p1 with z | z <;> omega
  rcases (s2 r k hr hk).c with ⟨x1, x2, x3, x4⟩ | ⟨x1, x2, x3, x4⟩
  · refine ⟨A, B, hS, FR.rf A B, fun r' k' y1 y2 y3 => he r' k' y1 y2 (by omega), fun v2 B0 K h => T57_37 hi ⟨fun z => absurd z l3, fun _ => ?_⟩, fun A0 K h => T126_41 ⟨fun z => absurd z l3, fun _ => ?_⟩⟩
    · have mx : sN (mix A B0) i (9 + 2) (r * 3 + k) = -2 := x1
      rw [m9, ix, cx, nI_1]
      exact ⟨⟨nI_pos (by omega), show r * 3 + k < 90 * 1 by omega⟩, fun _ => h, fun z => absurd mx z⟩
    · have mx : sS (mix A0 B) 19 (90 * i + 3 * r + k) < 0 := x4
      rw [jx, cj, nI_1]
      exact ⟨⟨nI_pos (by omega), by omega⟩, fun _ => h, fun z => absurd mx z⟩
  · have e0 : sS B 17 (pl i g r i k) < 0 := by
      rw [he r k hr hk (by omega)]
      decide
    obtain ⟨A2, w1, w2, w3, w4, w5, w6, w7⟩ := c_put (E := E) (A := A) (i := i) (c := sR A i 0) (z := eN E) (r := r) (s := i) (k := k) (v := sS B 19 (90 * i + 3 * r + k)) (q := sN A i 10 r) hi hn p1.b v1.1 p1.ln hr hi hk
    obtain ⟨o1, o2, o3, o4⟩ := rK0_o B i g r i k (sS B 19 (90 * i + 3 * r + k)) (sS B 20 (90 * i + 3 * r + k))
    have rk := r_keep0 (E := E) (B := B) (i := i) (h := g) (r := r) (s := i) (k := k) (v := sS B 19 (90 * i + 3 * r + k)) (q := sS B 20 (90 * i + 3 * r + k)) (j := 0) (by omega) (by omega) hr hk b2 (Or.inl rfl) h40 e0
    generalize rK0 B i g r i k (sS B 19 (90 * i + 3 * r + k)) (sS B 20 (90 * i + 3 * r + k)) = B2 at o1 o2 o3 o4 rk
    refine ⟨A2, B2, hS.bal ?_ w2 (fun j d l z => w3 _ _ _ (by omega)) o1 o4, ⟨w2, fun j d l z => w3 _ _ _ (by omega), o1, o4⟩, fun r' k' y1 y2 y3 => ?_, fun v2 B0 K h => T57_37 hi ⟨fun z => absurd z l3, fun _ => ?_⟩, fun A0 K h => T126_41 ⟨fun z => absurd z l3, fun _ => ?_⟩⟩
    · refine hS.2.1.put hn hi (by omega) b2 (Or.inl ⟨rfl, rfl⟩) w2.2.1 (fun l => o1 2 l (by omega) (by omega)) (fun j d l z _ => w3 j d l z) hr hi hk w4 w5 (w6 0 (by omega)) w7 o2 o3 x2 (fun z => ?_)
      subst z
      rw [Nat.add_zero] at x2 ⊢
      obtain ⟨⟨w, y1, y2, y3⟩, y4, y5, y6⟩ := s3 r g hr (by omega) b2 x2
      exact ⟨y5.symm, ⟨w, y1, by rw [if_pos y4]; exact y2, y3⟩, y4, y6⟩
    · rw [o2, if_neg]
      · exact he r' k' y1 y2 (by omega)
      · intro z
        have := pl_inj y1 (by omega) y2 hr (by omega) hk z
        omega
    · have mx : sN (mix A B0) i (9 + 2) (r * 3 + k) = sS B 19 (90 * i + 3 * r + k) := x1
      have mx2 : ¬ sS B 19 (90 * i + 3 * r + k) = -2 := by rw [← x1]; exact x3
      have mq : sN (mix A B0) i (9 + 1) r = sN A i 10 r := mxN _ _ _ _ _
      rw [m9, ix, cx, nI_1, cr, mx, mq, mR, m00]
      exact ⟨⟨nI_pos (by omega), show r * 3 + k < 90 * 1 by omega⟩, fun z => absurd z mx2, fun _ => ⟨p1, ⟨nI_pos (by omega), hr⟩, w1 B0 _ ⟨rfl, h⟩⟩⟩
    · have mx : sS (mix A0 B) 19 (90 * i + 3 * r + k) = sS B 19 (90 * i + 3 * r + k) := mxS _ _ _ _
      have mq : sS (mix A0 B) 20 (90 * i + 3 * r + k) = sS B 20 (90 * i + 3 * r + k) := mxS _ _ _ _
      have m2 : sS (mix A0 B) 2 i = nI g := b2
      rw [jx, cj, nI_1, mx, mq, ci, m2]
      exact ⟨⟨nI_pos (by omega), by omega⟩, fun z => absurd z x4, fun _ => ⟨⟨nI_pos (by omega), by omega⟩, rk A0 _ ⟨rfl, h⟩⟩⟩
/-- the signed messages of round r -/
theorem rplR {v2 : Int32} (hS : Sim E A B M N) (hi : i < eN E) (b2 : sS B 2 i = nI g) (h40 : g ≤ 40) (hr : r < 30) (hv : ¬ v2 < nI r) (he : ∀ r' k', r' < 30 → k' < 3 → r < r' ∨ (r = r' ∧ 0 ≤ k') → sS B 17 (pl i g r' i k') = -1) : ∃ A' B', Sim E A' B' M N ∧ FR A B A' B' ∧ (∀ r' k', r' < 30 → k' < 3 → r + 1 < r' ∨ (r + 1 = r' ∧ 0 ≤ k') → sS B' 17 (pl i g r' i k') = -1) ∧
    (∀ (B0 : mS) (K : Option Value → mS → Prop), ES E 57 29 [some (.ref (aN E i 0)), some (.int t), some (.int v2), some (.int (nI (r + 1))), none] [] (mix A' B0) K → ES E 57 29 [some (.ref (aN E i 0)), some (.int t), some (.int v2), some (.int (nI r)), none] [] (mix A B0) K) ∧
    (∀ (A0 : mS) (K : Option Value → mS → Prop), ES E 126 33 [some (.ref (aS E 0)), some (.int (nI i)), some (.int (nI (r + 1))), none, none] [] (mix A0 B') K → ES E 126 33 [some (.ref (aS E 0)), some (.int (nI i)), some (.int (nI r)), none, none] [] (mix A0 B) K) := by
  obtain ⟨A1, B1, a1, a2, a3, a4, a5⟩ := rpl1 (t := t) (k := 0) hS hi b2 h40 hr (by omega) he
  obtain ⟨A2, B2, c1, c2, c3, c4, c5⟩ := rpl1 (t := t) (k := 1) a1 hi (by rw [a2.2.2.1 2 i (by omega) (by omega)]; exact b2) h40 hr (by omega) a3
  obtain ⟨A3, B3, d1, d2, d3, d4, d5⟩ := rpl1 (t := t) (k := 2) c1 hi (by rw [c2.2.2.1 2 i (by omega) (by omega), a2.2.2.1 2 i (by omega) (by omega)]; exact b2) h40 hr (by omega) c3
  refine ⟨A3, B3, d1, (a2.tr c2).tr d2, fun r' k' y1 y2 y3 => d3 r' k' y1 y2 (by omega), fun B0 K h => T57_29 hi ⟨fun z => absurd z hv, fun _ => a4 v2 B0 K (c4 v2 B0 K (d4 v2 B0 K (T57_37 hi ⟨fun _ => ?_, fun z => absurd (by decide) z⟩)))⟩, fun A0 K h => T126_33 ⟨fun z => ?_, fun _ => a5 A0 K (c5 A0 K (d5 A0 K (T126_41 ⟨fun _ => ?_, fun z => absurd (by decide) z⟩)))⟩⟩
  · rw [nI_1]
    exact h
  · rw [il30, le_n (by omega) (by omega)] at z
    omega
  · rw [nI_1]
    exact h
/-- behind the last height nothing settles -/
theorem settle41 (hi : i < eN E) (h17 : sN A i 0 17 = 0) (h8 : sN A i 0 8 = 0) (h2 : sN A i 0 2 = nI 41) : CR E 71 0 [some (.ref (aK E 0)), some (.ref (aN E i 0)), none] A none A := by
  intro B0 K hK
  refine T71 hi ⟨fun _ => T71_10 hi ⟨fun z => absurd z (by decide), fun _ => disp0 hi h17 B0 _ ⟨rfl, T43 hi ⟨fun z => ?_, fun _ => ⟨_, rfl, fun _ => hK, fun z => absurd rfl z⟩⟩⟩⟩, fun z => absurd ?_ z⟩
  · rw [mxN, h2] at z
    exact absurd z (by decide)
  · rw [mxN, h8]
    decide
/-- node i comes back, on both sides -/
theorem cmb (hS : Sim E A B M N) (hI : Idle E A) (hi : i < eN E) : ∃ A1 A2 B2 X, CR E 57 0 [some (.ref (aN E i 0)), some (.int (sK A 0 5)), none, none, none] A none A1 ∧ CR E 71 0 [some (.ref (aK E 0)), some (.ref (aN E i 0)), none] A1 none A2 ∧ RR E 126 0 [some (.ref (aS E 0)), some (.int (nI i)), none, none, none] B none B2 ∧ Sim E A2 B2 (M ++ X) (N ++ X) ∧ Idle E A2 ∧ (∀ l, ¬ l = 6 → ¬ l = 7 → ¬ l = 8 → sK A2 0 l = sK A 0 l) ∧ (∀ j, ¬ j = i → sS B2 9 j = sS B 9 j ∧ sS B2 10 j = sS B 10 j) ∧ sS B2 10 i = 0 ∧ ∀ m, m ∈ X → GM E m ∧ sK A 0 5 < m 7 := by
  obtain ⟨g, g1, g2, a2, b2⟩ := (hS.2.2.2.2 i hi).1.1
  have hn := hS.1.1.2.2.2
  have ci : (nI i).toNatClampNeg = i := nI_clamp (by omega)
  obtain ⟨A3, B3, c1, c2, c3, c4, c5, c6, c7, c8, c9⟩ := clr2 (t := sK A 0 5) hS hi
  obtain ⟨ts, ts1, ts2, ts3, ts4⟩ := (hS.2.2.1 i hi).2.2.2
  have hI3 : Idle E A3 := fun j hj => by rw [c5 _ _ _ (by omega) (by omega)]; exact hI j hj
  have b23 : sS B3 2 i = nI g := by rw [c7 _ _ (by omega) (by omega) (by omega)]; exact b2
  obtain ⟨r0, hr0, ra, rb⟩ := (hS.2.2.2.2 i hi).2.1
  have tlt : nI ts - 1 < nI ts := by
    by_cases z : nI ts - 1 < nI ts
    · exact z
    · have := (top_le (r := ts) (t := ts) (by omega) (by omega)).1 (nlt.1 z)
      omega
  by_cases h40 : g ≤ 40
  · -- replay
    have loop : ∀ d r (A' B' : mS), r + d = ts → Sim E A' B' M N → FR A3 B3 A' B' → (∀ r' k', r' < 30 → k' < 3 → r < r' ∨ (r = r' ∧ 0 ≤ k') → sS B' 17 (pl i g r' i k') = -1) → ∃ A4 B4, Sim E A4 B4 M N ∧ FR A3 B3 A4 B4 ∧ (∀ (B0 : mS) (K : Option Value → mS → Prop), ES E 57 29 [some (.ref (aN E i 0)), some (.int (sK A 0 5)), some (.int (nI ts - 1)), some (.int (nI ts)), none] [] (mix A4 B0) K → ES E 57 29 [some (.ref (aN E i 0)), some (.int (sK A 0 5)), some (.int (nI ts - 1)), some (.int (nI r)), none] [] (mix A' B0) K) ∧ (∀ (A0 : mS) (K : Option Value → mS → Prop), ES E 126 33 [some (.ref (aS E 0)), some (.int (nI i)), some (.int (nI ts)), none, none] [] (mix A0 B4) K → ES E 126 33 [some (.ref (aS E 0)), some (.int (nI i)), some (.int (nI r)), none, none] [] (mix A0 B') K) := by
      intro d
      induction d with
      | zero =>
        intro r A' B' hd h1 h2 _
        have e : r = ts := by omega
        subst e
        exact ⟨A', B', h1, h2, fun _ _ h => h, fun _ _ h => h⟩
      | succ d ih =>
        intro r A' B' hd h1 h2 h3
        obtain ⟨A5, B5, w1, w2, w3, w4, w5⟩ := rplR (t := sK A 0 5) (v2 := nI ts - 1) h1 hi (by rw [h2.2.2.1 2 i (by omega) (by omega)]; exact b23) h40 (show r < 30 by omega) (nlt.2 ((top_le (by omega) (by omega)).2 (by omega))) h3
        obtain ⟨A6, B6, y1, y2, y3, y4⟩ := ih (r + 1) A5 B5 (by omega) w1 (h2.tr w2) w3
        exact ⟨A6, B6, y1, y2, fun B0 K h => w4 B0 K (y3 B0 K h), fun A0 K h => w5 A0 K (y4 A0 K h)⟩
    obtain ⟨A4, B4, h1, h2, h3, h4⟩ := loop ts 0 A3 B3 (by omega) c3 (FR.rf A3 B3) (fun r' k' y1 y2 _ => c9 _ _ _ _ y1 (by omega) y2)
    -- the reference's empty rounds
    have rest : ∀ d r, r + d = 30 → ts ≤ r → ∀ (A0 : mS) (K : Option Value → mS → Prop), ES E 126 33 [some (.ref (aS E 0)), some (.int (nI i)), some (.int (nI 30)), none, none] [] (mix A0 B4) K → ES E 126 33 [some (.ref (aS E 0)), some (.int (nI i)), some (.int (nI r)), none, none] [] (mix A0 B4) K := by
      intro d
      induction d with
      | zero =>
        intro r hd _ A0 K h
        have e : r = 30 := by omega
        subst e
        exact h
      | succ d ih =>
        intro r hd ht A0 K h
        have nx := ih (r + 1) (by omega) (by omega) A0 K h
        have em : ∀ k, k < 3 → sS (mix A0 B4) 19 (90 * i + 3 * r + k) < 0 := fun k hk => by
          have s2 := (h1.2.2.1 i hi).2.1 r k (by omega) hk
          have y : sN A4 i 11 (r * 3 + k) = -2 := by rw [h2.2.1 _ _ _ (by omega), c5 _ _ _ (by omega) (by omega)]; exact ts3 r k ht (by omega) hk
          rcases s2.c with ⟨_, _, _, z⟩ | ⟨_, _, z, _⟩
          · rw [mxS]; exact z
          · exact absurd y z
        have st : ∀ k, k < 3 → ES E 126 41 [some (.ref (aS E 0)), some (.int (nI i)), some (.int (nI r)), some (.int (nI (k + 1))), none] [] (mix A0 B4) K → ES E 126 41 [some (.ref (aS E 0)), some (.int (nI i)), some (.int (nI r)), some (.int (nI k)), none] [] (mix A0 B4) K := fun k hk hh => by
          have l3 : ¬ (3 : Int32) ≤ nI k := by rw [il3, le_n (by omega) (by omega)]; omega
          have jx : 90 * nI i + 3 * nI r + nI k = nI (90 * i + 3 * r + k) := by rw [il90, il3, pk_mul, pk_mul, nI_add, nI_add]
          have cj : (nI (90 * i + 3 * r + k)).toNatClampNeg = 90 * i + 3 * r + k := nI_clamp (by omega)
          refine T126_41 ⟨fun z => absurd z l3, fun _ => ?_⟩
          rw [jx, cj, nI_1]
          exact ⟨⟨nI_pos (by omega), by omega⟩, fun _ => hh, fun z => absurd (em k hk) z⟩
        refine T126_33 ⟨fun z => ?_, fun _ => st 0 (by omega) (st 1 (by omega) (st 2 (by omega) (T126_41 ⟨fun _ => ?_, fun z => absurd (by decide) z⟩)))⟩
        · rw [il30, le_n (by omega) (by omega)] at z
          omega
        · rw [nI_1]
          exact nx
    have b24 : sS B4 2 i = nI g := by rw [h2.2.2.1 _ _ (by omega) (by omega)]; exact b23
    have rb4 : sS B4 3 i = nI r0 := by rw [h2.2.2.1 _ _ (by omega) (by omega), c7 _ _ (by omega) (by omega) (by omega)]; exact rb
    have ra4 : sN A4 i 0 3 = nI r0 := by rw [h2.2.1 _ _ _ (by omega), c5 _ _ _ (by omega) (by omega)]; exact ra
    have hI4 : Idle E A4 := fun j hj => by rw [h2.2.1 _ _ _ (by omega)]; exact hI3 j hj
    have K4 : ∀ v l, sK A4 v l = sK A v l := fun v l => by rw [h2.1.1, c4.1]
    have n48 : sN A4 i 0 8 = 0 := by rw [h2.2.1 _ _ _ (by omega)]; exact c6
    have B410 : sS B4 10 i = 0 := by rw [h2.2.2.1 _ _ (by omega) (by omega)]; exact c8
    obtain ⟨A5, A6, B6, X, w1, w2, w3, w4, w5, w6, w7, w8, w9, w10, w11, w12, w13, w14, w15⟩ := bgn (r := r0) h1.1 h1.2.1 h1.2.2.1 hI4 (h1.2.2.2.pre hi (fun r y1 y2 => by
      rw [rb4, nI_eq (by omega) (by omega)] at y2
      omega)) hi hr0 b24 h40
    rw [K4] at w1 w7
    obtain ⟨A7, B7, X7, s1, s2, s3, s4, s5, s6⟩ := settle w4 w5 hi (by rw [(w6.2.1 i).2]; exact B410) w2 (by rw [w14]; exact n48)
    have o9 : ∀ j, ¬ j = i → sS B7 9 j = sS B 9 j ∧ sS B7 10 j = sS B 10 j := fun j e => ⟨by rw [(s5.2.1 j).1, (w6.2.1 j).1, h2.2.2.1 _ _ (by omega) (by omega), c7 _ _ (by omega) (by omega) (by omega)], by rw [(s5.2.1 j).2, (w6.2.1 j).2, h2.2.2.1 _ _ (by omega) (by omega), c7 _ _ (by omega) (by omega) (by omega)]⟩
    refine ⟨A5, A7, B7, X ++ X7, fun B0 K hK => c1 B0 K ?_, s1, fun A0 K hK => c2 A0 K ⟨fun _ => h4 A0 K (rest (30 - ts) ts (by omega) (Nat.le_refl _) A0 K (T126_33 ⟨fun _ => ⟨in_n rfl (by omega) (by omega), ?_⟩, fun z => absurd (by decide) z⟩)), fun z => absurd ?_ z⟩, by rw [← List.append_assoc, ← List.append_assoc]; exact s3, s4, fun l y1 y2 y3 => by rw [s5.1 l y1 y2 y3, w6.1 l y1 y2 y3, K4], o9, by rw [(s5.2.1 i).2, (w6.2.1 i).2]; exact B410, fun m hm => ?_⟩
    · rw [ts2]
      refine h3 B0 K (T57_29 hi ⟨fun _ => ?_, fun z => absurd tlt z⟩)
      rw [mxN, ra4]
      exact w1 B0 _ ⟨rfl, hK⟩
    · rw [ci, mxS, rb4]
      exact w3 A0 _ ⟨rfl, s2 A0 _ ⟨rfl, hK⟩⟩
    · rw [b2, show (40 : Int32) = nI 40 from rfl, le_n (by omega) (by omega)]
      exact h40
    · rcases List.mem_append.1 hm with z | z
      · exact w7 m z
      · have := s6 m z
        rw [w6.1 5 (by omega) (by omega) (by omega), K4] at this
        exact this
  · -- behind the last height
    have e41 : g = 41 := by omega
    subst e41
    have t0 := ts4 b2
    subst t0
    have a23 : sN A3 i 0 2 = nI 41 := by rw [c5 _ _ _ (by omega) (by omega)]; exact a2
    have ra3 : sN A3 i 0 3 = nI r0 := by rw [c5 _ _ _ (by omega) (by omega)]; exact ra
    have rb3 : sS B3 3 i = nI r0 := by rw [c7 _ _ (by omega) (by omega) (by omega)]; exact rb
    have lx : nI r0 < 30 := by rw [il30]; exact nI_lt hr0 (by omega)
    have c41 := c_bgn41 (E := E) (A := A3) (i := i) (x := nI r0) (t := sK A 0 5) hi lx (by rw [a23]; decide)
    have y3 := cZ_3 A3 i (nI r0)
    have y4 := cZ_4 A3 i (nI r0)
    have yt := cZ_t A3 i (nI r0)
    have yF := cZ_F A3 i (nI r0)
    have yo := cZ_o A3 i (nI r0)
    generalize cZ A3 i (nI r0) = A4 at c41 y3 y4 yt yF yo
    have R2i := (c3.2.2.2.2 i hi).2
    have hS4 : Sim E A4 B3 M N := by
      refine c3.up (i := i) yF (fun j d l z => yo j d l (by omega)) (fun _ _ _ _ => rfl) (fun _ => rfl) ?_ ⟨⟨r0, hr0, y3, rb3⟩, ⟨⟨0, by omega, y4, R2i.2.1.2 b23⟩, R2i.2.1.2⟩, fun r2 hr2 h3 => (R2i.2.2.1 r2 hr2 h3).fr (Nat.le_refl _) (fun l => yo _ _ _ (by omega)) (fun _ _ => rfl), fun k hk => ⟨by rw [(yt k hk).1, (R2i.2.2.2.1 k hk).2 b23], (R2i.2.2.2.1 k hk).2⟩, fun z => absurd b23 z⟩
      have := (c3.2.2.2.2 i hi).1.2.2.2.1
      unfold PLk1 at this ⊢
      rw [yo _ _ _ (by omega), yo _ _ _ (by omega)]
      exact this
    have hI4 : Idle E A4 := fun j hj => by rw [yo _ _ _ (by omega)]; exact hI3 j hj
    refine ⟨A4, A4, B3, [], fun B0 K hK => c1 B0 K ?_, settle41 hi (hI4 i hi) (by rw [yo _ _ _ (by omega)]; exact c6) (by rw [yo _ _ _ (by omega)]; exact a23), fun A0 K hK => c2 A0 K ⟨fun z => ?_, fun _ => hK⟩, by rw [List.append_nil, List.append_nil]; exact hS4, hI4, fun l _ _ _ => by rw [yF.1, c4.1], fun j e => ⟨c7 _ _ (by omega) (by omega) (by omega), c7 _ _ (by omega) (by omega) (by omega)⟩, c8, fun m hm => (by cases hm)⟩
    · rw [ts2]
      refine T57_29 hi ⟨fun _ => ?_, fun z => absurd tlt z⟩
      rw [mxN, ra3]
      exact c41 B0 _ ⟨rfl, hK⟩
    · rw [b2] at z
      exact absurd z (by decide)
end Back
