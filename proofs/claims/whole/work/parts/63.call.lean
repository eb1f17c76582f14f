/-! ===== calls: a turn ===== -/
/-- what holds between calls -/
def CI (E : mE) (T : Nat) (A B : mS) (L : List Mg) : Prop := Sim E A B L L ∧ Idle E A ∧ (∀ m, m ∈ L → GM E m ∧ sK A 0 5 < m 7) ∧ (∃ t, t ≤ T ∧ sK A 0 5 = nI t) ∧ (∀ i, i < eN E → sS B 10 i = 0 ∨ ∃ c, c ≤ T + 100 ∧ sS B 9 i = nI c ∧ sK A 0 5 ≤ nI c) ∧ (sK A 0 5 = 0 → ∀ i, i < eN E → sS B 2 i = nI 1 ∧ sS B 3 i = 0 ∧ sS B 10 i = 0) ∧ ∃ l, l ≤ T + 100 ∧ sK A 0 11 = nI l
section Call
variable {E : mE} {A B : mS} {L : List Mg} {T t : Nat}
theorem CI.mono {T' : Nat} (h : CI E T A B L) (hT : T ≤ T') : CI E T' A B L := by
  obtain ⟨a, b, c, ⟨t, d1, d2⟩, e, f, l, g1, g2⟩ := h
  refine ⟨a, b, c, ⟨t, by omega, d2⟩, fun i hi => ?_, f, l, by omega, g2⟩
  rcases e i hi with z | ⟨x, z1, z2, z3⟩
  · exact Or.inl z
  · exact Or.inr ⟨x, by omega, z2, z3⟩
theorem Sim.fr0 {B' : mS} {M N : List Mg} (hS : Sim E A B M N) (hB : ∀ v l, ¬ (v = 0 ∧ l = 0) → sS B' v l = sS B v l) (hW : ∀ l, sW B' l = sW B l) : Sim E A B' M N := by
  obtain ⟨u, m1, m2, m3, m4, m5⟩ := hS.1.2.2.2.1
  refine hS.new (fun _ _ _ => rfl) (fun _ _ => rfl) (fun _ _ _ => rfl) (fun v l z => hB v l (by omega)) hW ?_ hS.1.2.2.2.2.1 ⟨u, m1, m2.fr (hB _ _ (by omega)) (fun v k _ _ => hB v k (by omega)), m3, by rw [hB _ _ (by omega)]; exact m4, m5⟩ (by rw [hB _ _ (by omega)]; exact hS.2.2.2.1.2.2.1)
  have := hS.1.2.1
  unfold NT at this ⊢
  rw [hB 0 3 (by omega), hB 0 39 (by omega), hB 0 41 (by omega), hB 0 46 (by omega), hB 0 47 (by omega), hB 0 48 (by omega)]
  exact this
/-- the reference forgets what was thrown -/
theorem CI.thr (h : CI E T A B L) : CI E T A (uS B 0 0 0) L := by
  have o : ∀ v l, ¬ (v = 0 ∧ l = 0) → sS (uS B 0 0 0) v l = sS B v l := fun v l z => rSo _ z
  obtain ⟨a, b, c, d, e, f, g⟩ := h
  refine ⟨a.fr0 o (fun l => by rw [fWS]), b, c, d, fun i hi => ?_, fun z i hi => ?_, g⟩
  · rw [o _ _ (by omega), o _ _ (by omega)]
    exact e i hi
  · rw [o _ _ (by omega), o _ _ (by omega), o _ _ (by omega)]
    exact f z i hi
/-- time goes on -/
theorem tick1 {M N : List Mg} (hS : Sim E A B M N) (ht : sK A 0 5 = nI t) (h : t + 1 ≤ 100000) : Sim E (uK A 0 5 (nI (t + 1))) (uS B 0 3 (nI (t + 1))) M N := by
  obtain ⟨u, m1, m2, m3, m4, m5⟩ := hS.1.2.2.2.1
  obtain ⟨n1, n2, n3, n4, n5, n6⟩ := hS.1.2.1
  have oF := FKk.u A 0 5 (nI (t + 1))
  refine hS.new oF.1 oF.2.1 (fun v l z => rKo _ (by omega)) (fun v l z => rSo _ (by omega)) (fun l => fWS _ _ _ _ _) ?_ ⟨t + 1, h, rKs _ _ _ _⟩ ⟨u, m1.fr (rKo _ (by omega)) oF.2.2.1 oF.2.2.2.1 oF.2.2.2.2, m2.fr (rSo _ (by omega)) (fun v k _ _ => rSo _ (by omega)), by rw [rKo _ (by omega)]; exact m3, by rw [rSo _ (by omega)]; exact m4, m5⟩ (by rw [rSo _ (by omega), rKo _ (by omega)]; exact hS.2.2.2.1.2.2.1)
  unfold NT
  rw [rKs, rSs, rKo _ (by omega), rKo _ (by omega), rKo _ (by omega), rKo _ (by omega), rKo _ (by omega), rSo _ (by omega), rSo _ (by omega), rSo _ (by omega), rSo _ (by omega), rSo _ (by omega)]
  exact ⟨rfl, n2, n3, n4, n5, n6⟩
/-- one turn, on both sides -/
theorem oneTurn (h : CI E T A B L) (hT : T < 50000) : ∃ A2 B2 L2, CI E (T + 1) A2 B2 L2 ∧ (∀ (v1 v2 : Int32) (B0 : mS) (K : Option Value → mS → Prop), ¬ v1 ≤ v2 → ES E 69 15 [some (.ref (aK E 0)), some (.int v1), some (.int (v2 + 1))] [] (mix A2 B0) K → ES E 69 15 [some (.ref (aK E 0)), some (.int v1), some (.int v2)] [] (mix A B0) K) ∧ RR E 98 0 [some (.ref (aS E 0)), none, none, none] B none B2 := by
  obtain ⟨hS, hI, hL, ⟨t, ht1, ht⟩, hcut, h00, l, hl1, hl⟩ := h
  have hn := hS.1.1.2.2.2
  have hS1 := tick1 hS ht (by omega)
  have o1K : ∀ v l, ¬ (v = 0 ∧ l = 5) → sK (uK A 0 5 (nI (t + 1))) v l = sK A v l := fun v l z => rKo _ z
  have o1B : ∀ v l, ¬ (v = 0 ∧ l = 3) → sS (uS B 0 3 (nI (t + 1))) v l = sS B v l := fun v l z => rSo _ z
  have k5 : sK (uK A 0 5 (nI (t + 1))) 0 5 = nI (t + 1) := rKs _ _ _ _
  have b3 : sS (uS B 0 3 (nI (t + 1))) 0 3 = nI (t + 1) := rSs _ _ _ _
  have hI1 : Idle E (uK A 0 5 (nI (t + 1))) := fun j hj => by rw [fNK]; exact hI j hj
  have c75 : ∀ B0, sK (mix A B0) 0 5 + 1 = nI (t + 1) := fun B0 => by rw [mxK, ht, nI_1]
  have r03 : ∀ A0, sS (mix A0 B) 0 3 + 1 = nI (t + 1) := fun A0 => by rw [mxS, hS.1.2.1.1, ht, nI_1]
  generalize hA1 : uK A 0 5 (nI (t + 1)) = A1 at hS1 o1K k5 hI1
  generalize hB1 : uS B 0 3 (nI (t + 1)) = B1 at hS1 o1B b3
  have p0 : (0 : Int32) ≤ nI (t + 1) := by rw [il0, le_n (by omega) (by omega)]; omega
  have p1 : (0 : Int32) < nI (t + 1) := by rw [il0, nI_ltI (by omega) (by omega)]; omega
  have hL1 : ∀ m, m ∈ L → GM E m ∧ nI (t + 1) ≤ m 7 := fun m hm => by
    refine ⟨(hL m hm).1, ?_⟩
    have := (hL m hm).2
    rw [ht, Int32.lt_iff_toInt_lt, nI_toInt (by omega)] at this
    rw [Int32.le_iff_toInt_le, nI_toInt (by omega)]
    omega
  have hTB1 : TB E (nI (t + 1)) A1 B1 L := ⟨hS1, hI1, k5, hL1⟩
  -- the first turn
  have first : ∃ A2 B2 L2, TB E (nI (t + 1)) A2 B2 L2 ∧ KB A1 B1 A2 B2 ∧ (∀ (B0 : mS) (K : Option Value → mS → Prop), ((nI (t + 1) = 1 → ES E 70 0 [some (.ref (aK E 0)), none] [] (mix A1 B0) (fun r S4 => r = none ∧ K none S4)) ∧ (¬ nI (t + 1) = 1 → K none (mix A1 B0)) → True) ∧ (K none (mix A2 B0) → (nI (t + 1) = 1 → ES E 70 0 [some (.ref (aK E 0)), none] [] (mix A1 B0) K) ∧ (¬ nI (t + 1) = 1 → K none (mix A1 B0)))) ∧ (∀ (A0 : mS) (K : Option Value → mS → Prop), ES E 98 47 [some (.ref (aS E 0)), some (.int 0), none, none] [] (mix A0 B2) K → (nI (t + 1) = 1 → ES E 98 20 [some (.ref (aS E 0)), some (.int 0), none, none] [] (mix A0 B1) K) ∧ (¬ nI (t + 1) = 1 → ES E 98 47 [some (.ref (aS E 0)), some (.int 0), none, none] [] (mix A0 B1) K)) := by
    by_cases e : nI (t + 1) = 1
    · have et : t = 0 := by
        rw [il1, nI_eq (by omega) (by omega)] at e
        omega
      have h00' := h00 (by rw [ht, et]; rfl)
      obtain ⟨A2, B2, L2, y1, y2, y3, y4, y5⟩ := beginAll (E := E) (t := nI (t + 1)) (eN E) 0 A1 B1 L (by omega) hTB1 (fun j' _ x => by
        rw [o1B _ _ (by omega), o1B _ _ (by omega)]
        exact ⟨(h00' j' x).1, (h00' j' x).2.1⟩) (fun j' x => by rw [o1B _ _ (by omega)]; exact (h00' j' x).2.2)
      exact ⟨A2, B2, L2, y1, y2, fun B0 K => ⟨fun _ => trivial, fun hK => ⟨fun _ => T70 (y4 B0 K hK), fun z => absurd e z⟩⟩, fun A0 K hK => ⟨fun _ => y5 A0 K hK, fun z => absurd e z⟩⟩
    · exact ⟨A1, B1, L, hTB1, KB.rf A1 B1, fun B0 K => ⟨fun _ => trivial, fun hK => ⟨fun z => absurd z e, fun _ => hK⟩⟩, fun A0 K hK => ⟨fun z => absurd z e, fun _ => hK⟩⟩
  obtain ⟨A2, B2, L2, f1, f2, f3, f4⟩ := first
  obtain ⟨A3, B3, L3, g1, g2, g3, g4, g5⟩ := bringBack (E := E) (t := nI (t + 1)) (eN E) 0 A2 B2 L2 (by omega) f1 (fun j' x => by omega)
  obtain ⟨A4, B4, B5, M5, N5, i1, i2, i3, i4, i5, i6, i7, i8, i9⟩ := copies g1.1 g1.2.1 g1.2.2.1 p0 g1.2.2.2
  have hTT : TT E (nI (t + 1)) A4 B5 M5 N5 := ⟨i4, i5, (i6.1 5 (by omega) (by omega) (by omega)).trans g1.2.2.1, i7, i8, i9⟩
  obtain ⟨A6, B6, M6, N6, k1, k2, k3, k4⟩ := endTimers (E := E) p1 (eN E) 0 A4 B5 M5 N5 (by omega) hTT
  obtain ⟨B7, q1, q2, q3⟩ := tidyS p0 k1
  have kb36 : KB A3 B3 A6 B7 := (i6.kb.tr k2).tr q3
  have kb1 : KB A1 B1 A6 B7 := (f2.tr g2).tr kb36
  refine ⟨A6, B7, M6, ⟨q2, k1.2.1, by rw [k1.2.2.1]; exact k1.2.2.2.2.1, ⟨t + 1, by omega, k1.2.2.1⟩, fun i hi => ?_, fun z => ?_, l, by omega, ?_⟩, fun v1 v2 B0 K hv h => ?_, fun A0 K hK => ?_⟩
  · rw [k1.2.2.1]
    rcases kb1.2 i with z | ⟨z1, z2⟩
    · exact Or.inl z
    · rcases kb36.2 i with y | ⟨y1, y2⟩
      · exact Or.inl y
      · rcases g3 i hi with w | w
        · exact Or.inl (y2.trans w)
        · rcases hcut i hi with x | ⟨c, x1, x2, x3⟩
          · exact Or.inl (by rw [z2, o1B _ _ (by omega)]; exact x)
          · refine Or.inr ⟨c, by omega, by rw [z1, o1B _ _ (by omega)]; exact x2, ?_⟩
            rw [← y1, z1, o1B _ _ (by omega), x2] at w
            exact w
  · rw [k1.2.2.1, il0, nI_eq (by omega) (by omega)] at z
    omega
  · rw [kb1.1 11 (by omega) (by omega) (by omega), o1K _ _ (by omega)]
    exact hl
  · have chain : ES E 75 0 [some (.ref (aK E 0)), none, none] [] (mix A2 B0) (fun r S8 => r = none ∧ (ES E 76 0 [some (.ref (aK E 0)), none, none, none, none] [] S8 (fun r S9 => r = none ∧ (ES E 78 0 [some (.ref (aK E 0)), none, none, none] [] S9 (fun r S10 => r = none ∧ (ES E 69 15 [some (.ref (aK E 0)), some (.int v1), some (.int (v2 + 1))] [] S10 K)))))) :=
      T75 (g4 B0 _ ⟨rfl, i1 B0 _ ⟨rfl, T78 (k3 B0 _ ⟨rfl, h⟩)⟩⟩)
    refine T69_15 ⟨fun z => absurd z hv, fun _ => ?_⟩
    rw [c75]
    rintro _ rfl
    rw [pK, hA1, mxK, k5]
    by_cases e : nI (t + 1) = 1
    · exact ⟨fun _ => ((f3 B0 _).2 ⟨rfl, chain⟩).1 e, fun z => absurd e z⟩
    · refine ⟨fun z => absurd z e, fun _ => ?_⟩
      exact ((f3 B0 (fun _ S => ES E 75 0 [some (.ref (aK E 0)), none, none] [] S (fun r S8 => r = none ∧ (ES E 76 0 [some (.ref (aK E 0)), none, none, none, none] [] S8 (fun r S9 => r = none ∧ (ES E 78 0 [some (.ref (aK E 0)), none, none, none] [] S9 (fun r S10 => r = none ∧ (ES E 69 15 [some (.ref (aK E 0)), some (.int v1), some (.int (v2 + 1))] [] S10 K)))))))).2 chain).2 e
  · refine T98 ?_
    rw [r03]
    rintro _ rfl
    rw [pS, hB1, mxS, b3]
    have m37 : ∀ A0, sS (mix A0 B3) 0 37 = sS B3 0 37 := fun A0 => mxS _ _ _ _
    refine f4 A0 K (g5 A0 K (T98_47 ⟨fun _ => ?_, fun z => absurd ?_ z⟩))
    · rw [m37]
      refine i2 A0 _ ⟨rfl, i3 A0 _ ⟨rfl, k4 _ A0 K (T98_107 ⟨fun _ => q1 A0 _ ⟨rfl, hK⟩, fun z => absurd ?_ z⟩)⟩⟩
      rw [mxS, k1.1.1.1.1]
      exact Int32.le_refl _
    · rw [mxS, g1.1.1.1.1]
      exact Int32.le_refl _
/-- the same answer on both sides, and what holds between calls holds again -/
def ANS (E : mE) (T : Nat) (m : Nat) (l : mL) (n : Nat) (lr : mL) (A B : mS) : Prop := ∃ (x : Int32) (A2 B2 : mS) (L2 : List Mg), CR E m 0 l A (some (.int x)) A2 ∧ RR E n 0 lr B (some (.int x)) B2 ∧ CI E T A2 B2 L2
theorem l64 (x y : Int32) : lg_cmp x.toInt64 y.toInt64 < 0 ↔ x < y := by rw [lgc_lt, l32_lt]
theorem l64' (x y : Int32) : 0 < lg_cmp x.toInt64 y.toInt64 ↔ y < x := by rw [lgc_gt, l32_lt]
theorem k_turn (h : CI E T A B L) (hT : T + 100 ≤ 50000) (a : Int32) : ANS E (T + 100) 69 [some (.ref (aK E 0)), some (.int a), none] 96 [some (.ref (aS E 0)), some (.int a), none] A B := by
  have h1 := h.thr
  have one64 : (1 : Int64) = (1 : Int32).toInt64 := rfl
  have hun64 : (100 : Int64) = (100 : Int32).toInt64 := rfl
  by_cases b1 : a < 1
  · refine ⟨-1, A, uS B 0 0 0, L, fun B0 K hK => T69 ⟨fun _ => hK, fun z => absurd b1 z⟩, fun A0 K hK => T96 ?_, h1.mono (by omega)⟩
    rintro _ rfl
    rw [pS, one64, l64]
    exact ⟨fun _ => hK, fun z => absurd b1 z⟩
  · by_cases b2 : a ≤ 100
    · obtain ⟨n, hn, rfl⟩ := nI_of2 (M := 100) (n := 100) rfl (fun z => b1 (by
        rw [Int32.lt_iff_toInt_lt] at z ⊢
        have e1 : (1 : Int32).toInt = 1 := rfl
        have e0 : (0 : Int32).toInt = 0 := rfl
        omega)) b2
      have loop : ∀ d v (A' B' : mS) (L' : List Mg), v + d = n → CI E (T + v) A' B' L' → ∃ A2 B2 L2, CI E (T + n) A2 B2 L2 ∧ (∀ (B0 : mS) (K : Option Value → mS → Prop), K (some (.int (sK A2 0 5))) (mix A2 B0) → ES E 69 15 [some (.ref (aK E 0)), some (.int (nI n)), some (.int (nI v))] [] (mix A' B0) K) ∧ (∀ (A0 : mS) (K : Option Value → mS → Prop), K (some (.int (sS B2 0 3))) (mix A0 B2) → ES E 96 21 [some (.ref (aS E 0)), some (.int (nI n)), some (.int (nI v))] [] (mix A0 B') K) := by
        intro d
        induction d with
        | zero =>
          intro v A' B' L' hd hC
          have e : v = n := by omega
          subst e
          refine ⟨A', B', L', hC, fun B0 K hK => T69_15 ⟨fun _ => ?_, fun z => absurd (Int32.le_refl _) z⟩, fun A0 K hK => T96_21 ⟨fun _ => ?_, fun z => absurd (Int32.le_refl _) z⟩⟩
          · rw [mxK]
            exact hK
          · rw [mxS]
            exact hK
        | succ d ih =>
          intro v A' B' L' hd hC
          obtain ⟨A1, B1, L1, y1, y2, y3⟩ := oneTurn hC (by omega)
          obtain ⟨A2, B2, L2, z1, z2, z3⟩ := ih (v + 1) A1 B1 L1 (by omega) y1
          have nle : ¬ nI n ≤ nI v := by rw [le_n (by omega) (by omega)]; omega
          refine ⟨A2, B2, L2, z1, fun B0 K hK => y2 _ _ B0 K nle ?_, fun A0 K hK => T96_21 ⟨fun z => absurd z nle, fun _ => y3 A0 _ ⟨rfl, ?_⟩⟩⟩
          · rw [nI_1]
            exact z2 B0 K hK
          · rw [nI_1]
            exact z3 A0 K hK
      obtain ⟨A2, B2, L2, z1, z2, z3⟩ := loop n 0 A (uS B 0 0 0) L (by omega) h1
      have tt : sS B2 0 3 = sK A2 0 5 := z1.1.1.2.1.1
      rw [tt] at z3
      refine ⟨sK A2 0 5, A2, B2, L2, fun B0 K hK => T69 ⟨fun z => absurd z b1, fun _ => ⟨fun _ => z2 B0 K hK, fun z => absurd b2 z⟩⟩, fun A0 K hK => T96 ?_, z1.mono (by omega)⟩
      rintro _ rfl
      rw [pS, one64, hun64, l64, l64']
      exact ⟨fun z => absurd z b1, fun _ => ⟨fun z => absurd b2 (fun y => (nlt.2 y) z), fun _ => z3 A0 K hK⟩⟩
    · refine ⟨-1, A, uS B 0 0 0, L, fun B0 K hK => T69 ⟨fun z => absurd z b1, fun _ => ⟨fun z => absurd z b2, fun _ => hK⟩⟩, fun A0 K hK => T96 ?_, h1.mono (by omega)⟩
      rintro _ rfl
      rw [pS, one64, hun64, l64, l64']
      refine ⟨fun z => absurd z b1, fun _ => ⟨fun _ => hK, fun z => absurd ?_ z⟩⟩
      by_cases y : (100 : Int32) < a
      · exact y
      · exact absurd (nlt.1 y) b2
end Call
