/-! ===== calls: what is asked, first part ===== -/
theorem aq_T {p X Y : Prop} (h : p) (hX : X) : (p → X) ∧ (¬ p → Y) := ⟨fun _ => hX, fun n => absurd h n⟩
theorem aq_n {p q : Prop} (h : p → q) (n : ¬ q) : ¬ p := fun z => n (h z)
theorem aq_F {p X Y : Prop} (h : ¬ p) (hY : Y) : (p → X) ∧ (¬ p → Y) := ⟨fun n => absurd n h, fun _ => hY⟩
/-- an argument below 0, from n on, or between -/
theorem aq_rng (a : Int32) {n : Nat} (hn : n < 2 ^ 31) : a < 0 ∨ (¬ a < 0 ∧ nI n ≤ a) ∨ ∃ i, i < n ∧ a = nI i := by
  by_cases h : a < 0
  · exact Or.inl h
  · rcases pk_ix a hn with z | z | z
    · exact Or.inl z
    · exact Or.inr (Or.inl ⟨h, z⟩)
    · exact Or.inr (Or.inr z)
theorem aq_gn (a : Int32) {n : Nat} (h : n < 2 ^ 31) (h0 : ¬ a < 0) : 0 < lg_cmp a.toInt64 ((nI n - 1).toInt64) ↔ nI n ≤ a := by
  rcases Nat.eq_zero_or_pos n with rfl | hp
  · rw [l64']
    rw [Int32.lt_iff_toInt_lt] at h0
    rw [Int32.lt_iff_toInt_lt, Int32.le_iff_toInt_le, show (nI 0 - 1).toInt = -1 from rfl, show (nI 0).toInt = 0 from rfl]
    rw [show (0 : Int32).toInt = 0 from rfl] at h0
    omega
  · exact gn a hp h
section AskK
variable {E : mE} {A B B1 : mS} {L : List Mg} {T : Nat}
theorem ANS.same {m n : Nat} {l lr : mL} (h1 : CI E T A B1 L) (x : Int32) (c : CR E m 0 l A (some (.int x)) A) (r : RR E n 0 lr B (some (.int x)) B1) : ANS E (T + 100) m l n lr A B := ⟨x, A, B1, L, c, r, h1.mono (by omega)⟩
/-- a node's number is tested, on both sides -/
theorem nodeK (h1 : CI E T A B1 L) (a : Int32) :
    ((∀ (B0 : mS) (X Y : Prop), X → (a < 0 → X) ∧ (¬ a < 0 → ((sK (mix A B0) 9 0 ≤ a → X) ∧ (¬ sK (mix A B0) 9 0 ≤ a → Y)))) ∧
      (∀ (A0 : mS) (X Y : Prop), X → (lg_cmp a.toInt64 0 < 0 → X) ∧ (¬ lg_cmp a.toInt64 0 < 0 → (((0 : Int32) < lg_cmp a.toInt64 ((sS (mix A0 B1) 0 1 - 1).toInt64) → X) ∧ (¬ (0 : Int32) < lg_cmp a.toInt64 ((sS (mix A0 B1) 0 1 - 1).toInt64) → Y))))) ∨
    ∃ i, i < eN E ∧ a = nI i ∧ (∀ (B0 : mS) (X Y : Prop), Y → (a < 0 → X) ∧ (¬ a < 0 → ((sK (mix A B0) 9 0 ≤ a → X) ∧ (¬ sK (mix A B0) 9 0 ≤ a → Y)))) ∧
      (∀ (A0 : mS) (X Y : Prop), Y → (lg_cmp a.toInt64 0 < 0 → X) ∧ (¬ lg_cmp a.toInt64 0 < 0 → (((0 : Int32) < lg_cmp a.toInt64 ((sS (mix A0 B1) 0 1 - 1).toInt64) → X) ∧ (¬ (0 : Int32) < lg_cmp a.toInt64 ((sS (mix A0 B1) 0 1 - 1).toInt64) → Y)))) := by
  have hn := h1.1.1.1.2.2.2
  have hn1 := h1.1.1.1.2.2.1
  have m9 : ∀ B0, sK (mix A B0) 9 0 = nI (eN E) := fun B0 => h1.1.1.1.2.1
  have m1 : ∀ A0, sS (mix A0 B1) 0 1 = nI (eN E) := fun A0 => h1.1.1.1.1
  rcases nodeC (E := E) a hn with z | ⟨z0, z⟩ | ⟨i, hi, rfl⟩
  · exact Or.inl ⟨fun B0 X Y x => aq_T z x, fun A0 X Y x => aq_T ((q0 a).2 z) x⟩
  · exact Or.inl ⟨fun B0 X Y x => aq_F z0 (aq_T (by rw [m9]; exact z) x), fun A0 X Y x => aq_F (aq_n (q0 a).1 z0) (aq_T (by rw [m1, gn a hn1 (by omega)]; exact z) x)⟩
  · have z0 : ¬ nI i < 0 := nI_pos (by omega)
    have z1 : ¬ nI (eN E) ≤ nI i := by rw [le_n (by omega) (by omega)]; omega
    exact Or.inr ⟨i, hi, rfl, fun B0 X Y y => aq_F z0 (aq_F (by rw [m9]; exact z1) y), fun A0 X Y y => aq_F (aq_n (q0 _).1 z0) (aq_F (by rw [m1, gn _ hn1 (by omega)]; exact z1) y)⟩
theorem k_against (h : CI E T A B L) (a1 : Int32) : ANS E (T + 100) 87 [some (.ref (aK E 0)), some (.int a1)] 142 [some (.ref (aS E 0)), some (.int a1), none, none] A B := by
  have h1 := h.thr
  generalize hB1 : uS B 0 0 0 = B1 at h1
  have hn := h1.1.1.1.2.2.2
  rcases nodeK h1 a1 with ⟨c1, r1⟩ | ⟨i, hi, rfl, c1, r1⟩
  · refine ANS.same h1 (-1) (fun B0 K hK => T87 (c1 B0 _ _ hK)) (fun A0 K hK => T142 ?_)
    rintro _ rfl
    rw [pS, hB1]
    exact r1 A0 _ _ hK
  · have ci : (nI i).toNatClampNeg = i := nI_clamp (by omega)
    have hs := (h1.1.1.2.2.2.2.2.1 i hi).2.1
    have e0 : ∀ j : Nat, (((((41 * nI j) + 0) * 30) + 0) * 3) + 0 = nI (3690 * j) := fun j => by
      rw [il41, il30, il3, il0, pk_mul, nI_add, pk_mul, nI_add, pk_mul, nI_add]
      exact congrArg nI (by omega)
    have loop : ∀ d j, j + d = 3690 → ∀ (A0 : mS) (K : Option Value → mS → Prop), K (some (.int (sN A i 12 1))) (mix A0 B1) → ES E 142 26 [some (.ref (aS E 0)), some (.int (nI i)), some (.int (wsum (fun _ => true) (fun k => if sS B1 39 (3690 * i + k) = 0 then 0 else 1) j)), some (.int (nI (3690 * i + j)))] [] (mix A0 B1) K := by
      intro d
      induction d with
      | zero =>
        intro j hj A0 K hK
        have e : j = 3690 := by omega
        subst e
        rw [← hs]
        refine T142_26 ⟨fun _ => hK, fun z => absurd ?_ z⟩
        rw [nI_1, e0, le_n (by omega) (by omega)]
        omega
      | succ d ih =>
        intro j hj A0 K hK
        have nx := ih (j + 1) (by omega) A0 K hK
        have ew : wsum (fun _ => true) (fun k => if sS B1 39 (3690 * i + k) = 0 then 0 else 1) (j + 1) = wsum (fun _ => true) (fun k => if sS B1 39 (3690 * i + k) = 0 then 0 else 1) j + (if sS B1 39 (3690 * i + j) = 0 then 0 else 1) := if_pos rfl
        rw [ew] at nx
        refine T142_26 ⟨fun z => ?_, fun _ => ?_⟩
        · rw [nI_1, e0, le_n (by omega) (by omega)] at z
          omega
        · rw [nI_clamp (show 3690 * i + j < 2 ^ 31 by omega), nI_1 (3690 * i + j)]
          refine ⟨⟨nI_pos (by omega), by omega⟩, fun z => ?_, fun z => ?_⟩
          · rw [if_pos (show sS B1 39 (3690 * i + j) = 0 from z)] at nx
            exact nx
          · rw [if_neg (show ¬ sS B1 39 (3690 * i + j) = 0 from z)] at nx
            exact nx
    refine ANS.same h1 (sN A i 12 1) (fun B0 K hK => T87 (c1 B0 _ _ ?_)) (fun A0 K hK => T142 ?_)
    · rw [ci]
      exact ⟨⟨nI_pos (by omega), hi⟩, hK⟩
    · rintro _ rfl
      rw [pS, hB1]
      refine r1 A0 _ _ ?_
      rw [e0]
      exact loop 3690 0 (by omega) A0 K hK
theorem k_evidence (h : CI E T A B L) (a1 a2 : Int32) : ANS E (T + 100) 86 [some (.ref (aK E 0)), some (.int a1), some (.int a2)] 141 [some (.ref (aS E 0)), some (.int a1), some (.int a2)] A B := by
  have h1 := h.thr
  generalize hB1 : uS B 0 0 0 = B1 at h1
  obtain ⟨e, e1, e2, e3, e4⟩ := h1.1.2.2.2.1.2.1
  have f7 : ∀ B0, sK (mix A B0) 7 1 = nI e := fun B0 => e3
  have f50 : ∀ A0, sS (mix A0 B1) 0 50 = nI e := fun A0 => e2
  by_cases x1 : a1 = -1 ∧ a2 = 0
  · obtain ⟨rfl, rfl⟩ := x1
    refine ANS.same h1 (nI e) (fun B0 K hK => T86 (aq_T rfl (aq_T rfl ?_))) (fun A0 K hK => T141 ?_)
    · rw [f7]
      exact hK
    · rintro _ rfl
      rw [pS, hB1]
      refine aq_T rfl (aq_T rfl ?_)
      rw [f50]
      exact hK
  · have key : ∃ x, (∀ (B0 : mS) (K : Option Value → mS → Prop), K (some (.int x)) (mix A B0) → ((a1 < 0 → (K (some (.int (-1))) (mix A B0))) ∧ (¬ a1 < 0 → (((sK (mix A B0) 7 1) ≤ a1 → (K (some (.int (-1))) (mix A B0))) ∧ (¬ (sK (mix A B0) 7 1) ≤ a1 → ((a2 < 0 → (K (some (.int (-1))) (mix A B0))) ∧ (¬ a2 < 0 → ((a2 < 6 → ((¬ ((a1 * 6) + a2) < 0 ∧ (((a1 * 6) + a2).toNatClampNeg) < 1200) ∧ (K (some (.int (sK (mix A B0) 8 (((a1 * 6) + a2).toNatClampNeg)))) (mix A B0)))) ∧ (¬ a2 < 6 → (K (some (.int (-1))) (mix A B0))))))))))) ∧
        (∀ (A0 : mS) (K : Option Value → mS → Prop), K (some (.int x)) (mix A0 B1) → ES E 141 19 [some (.ref (aS E 0)), some (.int a1), some (.int a2)] [] (mix A0 B1) K) := by
      rcases aq_rng a1 (n := e) (by omega) with z | ⟨z0, z⟩ | ⟨k, hk, rfl⟩
      · exact ⟨-1, fun B0 K hK => aq_T z hK, fun A0 K hK => T141_19 (aq_T ((q0 a1).2 z) (T141_47 hK))⟩
      · exact ⟨-1, fun B0 K hK => aq_F z0 (aq_T (by rw [f7]; exact z) hK), fun A0 K hK => T141_19 (aq_F (aq_n (q0 a1).1 z0) (aq_T (by rw [f50, aq_gn a1 (by omega) z0]; exact z) (T141_47 hK)))⟩
      · have z0 : ¬ nI k < 0 := nI_pos (by omega)
        have z1 : ¬ nI e ≤ nI k := by rw [le_n (by omega) (by omega)]; omega
        have rr : ∀ (A0 : mS) (K : Option Value → mS → Prop), _ → ES E 141 19 [some (.ref (aS E 0)), some (.int (nI k)), some (.int a2)] [] (mix A0 B1) K := fun A0 K y => T141_19 (aq_F (aq_n (q0 _).1 z0) (aq_F (by rw [f50, aq_gn _ (by omega) z0]; exact z1) y))
        rcases aq_rng a2 (n := 6) (by omega) with y | ⟨y0, y⟩ | ⟨j, hj, rfl⟩
        · exact ⟨-1, fun B0 K hK => aq_F z0 (aq_F (by rw [f7]; exact z1) (aq_T y hK)), fun A0 K hK => rr A0 K (aq_T ((q0 a2).2 y) (T141_47 hK))⟩
        · have y6 : ¬ a2 < 6 := nlt.2 y
          have y5 : ¬ a2 ≤ 5 := fun w => by
            rw [Int32.le_iff_toInt_le] at w y
            rw [show (5 : Int32).toInt = 5 from rfl] at w
            rw [show (nI 6).toInt = 6 from rfl] at y
            omega
          exact ⟨-1, fun B0 K hK => aq_F z0 (aq_F (by rw [f7]; exact z1) (aq_F y0 (aq_F y6 hK))), fun A0 K hK => rr A0 K (aq_F (aq_n (q0 a2).1 y0) (aq_T ((g5 a2).2 y5) (T141_47 hK)))⟩
        · have y0 : ¬ nI j < 0 := nI_pos (by omega)
          have y6 : nI j < 6 := by rw [il6, nI_ltI (by omega) (by omega)]; omega
          have y5 : ¬ ¬ nI j ≤ 5 := fun w => w (by rw [show (5 : Int32) = nI 5 from rfl, le_n (by omega) (by omega)]; omega)
          have i1 : nI k * 6 + nI j = nI (6 * k + j) := by rw [il6, pk_mul, nI_add, Nat.mul_comm]
          have i2 : 6 * nI k + nI j = nI (6 * k + j) := by rw [il6, pk_mul, nI_add]
          have ij : (nI (6 * k + j)).toNatClampNeg = 6 * k + j := nI_clamp (by omega)
          refine ⟨sK A 8 (6 * k + j), fun B0 K hK => aq_F z0 (aq_F (by rw [f7]; exact z1) (aq_F y0 (aq_T y6 ?_))), fun A0 K hK => rr A0 K (aq_F (aq_n (q0 _).1 y0) (aq_F (aq_n (g5 _).1 y5) ?_))⟩
          · rw [i1, ij]
            exact ⟨⟨nI_pos (by omega), by omega⟩, hK⟩
          · rw [i2, ij]
            refine ⟨⟨nI_pos (by omega), by omega⟩, ?_⟩
            rw [mxS, e4 _ (by omega)]
            exact hK
    obtain ⟨x, c, r⟩ := key
    refine ANS.same h1 x (fun B0 K hK => T86 ⟨fun y => aq_F (fun z => x1 ⟨y, z⟩) (c B0 K hK), fun _ => c B0 K hK⟩) (fun A0 K hK => T141 ?_)
    rintro _ rfl
    rw [pS, hB1]
    exact ⟨fun y => aq_F (fun z => x1 ⟨y, z⟩) (r A0 K hK), fun _ => r A0 K hK⟩
/-- weights of a height together, as the reference asks for them -/
theorem ra_all (h1 : CI E T A B1 L) {g : Nat} (g1 : 1 ≤ g) (g2 : g ≤ 40) : RR E 117 0 [some (.ref (aS E 0)), some (.int (nI g)), none, none, none] B1 (some (.long (lN (nsum (fun _ => true) (ww B1 g) (eN E))))) B1 := by
  have hn := h1.1.1.1.2.2.2
  have gw := h1.1.2.2.2.1.1
  intro A0 K hK
  refine sp_all (h1.1.1.1.1) hn (by omega) ?_
  have : wsumL (fun _ => true) (fun s => sS (mix A0 B1) 1 (10 * g + s)) (eN E) = lN (nsum (fun _ => true) (ww B1 g) (eN E)) := wsumL_n _ (fun s hs => ⟨(gw.w g1 g2 s hs).2.1, by have := (gw.w g1 g2 s hs).2.2; omega⟩)
  rw [this]
  exact hK
theorem k_weightOf (h : CI E T A B L) (a1 a2 : Int32) : ANS E (T + 100) 90 [some (.ref (aK E 0)), some (.int a1), some (.int a2)] 144 [some (.ref (aS E 0)), some (.int a1), some (.int a2)] A B := by
  have h1 := h.thr
  generalize hB1 : uS B 0 0 0 = B1 at h1
  have hn := h1.1.1.1.2.2.2
  by_cases y1 : a2 < 1
  · refine ANS.same h1 (-1) (fun B0 K hK => T90 (aq_T y1 hK)) (fun A0 K hK => T144 ?_)
    rintro _ rfl
    rw [pS, hB1]
    exact aq_T ((q1 a2).2 y1) hK
  by_cases y2 : 40 < a2
  · refine ANS.same h1 (-1) (fun B0 K hK => T90 (aq_F y1 (aq_T y2 hK))) (fun A0 K hK => T144 ?_)
    rintro _ rfl
    rw [pS, hB1]
    exact aq_F (aq_n (q1 a2).1 y1) (aq_T ((g40 a2).2 y2) hK)
  obtain ⟨g, g1, g2, rfl⟩ := rangeC (lo := 1) (hi := 40) (by omega) (by omega) y1 (nlt.1 y2)
  have cg : (nI g).toNatClampNeg = g := nI_clamp (by omega)
  have gw := h1.1.2.2.2.1.1
  by_cases x1 : a1 = -1
  · refine ANS.same h1 (sK A 10 g) (fun B0 K hK => T90 (aq_F y1 (aq_F y2 (aq_T x1 ?_)))) (fun A0 K hK => T144 ?_)
    · rw [cg]
      exact ⟨⟨nI_pos (by omega), by omega⟩, hK⟩
    · rintro _ rfl
      rw [pS, hB1]
      refine aq_F (aq_n (q1 _).1 y1) (aq_F (aq_n (g40 _).1 y2) (aq_T x1 (ra_all h1 g1 g2 A0 _ ⟨_, rfl, ?_⟩)))
      rw [lN_w, ← gw.all g1 g2]
      exact hK
  · rcases nodeK h1 a1 with ⟨c1, r1⟩ | ⟨i, hi, rfl, c1, r1⟩
    · refine ANS.same h1 (-1) (fun B0 K hK => T90 (aq_F y1 (aq_F y2 (aq_F x1 (c1 B0 _ _ hK))))) (fun A0 K hK => T144 ?_)
      rintro _ rfl
      rw [pS, hB1]
      exact aq_F (aq_n (q1 _).1 y1) (aq_F (aq_n (g40 _).1 y2) (aq_F x1 (r1 A0 _ _ hK)))
    · have ci : (nI i).toNatClampNeg = i := nI_clamp (by omega)
      refine ANS.same h1 (sK A (12 + g) i) (fun B0 K hK => T90 (aq_F y1 (aq_F y2 (aq_F x1 (c1 B0 _ _ ?_))))) (fun A0 K hK => T144 ?_)
      · rw [cg, ci]
        exact ⟨⟨nI_pos (by omega), by omega⟩, ⟨nI_pos (by omega), hi⟩, hK⟩
      · rintro _ rfl
        rw [pS, hB1]
        refine aq_F (aq_n (q1 _).1 y1) (aq_F (aq_n (g40 _).1 y2) (aq_F x1 (r1 A0 _ _ ?_)))
        rw [ix_w, nI_clamp (show 10 * g + i < 2 ^ 31 by omega), mxS, ((gw g g1 g2).1 i hi).1]
        exact ⟨⟨nI_pos (by omega), by omega⟩, hK⟩
/-- what a node decided, on both sides -/
theorem dec_v (h1 : CI E T A B1 L) {g j : Nat} (g1 : 1 ≤ g) (g2 : g ≤ 40) (hj : j < eN E) : sN A j 6 g = sS B1 21 (10 * g + j) ∧ ((sS B1 21 (10 * g + j) = 0 ∧ hgt B1 j ≤ g) ∨ (0 < sS B1 21 (10 * g + j) ∧ g < hgt B1 j)) := by
  obtain ⟨w1, w2, w3, w4⟩ := h1.1.hg hj
  obtain ⟨d1, d2⟩ := (h1.1.2.2.2.2 j hj).1.2.2.2.2 g (hgt B1 j) g1 g2 w2 w4
  by_cases z : g < hgt B1 j
  · have := d1 z
    exact ⟨this.1, Or.inr ⟨this.2.1, z⟩⟩
  · have := d2 (by omega)
    exact ⟨this.1.trans this.2.symm, Or.inl ⟨this.2, by omega⟩⟩
theorem k_unlike (h : CI E T A B L) (a1 : Int32) : ANS E (T + 100) 85 [some (.ref (aK E 0)), some (.int a1), none, none, none] 140 [some (.ref (aS E 0)), some (.int a1), none, none, none] A B := by
  have h1 := h.thr
  generalize hB1 : uS B 0 0 0 = B1 at h1
  have hn := h1.1.1.1.2.2.2
  have m9 : ∀ B0, sK (mix A B0) 9 0 = nI (eN E) := fun B0 => h1.1.1.1.2.1
  have m1 : ∀ A0, sS (mix A0 B1) 0 1 = nI (eN E) := fun A0 => h1.1.1.1.1
  by_cases y1 : a1 < 1
  · refine ANS.same h1 (-1) (fun B0 K hK => T85 (aq_T y1 hK)) (fun A0 K hK => T140 ?_)
    rintro _ rfl
    rw [pS, hB1]
    exact aq_T ((q1 a1).2 y1) hK
  by_cases y2 : 40 < a1
  · refine ANS.same h1 (-1) (fun B0 K hK => T85 (aq_F y1 (aq_T y2 hK))) (fun A0 K hK => T140 ?_)
    rintro _ rfl
    rw [pS, hB1]
    exact aq_F (aq_n (q1 a1).1 y1) (aq_T ((g40 a1).2 y2) hK)
  obtain ⟨g, g1, g2, rfl⟩ := rangeC (lo := 1) (hi := 40) (by omega) (by omega) y1 (nlt.1 y2)
  have cg : (nI g).toNatClampNeg = g := nI_clamp (by omega)
  have loop : ∀ d j f, j + d = eN E → (f = 0 ∨ 0 < f) → ∃ x, (∀ (B0 : mS) (K : Option Value → mS → Prop), K (some (.int x)) (mix A B0) → ES E 85 13 [some (.ref (aK E 0)), some (.int (nI g)), some (.int f), some (.int (nI j)), none] [] (mix A B0) K) ∧ (∀ (A0 : mS) (K : Option Value → mS → Prop), K (some (.int x)) (mix A0 B1) → ES E 140 23 [some (.ref (aS E 0)), some (.int (nI g)), some (.int f), some (.int (nI j)), none] [] (mix A0 B1) K) := by
    intro d
    induction d with
    | zero =>
      intro j f hj hf
      have e : j = eN E := by omega
      subst e
      exact ⟨0, fun B0 K hK => T85_13 (aq_T (by rw [m9]; exact Int32.le_refl _) hK), fun A0 K hK => T140_23 (aq_T (by rw [m1]; exact Int32.le_refl _) hK)⟩
    | succ d ih =>
      intro j f hj hf
      have hj' : j < eN E := by omega
      have cj : (nI j).toNatClampNeg = j := nI_clamp (by omega)
      have ci : (nI (10 * g + j)).toNatClampNeg = 10 * g + j := nI_clamp (by omega)
      have z1 : ¬ nI (eN E) ≤ nI j := by rw [le_n (by omega) (by omega)]; omega
      have dv := dec_v h1 g1 g2 hj'
      generalize hv : sS B1 21 (10 * g + j) = v at dv
      have cc : ∀ (B0 : mS) (K : Option Value → mS → Prop), _ → ES E 85 13 [some (.ref (aK E 0)), some (.int (nI g)), some (.int f), some (.int (nI j)), none] [] (mix A B0) K := fun B0 K y => T85_13 (aq_F (by rw [m9]; exact z1) (by
        rw [cj, cg, nI_1, show sN (mix A B0) j 6 g = v from dv.1]
        exact ⟨⟨nI_pos (by omega), hj'⟩, ⟨nI_pos (by omega), by omega⟩, y⟩))
      have rr : ∀ (A0 : mS) (K : Option Value → mS → Prop), _ → ES E 140 23 [some (.ref (aS E 0)), some (.int (nI g)), some (.int f), some (.int (nI j)), none] [] (mix A0 B1) K := fun A0 K y => T140_23 (aq_F (by rw [m1]; exact z1) (by
        rw [ix_w, ci, nI_1, show sS (mix A0 B1) 21 (10 * g + j) = v from hv]
        exact ⟨⟨nI_pos (by omega), by omega⟩, y⟩))
      rcases dv.2 with ⟨w, -⟩ | ⟨w, -⟩
      · obtain ⟨x, c, r⟩ := ih (j + 1) f (by omega) hf
        exact ⟨x, fun B0 K hK => cc B0 K (aq_T w (c B0 K hK)), fun A0 K hK => rr A0 K (aq_T (by rw [w]; exact Int32.le_refl _) (r A0 K hK))⟩
      · have w0 : ¬ v = 0 := fun q => by rw [q] at w; exact absurd w (by decide)
        rcases hf with f0 | f0
        · obtain ⟨x, c, r⟩ := ih (j + 1) v (by omega) (Or.inr w)
          exact ⟨x, fun B0 K hK => cc B0 K (aq_F w0 (aq_T f0 (c B0 K hK))), fun A0 K hK => rr A0 K (aq_F (nge.2 w) (aq_T (by rw [f0]; exact Int32.le_refl _) (r A0 K hK)))⟩
        · have f1 : ¬ f = 0 := fun q => by rw [q] at f0; exact absurd f0 (by decide)
          by_cases ev : v = f
          · obtain ⟨x, c, r⟩ := ih (j + 1) v (by omega) (Or.inr w)
            exact ⟨x, fun B0 K hK => cc B0 K (aq_F w0 (aq_F f1 (aq_T ev (c B0 K hK)))), fun A0 K hK => rr A0 K (aq_F (nge.2 w) (aq_F (nge.2 f0) (aq_T ev (r A0 K hK))))⟩
          · exact ⟨1, fun B0 K hK => cc B0 K (aq_F w0 (aq_F f1 (aq_F ev hK))), fun A0 K hK => rr A0 K (aq_F (nge.2 w) (aq_F (nge.2 f0) (aq_F ev hK)))⟩
  obtain ⟨x, c, r⟩ := loop (eN E) 0 0 (by omega) (Or.inl rfl)
  refine ANS.same h1 x (fun B0 K hK => T85 (aq_F y1 (aq_F y2 (c B0 K hK)))) (fun A0 K hK => T140 ?_)
  rintro _ rfl
  rw [pS, hB1]
  exact aq_F (aq_n (q1 _).1 y1) (aq_F (aq_n (g40 _).1 y2) (r A0 K hK))
end AskK
