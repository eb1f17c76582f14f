/-! ===== a turn ===== -/
/-- what turns keep -/
def KB (A B A2 B2 : mS) : Prop := (∀ l, ¬ l = 6 → ¬ l = 7 → ¬ l = 8 → sK A2 0 l = sK A 0 l) ∧ ∀ j, sS B2 10 j = 0 ∨ (sS B2 9 j = sS B 9 j ∧ sS B2 10 j = sS B 10 j)
theorem KB.rf (A B : mS) : KB A B A B := ⟨fun _ _ _ _ => rfl, fun _ => Or.inr ⟨rfl, rfl⟩⟩
theorem KB.tr {A B A1 B1 A2 B2 : mS} (h : KB A B A1 B1) (h2 : KB A1 B1 A2 B2) : KB A B A2 B2 := by
  refine ⟨fun l a b c => (h2.1 l a b c).trans (h.1 l a b c), fun j => ?_⟩
  rcases h2.2 j with z | ⟨z1, z2⟩
  · exact Or.inl z
  · rcases h.2 j with y | ⟨y1, y2⟩
    · exact Or.inl (z2.trans y)
    · exact Or.inr ⟨z1.trans y1, z2.trans y2⟩
theorem KC.kb {A B A2 B2 : mS} (h : KC A B A2 B2) : KB A B A2 B2 := ⟨h.1, fun j => Or.inr (h.2 j)⟩
/-- before the copies come: all lie on both sides alike -/
def TB (E : mE) (t : Int32) (A B : mS) (L : List Mg) : Prop := Sim E A B L L ∧ Idle E A ∧ sK A 0 5 = t ∧ ∀ m, m ∈ L → GM E m ∧ t ≤ m 7
/-- behind: the reference still bears those that came -/
def TT (E : mE) (t : Int32) (A B : mS) (M N : List Mg) : Prop := Sim E A B M N ∧ Idle E A ∧ sK A 0 5 = t ∧ liveL N = M ∧ (∀ m, m ∈ M → GM E m ∧ t < m 7) ∧ ∀ m, m ∈ N → m 8 = 0 ∨ m 8 = 1
section Turn
variable {E : mE} {A B : mS} {M N L : List Mg} {t : Int32}
theorem Int32_le_of_lt {x y : Int32} (h : x < y) : x ≤ y := by
  rw [Int32.lt_iff_toInt_lt] at h
  rw [Int32.le_iff_toInt_le]
  omega
theorem TB.app {A2 B2 : mS} {X : List Mg} (h : TB E t A B L) (h1 : Sim E A2 B2 (L ++ X) (L ++ X)) (h2 : Idle E A2) (h3 : sK A2 0 5 = t) (h4 : ∀ m, m ∈ X → GM E m ∧ t < m 7) : TB E t A2 B2 (L ++ X) := by
  refine ⟨h1, h2, h3, fun m hm => ?_⟩
  rcases List.mem_append.1 hm with z | z
  · exact h.2.2.2 m z
  · exact ⟨(h4 m z).1, Int32_le_of_lt (h4 m z).2⟩
theorem TT.app {A2 B2 : mS} {X : List Mg} (h : TT E t A B M N) (h0 : 0 ≤ t) (h1 : Sim E A2 B2 (M ++ X) (N ++ X)) (h2 : Idle E A2) (h3 : sK A2 0 5 = t) (h4 : ∀ m, m ∈ X → GM E m ∧ t < m 7) : TT E t A2 B2 (M ++ X) (N ++ X) := by
  refine ⟨h1, h2, h3, ?_, fun m hm => ?_, fun m hm => ?_⟩
  · have e : liveL (N ++ X) = liveL N ++ liveL X := List.filter_append _ _
    rw [e, h.2.2.2.1, live_all (fun m hm => lt0 h0 (h4 m hm).2)]
  · rcases List.mem_append.1 hm with z | z
    · exact h.2.2.2.2.1 m z
    · exact h4 m z
  · rcases List.mem_append.1 hm with z | z
    · exact h.2.2.2.2.2 m z
    · exact (h4 m z).1.b
/-- in the first turn all begin -/
theorem beginAll : ∀ d j (A B : mS) (L : List Mg), j + d = eN E → TB E t A B L → (∀ j', j ≤ j' → j' < eN E → sS B 2 j' = nI 1 ∧ sS B 3 j' = 0) → (∀ j', j' < eN E → sS B 10 j' = 0) → ∃ A2 B2 L2, TB E t A2 B2 L2 ∧ KB A B A2 B2 ∧ (∀ j', j' < eN E → sS B2 10 j' = 0) ∧
    (∀ (B0 : mS) (K : Option Value → mS → Prop), K none (mix A2 B0) → ES E 70 2 [some (.ref (aK E 0)), some (.int (nI j))] [] (mix A B0) K) ∧ (∀ (A0 : mS) (K : Option Value → mS → Prop), ES E 98 47 [some (.ref (aS E 0)), some (.int 0), none, none] [] (mix A0 B2) K → ES E 98 20 [some (.ref (aS E 0)), some (.int (nI j)), none, none] [] (mix A0 B) K) := by
  intro d
  induction d with
  | zero =>
    intro j A B L hd hT _ h10
    have e : j = eN E := by omega
    subst e
    refine ⟨A, B, L, hT, KB.rf A B, h10, fun B0 K hK => T70_2 ⟨fun _ => hK, fun z => absurd ?_ z⟩, fun A0 K h => T98_20 ⟨fun _ => h, fun z => absurd ?_ z⟩⟩
    · rw [mxK, hT.1.1.1.2.1]
      exact Int32.le_refl _
    · rw [mxS, hT.1.1.1.1]
      exact Int32.le_refl _
  | succ d ih =>
    intro j A B L hd hT h2 h10
    have hn := hT.1.1.1.2.2.2
    have hj : j < eN E := by omega
    have cj : (nI j).toNatClampNeg = j := nI_clamp (by omega)
    obtain ⟨hS, hI, ht, hL⟩ := hT
    obtain ⟨z1, z2⟩ := h2 j (Nat.le_refl _) hj
    obtain ⟨A1, A2, B2, X, w1, w2, w3, w4, w5, w6, w7, w8, w9, w10, w11, w12, w13, w14, w15⟩ := bgn (r := 0) (g := 1) hS.1 hS.2.1 hS.2.2.1 hI (hS.2.2.2.pre hj (fun r0 y1 y2 => by
      rw [z2, il0, nI_eq (by omega) (by omega)] at y2
      omega)) hj (by omega) z1 (by omega)
    have c8 : sN A j 0 8 = 0 := by
      rcases (hS.2.2.2.2 j hj).1.2.2.1 with y | y
      · rw [h10 j hj] at y
        exact absurd y.1.symm one0
      · exact y.2
    obtain ⟨A3, B3, X3, s1, s2, s3, s4, s5, s6⟩ := settle w4 w5 hj (by rw [(w6.2.1 j).2]; exact h10 j hj) w2 (by rw [w14]; exact c8)
    have kp := KP.trans w6 s5
    have hT3 : TB E t A3 B3 (L ++ (X ++ X3)) := TB.app ⟨hS, hI, ht, hL⟩ (by rw [← List.append_assoc]; exact s3) s4 ((kp.1 5 (by omega) (by omega) (by omega)).trans ht) (fun m hm => by
      rcases List.mem_append.1 hm with z | z
      · have := w7 m z
        rw [ht] at this
        exact this
      · have := s6 m z
        rw [w6.1 5 (by omega) (by omega) (by omega), ht] at this
        exact this)
    obtain ⟨A4, B4, L4, y1, y2, y3, y4, y5⟩ := ih (j + 1) A3 B3 _ (by omega) hT3 (fun j' x1 x2 => by
      rw [(kp.2.2 j' (by omega)).1, (kp.2.2 j' (by omega)).2]
      exact h2 j' (by omega) x2) (fun j' x => by rw [(kp.2.1 j').2]; exact h10 j' x)
    refine ⟨A4, B4, L4, y1, kp.kc.kb.tr y2, y3, fun B0 K hK => T70_2 ⟨fun z => ?_, fun _ => ?_⟩, fun A0 K h => T98_20 ⟨fun z => ?_, fun _ => ?_⟩⟩
    · rw [mxK, hS.1.1.2.1, le_n (by omega) (by omega)] at z
      omega
    · rw [cj, mxK, nI_1]
      exact ⟨⟨nI_pos (by omega), hj⟩, w1 B0 _ ⟨rfl, s1 B0 _ ⟨rfl, y4 B0 K hK⟩⟩⟩
    · rw [mxS, hS.1.1.1, le_n (by omega) (by omega)] at z
      omega
    · rw [nI_1]
      exact w3 A0 _ ⟨rfl, s2 A0 _ ⟨rfl, y5 A0 K h⟩⟩
/-- nodes whose cut is over come back -/
theorem bringBack : ∀ d j (A B : mS) (L : List Mg), j + d = eN E → TB E t A B L → (∀ j', j' < j → sS B 10 j' = 0 ∨ t ≤ sS B 9 j') → ∃ A2 B2 L2, TB E t A2 B2 L2 ∧ KB A B A2 B2 ∧ (∀ j', j' < eN E → sS B2 10 j' = 0 ∨ t ≤ sS B2 9 j') ∧
    (∀ (B0 : mS) (K : Option Value → mS → Prop), K none (mix A2 B0) → ES E 75 2 [some (.ref (aK E 0)), some (.int (nI j)), none] [] (mix A B0) K) ∧ (∀ (A0 : mS) (K : Option Value → mS → Prop), ES E 98 47 [some (.ref (aS E 0)), some (.int (nI (eN E))), none, none] [] (mix A0 B2) K → ES E 98 47 [some (.ref (aS E 0)), some (.int (nI j)), none, none] [] (mix A0 B) K) := by
  intro d
  induction d with
  | zero =>
    intro j A B L hd hT h10
    have e : j = eN E := by omega
    subst e
    refine ⟨A, B, L, hT, KB.rf A B, h10, fun B0 K hK => T75_2 ⟨fun _ => hK, fun z => absurd ?_ z⟩, fun A0 K h => h⟩
    rw [mxK, hT.1.1.1.2.1]
    exact Int32.le_refl _
  | succ d ih =>
    intro j A B L hd hT h10
    have hn := hT.1.1.1.2.2.2
    have hj : j < eN E := by omega
    have cj : (nI j).toNatClampNeg = j := nI_clamp (by omega)
    obtain ⟨hS, hI, ht, hL⟩ := hT
    have n9 : ∀ B0, ¬ sK (mix A B0) 9 0 ≤ nI j := fun B0 => by
      rw [mxK, hS.1.1.2.1, le_n (by omega) (by omega)]
      omega
    have n01 : ∀ A0, ¬ sS (mix A0 B) 0 1 ≤ nI j := fun A0 => by
      rw [mxS, hS.1.1.1, le_n (by omega) (by omega)]
      omega
    have m5 : ∀ B0, sK (mix A B0) 0 5 = t := fun B0 => ht
    have m3 : ∀ A0, sS (mix A0 B) 0 3 = t := fun A0 => hS.1.2.1.1.trans ht
    have m8 : ∀ B0, sN (mix A B0) j 0 8 = sN A j 0 8 := fun B0 => mxN _ _ _ _ _
    have m10 : ∀ A0, sS (mix A0 B) 10 j = sS B 10 j := fun A0 => mxS _ _ _ _
    have m9 : ∀ A0, sS (mix A0 B) 9 j = sS B 9 j := fun A0 => mxS _ _ _ _
    rcases (hS.2.2.2.2 j hj).1.2.2.1 with ⟨c1, c2, c3⟩ | ⟨c1, c2⟩
    · by_cases e : t ≤ sS B 9 j
      · obtain ⟨A4, B4, L4, y1, y2, y3, y4, y5⟩ := ih (j + 1) A B L (by omega) ⟨hS, hI, ht, hL⟩ (fun j' x => by
          by_cases ej : j' = j
          · subst ej
            exact Or.inr e
          · exact h10 j' (by omega))
        refine ⟨A4, B4, L4, y1, y2, y3, fun B0 K hK => T75_2 ⟨fun z => absurd z (n9 B0), fun _ => ?_⟩, fun A0 K h => T98_47 ⟨fun z => absurd z (n01 A0), fun _ => ?_⟩⟩
        · rw [cj, m5, m8, nI_1]
          exact ⟨⟨nI_pos (by omega), hj⟩, fun z => absurd c3 (nlt.2 z), fun _ => ⟨fun _ => y4 B0 K hK, fun z => absurd (by rw [c2]; exact e) z⟩⟩
        · rw [cj, m3, m10, m9, nI_1]
          exact ⟨⟨nI_pos (by omega), by omega⟩, fun z => absurd (c1.symm.trans z) one0, fun _ => ⟨fun _ => y5 A0 K h, fun z => absurd e z⟩⟩
      · obtain ⟨A1, A2, B2, X, w1, w2, w3, w4, w5, w6, w7, w8, w9⟩ := cmb hS hI hj
        obtain ⟨A4, B4, L4, y1, y2, y3, y4, y5⟩ := ih (j + 1) A2 B2 (L ++ X) (by omega) (TB.app ⟨hS, hI, ht, hL⟩ w4 w5 ((w6 5 (by omega) (by omega) (by omega)).trans ht) (fun m hm => by
          have := w9 m hm
          rw [ht] at this
          exact this)) (fun j' x => by
          by_cases ej : j' = j
          · subst ej
            exact Or.inl w8
          · rw [(w7 j' ej).1, (w7 j' ej).2]
            exact h10 j' (by omega))
        refine ⟨A4, B4, L4, y1, KB.tr ⟨w6, fun j' => ?_⟩ y2, y3, fun B0 K hK => T75_2 ⟨fun z => absurd z (n9 B0), fun _ => ?_⟩, fun A0 K h => T98_47 ⟨fun z => absurd z (n01 A0), fun _ => ?_⟩⟩
        · by_cases ej : j' = j
          · subst ej
            exact Or.inl w8
          · exact Or.inr (w7 j' ej)
        · rw [ht] at w1
          rw [cj, m5, m8, nI_1]
          exact ⟨⟨nI_pos (by omega), hj⟩, fun z => absurd c3 (nlt.2 z), fun _ => ⟨fun z => absurd (by rw [c2] at z; exact z) e, fun _ => w1 B0 _ ⟨rfl, w2 B0 _ ⟨rfl, y4 B0 K hK⟩⟩⟩⟩
        · rw [cj, m3, m10, m9, nI_1]
          exact ⟨⟨nI_pos (by omega), by omega⟩, fun z => absurd (c1.symm.trans z) one0, fun _ => ⟨fun z => absurd z e, fun _ => w3 A0 _ ⟨rfl, y5 A0 K h⟩⟩⟩
    · obtain ⟨A4, B4, L4, y1, y2, y3, y4, y5⟩ := ih (j + 1) A B L (by omega) ⟨hS, hI, ht, hL⟩ (fun j' x => by
        by_cases ej : j' = j
        · subst ej
          exact Or.inl c1
        · exact h10 j' (by omega))
      refine ⟨A4, B4, L4, y1, y2, y3, fun B0 K hK => T75_2 ⟨fun z => absurd z (n9 B0), fun _ => ?_⟩, fun A0 K h => T98_47 ⟨fun z => absurd z (n01 A0), fun _ => ?_⟩⟩
      · rw [cj, m8, nI_1]
        exact ⟨⟨nI_pos (by omega), hj⟩, fun _ => y4 B0 K hK, fun z => absurd (by rw [c2]; decide) z⟩
      · rw [cj, m10, nI_1]
        exact ⟨⟨nI_pos (by omega), by omega⟩, fun _ => y5 A0 K h, fun z => absurd c1 z⟩
/-- timer k of node j, on both sides -/
theorem tstep {j k : Nat} (hT : TT E t A B M N) (h0 : 0 < t) (hj : j < eN E) (hk : k < 3) : ∃ A2 B2 M2 N2, TT E t A2 B2 M2 N2 ∧ KB A B A2 B2 ∧ (∀ (v1 : Int32) (B0 : mS) (K : Option Value → mS → Prop), ES E 78 22 [some (.ref (aK E 0)), some (.int v1), some (.ref (aN E j 0)), some (.int (nI (k + 1)))] [] (mix A2 B0) K → ES E 78 22 [some (.ref (aK E 0)), some (.int v1), some (.ref (aN E j 0)), some (.int (nI k))] [] (mix A B0) K) ∧ RR E 128 0 [some (.ref (aS E 0)), some (.int (nI j)), some (.int (nI k))] B none B2 := by
  have hT' := hT
  obtain ⟨hS, hI, ht, hNM, hM, hN8⟩ := hT
  have hn := hS.1.1.2.2.2
  have cj : (nI j).toNatClampNeg = j := nI_clamp (by omega)
  have ck : (nI k).toNatClampNeg = k := nI_clamp (by omega)
  have l3 : ¬ (3 : Int32) ≤ nI k := by rw [il3, le_n (by omega) (by omega)]; omega
  have x3 : 3 * nI j + nI k = nI (3 * j + k) := by rw [il3, pk_mul, nI_add]
  have cx : (nI (3 * j + k)).toNatClampNeg = 3 * j + k := nI_clamp (by omega)
  have m5 : ∀ B0, sK (mix A B0) 0 5 = t := fun B0 => ht
  have m3 : ∀ A0, sS (mix A0 B) 0 3 = t := fun A0 => hS.1.2.1.1.trans ht
  have m8 : ∀ B0, sN (mix A B0) j 0 8 = sN A j 0 8 := fun B0 => mxN _ _ _ _ _
  have m10 : ∀ A0, sS (mix A0 B) 10 j = sS B 10 j := fun A0 => mxS _ _ _ _
  have m12 : ∀ A0, sS (mix A0 B) 12 (3 * j + k) = sS B 12 (3 * j + k) := fun A0 => mxS _ _ _ _
  have eT := ((hS.2.2.2.2 j hj).2.2.2.2.1 k hk).1
  have n12 : ∀ B0, sN (mix A B0) j 3 k = sS B 12 (3 * j + k) := fun B0 => eT
  rcases (hS.2.2.2.2 j hj).1.2.2.1 with ⟨c1, c2, c3⟩ | ⟨c1, c2⟩
  · refine ⟨A, B, M, N, hT', KB.rf A B, fun v1 B0 K h => T78_22 hj ⟨fun z => absurd z l3, fun _ => ?_⟩, fun A0 K hK => T128 ?_⟩
    · rw [m8, nI_1]
      exact ⟨fun z => absurd c3 (nlt.2 z), fun _ => h⟩
    · rw [cj, m10]
      exact ⟨⟨nI_pos (by omega), by omega⟩, fun z => absurd (c1.symm.trans z) one0, fun _ => T128_26 hK⟩
  · by_cases e : sS B 12 (3 * j + k) = t
    · obtain ⟨A1, A2, B2, X, w1, w2, w3, w4, w5, w6, w7⟩ := timer hS hI hj hk c1 (by rw [ht]; exact h0) (by rw [ht]; exact e)
      rw [ht] at w1
      refine ⟨A2, B2, M ++ X, N ++ X, hT'.app (Int32_le_of_lt h0) w4 w5 ((w6.1 5 (by omega) (by omega) (by omega)).trans ht) (fun m hm => by
        have := w7 m hm
        rw [ht] at this
        exact this), w6.kc.kb, fun v1 B0 K h => T78_22 hj ⟨fun z => absurd z l3, fun _ => ?_⟩, w3⟩
      rw [m8, ck, n12, m5, nI_1]
      exact ⟨fun _ => ⟨⟨nI_pos (by omega), hk⟩, fun _ => w1 B0 _ ⟨rfl, w2 B0 _ ⟨rfl, h⟩⟩, fun z => absurd e z⟩, fun z => absurd (by rw [c2]; decide) z⟩
    · refine ⟨A, B, M, N, hT', KB.rf A B, fun v1 B0 K h => T78_22 hj ⟨fun z => absurd z l3, fun _ => ?_⟩, fun A0 K hK => T128 ?_⟩
      · rw [m8, ck, n12, m5, nI_1]
        exact ⟨fun _ => ⟨⟨nI_pos (by omega), hk⟩, fun z => absurd z e, fun _ => h⟩, fun z => absurd (by rw [c2]; decide) z⟩
      · rw [cj, m10, x3, cx, m12, m3]
        exact ⟨⟨nI_pos (by omega), by omega⟩, fun _ => ⟨⟨nI_pos (by omega), by omega⟩, fun z => absurd z e, fun _ => T128_26 hK⟩, fun z => absurd c1 z⟩
theorem endTimers (h0 : 0 < t) : ∀ d j (A B : mS) (M N : List Mg), j + d = eN E → TT E t A B M N → ∃ A2 B2 M2 N2, TT E t A2 B2 M2 N2 ∧ KB A B A2 B2 ∧ (∀ (B0 : mS) (K : Option Value → mS → Prop), K none (mix A2 B0) → ES E 78 2 [some (.ref (aK E 0)), some (.int (nI j)), none, none] [] (mix A B0) K) ∧ (∀ (v1 : Int32) (A0 : mS) (K : Option Value → mS → Prop), ES E 98 107 [some (.ref (aS E 0)), some (.int v1), some (.int (nI (eN E))), none] [] (mix A0 B2) K → ES E 98 107 [some (.ref (aS E 0)), some (.int v1), some (.int (nI j)), none] [] (mix A0 B) K) := by
  intro d
  induction d with
  | zero =>
    intro j A B M N hd hT
    have e : j = eN E := by omega
    subst e
    refine ⟨A, B, M, N, hT, KB.rf A B, fun B0 K hK => T78_2 ⟨fun _ => hK, fun z => absurd ?_ z⟩, fun v1 A0 K h => h⟩
    rw [mxK, hT.1.1.1.2.1]
    exact Int32.le_refl _
  | succ d ih =>
    intro j A B M N hd hT
    have hn := hT.1.1.1.2.2.2
    have hj : j < eN E := by omega
    have cj : (nI j).toNatClampNeg = j := nI_clamp (by omega)
    obtain ⟨A1, B1, M1, N1, a1, a2, a3, a4⟩ := tstep (k := 0) hT h0 hj (by omega)
    obtain ⟨A2, B2, M2, N2, c1, c2, c3, c4⟩ := tstep (k := 1) a1 h0 hj (by omega)
    obtain ⟨A3, B3, M3, N3, d1, d2, d3, d4⟩ := tstep (k := 2) c1 h0 hj (by omega)
    obtain ⟨A4, B4, M4, N4, y1, y2, y3, y4⟩ := ih (j + 1) A3 B3 M3 N3 (by omega) d1
    have st : ∀ (v1 : Int32) (k : Nat) (A0 X Y : mS) (K : Option Value → mS → Prop), k < 3 → RR E 128 0 [some (.ref (aS E 0)), some (.int (nI j)), some (.int (nI k))] X none Y → ES E 98 117 [some (.ref (aS E 0)), some (.int v1), some (.int (nI j)), some (.int (nI (k + 1)))] [] (mix A0 Y) K → ES E 98 117 [some (.ref (aS E 0)), some (.int v1), some (.int (nI j)), some (.int (nI k))] [] (mix A0 X) K := fun v1 k A0 X Y K hk hr h => by
      refine T98_117 ⟨fun z => ?_, fun _ => hr A0 _ ⟨rfl, ?_⟩⟩
      · rw [il3, le_n (by omega) (by omega)] at z
        omega
      · rw [nI_1]
        exact h
    refine ⟨A4, B4, M4, N4, y1, ((a2.tr c2).tr d2).tr y2, fun B0 K hK => T78_2 ⟨fun z => ?_, fun _ => ?_⟩, fun v1 A0 K h => T98_107 ⟨fun z => ?_, fun _ => ?_⟩⟩
    · rw [mxK, hT.1.1.1.2.1, le_n (by omega) (by omega)] at z
      omega
    · rw [cj]
      refine ⟨⟨nI_pos (by omega), hj⟩, a3 (nI j) B0 K (c3 (nI j) B0 K (d3 (nI j) B0 K (T78_22 hj ⟨fun _ => ?_, fun z => absurd (by decide) z⟩)))⟩
      rw [nI_1]
      exact y3 B0 K hK
    · rw [mxS, hT.1.1.1.1, le_n (by omega) (by omega)] at z
      omega
    · refine st v1 0 A0 B B1 K (by omega) a4 (st v1 1 A0 B1 B2 K (by omega) c4 (st v1 2 A0 B2 B3 K (by omega) d4 (T98_117 ⟨fun _ => ?_, fun z => absurd (by decide) z⟩)))
      rw [nI_1]
      exact y4 v1 A0 K h
/-- the reference tidies up: all lie alike again -/
theorem tidyS (h0 : 0 ≤ t) (hT : TT E t A B M N) : ∃ B2, RR E 129 0 [some (.ref (aS E 0)), none, none] B none B2 ∧ Sim E A B2 M M ∧ KB A B A B2 := by
  obtain ⟨hS, hI, ht, hNM, hM, hN8⟩ := hT
  obtain ⟨u, m1, m2, m3, m4, m5, m6, m7, m8⟩ := hS.1.2.2.2.1
  obtain ⟨B2, r1, r2, r3, r4⟩ := r_tidy (E := E) m2 (by omega) hN8
  rw [hNM] at r2
  have hlv : lv M = M.length := lv_all (fun m hm => lt0 h0 (hM m hm).2)
  have hu : u = M.length := by
    rw [m8]
    show (liveL N).length = _
    rw [hNM]
  refine ⟨B2, r1, hS.new (fun _ _ _ => rfl) (fun _ _ => rfl) (fun _ _ _ => rfl) (fun v l z => r3 v l (by omega) (by omega)) r4 ?_ hS.1.2.2.2.2.1 ⟨u, m1, r2, m3, by rw [r3 _ _ (by omega) (by omega)]; exact m4, m5, m6, by omega, by omega⟩ (by rw [r3 _ _ (by omega) (by omega)]; exact hS.2.2.2.1.2.2.1), ⟨fun _ _ _ _ => rfl, fun j => Or.inr ⟨r3 _ _ (by omega) (by omega), r3 _ _ (by omega) (by omega)⟩⟩⟩
  have := hS.1.2.1
  unfold NT at this ⊢
  rw [r3 0 3 (by omega) (by omega), r3 0 39 (by omega) (by omega), r3 0 41 (by omega) (by omega), r3 0 46 (by omega) (by omega), r3 0 47 (by omega) (by omega), r3 0 48 (by omega) (by omega)]
  exact this
end Turn
