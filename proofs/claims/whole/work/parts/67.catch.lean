/-! ===== calls: catchUp ===== -/
def tl (B : mS) (i g j : Nat) : Prop := ¬ j = i ∧ sS B 10 j = 0 ∧ 0 < sS B 21 (10 * g + j)
section Catch
variable {E : mE} {A B : mS} {L : List Mg} {T i g : Nat}
theorem tl_c (hR : ∀ j, j < eN E → R1 E A B j) {j : Nat} (hj : j < eN E) (hg1 : 1 ≤ g) (h40 : g ≤ 40) : (sN A j 0 8 ≤ 0 ↔ sS B 10 j = 0) ∧ (¬ sN A j 6 g = 0 ↔ 0 < sS B 21 (10 * g + j)) ∧ (sS B 21 (10 * g + j) ≤ 0 ↔ ¬ 0 < sS B 21 (10 * g + j)) := by
  obtain ⟨⟨h, h1, h2, h3, h4⟩, _, c, _, d⟩ := hR j hj
  refine ⟨?_, ?_, by rw [← nlt]⟩
  · rcases c with ⟨c1, c2, c3⟩ | ⟨c1, c2⟩
    · constructor
      · intro z
        exact absurd c3 (nlt.2 z)
      · intro z
        exact absurd (c1.symm.trans z) one0
    · rw [c1, c2]
      exact ⟨fun _ => rfl, fun _ => by decide⟩
  · obtain ⟨d1, d2⟩ := d g h hg1 h40 h2 h4
    by_cases e : g < h
    · obtain ⟨x1, x2, _⟩ := d1 e
      rw [x1]
      refine ⟨fun _ => x2, fun _ z => ?_⟩
      rw [z] at x2
      exact absurd x2 (by decide)
    · obtain ⟨x1, x2⟩ := d2 (by omega)
      rw [x1, x2]
      exact ⟨fun z => absurd rfl z, fun z => absurd z (by decide)⟩
/-- the class looks for a teller -/
theorem c_tell (hN : G1 E A B) (hR : ∀ j, j < eN E → R1 E A B j) (hi : i < eN E) (hg1 : 1 ≤ g) (h40 : g ≤ 40) {B0 : mS} {K : Option Value → mS → Prop} : ∀ d j, j + d = eN E → ((∀ j', j ≤ j' → j' < eN E → ¬ tl B i g j') → K (some (.int (-1))) (mix A B0)) → (∀ j', j ≤ j' → j' < eN E → tl B i g j' → (∀ j'', j ≤ j'' → j'' < j' → ¬ tl B i g j'') → K (some (.int (nI j'))) (mix A B0)) → ES E 80 2 [some (.ref (aK E 0)), some (.int (nI i)), some (.int (nI g)), some (.int (nI j))] [] (mix A B0) K := by
  have hn := hN.2.2.2
  have m9 : sK (mix A B0) 9 0 = nI (eN E) := hN.2.1
  intro d
  induction d with
  | zero =>
    intro j hj h0 _
    have e : j = eN E := by omega
    subst e
    exact T80_2 ⟨fun _ => h0 (fun j' x y => by omega), fun z => absurd (by rw [m9]; exact Int32.le_refl _) z⟩
  | succ d ih =>
    intro j hj h0 h1
    have hje : j < eN E := by omega
    have cj : (nI j).toNatClampNeg = j := nI_clamp (by omega)
    have cg : (nI g).toNatClampNeg = g := nI_clamp (by omega)
    have nx : ¬ tl B i g j → ES E 80 2 [some (.ref (aK E 0)), some (.int (nI i)), some (.int (nI g)), some (.int (nI (j + 1)))] [] (mix A B0) K := fun hno => ih (j + 1) (by omega) (fun z => h0 (fun j' x y => by
      by_cases e1 : j' = j
      · rw [e1]; exact hno
      · exact z j' (by omega) y)) (fun j' x y z w => h1 j' (by omega) y z (fun j'' u v => by
      by_cases e1 : j'' = j
      · rw [e1]; exact hno
      · exact w j'' (by omega) v))
    obtain ⟨t1, t2, t3⟩ := tl_c hR hje hg1 h40
    have m8 : sN (mix A B0) j 0 8 = sN A j 0 8 := mxN _ _ _ _ _
    have m6 : sN (mix A B0) j 6 g = sN A j 6 g := mxN _ _ _ _ _
    refine T80_2 ⟨fun z => ?_, fun _ => ?_⟩
    · rw [m9, le_n (by omega) (by omega)] at z
      omega
    · rw [cj, cg, m8, m6, nI_1, nI_eq (by omega) (by omega), t1]
      refine ⟨fun z => nx (fun w => w.1 z), fun z1 => ⟨⟨nI_pos (by omega), hje⟩, fun z2 => ⟨⟨nI_pos (by omega), by omega⟩, fun z3 => nx (fun w => t2.2 w.2.2 z3), fun z3 => h1 j (Nat.le_refl _) hje ⟨z1, z2, t2.1 z3⟩ (fun j'' u v => by omega)⟩, fun z2 => nx (fun w => z2 w.2.1)⟩⟩
/-- the reference looks for one -/
theorem r_tell {v2 : Int32} (hN : G1 E A B) (hi : i < eN E) (h40 : g ≤ 40) {A0 : mS} {K : Option Value → mS → Prop} : ∀ d j, j + d = eN E → ((∀ j', j ≤ j' → j' < eN E → ¬ tl B i g j') → ES E 136 38 [some (.ref (aS E 0)), some (.int (nI i)), some (.int v2), some (.int 0), none, none, none, none] [] (mix A0 B) K) → (∀ j', j ≤ j' → j' < eN E → tl B i g j' → (∀ j'', j ≤ j'' → j'' < j' → ¬ tl B i g j'') → ES E 118 0 [some (.ref (aS E 0)), some (.int (nI i)), none] [] (mix A0 (uW (uS (uS (uS B 21 (10 * g + i) (sS B 21 (10 * g + j'))) 22 (10 * g + i) (sS B 22 (10 * g + j'))) 23 (10 * g + i) (sS B 23 (10 * g + j'))) (10 * g + i) (sW B (10 * g + j')))) (fun r S14 => r = none ∧ (ES E 136 38 [some (.ref (aS E 0)), some (.int (nI i)), some (.int (v2 + 1)), some (.int 1), none, none, none, none] [] S14 K))) → ES E 136 55 [some (.ref (aS E 0)), some (.int (nI i)), some (.int v2), some (.int 0), some (.int (nI g)), some (.int (nI j)), none, none] [] (mix A0 B) K := by
  have hn := hN.2.2.2
  have m1 : sS (mix A0 B) 0 1 = nI (eN E) := hN.1
  intro d
  induction d with
  | zero =>
    intro j hj h0 _
    have e : j = eN E := by omega
    subst e
    exact T136_55 ⟨fun _ => h0 (fun j' x y => by omega), fun z => absurd (by rw [m1]; exact Int32.le_refl _) z⟩
  | succ d ih =>
    intro j hj h0 h1
    have hje : j < eN E := by omega
    have cj : (nI j).toNatClampNeg = j := nI_clamp (by omega)
    have ce : (nI (10 * g + j)).toNatClampNeg = 10 * g + j := nI_clamp (by omega)
    have cd : (nI (10 * g + i)).toNatClampNeg = 10 * g + i := nI_clamp (by omega)
    have nx : ¬ tl B i g j → ES E 136 55 [some (.ref (aS E 0)), some (.int (nI i)), some (.int v2), some (.int 0), some (.int (nI g)), some (.int (nI (j + 1))), none, none] [] (mix A0 B) K := fun hno => ih (j + 1) (by omega) (fun z => h0 (fun j' x y => by
      by_cases e1 : j' = j
      · rw [e1]; exact hno
      · exact z j' (by omega) y)) (fun j' x y z w => h1 j' (by omega) y z (fun j'' u v => by
      by_cases e1 : j'' = j
      · rw [e1]; exact hno
      · exact w j'' (by omega) v))
    have m10 : sS (mix A0 B) 10 j = sS B 10 j := mxS _ _ _ _
    have m21 : ∀ l, sS (mix A0 B) 21 l = sS B 21 l := fun l => mxS _ _ _ _
    have n40 : ¬ (40 : Int32) < nI g := by rw [show (40 : Int32) = nI 40 from rfl, nI_ltI (by omega) (by omega)]; omega
    refine T136_55 ⟨fun z => ?_, fun _ => ⟨fun _ => ⟨fun z => absurd z n40, fun _ => ?_⟩, fun z => absurd rfl z⟩⟩
    · rw [m1, le_n (by omega) (by omega)] at z
      omega
    · rw [ix_w, ix_w, cj, ce, cd, m10, m21, nI_1, nI_eq (by omega) (by omega)]
      refine ⟨fun z => nx (fun w => w.1 z), fun z1 => ⟨⟨nI_pos (by omega), by omega⟩, fun z2 => ⟨⟨nI_pos (by omega), by omega⟩, fun z3 => nx (fun w => (nlt.2 z3) w.2.2), fun z3 => ⟨⟨nI_pos (by omega), by omega⟩, ?_⟩⟩, fun z2 => nx (fun w => z2 w.2.1)⟩⟩
      have ht : tl B i g j := ⟨z1, z2, nge.1 z3⟩
      rintro _ rfl
      rw [rSo _ (by omega), mxS]
      rintro _ rfl
      rw [rSo _ (by omega), rSo _ (by omega), mxS]
      rintro _ rfl
      rw [mxW]
      rintro _ rfl
      rw [pS, pS, pS, pW]
      refine ES.mono (h1 j (Nat.le_refl _) hje ht (fun j'' u v => by omega)) (fun r S' w => ⟨w.1, ?_⟩)
      exact T136_55 ⟨fun _ => w.2, fun _ => ⟨fun y => absurd y one0, fun _ => w.2⟩⟩
/-- what holds while catching up -/
def LU (E : mE) (A B : mS) (L : List Mg) (i g many : Nat) : Prop := NET E A B L L ∧ PBa E A B ∧ PSi E A B ∧ Idle E A ∧ RG E A B ∧ (∀ j, j < eN E → R1 E A B j) ∧ (∀ j, j < eN E → ¬ j = i → R2 E A B j) ∧ sS B 2 i = nI g ∧ (many = 0 → Sim E A B L L) ∧ (0 < many → PRE E A B i 0 ∧ sS B 3 i = 0 ∧ sS B 4 i = 0 ∧ ∀ l, l < 3 → sS B 12 (3 * i + l) = 0)
theorem cu_end {many : Nat} (hL : LU E A B L i g many) (hi : i < eN E) (hg1 : 1 ≤ g) (h41 : g ≤ 41) (hm : many < g) (hc : sS B 10 i = 0) : ∃ A2 B2 X, Sim E A2 B2 (L ++ X) (L ++ X) ∧ Idle E A2 ∧ KC A B A2 B2 ∧ (∀ m, m ∈ X → GM E m ∧ sK A 0 5 < m 7) ∧
    (∀ (B0 : mS) (K : Option Value → mS → Prop), K (some (.int (nI many))) (mix A2 B0) → (nI many ≤ 0 → (K (some (.int (nI many))) (mix A B0))) ∧ (¬ nI many ≤ 0 → (ES E 38 0 [some (.ref (aN E i 0)), some (.int 0), some (.int (sK (mix A B0) 0 5)), none] [] (mix A B0) (fun r S3 => r = none ∧ (ES E 71 0 [some (.ref (aK E 0)), some (.ref (aN E i 0)), none] [] S3 (fun r S4 => r = none ∧ (K (some (.int (nI many))) S4))))))) ∧
    (∀ (A0 : mS) (K : Option Value → mS → Prop), K (some (.int (nI many))) (mix A0 B2) → ES E 136 38 [some (.ref (aS E 0)), some (.int (nI i)), some (.int (nI many)), some (.int 0), none, none, none, none] [] (mix A0 B) K) := by
  obtain ⟨hN, hBa, hSi, hI, hRG, hR1, hR2, b2, s0, s1⟩ := hL
  have hn := hN.1.2.2.2
  have ci : (nI i).toNatClampNeg = i := nI_clamp (by omega)
  have c8 : sN A i 0 8 = 0 := by
    rcases (hR1 i hi).2.2.1 with z | z
    · rw [hc] at z
      exact absurd z.1.symm one0
    · exact z.2
  by_cases e : many = 0
  · subst e
    refine ⟨A, B, [], by rw [List.append_nil]; exact s0 rfl, hI, KC.rf A B, fun m hm => (by cases hm), fun B0 K hK => ⟨fun _ => hK, fun z => absurd (by decide) z⟩, fun A0 K hK => T136_38 ⟨fun _ => ⟨fun _ => hK, fun z => absurd (by decide) z⟩, fun z => absurd rfl z⟩⟩
  · have np : ¬ nI many ≤ 0 := by rw [il0, le_n (by omega) (by omega)]; omega
    obtain ⟨hP, z3, z4, zt⟩ := s1 (by omega)
    obtain ⟨A1, A2, B2, X, w1, w2, w3, w4, w5, w6, w7, w8, w9, w10, w11⟩ := entr hN hBa hSi hI hP hi b2 h41 z3 z4 zt
    have m2 : ∀ A0, sS (mix A0 B) 2 i = nI g := fun A0 => b2
    by_cases h40 : g ≤ 40
    · obtain ⟨A3, B3, X3, y1, y2, y3, y4, y5, y6⟩ := settle w5 w6 hi (by rw [(w7.2.1 i).2]; exact hc) w2 (by rw [w10]; exact c8)
      refine ⟨A3, B3, X ++ X3, by rw [← List.append_assoc]; exact y3, y4, (KP.trans w7 y5).kc, fun m hm => ?_, fun B0 K hK => ⟨fun z => absurd z np, fun _ => ?_⟩, fun A0 K hK => T136_38 ⟨fun _ => ⟨fun z => absurd z np, fun _ => ?_⟩, fun z => absurd rfl z⟩⟩
      · rcases List.mem_append.1 hm with z | z
        · exact w8 m z
        · have := y6 m z
          rw [w7.1 5 (by omega) (by omega) (by omega)] at this
          exact this
      · rw [mxK]
        exact w1 B0 _ ⟨rfl, y1 B0 _ ⟨rfl, hK⟩⟩
      · rw [ci, m2, show (40 : Int32) = nI 40 from rfl, nI_ltI (by omega) (by omega)]
        exact ⟨⟨nI_pos (by omega), by omega⟩, fun z => by omega, fun _ => w3 h40 A0 _ ⟨rfl, y2 A0 _ ⟨rfl, hK⟩⟩⟩
    · have e41 : g = 41 := by omega
      subst e41
      have eB := w4 h40
      subst eB
      refine ⟨A2, B2, X, w5, w6, w7.kc, w8, fun B0 K hK => ⟨fun z => absurd z np, fun _ => ?_⟩, fun A0 K hK => T136_38 ⟨fun _ => ⟨fun z => absurd z np, fun _ => ?_⟩, fun z => absurd rfl z⟩⟩
      · rw [mxK]
        have h71 : CR E 71 0 [some (.ref (aK E 0)), some (.ref (aN E i 0)), none] A1 none A2 := by
          obtain ⟨h', q1, q2, q3, q4⟩ := (w5.2.2.2.2 i hi).1.1
          have eg : h' = 41 := by
            rw [b2, nI_eq (by omega) (by omega)] at q4
            exact q4.symm
          subst eg
          intro B0 K hK
          refine T71 hi ⟨fun _ => T71_10 hi ⟨fun z => absurd z (by decide), fun _ => w2 B0 _ ⟨rfl, T43 hi ⟨fun z => ?_, fun _ => ⟨_, rfl, fun _ => hK, fun z => absurd rfl z⟩⟩⟩⟩, fun z => absurd ?_ z⟩
          · rw [mxN, q3] at z
            exact absurd z (by decide)
          · rw [mxN, w10, c8]
            decide
        exact w1 B0 _ ⟨rfl, h71 B0 _ ⟨rfl, hK⟩⟩
      · rw [ci, m2, show (40 : Int32) = nI 40 from rfl, nI_ltI (by omega) (by omega)]
        exact ⟨⟨nI_pos (by omega), by omega⟩, fun _ => hK, fun z => absurd (by omega) z⟩
theorem cu_loop (hi : i < eN E) : ∀ d g many (A B : mS), g + d = 41 → 1 ≤ g → many < g → LU E A B L i g many → sS B 10 i = 0 → ∃ many' A2 B2 X, Sim E A2 B2 (L ++ X) (L ++ X) ∧ Idle E A2 ∧ KC A B A2 B2 ∧ (∀ m, m ∈ X → GM E m ∧ sK A 0 5 < m 7) ∧
    (∀ (B0 : mS) (K : Option Value → mS → Prop), K (some (.int (nI many'))) (mix A2 B0) → ES E 79 42 [some (.ref (aK E 0)), some (.int (nI i)), some (.ref (aN E i 0)), some (.int (nI many)), some (.int (nI g)), none] [] (mix A B0) K) ∧
    (∀ (A0 : mS) (K : Option Value → mS → Prop), K (some (.int (nI many'))) (mix A0 B2) → ES E 136 38 [some (.ref (aS E 0)), some (.int (nI i)), some (.int (nI many)), some (.int 1), none, none, none, none] [] (mix A0 B) K) := by
  intro d
  induction d with
  | zero =>
    intro g many A B hd hg1 hm hL hc
    have e41 : g = 41 := by omega
    subst e41
    have hn := hL.1.1.2.2.2
    have ci : (nI i).toNatClampNeg = i := nI_clamp (by omega)
    obtain ⟨A2, B2, X, y1, y2, y3, y4, y5, y6⟩ := cu_end hL hi hg1 (Nat.le_refl _) hm hc
    have m2 : ∀ A0, sS (mix A0 B) 2 i = nI 41 := fun A0 => hL.2.2.2.2.2.2.2.1
    refine ⟨many, A2, B2, X, y1, y2, y3, y4, fun B0 K hK => T79_42 hi ⟨fun _ => y5 B0 K hK, fun z => absurd (by decide) z⟩, fun A0 K hK => T136_38 ⟨fun z => absurd z one0, fun _ => ?_⟩⟩
    rw [ci, m2]
    refine ⟨⟨nI_pos (by omega), by omega⟩, T136_55 ⟨fun _ => y6 A0 K hK, fun _ => ⟨fun _ => ⟨fun _ => y6 A0 K hK, fun z => absurd (by decide) z⟩, fun z => absurd rfl z⟩⟩⟩
  | succ d ih =>
    intro g many A B hd hg1 hm hL hc
    have h40 : g ≤ 40 := by omega
    have hL' := hL
    obtain ⟨hN, hBa, hSi, hI, hRG, hR1, hR2, b2, s0, s1⟩ := hL
    have hn := hN.1.2.2.2
    have ci : (nI i).toNatClampNeg = i := nI_clamp (by omega)
    have cg : (nI g).toNatClampNeg = g := nI_clamp (by omega)
    have m2 : ∀ A0, sS (mix A0 B) 2 i = nI g := fun A0 => b2
    have n40 : ¬ (40 : Int32) < nI g := by rw [show (40 : Int32) = nI 40 from rfl, nI_ltI (by omega) (by omega)]; omega
    obtain ⟨h', q1, q2, q3, q4⟩ := (hR1 i hi).1
    have eg : h' = g := by
      rw [b2, nI_eq (by omega) (by omega)] at q4
      exact q4.symm
    subst eg
    by_cases hno : ∀ j', j' < eN E → ¬ tl B i h' j'
    · obtain ⟨A2, B2, X, y1, y2, y3, y4, y5, y6⟩ := cu_end hL' hi hg1 (by omega) hm hc
      refine ⟨many, A2, B2, X, y1, y2, y3, y4, fun B0 K hK => T79_42 hi ⟨fun z => absurd z n40, fun _ => T80 (c_tell hN.1 hR1 hi hg1 h40 (eN E) 0 (by omega) (fun _ => ⟨_, rfl, fun z => absurd z (by decide), fun _ => y5 B0 K hK⟩) (fun j' _ x z _ => absurd z (hno j' x)))⟩, fun A0 K hK => T136_38 ⟨fun z => absurd z one0, fun _ => ?_⟩⟩
      rw [ci, m2]
      exact ⟨⟨nI_pos (by omega), by omega⟩, r_tell hN.1 hi h40 (eN E) 0 (by omega) (fun _ => y6 A0 K hK) (fun j' _ x z _ => absurd z (hno j' x))⟩
    · have hex : ∃ j, j < eN E ∧ tl B i h' j ∧ ∀ j', j' < j → ¬ tl B i h' j' := by
        have key : ∀ n, (∃ r, r < n ∧ tl B i h' r) → ∃ r, r < n ∧ tl B i h' r ∧ ∀ r', r' < r → ¬ tl B i h' r' := by
          intro n
          induction n with
          | zero => rintro ⟨r, h, _⟩; omega
          | succ n ihn =>
            rintro ⟨r, h1, h2⟩
            by_cases z : ∃ r, r < n ∧ tl B i h' r
            · obtain ⟨r, y1, y2, y3⟩ := ihn z
              exact ⟨r, by omega, y2, y3⟩
            · have : r = n := by
                by_cases y : r < n
                · exact absurd ⟨r, y, h2⟩ z
                · omega
              subst this
              exact ⟨r, by omega, h2, fun r' y1 y2 => z ⟨r', y1, y2⟩⟩
        refine key (eN E) ?_
        by_cases z : ∃ r, r < eN E ∧ tl B i h' r
        · exact z
        · exact absurd (fun r h1 h2 => z ⟨r, h1, h2⟩) hno
      obtain ⟨j, hj, ht, hl⟩ := hex
      have cj : (nI j).toNatClampNeg = j := nI_clamp (by omega)
      -- what the teller decided
      obtain ⟨⟨hh, x1, x2, x3, x4⟩, _, _, _, xd⟩ := hR1 j hj
      have lt : h' < hh := by
        rcases Nat.lt_or_ge h' hh with z | z
        · exact z
        · have := (xd h' hh hg1 h40 x2 x4).2 z
          have h3 := ht.2.2
          rw [this.2] at h3
          exact absurd h3 (by decide)
      obtain ⟨d1, d2, d3, d4, d5⟩ := (xd h' hh hg1 h40 x2 x4).1 lt
      generalize hB' : uW (uS (uS (uS B 21 (10 * h' + i) (sS B 21 (10 * h' + j))) 22 (10 * h' + i) (sS B 22 (10 * h' + j))) 23 (10 * h' + i) (sS B 23 (10 * h' + j))) (10 * h' + i) (sW B (10 * h' + j)) = B'
      obtain ⟨A1, B1, e1, e2, e3, e4, e5, e6, e7, e8, e9, e10, e11, e12, e13, e14, e15, e16, e17⟩ := decd (B' := B') (P := sN A j 6 h') (R := sN A j 7 h') (Bi := sN A j 8 h') (W := sW B (10 * h' + j)) hN hBa hSi hI hRG hR1 hR2 hi b2 h40 (by rw [d1]; exact d2) d5 (fun v l z => by rw [← hB', fSW, rSo _ (by omega), rSo _ (by omega), rSo _ (by omega)]) (by rw [← hB', fSW, rSo _ (by omega), rSo _ (by omega), rSs, d1]) (by rw [← hB', fSW, rSo _ (by omega), rSs, d3]) (by rw [← hB', fSW, rSs, d4]) (by rw [← hB']; exact if_pos rfl) (fun l z => by rw [← hB']; exact (if_neg z).trans rfl)
      have hL1 : LU E A1 B1 L i (h' + 1) (many + 1) := ⟨e3, e4, e5, e6, e7.1, e7.2.1, e7.2.2.1, e10, fun z => by omega, fun _ => ⟨e7, e12, e13, e14⟩⟩
      obtain ⟨many', A2, B2, X, y1, y2, y3, y4, y5, y6⟩ := ih (h' + 1) (many + 1) A1 B1 (by omega) (by omega) (by omega) hL1 (by rw [(e9 i).2]; exact hc)
      refine ⟨many', A2, B2, X, y1, y2, KC.tr ⟨fun l _ _ _ => e8 0 l, e9⟩ y3, by rw [← e8 0 5]; exact y4, fun B0 K hK => T79_42 hi ⟨fun z => absurd z n40, fun _ => T80 (c_tell hN.1 hR1 hi hg1 h40 (eN E) 0 (by omega) (fun z => absurd ht (z j (by omega) hj)) (fun j' _ x z w => ⟨_, rfl, fun _ => ?_, fun z => absurd ?_ z⟩))⟩, fun A0 K hK => T136_38 ⟨fun z => absurd z one0, fun _ => ?_⟩⟩
      · have ej : j' = j := by
          rcases Nat.lt_trichotomy j' j with u | u | u
          · exact absurd z (hl j' u)
          · exact u
          · exact absurd ht (w j (by omega) u)
        subst ej
        rw [cj]
        refine ⟨⟨nI_pos (by omega), hj⟩, T60 hi hj ?_⟩
        have mh : sN (mix A B0) i 0 2 = nI h' := q3
        have mj : ∀ c l, sN (mix A B0) j' c l = sN A j' c l := fun c l => mxN _ _ _ _ _
        rw [mh, cg, mj, mj, mj]
        refine ⟨⟨nI_pos (by omega), by omega⟩, ?_⟩
        rintro _ rfl _ rfl _ rfl
        rw [pN, pN, pN]
        refine e1 B0 _ ⟨rfl, rfl, ?_⟩
        rw [nI_1, nI_1]
        exact y5 B0 K hK
      · rw [il0, le_n (by omega) (by omega)]
        omega
      · rw [ci, m2]
        refine ⟨⟨nI_pos (by omega), by omega⟩, r_tell hN.1 hi h40 (eN E) 0 (by omega) (fun z => absurd ht (z j (by omega) hj)) (fun j' _ x z w => ?_)⟩
        have ej : j' = j := by
          rcases Nat.lt_trichotomy j' j with u | u | u
          · exact absurd z (hl j' u)
          · exact u
          · exact absurd ht (w j (by omega) u)
        subst ej
        rw [hB', nI_1]
        exact e2 A0 _ ⟨rfl, y6 A0 K hK⟩
theorem k_catch (h : CI E T A B L) (hT : T ≤ 50000) (a1 : Int32) : ANS E (T + 100) 79 [some (.ref (aK E 0)), some (.int a1), none, none, none, none] 136 [some (.ref (aS E 0)), some (.int a1), none, none, none, none, none, none] A B := by
  have h1 := h.thr
  generalize hB1 : uS B 0 0 0 = B1 at h1
  have hn := h.1.1.1.2.2.2
  have hn1 := h.1.1.1.2.2.1
  have m9 : ∀ B0, sK (mix A B0) 9 0 = nI (eN E) := fun B0 => h.1.1.1.2.1
  have m1 : ∀ A0, sS (mix A0 B1) 0 1 = nI (eN E) := fun A0 => h1.1.1.1.1
  have bad : ∀ x, (∀ B0 K, K (some (.int x)) (mix A B0) → ES E 79 0 [some (.ref (aK E 0)), some (.int a1), none, none, none, none] [] (mix A B0) K) → (∀ A0 K, K (some (.int x)) (mix A0 B1) → ES E 136 0 [some (.ref (aS E 0)), some (.int a1), none, none, none, none, none, none] [] (mix A0 B) K) → ANS E (T + 100) 79 [some (.ref (aK E 0)), some (.int a1), none, none, none, none] 136 [some (.ref (aS E 0)), some (.int a1), none, none, none, none, none, none] A B := fun x c r => ⟨x, A, B1, L, c, r, h1.mono (by omega)⟩
  rcases nodeC (E := E) a1 hn with z | ⟨z0, z⟩ | ⟨i, hi, rfl⟩
  · refine bad (-1) (fun B0 K hK => T79 ⟨fun _ => hK, fun y => absurd z y⟩) (fun A0 K hK => T136 ?_)
    rintro _ rfl
    rw [pS, hB1, q0]
    exact ⟨fun _ => hK, fun y => absurd z y⟩
  · refine bad (-1) (fun B0 K hK => T79 ⟨fun y => absurd y z0, fun _ => ⟨fun _ => hK, fun y => absurd (by rw [m9]; exact z) y⟩⟩) (fun A0 K hK => T136 ?_)
    rintro _ rfl
    rw [pS, hB1, q0, m1, gn a1 hn1 (by omega)]
    exact ⟨fun y => absurd y z0, fun _ => ⟨fun _ => hK, fun y => absurd z y⟩⟩
  · have z0 : ¬ nI i < 0 := nI_pos (by omega)
    have z1 : ¬ nI (eN E) ≤ nI i := by rw [le_n (by omega) (by omega)]; omega
    have ci : (nI i).toNatClampNeg = i := nI_clamp (by omega)
    have cr : ∀ B0 K, ((sK A 0 5 = 0 → K (some (.int (-2))) (mix A B0)) ∧ (¬ sK A 0 5 = 0 → ((sN A i 0 8 ≤ 0 → ES E 79 42 [some (.ref (aK E 0)), some (.int (nI i)), some (.ref (aN E i 0)), some (.int 0), some (.int (sN A i 0 2)), none] [] (mix A B0) K) ∧ (¬ sN A i 0 8 ≤ 0 → K (some (.int (-2))) (mix A B0))))) → ES E 79 0 [some (.ref (aK E 0)), some (.int (nI i)), none, none, none, none] [] (mix A B0) K := by
      intro B0 K hK
      have e5 : sK (mix A B0) 0 5 = sK A 0 5 := mxK _ _ _ _
      have e8 : ∀ l, sN (mix A B0) i 0 l = sN A i 0 l := fun l => mxN _ _ _ _ _
      refine T79 ⟨fun y => absurd y z0, fun _ => ⟨fun y => absurd (by rw [m9] at y; exact y) z1, fun _ => ?_⟩⟩
      rw [ci, e5, e8, e8]
      exact ⟨⟨z0, hi⟩, hK⟩
    have rr : ∀ A0 K, ((sS B1 10 i = 0 → ((sS B1 0 3 = 0 → K (some (.int (-2))) (mix A0 B1)) ∧ (¬ sS B1 0 3 = 0 → ES E 136 38 [some (.ref (aS E 0)), some (.int (nI i)), some (.int 0), some (.int 1), none, none, none, none] [] (mix A0 B1) K))) ∧ (¬ sS B1 10 i = 0 → K (some (.int (-2))) (mix A0 B1))) → ES E 136 0 [some (.ref (aS E 0)), some (.int (nI i)), none, none, none, none, none, none] [] (mix A0 B) K := by
      intro A0 K hK
      refine T136 ?_
      rintro _ rfl
      have e10 : sS (mix A0 B1) 10 i = sS B1 10 i := mxS _ _ _ _
      have e03 : sS (mix A0 B1) 0 3 = sS B1 0 3 := mxS _ _ _ _
      rw [pS, hB1, q0, m1, gn _ hn1 (by omega), ci, e10, e03]
      exact ⟨fun y => absurd y z0, fun _ => ⟨fun y => absurd y z1, fun _ => ⟨⟨z0, by omega⟩, hK⟩⟩⟩
    obtain ⟨c1, c2, c3, ⟨t, d1, d2⟩, e, f, l, g1, gl⟩ := h1
    have tB : sS B1 0 3 = sK A 0 5 := c1.1.2.1.1
    by_cases t0 : sK A 0 5 = 0
    · refine bad (-2) (fun B0 K hK => cr B0 K ⟨fun _ => hK, fun y => absurd t0 y⟩) (fun A0 K hK => rr A0 K ⟨fun _ => ⟨fun _ => hK, fun y => absurd (tB.trans t0) y⟩, fun _ => hK⟩)
    · rcases (c1.2.2.2.2 i hi).1.2.2.1 with ⟨x1, x2, x3⟩ | ⟨x1, x2⟩
      · refine bad (-2) (fun B0 K hK => cr B0 K ⟨fun y => absurd y t0, fun _ => ⟨fun y => absurd x3 (nlt.2 y), fun _ => hK⟩⟩) (fun A0 K hK => rr A0 K ⟨fun y => absurd (x1.symm.trans y) one0, fun _ => hK⟩)
      · obtain ⟨g, g1', g2', a2, b2⟩ := (c1.2.2.2.2 i hi).1.1
        obtain ⟨many', A2, B2, X, y1, y2, y3, y4, y5, y6⟩ := cu_loop (L := L) hi (41 - g) g 0 A B1 (by omega) g1' (by omega) ⟨c1.1, c1.2.1, c1.2.2.1, c2, c1.2.2.2.1, fun j hj => (c1.2.2.2.2 j hj).1, fun j hj _ => (c1.2.2.2.2 j hj).2, b2, fun _ => c1, fun y => by omega⟩ x1
        refine ⟨nI many', A2, B2, L ++ X, fun B0 K hK => cr B0 K ⟨fun y => absurd y t0, fun _ => ⟨fun _ => ?_, fun y => absurd (by rw [x2]; decide) y⟩⟩, fun A0 K hK => rr A0 K ⟨fun _ => ⟨fun y => absurd (tB.symm.trans y) t0, fun _ => y6 A0 K hK⟩, fun y => absurd x1 y⟩, ⟨y1, y2, fun m hm => ?_, ⟨t, by omega, by rw [y3.1 5 (by omega) (by omega) (by omega)]; exact d2⟩, fun j hj => ?_, fun y => absurd (by rw [y3.1 5 (by omega) (by omega) (by omega)] at y; exact y) t0, l, by omega, by rw [y3.1 11 (by omega) (by omega) (by omega)]; exact gl⟩⟩
        · rw [a2]
          exact y5 B0 K hK
        · rw [y3.1 5 (by omega) (by omega) (by omega)]
          rcases List.mem_append.1 hm with w | w
          · exact c3 m w
          · exact y4 m w
        · rw [(y3.2 j).1, (y3.2 j).2, y3.1 5 (by omega) (by omega) (by omega)]
          rcases e j hj with y | ⟨x, x1, x2, x3⟩
          · exact Or.inl y
          · exact Or.inr ⟨x, by omega, x2, x3⟩
end Catch
