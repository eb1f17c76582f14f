/-! ===== rules till none goes ===== -/
section Settle
variable {E : mE} {A B : mS} {M N : List Mg} {i g : Nat}
theorem nIm1 {r : Nat} (hr : r < 30) : ¬ nI r = -1 := fun z => by
  have h := congrArg Int32.toInt z
  rw [nI_toInt (by omega)] at h
  have : (-1 : Int32).toInt = -1 := rfl
  omega
/-- the first rule that goes, on both sides -/
theorem step1 (hS : Sim E A B M N) (hI : Idle E A) (hi : i < eN E) (b2 : sS B 2 i = nI g) (h40 : g ≤ 40) (hc : sS B 10 i = 0) :
    (CR E 43 0 [some (.ref (aN E i 0)), some (.int (sK A 0 5)), none, none] A (some (.int 0)) A ∧ ∀ (A0 : mS) (K : Option Value → mS → Prop), K none (mix A0 B) → ES E 111 2 [some (.ref (aS E 0)), some (.int (nI i)), some (.int 1)] [] (mix A0 B) K) ∨
    ∃ A1 A2 B2 X, CR E 43 0 [some (.ref (aN E i 0)), some (.int (sK A 0 5)), none, none] A (some (.int 1)) A1 ∧ dsp E i A1 A2 ∧ (∀ (A0 : mS) (K : Option Value → mS → Prop), ES E 111 2 [some (.ref (aS E 0)), some (.int (nI i)), some (.int 1)] [] (mix A0 B2) K → ES E 111 2 [some (.ref (aS E 0)), some (.int (nI i)), some (.int 1)] [] (mix A0 B) K) ∧ POST E i A B A2 B2 M N X := by
  obtain ⟨q1, a2, _⟩ := hS.at hi b2 h40
  have hn := hS.1.1.2.2.2
  have ci : (nI i).toNatClampNeg = i := nI_clamp (by omega)
  have l40 : ∀ B0, sN (mix A B0) i 0 2 ≤ 40 := fun B0 => by
    rw [mxN, a2, show (40 : Int32) = nI 40 from rfl, le_n (by omega) (by omega)]
    exact h40
  have r0 : ∀ (A0 : mS) (K : Option Value → mS → Prop), ES E 112 0 [some (.ref (aS E 0)), some (.int (nI i)), none, none, none, none, none] [] (mix A0 B) (fun r S5 => ∃ x6 : Int32, r = some (.int x6) ∧ ((x6 = 0 → (ES E 119 0 [some (.ref (aS E 0)), some (.int (nI i)), none, none, none, none, none, none] [] S5 (fun r S8 => ∃ x9 : Int32, r = some (.int x9) ∧ ((x9 = 0 → (ES E 120 0 [some (.ref (aS E 0)), some (.int (nI i)), none, none, none, none] [] S8 (fun r S11 => ∃ x12 : Int32, r = some (.int x12) ∧ ((x12 = 0 → (ES E 122 0 [some (.ref (aS E 0)), some (.int (nI i)), none, none] [] S11 (fun r S14 => ∃ x15 : Int32, r = some (.int x15) ∧ ((x15 = 0 → (ES E 123 0 [some (.ref (aS E 0)), some (.int (nI i))] [] S14 (fun r S17 => ∃ x18 : Int32, r = some (.int x18) ∧ ((x18 = 0 → (ES E 124 0 [some (.ref (aS E 0)), some (.int (nI i))] [] S17 (fun r S20 => ∃ x21 : Int32, r = some (.int x21) ∧ ((x21 = 0 → (ES E 125 0 [some (.ref (aS E 0)), some (.int (nI i))] [] S20 (fun r S23 => ∃ x24 : Int32, r = some (.int x24) ∧ ((x24 = 0 → (ES E 111 2 [some (.ref (aS E 0)), some (.int (nI i)), some (.int 0)] [] S23 K)) ∧ (¬ x24 = 0 → (ES E 111 2 [some (.ref (aS E 0)), some (.int (nI i)), some (.int 1)] [] S23 K)))))) ∧ (¬ x21 = 0 → (ES E 111 2 [some (.ref (aS E 0)), some (.int (nI i)), some (.int 1)] [] S20 K)))))) ∧ (¬ x18 = 0 → (ES E 111 2 [some (.ref (aS E 0)), some (.int (nI i)), some (.int 1)] [] S17 K)))))) ∧ (¬ x15 = 0 → (ES E 111 2 [some (.ref (aS E 0)), some (.int (nI i)), some (.int 1)] [] S14 K)))))) ∧ (¬ x12 = 0 → (ES E 111 2 [some (.ref (aS E 0)), some (.int (nI i)), some (.int 1)] [] S11 K)))))) ∧ (¬ x9 = 0 → (ES E 111 2 [some (.ref (aS E 0)), some (.int (nI i)), some (.int 1)] [] S8 K)))))) ∧ (¬ x6 = 0 → (ES E 111 2 [some (.ref (aS E 0)), some (.int (nI i)), some (.int 1)] [] S5 K)))) → ES E 111 2 [some (.ref (aS E 0)), some (.int (nI i)), some (.int 1)] [] (mix A0 B) K := by
    intro A0 K h
    refine T111_2 ⟨fun z => absurd z one0, fun _ => ⟨in_n rfl (by omega) (by omega), ?_⟩⟩
    have m10 : sS (mix A0 B) 10 i = 0 := hc
    have m2 : sS (mix A0 B) 2 i = nI g := b2
    rw [ci, m10, m2, show (40 : Int32) = nI 40 from rfl, nI_ltI (by omega) (by omega)]
    exact ⟨fun _ => ⟨fun z => by omega, fun _ => h⟩, fun z => absurd rfl z⟩
  rcases ruleA hS hI hi b2 h40 with ⟨xa1, ya1⟩ | ⟨ra, Aa, A1, A2, B2, X, hra, xa1, x47, x38, hd, ya1, hp⟩
  rotate_left
  · exact Or.inr ⟨A1, A2, B2, X, fun B0 K hK => T43 hi ⟨fun _ => xa1 B0 _ ⟨_, rfl, fun z => absurd z (nIm1 hra), fun _ => x47 B0 _ ⟨rfl, x38 B0 _ ⟨rfl, hK⟩⟩⟩, fun z => absurd (l40 B0) z⟩, hd, fun A0 K hK => r0 A0 K (ya1 A0 _ ⟨_, rfl, fun z => absurd z one0, fun _ => hK⟩), hp⟩
  rcases ruleB hS hI hi b2 h40 with ⟨xb1, yb1⟩ | ⟨rb, A1, A2, B2, X, hra, xb1, x38, hd, yb1, hp⟩
  rotate_left
  · exact Or.inr ⟨A1, A2, B2, X, fun B0 K hK => T43 hi ⟨fun _ => xa1 B0 _ ⟨_, rfl, fun _ => xb1 B0 _ ⟨_, rfl, fun z => absurd z (nIm1 hra), fun _ => x38 B0 _ ⟨rfl, hK⟩⟩, fun z => absurd rfl z⟩, fun z => absurd (l40 B0) z⟩, hd, fun A0 K hK => r0 A0 K (ya1 A0 _ ⟨_, rfl, fun _ => yb1 A0 _ ⟨_, rfl, fun z => absurd z one0, fun _ => hK⟩, fun z => absurd rfl z⟩), hp⟩
  rcases ruleC hS hI hi b2 h40 with ⟨xc1, yc1⟩ | ⟨A1, A2, B2, X, xc1, hd, yc1, hp⟩
  rotate_left
  · exact Or.inr ⟨A1, A2, B2, X, fun B0 K hK => T43 hi ⟨fun _ => xa1 B0 _ ⟨_, rfl, fun _ => xb1 B0 _ ⟨_, rfl, fun _ => xc1 B0 _ ⟨_, rfl, fun z => absurd z one0, fun _ => hK⟩, fun z => absurd rfl z⟩, fun z => absurd rfl z⟩, fun z => absurd (l40 B0) z⟩, hd, fun A0 K hK => r0 A0 K (ya1 A0 _ ⟨_, rfl, fun _ => yb1 A0 _ ⟨_, rfl, fun _ => yc1 A0 _ ⟨_, rfl, fun z => absurd z one0, fun _ => hK⟩, fun z => absurd rfl z⟩, fun z => absurd rfl z⟩), hp⟩
  rcases ruleD hS hI hi b2 h40 with ⟨xd1, yd1⟩ | ⟨A1, A2, B2, X, xd1, hd, yd1, hp⟩
  rotate_left
  · exact Or.inr ⟨A1, A2, B2, X, fun B0 K hK => T43 hi ⟨fun _ => xa1 B0 _ ⟨_, rfl, fun _ => xb1 B0 _ ⟨_, rfl, fun _ => xc1 B0 _ ⟨_, rfl, fun _ => xd1 B0 _ ⟨_, rfl, fun z => absurd z one0, fun _ => hK⟩, fun z => absurd rfl z⟩, fun z => absurd rfl z⟩, fun z => absurd rfl z⟩, fun z => absurd (l40 B0) z⟩, hd, fun A0 K hK => r0 A0 K (ya1 A0 _ ⟨_, rfl, fun _ => yb1 A0 _ ⟨_, rfl, fun _ => yc1 A0 _ ⟨_, rfl, fun _ => yd1 A0 _ ⟨_, rfl, fun z => absurd z one0, fun _ => hK⟩, fun z => absurd rfl z⟩, fun z => absurd rfl z⟩, fun z => absurd rfl z⟩), hp⟩
  rcases ruleE hS hI hi b2 h40 with ⟨xe1, ye1⟩ | ⟨A1, A2, B2, X, xe1, hd, ye1, hp⟩
  rotate_left
  · exact Or.inr ⟨A1, A2, B2, X, fun B0 K hK => T43 hi ⟨fun _ => xa1 B0 _ ⟨_, rfl, fun _ => xb1 B0 _ ⟨_, rfl, fun _ => xc1 B0 _ ⟨_, rfl, fun _ => xd1 B0 _ ⟨_, rfl, fun _ => xe1 B0 _ ⟨_, rfl, fun z => absurd z one0, fun _ => hK⟩, fun z => absurd rfl z⟩, fun z => absurd rfl z⟩, fun z => absurd rfl z⟩, fun z => absurd rfl z⟩, fun z => absurd (l40 B0) z⟩, hd, fun A0 K hK => r0 A0 K (ya1 A0 _ ⟨_, rfl, fun _ => yb1 A0 _ ⟨_, rfl, fun _ => yc1 A0 _ ⟨_, rfl, fun _ => yd1 A0 _ ⟨_, rfl, fun _ => ye1 A0 _ ⟨_, rfl, fun z => absurd z one0, fun _ => hK⟩, fun z => absurd rfl z⟩, fun z => absurd rfl z⟩, fun z => absurd rfl z⟩, fun z => absurd rfl z⟩), hp⟩
  rcases ruleF hS hI hi b2 h40 with ⟨xf1, yf1⟩ | ⟨A1, A2, B2, X, xf1, hd, yf1, hp⟩
  rotate_left
  · exact Or.inr ⟨A1, A2, B2, X, fun B0 K hK => T43 hi ⟨fun _ => xa1 B0 _ ⟨_, rfl, fun _ => xb1 B0 _ ⟨_, rfl, fun _ => xc1 B0 _ ⟨_, rfl, fun _ => xd1 B0 _ ⟨_, rfl, fun _ => xe1 B0 _ ⟨_, rfl, fun _ => xf1 B0 _ ⟨_, rfl, fun z => absurd z one0, fun _ => hK⟩, fun z => absurd rfl z⟩, fun z => absurd rfl z⟩, fun z => absurd rfl z⟩, fun z => absurd rfl z⟩, fun z => absurd rfl z⟩, fun z => absurd (l40 B0) z⟩, hd, fun A0 K hK => r0 A0 K (ya1 A0 _ ⟨_, rfl, fun _ => yb1 A0 _ ⟨_, rfl, fun _ => yc1 A0 _ ⟨_, rfl, fun _ => yd1 A0 _ ⟨_, rfl, fun _ => ye1 A0 _ ⟨_, rfl, fun _ => yf1 A0 _ ⟨_, rfl, fun z => absurd z one0, fun _ => hK⟩, fun z => absurd rfl z⟩, fun z => absurd rfl z⟩, fun z => absurd rfl z⟩, fun z => absurd rfl z⟩, fun z => absurd rfl z⟩), hp⟩
  rcases ruleG hS hI hi b2 h40 with ⟨xg1, yg1⟩ | ⟨A1, A2, B2, X, xg1, hd, yg1, hp⟩
  rotate_left
  · exact Or.inr ⟨A1, A2, B2, X, fun B0 K hK => T43 hi ⟨fun _ => xa1 B0 _ ⟨_, rfl, fun _ => xb1 B0 _ ⟨_, rfl, fun _ => xc1 B0 _ ⟨_, rfl, fun _ => xd1 B0 _ ⟨_, rfl, fun _ => xe1 B0 _ ⟨_, rfl, fun _ => xf1 B0 _ ⟨_, rfl, fun _ => xg1 B0 _ ⟨_, rfl, fun z => absurd z one0, fun _ => hK⟩, fun z => absurd rfl z⟩, fun z => absurd rfl z⟩, fun z => absurd rfl z⟩, fun z => absurd rfl z⟩, fun z => absurd rfl z⟩, fun z => absurd rfl z⟩, fun z => absurd (l40 B0) z⟩, hd, fun A0 K hK => r0 A0 K (ya1 A0 _ ⟨_, rfl, fun _ => yb1 A0 _ ⟨_, rfl, fun _ => yc1 A0 _ ⟨_, rfl, fun _ => yd1 A0 _ ⟨_, rfl, fun _ => ye1 A0 _ ⟨_, rfl, fun _ => yf1 A0 _ ⟨_, rfl, fun _ => yg1 A0 _ ⟨_, rfl, fun z => absurd z one0, fun _ => hK⟩, fun z => absurd rfl z⟩, fun z => absurd rfl z⟩, fun z => absurd rfl z⟩, fun z => absurd rfl z⟩, fun z => absurd rfl z⟩, fun z => absurd rfl z⟩), hp⟩
  exact Or.inl ⟨fun B0 K hK => T43 hi ⟨fun _ => xa1 B0 _ ⟨_, rfl, fun _ => xb1 B0 _ ⟨_, rfl, fun _ => xc1 B0 _ ⟨_, rfl, fun _ => xd1 B0 _ ⟨_, rfl, fun _ => xe1 B0 _ ⟨_, rfl, fun _ => xf1 B0 _ ⟨_, rfl, fun _ => xg1 B0 _ ⟨_, rfl, fun _ => hK, fun z => absurd rfl z⟩, fun z => absurd rfl z⟩, fun z => absurd rfl z⟩, fun z => absurd rfl z⟩, fun z => absurd rfl z⟩, fun z => absurd rfl z⟩, fun z => absurd rfl z⟩, fun z => absurd (l40 B0) z⟩, fun A0 K hK => r0 A0 K (ya1 A0 _ ⟨_, rfl, fun _ => yb1 A0 _ ⟨_, rfl, fun _ => yc1 A0 _ ⟨_, rfl, fun _ => yd1 A0 _ ⟨_, rfl, fun _ => ye1 A0 _ ⟨_, rfl, fun _ => yf1 A0 _ ⟨_, rfl, fun _ => yg1 A0 _ ⟨_, rfl, fun _ => T111_2 ⟨fun _ => hK, fun z => absurd rfl z⟩, fun z => absurd rfl z⟩, fun z => absurd rfl z⟩, fun z => absurd rfl z⟩, fun z => absurd rfl z⟩, fun z => absurd rfl z⟩, fun z => absurd rfl z⟩, fun z => absurd rfl z⟩)⟩
/-- what is left of a run of rules -/
def SET (E : mE) (i : Nat) (A B A2 B2 : mS) (M N X : List Mg) : Prop := Sim E A2 B2 (M ++ X) (N ++ X) ∧ Idle E A2 ∧ KP i A B A2 B2 ∧ (∀ m, m ∈ X → GM E m ∧ sK A 0 5 < m 7)
theorem settle1 (hi : i < eN E) : ∀ f v (A1 A B : mS) (M N : List Mg), mu B i < f → v + f ≤ 10000 → Sim E A B M N → Idle E A → sS B 10 i = 0 → dsp E i A1 A → ∃ A2 B2 X, CR E 71 10 [some (.ref (aK E 0)), some (.ref (aN E i 0)), some (.int (nI v))] A1 none A2 ∧ (∀ (A0 : mS) (K : Option Value → mS → Prop), K none (mix A0 B2) → ES E 111 2 [some (.ref (aS E 0)), some (.int (nI i)), some (.int 1)] [] (mix A0 B) K) ∧ SET E i A B A2 B2 M N X := by
  intro f
  induction f with
  | zero => intro v A1 A B M N h; omega
  | succ f ih =>
    intro v A1 A B M N hf hv hS hI hc hd
    have hn := hS.1.1.2.2.2
    have ci : (nI i).toNatClampNeg = i := nI_clamp (by omega)
    obtain ⟨g, g1, g2, a2, b2⟩ := (hS.2.2.2.2 i hi).1.1
    have lv : ¬ (10000 : Int32) ≤ nI v := by
      rw [show (10000 : Int32) = nI 10000 from rfl, le_n (by omega) (by omega)]
      omega
    have stop : CR E 43 0 [some (.ref (aN E i 0)), some (.int (sK A 0 5)), none, none] A (some (.int 0)) A → (∀ (A0 : mS) (K : Option Value → mS → Prop), K none (mix A0 B) → ES E 111 2 [some (.ref (aS E 0)), some (.int (nI i)), some (.int 1)] [] (mix A0 B) K) → ∃ A2 B2 X, CR E 71 10 [some (.ref (aK E 0)), some (.ref (aN E i 0)), some (.int (nI v))] A1 none A2 ∧ (∀ (A0 : mS) (K : Option Value → mS → Prop), K none (mix A0 B2) → ES E 111 2 [some (.ref (aS E 0)), some (.int (nI i)), some (.int 1)] [] (mix A0 B) K) ∧ SET E i A B A2 B2 M N X := fun h1 h2 =>
      ⟨A, B, [], fun B0 K hK => T71_10 hi ⟨fun z => absurd z lv, fun _ => hd B0 _ ⟨rfl, h1 B0 _ ⟨_, rfl, fun _ => hK, fun z => absurd rfl z⟩⟩⟩, h2, by rw [List.append_nil, List.append_nil]; exact hS, hI, ⟨fun _ _ _ _ => rfl, fun _ => ⟨rfl, rfl⟩, fun _ _ => ⟨rfl, rfl⟩⟩, fun m hm => (by cases hm)⟩
    by_cases h40 : g ≤ 40
    · rcases step1 hS hI hi b2 h40 hc with ⟨c1, r1⟩ | ⟨A3, A2, B2, X, c1, d1, r1, p1, p2, p3, p4, p5⟩
      · exact stop c1 r1
      · obtain ⟨A4, B4, X4, e1, e2, e3, e4, e5, e6⟩ := ih (v + 1) A3 A2 B2 (M ++ X) (N ++ X) (by omega) (by omega) p1 p2 (by rw [(p3.2.1 i).2]; exact hc) d1
        refine ⟨A4, B4, X ++ X4, fun B0 K hK => T71_10 hi ⟨fun z => absurd z lv, fun _ => hd B0 _ ⟨rfl, c1 B0 _ ⟨_, rfl, fun z => absurd z one0, fun _ => ?_⟩⟩⟩, fun A0 K hK => r1 A0 K (e2 A0 K hK), ?_, e4, p3.trans e5, fun m hm => ?_⟩
        · rw [nI_1]
          exact e1 B0 K hK
        · rw [← List.append_assoc, ← List.append_assoc]
          exact e3
        · rcases List.mem_append.1 hm with z | z
          · exact p4 m z
          · have := e6 m z
            rw [p3.1 5 (by omega) (by omega) (by omega)] at this
            exact this
    · refine stop (fun B0 K hK => T43 hi ⟨fun z => absurd z ?_, fun _ => hK⟩) (fun A0 K hK => ?_)
      · rw [mxN, a2, show (40 : Int32) = nI 40 from rfl, le_n (by omega) (by omega)]
        exact h40
      · refine T111_2 ⟨fun z => absurd z one0, fun _ => ⟨in_n rfl (by omega) (by omega), ?_⟩⟩
        have m10 : sS (mix A0 B) 10 i = 0 := hc
        have m2 : sS (mix A0 B) 2 i = nI g := b2
        rw [ci, m10, m2, show (40 : Int32) = nI 40 from rfl, nI_ltI (by omega) (by omega)]
        exact ⟨fun _ => ⟨fun _ => hK, fun z => absurd (by omega) z⟩, fun z => absurd rfl z⟩
theorem mu_b (hS : Sim E A B M N) (hi : i < eN E) : mu B i < 10000 := by
  obtain ⟨g, g1, g2, a2, b2⟩ := (hS.2.2.2.2 i hi).1.1
  unfold mu
  rw [b2, nI_clamp (by omega)]
  omega
/-- a node that isn't cut settles -/
theorem settle {A1 : mS} (hS : Sim E A B M N) (hI : Idle E A) (hi : i < eN E) (hc : sS B 10 i = 0) (hd : dsp E i A1 A) (h8 : sN A1 i 0 8 = 0) : ∃ A2 B2 X, CR E 71 0 [some (.ref (aK E 0)), some (.ref (aN E i 0)), none] A1 none A2 ∧ RR E 111 0 [some (.ref (aS E 0)), some (.int (nI i)), none] B none B2 ∧ SET E i A B A2 B2 M N X := by
  obtain ⟨A2, B2, X, e1, e2, e3⟩ := settle1 hi 10000 0 A1 A B M N (mu_b hS hi) (by omega) hS hI hc hd
  refine ⟨A2, B2, X, fun B0 K hK => T71 hi ⟨fun _ => e1 B0 K hK, fun z => absurd ?_ z⟩, fun A0 K hK => T111 (e2 A0 K hK), e3⟩
  rw [mxN, h8]
  decide
/-- a node that is cut doesn't -/
theorem settle0 (hi : i < eN E) (hn : eN E ≤ 10) (hc : ¬ sS B 10 i = 0) (h8 : 0 < sN A i 0 8) : CR E 71 0 [some (.ref (aK E 0)), some (.ref (aN E i 0)), none] A none A ∧ RR E 111 0 [some (.ref (aS E 0)), some (.int (nI i)), none] B none B := by
  have ci : (nI i).toNatClampNeg = i := nI_clamp (by omega)
  refine ⟨fun B0 K hK => T71 hi ⟨fun z => absurd h8 (nlt.2 z), fun _ => hK⟩, fun A0 K hK => T111 (T111_2 ⟨fun z => absurd z one0, fun _ => ⟨in_n rfl (by omega) (by omega), ?_⟩⟩)⟩
  have m10 : ¬ sS (mix A0 B) 10 i = 0 := hc
  rw [ci]
  exact ⟨fun z => absurd z m10, fun _ => hK⟩
end Settle
