/-! ===== the reference's told copies; the mail ===== -/
/-- the reference's ints but for what is told -/
def FT (B B' : mS) : Prop := (∀ v k, v < 34 ∨ 36 < v → ¬ (v = 0 ∧ k = 45) → sS B' v k = sS B v k) ∧ ∀ k, sW B' k = sW B k
theorem FT.tr {B B1 B2 : mS} (h : FT B B1) (g : FT B1 B2) : FT B B2 := ⟨fun v k a b => (g.1 v k a b).trans (h.1 v k a b), fun k => (g.2 k).trans (h.2 k)⟩
theorem FT.rf (B : mS) : FT B B := ⟨fun _ _ _ _ => rfl, fun _ => rfl⟩
section ToldR
variable {E : mE} {B : mS} {d : Nat} {R : Int32 → Int32 → Int32 → Prop} {v1 v2 v3 v4 v5 v6 v7 x w y v11 : Int32}
/-- the reference moves the rows behind p down -/
theorem r_shift {p : Nat} (hp : p < d) (h60 : d ≤ 60) : ∀ m e B1, e + m = d - 1 → p ≤ e → sS B1 0 45 = nI (d - 1) → (∀ v j, v = 34 ∨ v = 35 ∨ v = 36 → sS B1 v j = if p ≤ j ∧ j < e then sS B v (j + 1) else sS B v j) → FT B B1 →
    ∃ B', (∀ A K, ES E 105 47 [some (.ref (aS E 0)), some (.int v1), some (.int v2), some (.int v3), some (.int v4), some (.int v5), some (.int v6), some (.int v7), some (.int x), some (.int w), some (.int y), some (.int (nI d)), none] [] (mix A B') K → ES E 105 100 [some (.ref (aS E 0)), some (.int v1), some (.int v2), some (.int v3), some (.int v4), some (.int v5), some (.int v6), some (.int v7), some (.int x), some (.int w), some (.int y), some (.int v11), some (.int (nI e))] [] (mix A B1) K) ∧
      sS B' 0 45 = nI (d - 1) ∧ (∀ v j, v = 34 ∨ v = 35 ∨ v = 36 → sS B' v j = if p ≤ j ∧ j < d - 1 then sS B v (j + 1) else sS B v j) ∧ FT B B' := by
  intro m
  induction m with
  | zero =>
    intro e B1 he hpe hd hv hF
    have e1 : e = d - 1 := by omega
    subst e1
    refine ⟨B1, fun A K h => T105_100 ⟨fun _ => ?_, fun q => absurd ?_ q⟩, hd, hv, hF⟩
    · rw [mxS, hd, nI_1, show d - 1 + 1 = d by omega]
      exact h
    · rw [mxS, hd]
      exact nI_le (Nat.le_refl _) (by omega)
  | succ m ih =>
    intro e B1 he hpe hd hv hF
    have c1 : ∀ j, ¬ j < p ∧ j = e → True := fun _ _ => trivial
    obtain ⟨B', h1, h2, h3, h4⟩ := ih (e + 1) (uS (uS (uS B1 34 e (sS B1 34 (e + 1))) 35 e (sS B1 35 (e + 1))) 36 e (sS B1 36 (e + 1))) (by omega) (by omega) hd (fun v j hvj => by
      have hr : ∀ v, v = 34 ∨ v = 35 ∨ v = 36 → sS B1 v (e + 1) = sS B v (e + 1) := fun v hv2 => by rw [hv v _ hv2, if_neg (by omega)]
      have g : sS (uS (uS (uS B1 34 e (sS B1 34 (e + 1))) 35 e (sS B1 35 (e + 1))) 36 e (sS B1 36 (e + 1))) v j = if j = e then sS B1 v (e + 1) else sS B1 v j := by
        rcases hvj with rfl | rfl | rfl
        · show (if (34 : Nat) = 34 ∧ j = e then _ else _) = _
          by_cases q : j = e
          · rw [if_pos ⟨rfl, q⟩, if_pos q]
          · rw [if_neg (fun z => q z.2), if_neg q]; rfl
        · show (if (35 : Nat) = 35 ∧ j = e then _ else _) = _
          by_cases q : j = e
          · rw [if_pos ⟨rfl, q⟩, if_pos q]
          · rw [if_neg (fun z => q z.2), if_neg q]; rfl
        · show (if (36 : Nat) = 36 ∧ j = e then _ else _) = _
          by_cases q : j = e
          · rw [if_pos ⟨rfl, q⟩, if_pos q]
          · rw [if_neg (fun z => q z.2), if_neg q]; rfl
      rw [g]
      by_cases q : j = e
      · rw [if_pos q, if_pos (by omega), hr v hvj, q]
      · rw [if_neg q, hv v j hvj]
        by_cases q2 : p ≤ j ∧ j < e
        · rw [if_pos q2, if_pos (by omega)]
        · rw [if_neg q2, if_neg (by omega)]) (hF.tr ⟨fun v k a b => by rw [rSo _ (by omega), rSo _ (by omega), rSo _ (by omega)], fun _ => rfl⟩)
    refine ⟨B', fun A K h => T105_100 ⟨fun q => ?_, fun _ => ?_⟩, h2, h3, h4⟩
    · rw [mxS, hd, le_n (by omega) (by omega)] at q
      omega
    · rw [nI_1, nI_clamp (show e + 1 < 2 ^ 31 by omega), nI_clamp (show e < 2 ^ 31 by omega)]
      refine ⟨⟨nI_pos (by omega), by omega⟩, ⟨nI_pos (by omega), by omega⟩, ?_⟩
      rintro _ rfl _ rfl _ rfl
      exact h1 A K h
/-- the reference looks for a number and takes it out -/
theorem r_find (h : TR B d R) (x : Int32) : (∃ p B', p < d ∧ sS B 34 p = x ∧ TR B' (d - 1) (fun x' k y => R x' k y ∧ ¬ x' = x) ∧ FT B B' ∧
      ∀ A K, ES E 105 47 [some (.ref (aS E 0)), some (.int v1), some (.int v2), some (.int v3), some (.int v4), some (.int v5), some (.int v6), some (.int v7), some (.int x), some (.int (sS B 35 p)), some (.int (sS B 36 p)), some (.int (nI d)), none] [] (mix A B') K → ES E 105 47 [some (.ref (aS E 0)), some (.int v1), some (.int v2), some (.int v3), some (.int v4), some (.int v5), some (.int v6), some (.int v7), some (.int x), some (.int (-1)), some (.int 0), some (.int 0), none] [] (mix A B) K) ∨
    ((∀ p, p < d → ¬ sS B 34 p = x) ∧ ∀ A K, ES E 105 47 [some (.ref (aS E 0)), some (.int v1), some (.int v2), some (.int v3), some (.int v4), some (.int v5), some (.int v6), some (.int v7), some (.int x), some (.int (-1)), some (.int 0), some (.int (nI d)), none] [] (mix A B) K → ES E 105 47 [some (.ref (aS E 0)), some (.int v1), some (.int v2), some (.int v3), some (.int v4), some (.int v5), some (.int v6), some (.int v7), some (.int x), some (.int (-1)), some (.int 0), some (.int 0), none] [] (mix A B) K) := by
  obtain ⟨h60, hd, hI, hR⟩ := h
  have key : ∀ e j, j + e = d → (∀ p, p < j → ¬ sS B 34 p = x) → (∃ p B', p < d ∧ sS B 34 p = x ∧ TR B' (d - 1) (fun x' k y => R x' k y ∧ ¬ x' = x) ∧ FT B B' ∧
      ∀ A K, ES E 105 47 [some (.ref (aS E 0)), some (.int v1), some (.int v2), some (.int v3), some (.int v4), some (.int v5), some (.int v6), some (.int v7), some (.int x), some (.int (sS B 35 p)), some (.int (sS B 36 p)), some (.int (nI d)), none] [] (mix A B') K → ES E 105 47 [some (.ref (aS E 0)), some (.int v1), some (.int v2), some (.int v3), some (.int v4), some (.int v5), some (.int v6), some (.int v7), some (.int x), some (.int (-1)), some (.int 0), some (.int (nI j)), none] [] (mix A B) K) ∨
    ((∀ p, p < d → ¬ sS B 34 p = x) ∧ ∀ A K, ES E 105 47 [some (.ref (aS E 0)), some (.int v1), some (.int v2), some (.int v3), some (.int v4), some (.int v5), some (.int v6), some (.int v7), some (.int x), some (.int (-1)), some (.int 0), some (.int (nI d)), none] [] (mix A B) K → ES E 105 47 [some (.ref (aS E 0)), some (.int v1), some (.int v2), some (.int v3), some (.int v4), some (.int v5), some (.int v6), some (.int v7), some (.int x), some (.int (-1)), some (.int 0), some (.int (nI j)), none] [] (mix A B) K) := by
    intro e
    induction e with
    | zero =>
      intro j hj hp
      have e : j = d := by omega
      subst e
      exact Or.inr ⟨hp, fun A K h => h⟩
    | succ e ih =>
      intro j hj hp
      by_cases hx : sS B 34 j = x
      · obtain ⟨B', h1, h2, h3, h4⟩ := r_shift (E := E) (B := B) (v1 := v1) (v2 := v2) (v3 := v3) (v4 := v4) (v5 := v5) (v6 := v6) (v7 := v7) (x := x) (w := sS B 35 j) (y := sS B 36 j) (v11 := nI j) (p := j) (d := d) (by omega) h60 (d - 1 - j) j (uS B 0 45 (nI (d - 1))) (by omega) (Nat.le_refl _) (rSs _ _ _ _) (fun v k hv => by
          rw [if_neg (by omega), rSo _ (by omega)]) ⟨fun v k a b => by rw [rSo _ (by omega)], fun _ => rfl⟩
        have g : ∀ v k, v = 34 ∨ v = 35 ∨ v = 36 → k < d - 1 → sS B' v k = if j ≤ k then sS B v (k + 1) else sS B v k := fun v k hv hk => by
          rw [h3 v k hv]
          by_cases q : j ≤ k
          · rw [if_pos q, if_pos ⟨q, hk⟩]
          · rw [if_neg q, if_neg (by omega)]
        refine Or.inl ⟨j, B', by omega, hx, ⟨by omega, h2, fun a b ha hb => ?_, fun x' k y => ⟨?_, ?_⟩⟩, h4, fun A K hK => T105_47 ⟨fun q => ?_, fun _ => ⟨in_n rfl (by omega) (by omega), fun _ => ?_, fun q => absurd ?_ q⟩⟩⟩
        · rw [g 34 a (Or.inl rfl) ha, g 34 b (Or.inl rfl) hb]
          by_cases q1 : j ≤ a <;> by_cases q2 : j ≤ b
          · rw [if_pos q1, if_pos q2]
            intro q
            have := hI _ _ (by omega) (by omega) q
            omega
          · rw [if_pos q1, if_neg q2]
            intro q
            have := hI _ _ (by omega) (by omega) q
            omega
          · rw [if_neg q1, if_pos q2]
            intro q
            have := hI _ _ (by omega) (by omega) q
            omega
          · rw [if_neg q1, if_neg q2]
            exact hI _ _ (by omega) (by omega)
        · rintro ⟨a, ha, q1, q2, q3⟩
          rw [g _ a (Or.inl rfl) ha] at q1
          rw [g _ a (Or.inr (Or.inl rfl)) ha] at q2
          rw [g _ a (Or.inr (Or.inr rfl)) ha] at q3
          by_cases q : j ≤ a
          · rw [if_pos q] at q1 q2 q3
            refine ⟨(hR x' k y).1 ⟨a + 1, by omega, q1, q2, q3⟩, fun z => ?_⟩
            have := hI (a + 1) j (by omega) (by omega) (by rw [q1, z, hx])
            omega
          · rw [if_neg q] at q1 q2 q3
            refine ⟨(hR x' k y).1 ⟨a, by omega, q1, q2, q3⟩, fun z => ?_⟩
            have := hI a j (by omega) (by omega) (by rw [q1, z, hx])
            omega
        · rintro ⟨q, z⟩
          obtain ⟨a, ha, q1, q2, q3⟩ := (hR x' k y).2 q
          have e0 : ¬ a = j := fun q => z (by rw [← q1, q, hx])
          by_cases q4 : a < j
          · refine ⟨a, by omega, ?_, ?_, ?_⟩
            · rw [g _ a (Or.inl rfl) (by omega), if_neg (by omega), q1]
            · rw [g _ a (Or.inr (Or.inl rfl)) (by omega), if_neg (by omega), q2]
            · rw [g _ a (Or.inr (Or.inr rfl)) (by omega), if_neg (by omega), q3]
          · refine ⟨a - 1, by omega, ?_, ?_, ?_⟩
            · rw [g _ (a - 1) (Or.inl rfl) (by omega), if_pos (by omega), show a - 1 + 1 = a by omega, q1]
            · rw [g _ (a - 1) (Or.inr (Or.inl rfl)) (by omega), if_pos (by omega), show a - 1 + 1 = a by omega, q2]
            · rw [g _ (a - 1) (Or.inr (Or.inr rfl)) (by omega), if_pos (by omega), show a - 1 + 1 = a by omega, q3]
        · rw [mxS, hd, le_n (by omega) (by omega)] at q
          omega
        · rw [mxS, hd, show nI d - 1 = nI (d - 1) by rw [il1, pk_sub (by omega)], mxS, mxS, nI_clamp (by omega)]
          rintro _ rfl
          exact h1 A K hK
        · rw [mxS, nI_clamp (by omega)]
          exact hx
      · have st : ∀ A K, ES E 105 47 [some (.ref (aS E 0)), some (.int v1), some (.int v2), some (.int v3), some (.int v4), some (.int v5), some (.int v6), some (.int v7), some (.int x), some (.int (-1)), some (.int 0), some (.int (nI (j + 1))), none] [] (mix A B) K → ES E 105 47 [some (.ref (aS E 0)), some (.int v1), some (.int v2), some (.int v3), some (.int v4), some (.int v5), some (.int v6), some (.int v7), some (.int x), some (.int (-1)), some (.int 0), some (.int (nI j)), none] [] (mix A B) K := by
          intro A K hr
          refine T105_47 ⟨fun q => ?_, fun _ => ⟨in_n rfl (by omega) (by omega), fun q => ?_, fun _ => ?_⟩⟩
          · rw [mxS, hd, le_n (by omega) (by omega)] at q
            omega
          · rw [mxS, nI_clamp (by omega)] at q
            exact absurd q hx
          · rw [nI_1]
            exact hr
        rcases ih (j + 1) (by omega) (fun p hp2 => by
          by_cases e : p = j
          · subst e
            exact hx
          · exact hp p (by omega)) with ⟨p, B', h1, h2, h3, h4, h5⟩ | ⟨h1, h2⟩
        · exact Or.inl ⟨p, B', h1, h2, h3, h4, fun A K q => st A K (h5 A K q)⟩
        · exact Or.inr ⟨h1, fun A K q => st A K (h2 A K q)⟩
  exact key d 0 (by omega) (fun p hp => absurd hp (by omega))
end ToldR
