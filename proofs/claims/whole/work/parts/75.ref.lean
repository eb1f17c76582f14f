/-! ===== the reference's constructor behind its rows ===== -/
theorem clampZ (n0 : Int32) : ∃ z : Nat, 1 ≤ z ∧ z ≤ 10 ∧ (if (1 : Int32) < (if n0 < 10 then n0 else 10) then (if n0 < 10 then n0 else 10) else 1) = nI z ∧ ((1 ≤ n0 ∧ n0 ≤ 10 ∧ n0 = nI z) ∨ (1 ≤ n0 ∧ ¬ n0 ≤ 10 ∧ 10 = nI z) ∨ (¬ 1 ≤ n0 ∧ 1 = nI z)) := by
  by_cases h1 : 1 ≤ n0
  · by_cases h2 : n0 ≤ 10
    · obtain ⟨z, z1, z2, rfl⟩ := rangeC (lo := 1) (hi := 10) (by omega) (by omega) (nlt.2 h1) h2
      refine ⟨z, z1, z2, ?_, Or.inl ⟨h1, h2, rfl⟩⟩
      have e : (if nI z < 10 then nI z else 10) = nI z := by
        by_cases q : nI z < 10
        · rw [if_pos q]
        · rw [if_neg q]
          rw [il10, nI_ltI (by omega) (by omega)] at q
          have : z = 10 := by omega
          subst this
          rfl
      rw [e]
      by_cases q : (1 : Int32) < nI z
      · rw [if_pos q]
      · rw [if_neg q]
        rw [il1, nI_ltI (by omega) (by omega)] at q
        have : z = 1 := by omega
        subst this
        rfl
    · refine ⟨10, by omega, by omega, ?_, Or.inr (Or.inl ⟨h1, h2, rfl⟩)⟩
      have e : ¬ n0 < 10 := fun q => h2 (by rw [Int32.lt_iff_toInt_lt] at q; rw [Int32.le_iff_toInt_le]; omega)
      rw [if_neg e]
      rfl
  · refine ⟨1, by omega, by omega, ?_, Or.inr (Or.inr ⟨h1, rfl⟩)⟩
    have q0 : n0.toInt < 1 := by
      rw [Int32.le_iff_toInt_le, show (1 : Int32).toInt = 1 from rfl] at h1
      omega
    have e : n0 < 10 := by
      rw [Int32.lt_iff_toInt_lt, show (10 : Int32).toInt = 10 from rfl]
      omega
    rw [if_pos e, if_neg]
    · rfl
    · rw [Int32.lt_iff_toInt_lt, show (1 : Int32).toInt = 1 from rfl]
      omega
section RefI
variable {E : mE} {B : mS} {n0 seed : Int32} {z : Nat}
/-- what the reference's rows hold at first -/
def RI (B : mS) (seed : Int32) (z : Nat) : Prop := sS B 0 1 = nI z ∧ sS B 0 2 = seed ∧ (∀ k, ¬ k = 1 → ¬ k = 2 → sS B 0 k = 0) ∧ (∀ k, k < 420 → sS B 1 k = 1) ∧ (∀ i, i < 10 → sS B 2 i = 1 ∧ sS B 6 i = -1 ∧ sS B 8 i = -1) ∧ (∀ p, p < 18000 → sS B 17 p = -1) ∧ (∀ p, p < 6000 → sS B 18 p = -9) ∧ (∀ p, p < 900 → sS B 19 p = -1) ∧ (∀ p, p < 36900 → sS B 38 p = -1) ∧ ∀ v k, v = 3 ∨ v = 4 ∨ v = 5 ∨ v = 7 ∨ (9 ≤ v ∧ v ≤ 16) ∨ (21 ≤ v ∧ v ≤ 37) ∨ v = 39 → sS B v k = 0
theorem r_i4 (v1 v2 : Int32) : ∀ d k Bk, k + d = 36900 → (∀ p, p < k → sS Bk 38 p = -1) → ∃ B', (∀ p, p < 36900 → sS B' 38 p = -1) ∧ (∀ v l, ¬ v = 38 → sS B' v l = sS Bk v l) ∧ ∀ (A : mS) (K : Option Value → mS → Prop), K none (mix A B') → ES E 91 446 [some (.ref (aS E 0)), some (.int v1), some (.int v2), some (.int (nI k))] [] (mix A Bk) K := by
  intro d
  induction d with
  | zero =>
    intro k Bk hk h
    have e : k = 36900 := by omega
    subst e
    exact ⟨Bk, h, fun _ _ _ => rfl, fun A K hK => T91_446 (aq_T (by decide) hK)⟩
  | succ d ih =>
    intro k Bk hk h
    obtain ⟨B', h1, h2, h3⟩ := ih (k + 1) (uS Bk 38 k (-1)) (by omega) (fun p hp => by
      rw [rS]
      by_cases e : p = k
      · rw [if_pos ⟨rfl, e⟩]
      · rw [if_neg (fun q => e q.2)]
        exact h p (by omega))
    refine ⟨B', h1, fun v l q => (h2 v l q).trans (rSo _ (fun z => q z.1)), fun A K hK => T91_446 (aq_F ?_ ?_)⟩
    · rw [show (36900 : Int32) = nI 36900 from rfl, le_n (by omega) (by omega)]
      omega
    · rw [nI_clamp (show k < 2 ^ 31 by omega), nI_1]
      refine ⟨⟨nI_pos (by omega), by omega⟩, ?_⟩
      rintro _ rfl
      rw [pS]
      exact h3 A K hK
theorem r_i3 (v1 v2 : Int32) : ∀ d i Bi, i + d = 10 → (∀ l, l < i → sS Bi 2 l = 1 ∧ sS Bi 6 l = -1 ∧ sS Bi 8 l = -1) → (∀ p, p / 900 < 2 * i → sS Bi 17 p = -1) → (∀ p, p / 300 < 2 * i → sS Bi 18 p = -9) → (∀ p, p / 90 < i → sS Bi 19 p = -1) →
    ∃ B', (∀ l, l < 10 → sS B' 2 l = 1 ∧ sS B' 6 l = -1 ∧ sS B' 8 l = -1) ∧ (∀ p, p < 18000 → sS B' 17 p = -1) ∧ (∀ p, p < 6000 → sS B' 18 p = -9) ∧ (∀ p, p < 900 → sS B' 19 p = -1) ∧ (∀ v l, ¬ v = 2 → ¬ v = 6 → ¬ v = 8 → ¬ v = 17 → ¬ v = 18 → ¬ v = 19 → ¬ v = 20 → sS B' v l = sS Bi v l) ∧
      ∀ (A : mS) (K : Option Value → mS → Prop), ES E 91 446 [some (.ref (aS E 0)), some (.int v1), some (.int v2), some (.int 0)] [] (mix A B') K → ES E 91 394 [some (.ref (aS E 0)), some (.int v1), some (.int v2), some (.int (nI i))] [] (mix A Bi) K := by
  intro d
  induction d with
  | zero =>
    intro i Bi hi h1 h2 h3 h4
    have e : i = 10 := by omega
    subst e
    exact ⟨Bi, h1, fun p hp => h2 p (by omega), fun p hp => h3 p (by omega), fun p hp => h4 p (by omega), fun _ _ _ _ _ _ _ _ _ => rfl, fun A K hK => T91_394 (aq_T (by decide) hK)⟩
  | succ d ih =>
    intro i Bi hi h1 h2 h3 h4
    generalize hBa : uS (uS (uS Bi 2 i 1) 6 i (-1)) 8 i (-1) = Ba
    have a2 : ∀ l, sS Ba 2 l = if l = i then 1 else sS Bi 2 l := fun l => by
      rw [← hBa, rSo _ (by omega), rSo _ (by omega), rS]
      by_cases e : l = i
      · rw [if_pos ⟨rfl, e⟩, if_pos e]
      · rw [if_neg (fun q => e q.2), if_neg e]
    have a6 : ∀ l, sS Ba 6 l = if l = i then -1 else sS Bi 6 l := fun l => by
      rw [← hBa, rSo _ (by omega), rS]
      by_cases e : l = i
      · rw [if_pos ⟨rfl, e⟩, if_pos e]
      · rw [if_neg (fun q => e q.2), if_neg e, rSo _ (by omega)]
    have a8 : ∀ l, sS Ba 8 l = if l = i then -1 else sS Bi 8 l := fun l => by
      rw [← hBa, rS]
      by_cases e : l = i
      · rw [if_pos ⟨rfl, e⟩, if_pos e]
      · rw [if_neg (fun q => e q.2), if_neg e, rSo _ (by omega), rSo _ (by omega)]
    have ao : ∀ v l, ¬ v = 2 → ¬ v = 6 → ¬ v = 8 → sS Ba v l = sS Bi v l := fun v l q1 q2 q3 => by rw [← hBa, rSo _ (fun z => q3 z.1), rSo _ (fun z => q2 z.1), rSo _ (fun z => q1 z.1)]
    obtain ⟨Bb, y1, y2, y3, y4, y5⟩ := r_clr (E := E) (B := Ba) (i := i) (h := 0) (by omega) (by omega)
    obtain ⟨Bc, w1, w2, w3, w4, w5⟩ := r_clr (E := E) (B := Bb) (i := i) (h := 1) (by omega) (by omega)
    obtain ⟨Bd, x1, x2, x3, x4, x5⟩ := r_clrS (E := E) (B := Bc) (i := i) (by omega)
    have od : ∀ v l, ¬ v = 17 → ¬ v = 18 → ¬ v = 19 → ¬ v = 20 → sS Bd v l = sS Ba v l := fun v l q1 q2 q3 q4 => by rw [x4 v l q3 q4, w4 v l q1 q2, y4 v l q1 q2]
    obtain ⟨B', g1, g2, g3, g4, g5, g6⟩ := ih (i + 1) Bd (by omega) (fun l hl => by
        rw [od 2 l (by omega) (by omega) (by omega) (by omega), od 6 l (by omega) (by omega) (by omega) (by omega), od 8 l (by omega) (by omega) (by omega) (by omega), a2, a6, a8]
        by_cases e : l = i
        · rw [if_pos e, if_pos e, if_pos e]
          exact ⟨rfl, rfl, rfl⟩
        · rw [if_neg e, if_neg e, if_neg e]
          exact h1 l (by omega)) (fun p hp => by
        rw [x4 17 p (by omega) (by omega), w2, y2]
        by_cases e1 : p / 900 = 2 * i + 1 % 2
        · rw [if_pos e1]
        · rw [if_neg e1]
          by_cases e2 : p / 900 = 2 * i + 0 % 2
          · rw [if_pos e2]
          · rw [if_neg e2, ao 17 p (by omega) (by omega) (by omega)]
            exact h2 p (by omega)) (fun p hp => by
        rw [x4 18 p (by omega) (by omega), w3, y3]
        by_cases e1 : p / 300 = 2 * i + 1 % 2
        · rw [if_pos e1]
        · rw [if_neg e1]
          by_cases e2 : p / 300 = 2 * i + 0 % 2
          · rw [if_pos e2]
          · rw [if_neg e2, ao 18 p (by omega) (by omega) (by omega)]
            exact h3 p (by omega)) (fun p hp => by
        rw [x2]
        by_cases e1 : p / 90 = i
        · rw [if_pos e1]
        · rw [if_neg e1, w4 19 p (by omega) (by omega), y4 19 p (by omega) (by omega), ao 19 p (by omega) (by omega) (by omega)]
          exact h4 p (by omega))
    refine ⟨B', g1, g2, g3, g4, fun v l q1 q2 q3 q4 q5 q6 q7 => by rw [g5 v l q1 q2 q3 q4 q5 q6 q7, od v l q4 q5 q6 q7, ao v l q1 q2 q3], fun A K hK => T91_394 (aq_F ?_ ?_)⟩
    · rw [il10, le_n (by omega) (by omega)]
      omega
    · rw [nI_clamp (show i < 2 ^ 31 by omega)]
      refine ⟨⟨nI_pos (by omega), by omega⟩, ?_⟩
      rintro _ rfl _ rfl _ rfl
      rw [pS, pS, pS, hBa]
      refine y1 A _ ⟨rfl, w1 A _ ⟨rfl, x1 A _ ⟨rfl, ?_⟩⟩⟩
      rw [nI_1]
      exact g6 A K hK
theorem r_i2 (v1 v2 : Int32) : ∀ d k Bk, k + d = 420 → (∀ p, p < k → sS Bk 1 p = 1) → ∃ B', (∀ p, p < 420 → sS B' 1 p = 1) ∧ (∀ v l, ¬ v = 1 → sS B' v l = sS Bk v l) ∧ ∀ (A : mS) (K : Option Value → mS → Prop), ES E 91 394 [some (.ref (aS E 0)), some (.int v1), some (.int v2), some (.int 0)] [] (mix A B') K → ES E 91 372 [some (.ref (aS E 0)), some (.int v1), some (.int v2), some (.int (nI k))] [] (mix A Bk) K := by
  intro d
  induction d with
  | zero =>
    intro k Bk hk h
    have e : k = 420 := by omega
    subst e
    exact ⟨Bk, h, fun _ _ _ => rfl, fun A K hK => T91_372 (aq_T (by decide) hK)⟩
  | succ d ih =>
    intro k Bk hk h
    obtain ⟨B', h1, h2, h3⟩ := ih (k + 1) (uS Bk 1 k 1) (by omega) (fun p hp => by
      rw [rS]
      by_cases e : p = k
      · rw [if_pos ⟨rfl, e⟩]
      · rw [if_neg (fun q => e q.2)]
        exact h p (by omega))
    refine ⟨B', h1, fun v l q => (h2 v l q).trans (rSo _ (fun z => q z.1)), fun A K hK => T91_372 (aq_F ?_ ?_)⟩
    · rw [show (420 : Int32) = nI 420 from rfl, le_n (by omega) (by omega)]
      omega
    · rw [nI_clamp (show k < 2 ^ 31 by omega), nI_1]
      refine ⟨⟨nI_pos (by omega), by omega⟩, ?_⟩
      rintro _ rfl
      rw [pS]
      exact h3 A K hK
theorem r_init (h0 : ∀ v k, v < 40 → sS B v k = 0) (hz : (1 ≤ n0 ∧ n0 ≤ 10 ∧ n0 = nI z) ∨ (1 ≤ n0 ∧ ¬ n0 ≤ 10 ∧ 10 = nI z) ∨ (¬ 1 ≤ n0 ∧ 1 = nI z)) : ∃ B', RI B' seed z ∧ RR E 91 335 [some (.ref (aS E 0)), some (.int n0), some (.int seed), none] B none B' := by
  generalize hB1 : uS (uS (uS B 0 0 0) 0 1 (nI z)) 0 2 seed = B1
  have b1 : ∀ v l, v < 40 → ¬ (v = 0 ∧ (l = 1 ∨ l = 2)) → sS B1 v l = 0 := fun v l q0 q => by
    rw [← hB1, rSo _ (by omega), rSo _ (by omega), rS]
    by_cases e : v = 0 ∧ l = 0
    · rw [if_pos e]
    · rw [if_neg e]
      exact h0 v l q0
  have b01 : sS B1 0 1 = nI z := by rw [← hB1, rSo _ (by omega), rSs]
  have b02 : sS B1 0 2 = seed := by rw [← hB1, rSs]
  obtain ⟨B2, c1, c2, c3⟩ := r_i2 (E := E) n0 seed 420 0 B1 (by omega) (fun p hp => absurd hp (by omega))
  obtain ⟨B3, d1, d2, d3, d4, d5, d6⟩ := r_i3 (E := E) n0 seed 10 0 B2 (by omega) (fun p hp => absurd hp (by omega)) (fun p hp => absurd hp (by omega)) (fun p hp => absurd hp (by omega)) (fun p hp => absurd hp (by omega))
  obtain ⟨B4, e1, e2, e3⟩ := r_i4 (E := E) n0 seed 36900 0 B3 (by omega) (fun p hp => absurd hp (by omega))
  have o3 : ∀ v l, ¬ v = 1 → ¬ v = 2 → ¬ v = 6 → ¬ v = 8 → ¬ v = 17 → ¬ v = 18 → ¬ v = 19 → ¬ v = 20 → ¬ v = 38 → sS B4 v l = sS B1 v l := fun v l q1 q2 q3 q4 q5 q6 q7 q8 q9 => by rw [e2 v l q9, d5 v l q2 q3 q4 q5 q6 q7 q8, c2 v l q1]
  refine ⟨B4, ⟨?_, ?_, fun k q1 q2 => ?_, fun k hk => ?_, fun i hi => ?_, fun p hp => ?_, fun p hp => ?_, fun p hp => ?_, e1, fun v k q => ?_⟩, fun A K hK => ?_⟩
  · rw [o3 0 1 (by omega) (by omega) (by omega) (by omega) (by omega) (by omega) (by omega) (by omega) (by omega), b01]
  · rw [o3 0 2 (by omega) (by omega) (by omega) (by omega) (by omega) (by omega) (by omega) (by omega) (by omega), b02]
  · rw [o3 0 k (by omega) (by omega) (by omega) (by omega) (by omega) (by omega) (by omega) (by omega) (by omega), b1 0 k (by omega) (by omega)]
  · rw [e2 1 k (by omega), d5 1 k (by omega) (by omega) (by omega) (by omega) (by omega) (by omega) (by omega), c1 k hk]
  · rw [e2 2 i (by omega), e2 6 i (by omega), e2 8 i (by omega)]
    exact d1 i hi
  · rw [e2 17 p (by omega), d2 p hp]
  · rw [e2 18 p (by omega), d3 p hp]
  · rw [e2 19 p (by omega), d4 p hp]
  · rw [o3 v k (by omega) (by omega) (by omega) (by omega) (by omega) (by omega) (by omega) (by omega) (by omega), b1 v k (by omega) (by omega)]
  · have go : ES E 91 372 [some (.ref (aS E 0)), some (.int n0), some (.int seed), some (.int 0)] [] (mix A B1) K := c3 A K (d6 A K (e3 A K hK))
    rw [← hB1] at go
    refine T91_335 ?_
    rintro _ rfl
    rcases hz with ⟨h1, h2, h3⟩ | ⟨h1, h2, h3⟩ | ⟨h1, h3⟩
    · refine aq_T h1 (aq_T h2 ?_)
      rintro _ rfl _ rfl
      rw [pS, pS, pS]
      have e : uS (uS (uS B 0 0 0) 0 1 n0) 0 2 seed = uS (uS (uS B 0 0 0) 0 1 (nI z)) 0 2 seed := by rw [← h3]
      rw [e]
      exact go
    · refine aq_T h1 (aq_F h2 ?_)
      rintro _ rfl _ rfl
      rw [pS, pS, pS, h3]
      exact go
    · refine aq_F h1 ?_
      rintro _ rfl _ rfl
      rw [pS, pS, pS, h3]
      exact go
end RefI
