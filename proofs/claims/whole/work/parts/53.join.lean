/-! ===== rule B ===== -/
def pJ (B : mS) (i h r : Nat) (s : Nat) : Bool := (pH B i h r 0 s || pH B i h r 1 s) || pH B i h r 2 s
def cB (E : mE) (B : mS) (i g r : Nat) : Prop := SOME E B g (pJ B i g r) = true
section Join
variable {E : mE} {A B : mS} {M N : List Mg} {i g r m : Nat}
theorem nsum_0 {p : Nat → Bool} {w : Nat → Nat} : ∀ n, (∀ s, s < n → p s = false) → nsum p w n = 0
  | 0, _ => rfl
  | n + 1, h => by
    unfold nsum
    rw [if_neg (by rw [h n (by omega)]; decide), nsum_0 n (fun s hs => h s (by omega))]
theorem nm1 (m : Nat) : nI m + (-1) = nI m - 1 := by rw [Int32.sub_eq_add_neg]
theorem nm2 {m : Nat} : nI (m + 1) - 1 = nI m := by rw [il1, pk_sub (by omega)]; rfl
/-- the class asks for round m -/
theorem c_jS (hS : Sim E A B M N) (hi : i < eN E) (b2 : sS B 2 i = nI g) (h40 : g ≤ 40) (a3 : sN A i 0 3 = nI r) (hrm : r < m) (hm : m < 30) {B0 : mS} {K : Option Value → mS → Prop} (h0 : ¬ cB E B i g m → ES E 49 8 [some (.ref (aN E i 0)), some (.int (nI m - 1)), none] [] (mix A B0) K) (h1 : cB E B i g m → K (some (.int (nI m))) (mix A B0)) : ES E 49 8 [some (.ref (aN E i 0)), some (.int (nI (m + 1) - 1)), none] [] (mix A B0) K := by
  obtain ⟨q1, a2, _⟩ := hS.at hi b2 h40
  have hn := hS.1.1.2.2.2
  have p1 := (hS.2.1 i hi).1
  have m3 : sN (mix A B0) i 0 3 = nI r := a3
  rw [nm2]
  refine T49_8 hi ⟨fun z => ?_, fun _ => ⟨p1, ?_⟩⟩
  · rw [m3, le_n (by omega) (by omega)] at z
    omega
  · rw [mxR, nm1]
    refine c_va (k := 0) (hS.2.1 i hi) hi hn b2 h40 hm (by omega) B0 _ ⟨_, rfl, p1, ?_⟩
    rw [mxR]
    refine c_va (k := 1) (hS.2.1 i hi) hi hn b2 h40 hm (by omega) B0 _ ⟨_, rfl, p1, ?_⟩
    rw [mxR]
    refine c_va (k := 2) (hS.2.1 i hi) hi hn b2 h40 hm (by omega) B0 _ ⟨_, rfl, ?_⟩
    refine c_some hS.2.2.2.1.1 hS.1.1 hi a2 q1 h40 B0 _ ?_
    have e : SOME E B g (fun s => bt ((vbits (pH B i g m 0) (eN E) ||| vbits (pH B i g m 1) (eN E)) ||| vbits (pH B i g m 2) (eN E)) s) = SOME E B g (pJ B i g m) := SOME.cg (fun s hs => by rw [b_or, b_or, bt_vb hn s hs, bt_vb hn s hs, bt_vb hn s hs]; rfl)
    rw [e]
    refine ⟨_, rfl, fun y => h0 (fun z => ?_), fun y => h1 ?_⟩
    · unfold cB at z
      rw [if_pos z] at y
      exact one0 y
    · by_cases z : SOME E B g (pJ B i g m) = true
      · exact z
      · rw [if_neg z] at y
        exact absurd rfl y
theorem c_join (hS : Sim E A B M N) (hi : i < eN E) (b2 : sS B 2 i = nI g) (h40 : g ≤ 40) (a3 : sN A i 0 3 = nI r) (hr : r < 30) : ((∀ m, r < m → m < 30 → ¬ cB E B i g m) → CR E 49 0 [some (.ref (aN E i 0)), none, none] A (some (.int (-1))) A) ∧ ∀ m, r < m → m < 30 → cB E B i g m → (∀ m', m < m' → m' < 30 → ¬ cB E B i g m') → CR E 49 0 [some (.ref (aN E i 0)), none, none] A (some (.int (nI m))) A := by
  obtain ⟨t, t1, t2, _, t3⟩ := hS.topA hi b2 h40
  have p1 := (hS.2.1 i hi).1
  have st : ∀ B0 K, ES E 49 8 [some (.ref (aN E i 0)), some (.int (nI t - 1)), none] [] (mix A B0) K → ES E 49 0 [some (.ref (aN E i 0)), none, none] [] (mix A B0) K := fun B0 K h => by
    refine T49 hi ⟨p1, ?_⟩
    have mm : sN (mix A B0) i (sR (mix A B0) i 0) 3 = nI t - 1 := t2
    rw [mm]
    exact h
  have tno : ∀ m, t ≤ m → m < 30 → ¬ cB E B i g m := fun m h1 h2 z => by
    unfold cB SOME at z
    rw [decide_eq_true_iff, nsum_0 (p := pJ B i g m) (eN E) (fun s hs => by
      unfold pJ pH
      rw [decide_eq_false (t3 m s 0 h1 h2 hs (by omega)), decide_eq_false (t3 m s 1 h1 h2 hs (by omega)), decide_eq_false (t3 m s 2 h1 h2 hs (by omega))]
      rfl)] at z
    omega
  have skip : ∀ d n, n + d ≤ 30 → (∀ m, n ≤ m → m < n + d → r < m ∧ ¬ cB E B i g m) → ∀ B0 K, ES E 49 8 [some (.ref (aN E i 0)), some (.int (nI n - 1)), none] [] (mix A B0) K → ES E 49 8 [some (.ref (aN E i 0)), some (.int (nI (n + d) - 1)), none] [] (mix A B0) K := by
    intro d
    induction d with
    | zero => exact fun n _ _ B0 K h => h
    | succ d ih =>
      intro n h1 h2 B0 K h
      obtain ⟨y1, y2⟩ := h2 (n + d) (by omega) (by omega)
      exact c_jS hS hi b2 h40 a3 (m := n + d) y1 (by omega) (fun _ => ih n (by omega) (fun m z1 z2 => h2 m z1 (by omega)) B0 K h) (fun z => absurd z y2)
  have fin : ∀ n, n ≤ r + 1 → ∀ B0 K, K (some (.int (-1))) (mix A B0) → ES E 49 8 [some (.ref (aN E i 0)), some (.int (nI n - 1)), none] [] (mix A B0) K := fun n hn B0 K hK => by
    have m3 : sN (mix A B0) i 0 3 = nI r := a3
    refine T49_8 hi ⟨fun _ => hK, fun z => absurd ?_ z⟩
    rw [m3]
    cases n with
    | zero => exact Int32.le_of_lt (by rw [Int32.lt_iff_toInt_lt, nI_toInt (by omega)]; have : (nI 0 - 1).toInt = -1 := by decide
                                       omega)
    | succ n => rw [nm2, le_n (by omega) (by omega)]; omega
  refine ⟨fun hno B0 K hK => st B0 K ?_, fun m h1 h2 h3 h4 B0 K hK => st B0 K ?_⟩
  · by_cases e : t ≤ r + 1
    · exact fin t e B0 K hK
    · have := skip (t - (r + 1)) (r + 1) (by omega) (fun m z1 z2 => ⟨by omega, hno m (by omega) (by omega)⟩) B0 K (fin (r + 1) (Nat.le_refl _) B0 K hK)
      rw [show r + 1 + (t - (r + 1)) = t by omega] at this
      exact this
  · have hmt : m < t := by
      by_cases z : m < t
      · exact z
      · exact absurd h3 (tno m (by omega) h2)
    have := skip (t - (m + 1)) (m + 1) (by omega) (fun m' z1 z2 => ⟨by omega, h4 m' (by omega) (by omega)⟩) B0 K (c_jS hS hi b2 h40 a3 h1 h2 (fun z => absurd h3 z) (fun _ => hK))
    rw [show m + 1 + (t - (m + 1)) = t by omega] at this
    exact this
/-- the reference sums those who spoke in round m -/
theorem r_jL (hS : Sim E A B M N) (hi : i < eN E) (b2 : sS B 2 i = nI g) (h40 : g ≤ 40) (hm : m < 30) {A0 : mS} {K : Option Value → mS → Prop} (h : ES E 119 26 [some (.ref (aS E 0)), some (.int (nI i)), some (.int (nI g)), some (.int (nI m)), some (.long (lN (nsum (pJ B i g m) (ww B g) (eN E)))), none, some (.int (nI (eN E))), none] [] (mix A0 B) K) : ∀ e s, s + e = eN E → ES E 119 26 [some (.ref (aS E 0)), some (.int (nI i)), some (.int (nI g)), some (.int (nI m)), some (.long (lN (nsum (pJ B i g m) (ww B g) s))), none, some (.int (nI s)), none] [] (mix A0 B) K := by
  obtain ⟨q1, a2, _⟩ := hS.at hi b2 h40
  have hn := hS.1.1.2.2.2
  have hn1 := hS.1.1.2.2.1
  have ci : (nI i).toNatClampNeg = i := nI_clamp (by omega)
  have hne : ¬ nI (eN E) = 0 := nI_ne0 (by omega) (by omega)
  obtain ⟨p1, p2, p3, p4⟩ := hS.2.1 i hi
  obtain ⟨v1, v2⟩ := p4 g (by omega) b2
  intro e
  induction e with
  | zero =>
    intro s h1
    have : s = eN E := by omega
    subst this
    exact h
  | succ e ih =>
    intro s h1
    have hs : s < eN E := by omega
    have lp : ∀ k, k < 3 → pl i g m s k < 18000 := fun k hk => pl_lt (by omega) hm (by omega) hk
    have m2 : sS (mix A0 B) 2 i = nI g := b2
    have m1 : sS (mix A0 B) 0 1 = nI (eN E) := hS.1.1.1
    have ix0 : (((((2 * nI i + (nI g - nI g / 2 * 2)) * 30 + nI m) * 10 + nI s) * 3) + 0) = nI (pl i g m s 0) := ix_p (k := 0) (by omega) (by omega) hm (by omega) (by omega)
    have ix1 : (((((2 * nI i + (nI g - nI g / 2 * 2)) * 30 + nI m) * 10 + nI s) * 3) + 1) = nI (pl i g m s 1) := ix_p (k := 1) (by omega) (by omega) hm (by omega) (by omega)
    have ix2 : (((((2 * nI i + (nI g - nI g / 2 * 2)) * 30 + nI m) * 10 + nI s) * 3) + 2) = nI (pl i g m s 2) := ix_p (k := 2) (by omega) (by omega) hm (by omega) (by omega)
    have cx : ∀ k, k < 3 → (nI (pl i g m s k)).toNatClampNeg = pl i g m s k := fun k hk => nI_clamp (by have := lp k hk; omega)
    have cw : (nI (10 * g + s)).toNatClampNeg = 10 * g + s := nI_clamp (by omega)
    obtain ⟨w1, w2, w3⟩ := hS.2.2.2.1.1.w q1 h40 s hs
    have mw : sS (mix A0 B) 1 (10 * g + s) = nI (ww B g s) := w2
    have nx : nI s + 1 = nI (s + 1) := nI_1 s
    have hrem : nI g + nI m - (nI g + nI m) / nI (eN E) * nI (eN E) = nI ((g + m) % eN E) := by rw [nI_add, pk_rem (by omega) (by omega) (by omega)]
    have hpl := Nat.mod_lt (g + m) (show 0 < eN E from by omega)
    have yes : pJ B i g m s = true → ES E 119 26 [some (.ref (aS E 0)), some (.int (nI i)), some (.int (nI g)), some (.int (nI m)), some (.long (lN (nsum (pJ B i g m) (ww B g) s) + (nI (ww B g s)).toInt64)), none, some (.int (nI (s + 1))), none] [] (mix A0 B) K := fun z => by
      have := ih (s + 1) (by omega)
      unfold nsum at this
      rw [if_pos z] at this
      rw [nI_l (by omega), lN_add]
      exact this
    have no : pJ B i g m s = false → ES E 119 26 [some (.ref (aS E 0)), some (.int (nI i)), some (.int (nI g)), some (.int (nI m)), some (.long (lN (nsum (pJ B i g m) (ww B g) s) + (0 : Int32).toInt64)), none, some (.int (nI (s + 1))), none] [] (mix A0 B) K := fun z => by
      have := ih (s + 1) (by omega)
      unfold nsum at this
      rw [if_neg (by rw [z]; decide)] at this
      rw [show (0 : Int32).toInt64 = lN 0 from rfl, lN_add]
      exact this
    have mk : ∀ k, sS (mix A0 B) 17 (pl i g m s k) = sS B 17 (pl i g m s k) := fun k => mxS _ _ _ _
    refine T119_26 ⟨fun z => ?_, fun _ => ⟨in_n rfl (by omega) (by omega), ?_⟩⟩
    · rw [m1, le_n (by omega) (by omega)] at z
      omega
    rw [ci, m2, m1, ix0, ix1, ix2, cx 0 (by omega), cx 1 (by omega), cx 2 (by omega), mk, mk, mk, ix_w, cw, mw, nx, hrem]
    refine ⟨by decide, ⟨nI_pos (by have := lp 1 (by omega); omega), lp 1 (by omega)⟩, fun y1 => ⟨⟨nI_pos (by omega), by omega⟩, yes ?_⟩, fun y1 => ⟨⟨nI_pos (by have := lp 2 (by omega); omega), lp 2 (by omega)⟩, fun y2 => ⟨⟨nI_pos (by omega), by omega⟩, yes ?_⟩, fun y2 => ⟨hne, fun y3 => ⟨⟨nI_pos (by have := lp 0 (by omega); omega), lp 0 (by omega)⟩, fun y4 => no ?_, fun y4 => ⟨⟨nI_pos (by omega), by omega⟩, yes ?_⟩⟩, fun y3 => no ?_⟩⟩⟩
    · unfold pJ pH
      rw [decide_eq_true y1, Bool.or_true, Bool.true_or]
    · unfold pJ pH
      rw [decide_eq_true y2, Bool.or_true]
    · unfold pJ pH
      rw [decide_eq_false y1, decide_eq_false y2, decide_eq_false (fun z => (m2_n z).2.2.1 y4)]
      rfl
    · unfold pJ pH
      rw [decide_eq_true (nlt.1 y4), Bool.true_or, Bool.true_or]
    · unfold pJ pH
      rw [decide_eq_false y1, decide_eq_false y2]
      by_cases z : 0 ≤ sS B 17 (pl i g m s 0)
      · obtain ⟨x1, x2, x3, x4⟩ := (v1.2.2.1 m s hm hs).2 z
        exact absurd (by rw [x2]) y3
      · rw [decide_eq_false z]
        rfl
theorem r_jS (hS : Sim E A B M N) (hi : i < eN E) (b2 : sS B 2 i = nI g) (h40 : g ≤ 40) (b3 : sS B 3 i = nI r) (hrm : r < m) (hm : m < 30) {A0 : mS} {K : Option Value → mS → Prop} (h0 : ¬ cB E B i g m → ES E 119 10 [some (.ref (aS E 0)), some (.int (nI i)), some (.int (nI g)), some (.int (nI m - 1)), none, none, none, none] [] (mix A0 B) K) (h1 : cB E B i g m → ES E 99 0 [some (.ref (aS E 0)), some (.int (nI i)), some (.int (nI m)), none] [] (mix A0 B) (fun r S5 => r = none ∧ (K (some (.int 1)) S5))) : ES E 119 10 [some (.ref (aS E 0)), some (.int (nI i)), some (.int (nI g)), some (.int (nI (m + 1) - 1)), none, none, none, none] [] (mix A0 B) K := by
  obtain ⟨q1, a2, _⟩ := hS.at hi b2 h40
  have hn := hS.1.1.2.2.2
  have ci : (nI i).toNatClampNeg = i := nI_clamp (by omega)
  have m3 : sS (mix A0 B) 3 i = nI r := b3
  have m1 : sS (mix A0 B) 0 1 = nI (eN E) := hS.1.1.1
  rw [nm2]
  refine T119_10 ⟨in_n rfl (by omega) (by omega), ?_⟩
  rw [ci, m3, le_n (by omega) (by omega)]
  refine ⟨fun z => by omega, fun _ => ?_⟩
  have := r_jL hS hi b2 h40 hm (A0 := A0) (K := K) (T119_26 ⟨fun _ => ?_, fun z => absurd (by rw [m1]; exact Int32.le_refl _) z⟩) (eN E) 0 (by omega)
  · exact this
  · refine r_all hS.2.2.2.1.1 hS.1.1 q1 h40 A0 _ ⟨_, rfl, ?_⟩
    have b1 := hS.2.2.2.1.1.b hn q1 h40 (pJ B i g m)
    have b2 := hS.2.2.2.1.1.b hn q1 h40 (fun _ => true)
    rw [lgc_le, show (3 : Int64) = lN 3 from rfl, lN_mul, lN_lt (by omega) (by omega), nm1]
    refine ⟨fun z => h0 (fun y => ?_), fun z => h1 ?_⟩
    · unfold cB SOME at y
      rw [decide_eq_true_iff] at y
      exact z y
    · unfold cB SOME
      rw [decide_eq_true_iff]
      omega
/-- rule B -/
theorem ruleB (hS : Sim E A B M N) (hI : Idle E A) (hi : i < eN E) (b2 : sS B 2 i = nI g) (h40 : g ≤ 40) : (CR E 49 0 [some (.ref (aN E i 0)), none, none] A (some (.int (-1))) A ∧ RR E 119 0 [some (.ref (aS E 0)), some (.int (nI i)), none, none, none, none, none, none] B (some (.int 0)) B) ∨
    ∃ r0 A1 A2 B2 X, r0 < 30 ∧ CR E 49 0 [some (.ref (aN E i 0)), none, none] A (some (.int (nI r0))) A ∧ CR E 38 0 [some (.ref (aN E i 0)), some (.int (nI r0)), some (.int (sK A 0 5)), none] A none A1 ∧ dsp E i A1 A2 ∧ RR E 119 0 [some (.ref (aS E 0)), some (.int (nI i)), none, none, none, none, none, none] B (some (.int 1)) B2 ∧ POST E i A B A2 B2 M N X := by
  obtain ⟨q1, a2, r, s, hr, hs, a3, b3, a4, b4, _⟩ := hS.at hi b2 h40
  have hn := hS.1.1.2.2.2
  have ci : (nI i).toNatClampNeg = i := nI_clamp (by omega)
  obtain ⟨t1, t2⟩ := c_join hS hi b2 h40 a3 hr
  have st : ∀ A0 K, ES E 119 10 [some (.ref (aS E 0)), some (.int (nI i)), some (.int (nI g)), some (.int (nI 30 - 1)), none, none, none, none] [] (mix A0 B) K → ES E 119 0 [some (.ref (aS E 0)), some (.int (nI i)), none, none, none, none, none, none] [] (mix A0 B) K := fun A0 K h => by
    refine T119 ⟨in_n rfl (by omega) (by omega), ?_⟩
    rw [ci, mxS, b2]
    exact h
  have skip : ∀ d n, n + d ≤ 30 → (∀ m, n ≤ m → m < n + d → r < m ∧ ¬ cB E B i g m) → ∀ A0 K, ES E 119 10 [some (.ref (aS E 0)), some (.int (nI i)), some (.int (nI g)), some (.int (nI n - 1)), none, none, none, none] [] (mix A0 B) K → ES E 119 10 [some (.ref (aS E 0)), some (.int (nI i)), some (.int (nI g)), some (.int (nI (n + d) - 1)), none, none, none, none] [] (mix A0 B) K := by
    intro d
    induction d with
    | zero => exact fun n _ _ B0 K h => h
    | succ d ih =>
      intro n h1 h2 B0 K h
      obtain ⟨y1, y2⟩ := h2 (n + d) (by omega) (by omega)
      exact r_jS hS hi b2 h40 b3 (m := n + d) y1 (by omega) (fun _ => ih n (by omega) (fun m z1 z2 => h2 m z1 (by omega)) B0 K h) (fun z => absurd z y2)
  by_cases hno : ∀ m, r < m → m < 30 → ¬ cB E B i g m
  · refine Or.inl ⟨t1 hno, fun A0 K hK => st A0 K ?_⟩
    have := skip (30 - (r + 1)) (r + 1) (by omega) (fun m z1 z2 => ⟨by omega, hno m (by omega) (by omega)⟩) A0 K (by
      have m3 : sS (mix A0 B) 3 i = nI r := b3
      rw [nm2]
      refine T119_10 ⟨in_n rfl (by omega) (by omega), ?_⟩
      rw [ci, m3]
      exact ⟨fun _ => hK, fun z => absurd (Int32.le_refl _) z⟩)
    rw [show r + 1 + (30 - (r + 1)) = 30 by omega] at this
    exact this
  · have hex : ∃ m, r < m ∧ m < 30 ∧ cB E B i g m ∧ ∀ m', m < m' → m' < 30 → ¬ cB E B i g m' := by
      have key : ∀ d, d ≤ 30 → (∃ m, r < m ∧ 30 - d ≤ m ∧ m < 30 ∧ cB E B i g m) → ∃ m, r < m ∧ m < 30 ∧ cB E B i g m ∧ ∀ m', m < m' → m' < 30 → ¬ cB E B i g m' := by
        intro d
        induction d with
        | zero => rintro _ ⟨m, _, _, _, _⟩; omega
        | succ d ih =>
          rintro hd ⟨m, h1, h2, h3, h4⟩
          by_cases z : ∃ m, r < m ∧ 30 - d ≤ m ∧ m < 30 ∧ cB E B i g m
          · exact ih (by omega) z
          · have : m = 30 - (d + 1) := by
              by_cases y : 30 - d ≤ m
              · exact absurd ⟨m, h1, y, h3, h4⟩ z
              · omega
            subst this
            exact ⟨_, h1, h3, h4, fun m' y1 y2 y3 => z ⟨m', by omega, by omega, y2, y3⟩⟩
      refine key 30 (Nat.le_refl _) ?_
      by_cases z : ∃ m, r < m ∧ 30 - 30 ≤ m ∧ m < 30 ∧ cB E B i g m
      · exact z
      · exact absurd (fun m h1 h2 h3 => z ⟨m, h1, by omega, h2, h3⟩) hno
    obtain ⟨m, h1, h2, h3, h4⟩ := hex
    obtain ⟨A1, A2, B2, X, w1, w2, w3, w4, w5, w6, w7, w8, w9, w10, _⟩ := bgn (r := m) hS.1 hS.2.1 hS.2.2.1 hI (hS.2.2.2.pre hi (fun r0 y1 y2 => by
      rw [b3, nI_eq (by omega) (by omega)] at y2
      omega)) hi h2 b2 h40
    refine Or.inr ⟨m, A1, A2, B2, X, h2, t2 m h1 h2 h3 h4, w1, w2, fun A0 K hK => st A0 K ?_, w4, w5, w6, w7, ?_⟩
    · have := skip (30 - (m + 1)) (m + 1) (by omega) (fun m' z1 z2 => ⟨by omega, h4 m' (by omega) (by omega)⟩) A0 K (r_jS hS hi b2 h40 b3 h1 h2 (fun z => absurd h3 z) (fun _ => w3 A0 _ ⟨rfl, hK⟩))
      rw [show m + 1 + (30 - (m + 1)) = 30 by omega] at this
      exact this
    · unfold mu
      rw [w8, w9, b2, b3, nI_clamp (by omega), nI_clamp (by omega), nI_clamp (by omega)]
      omega
end Join
