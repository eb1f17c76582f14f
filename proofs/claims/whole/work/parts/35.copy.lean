/-! ===== a copy goes ===== -/
theorem lgc_lt (x y : Int64) : lg_cmp x y < 0 ↔ x < y := by
  unfold lg_cmp
  by_cases h1 : x > y
  · rw [if_pos h1]
    constructor
    · intro h; exact absurd h (by decide)
    · intro h
      rw [gt_iff_lt, Int64.lt_iff_toInt_lt] at h1
      rw [Int64.lt_iff_toInt_lt] at h
      omega
  · rw [if_neg h1]
    by_cases h2 : x = y
    · rw [if_pos h2]
      subst h2
      constructor
      · intro h; exact absurd h (by decide)
      · intro h; exact absurd h h1
    · rw [if_neg h2]
      refine ⟨fun _ => ?_, fun _ => by decide⟩
      rw [gt_iff_lt, Int64.lt_iff_toInt_lt] at h1
      rw [Int64.lt_iff_toInt_lt]
      have : ¬ x.toInt = y.toInt := fun q => h2 (Int64.toInt_inj.mp q)
      omega
theorem lgc_gt (x y : Int64) : 0 < lg_cmp x y ↔ y < x := by
  unfold lg_cmp
  by_cases h1 : x > y
  · rw [if_pos h1]
    exact ⟨fun _ => h1, fun _ => by decide⟩
  · rw [if_neg h1]
    by_cases h2 : x = y
    · rw [if_pos h2]
      exact ⟨fun h => absurd h (by decide), fun h => absurd h h1⟩
    · rw [if_neg h2]
      exact ⟨fun h => absurd h (by decide), fun h => absurd h h1⟩
theorem lgc_le (x y : Int64) : lg_cmp x y ≤ 0 ↔ ¬ y < x := by
  rw [← lgc_gt, Int32.le_iff_toInt_le, Int32.lt_iff_toInt_lt]
  omega
theorem l32_lt (x y : Int32) : x.toInt64 < y.toInt64 ↔ x < y := by rw [Int64.lt_iff_toInt_lt, Int32.lt_iff_toInt_lt, Int32.toInt_toInt64, Int32.toInt_toInt64]
/-- sides last and the two are on unlike ones -/
def apB (t f l bits a b : Int32) : Bool := decide (¬ t < f ∧ ¬ l < t ∧ ¬ ((bits >>> (a &&& 31)) &&& 1) = ((bits >>> (b &&& 31)) &&& 1))
theorem c_apart {E : mE} {A : mS} {a b : Int32} : CR E 74 0 [some (.ref (aK E 0)), some (.int a), some (.int b), none] A (some (.int (if apB (sK A 0 5) (sK A 0 10) (sK A 0 11) (sK A 0 9) a b = true then 1 else 0))) A := by
  intro B K hK
  refine T74 ⟨fun h => ?_, fun h => ⟨fun h2 => ?_, fun h2 => ⟨fun h3 => ?_, fun h3 => ?_⟩⟩⟩
  · rw [if_neg (fun q => (of_decide_eq_true q).1 h)] at hK
    exact hK
  · rw [if_neg (fun q => (of_decide_eq_true q).2.1 h2)] at hK
    exact hK
  · rw [if_neg (fun q => (of_decide_eq_true q).2.2 h3)] at hK
    exact hK
  · rw [if_pos (show apB (sK A 0 5) (sK A 0 10) (sK A 0 11) (sK A 0 9) a b = true from decide_eq_true ⟨h, h2, h3⟩)] at hK
    exact hK
theorem r_apart {E : mE} {B : mS} {a b : Int32} : RR E 108 0 [some (.ref (aS E 0)), some (.int a), some (.int b)] B (some (.int (if apB (sS B 0 3) (sS B 0 47) (sS B 0 48) (sS B 0 46) a b = true then 1 else 0))) B := by
  intro A K hK
  refine T108 ⟨fun h => ?_, fun h => ⟨fun h2 => ?_, fun h2 => ⟨fun h3 => ?_, fun h3 => ?_⟩⟩⟩
  · rw [lgc_lt, l32_lt] at h
    rw [if_neg (fun q => (of_decide_eq_true q).1 h)] at hK
    exact hK
  · rw [lgc_gt, l32_lt] at h2
    rw [if_neg (fun q => (of_decide_eq_true q).2.1 h2)] at hK
    exact hK
  · rw [if_neg (fun q => (of_decide_eq_true q).2.2 h3)] at hK
    exact hK
  · rw [lgc_lt, l32_lt] at h
    rw [lgc_gt, l32_lt] at h2
    rw [if_pos (show apB (sS B 0 3) (sS B 0 47) (sS B 0 48) (sS B 0 46) a b = true from decide_eq_true ⟨h, h2, h3⟩)] at hK
    exact hK
/-- the copies that come of one: kd what was told, y by how many turns, ap apart, u under way, t the turn -/
def oc (kd y : Int32) (ap : Bool) (u : Nat) (t : Int32) (mk : Int32 → Int32 → Mg) : List Mg :=
  if kd = 0 ∨ ap = true ∨ u = 6000 then [] else
  if kd = 1 then (if u + 1 = 6000 then [mk (t + 1 + 0) 0] else [mk (t + 1 + 0) 0, mk (t + 2) 1]) else [mk (t + 1 + (if kd = 2 then y else 0)) 0]
/-- how many of them are lost -/
def ol (kd : Int32) (ap : Bool) (u : Nat) : Int32 := if kd = 0 ∨ ap = true ∨ u = 6000 then 1 else if kd = 1 ∧ u + 1 = 6000 then 1 else 0
theorem oc_none (y : Int32) (ap : Bool) (u : Nat) (t : Int32) (mk : Int32 → Int32 → Mg) : oc (-2) y ap u t mk = oc (-1) y ap u t mk := by
  unfold oc
  have h1 : ¬ (-2 : Int32) = 0 := by decide
  have h2 : ¬ (-2 : Int32) = 1 := by decide
  have h3 : ¬ (-2 : Int32) = 2 := by decide
  have g1 : ¬ (-1 : Int32) = 0 := by decide
  have g2 : ¬ (-1 : Int32) = 1 := by decide
  have g3 : ¬ (-1 : Int32) = 2 := by decide
  simp only [h1, h2, h3, g1, g2, g3, false_or, if_false]
theorem ol_none (ap : Bool) (u : Nat) : ol (-2) ap u = ol (-1) ap u := by
  unfold ol
  have h1 : ¬ (-2 : Int32) = 0 := by decide
  have h2 : ¬ (-2 : Int32) = 1 := by decide
  have g1 : ¬ (-1 : Int32) = 0 := by decide
  have g2 : ¬ (-1 : Int32) = 1 := by decide
  simp only [h1, h2, g1, g2, false_or, false_and, if_false]
/-- what a copy that goes leaves of the class's part -/
def FAs (A A' : mS) : Prop := (∀ i c k, sN A' i c k = sN A i c k) ∧ (∀ i j, sR A' i j = sR A i j) ∧ ∀ v k, ¬ v = 1 → ¬ (v = 0 ∧ k = 8) → sK A' v k = sK A v k
section Copy
variable {E : mE} {A B : mS} {M N : List Mg} {i u d : Nat} {y : Int32} {R : Int32 → Int32 → Int32 → Prop}
theorem t73 {a b kd late : Int32} (hi : i < eN E) (hM : MC A M) (hu : sK A 1 2 = nI u) (h6 : u ≤ 6000) (hl : M.length ≤ u + 6000) (hk0 : ¬ kd = 0) (hlate : late = if kd = 2 then y else 0) : ∃ A', (∀ (B : mS) (K : Option Value → mS → Prop), K none (mix A' B) → ES E 74 0 [some (.ref (aK E 0)), some (.int a), some (.int b), none] [] (mix A B) (fun r S10 => ∃ x11 : Int32, r = some (.int x11) ∧ ((x11 = 0 → (ES E 32 0 [some (.ref (aK E 1)), some (.ref (aN E i 16)), some (.int (((sK S10 0 5) + 1) + late)), some (.int 0), none] [] S10 (fun r S13 => ∃ x14 : Int32, r = some (.int x14) ∧ ((x14 = 0 → (∀ S16, S16 = uK S13 0 8 ((sK S13 0 8) + 1) → (K none S16))) ∧ (¬ x14 = 0 → (((kd = 1) → (ES E 32 0 [some (.ref (aK E 1)), some (.ref (aN E i 16)), some (.int ((sK S13 0 5) + 2)), some (.int 1), none] [] S13 (fun r S18 => ∃ x19 : Int32, r = some (.int x19) ∧ ((x19 = 0 → (∀ S21, S21 = uK S18 0 8 ((sK S18 0 8) + 1) → (K none S21))) ∧ (¬ x19 = 0 → (K none S18)))))) ∧ (¬ kd = 1 → (K none S13)))))))) ∧ (¬ x11 = 0 → (∀ S22, S22 = uK S10 0 8 ((sK S10 0 8) + 1) → (K none S22)))))) ∧
    MC A' (M ++ oc kd y (apB (sK A 0 5) (sK A 0 10) (sK A 0 11) (sK A 0 9) a b) u (sK A 0 5) (mkM A i)) ∧ sK A' 1 2 = nI (u + (oc kd y (apB (sK A 0 5) (sK A 0 10) (sK A 0 11) (sK A 0 9) a b) u (sK A 0 5) (mkM A i)).length) ∧ sK A' 0 8 = sK A 0 8 + ol kd (apB (sK A 0 5) (sK A 0 10) (sK A 0 11) (sK A 0 9) a b) u ∧ FAs A A' := by
  generalize hap : apB (sK A 0 5) (sK A 0 10) (sK A 0 11) (sK A 0 9) a b = ap
  have ha := c_apart (E := E) (A := A) (a := a) (b := b)
  rw [hap] at ha
  have lost1 : MC (uK A 0 8 (sK A 0 8 + 1)) M ∧ FAs A (uK A 0 8 (sK A 0 8 + 1)) := ⟨by
    unfold MC mgC at hM ⊢
    simp only [pK, pN, pR, pQ, pM, pA, pS, pW, mxK, mxN, mxR, mxQ, mxM, mxU, mxS, mxW, fNK, fRK, fQK, fMK, fUK, fSK, fWK, fKN, fRN, fQN, fMN, fUN, fSN, fWN, fKR, fNR, fQR, fMR, fUR, fSR, fWR, fKQ, fNQ, fRQ, fMQ, fUQ, fSQ, fWQ, fKM, fNM, fRM, fQM, fUM, fSM, fWM, fKA, fNA, fRA, fQA, fSA, fWA, fKS, fNS, fRS, fQS, fMS, fUS, fWS, fKW, fNW, fRW, fQW, fMW, fUW, fSW, rN, rK, rS, rM, rNs, rKs, rSs, rMs, Nat.reduceEqDiff, false_and, and_false, true_and, and_true, and_self, if_false, if_true, reduceIte]
    exact hM, fun _ _ _ => by rw [fNK], fun _ _ => by rw [fRK], fun v k _ h => by rw [rKo _ (by omega)]⟩
  by_cases h1 : ap = true
  · have e1 : oc kd y ap u (sK A 0 5) (mkM A i) = [] := if_pos (Or.inr (Or.inl h1))
    have e2 : ol kd ap u = 1 := if_pos (Or.inr (Or.inl h1))
    rw [if_pos h1] at ha
    refine ⟨uK A 0 8 (sK A 0 8 + 1), fun B K hK => ha B _ ⟨1, rfl, fun q => absurd q (by decide), fun _ => ?_⟩, ?_, ?_, ?_, lost1.2⟩
    · rintro _ rfl
      rw [pK, mxK]
      exact hK
    · rw [e1, List.append_nil]
      exact lost1.1
    · rw [e1, rKo _ (by omega)]
      exact hu
    · rw [e2, rKs]
  · rw [if_neg h1] at ha
    by_cases h2 : u = 6000
    · have e1 : oc kd y ap u (sK A 0 5) (mkM A i) = [] := if_pos (Or.inr (Or.inr h2))
      have e2 : ol kd ap u = 1 := if_pos (Or.inr (Or.inr h2))
      refine ⟨uK A 0 8 (sK A 0 8 + 1), fun B K hK => ha B _ ⟨0, rfl, fun _ => c_full hi (by rw [hu, h2]) B _ ⟨0, rfl, fun _ => ?_, fun q => absurd rfl q⟩, fun q => absurd rfl q⟩, ?_, ?_, ?_, lost1.2⟩
      · rintro _ rfl
        rw [pK, mxK]
        exact hK
      · rw [e1, List.append_nil]
        exact lost1.1
      · rw [e1, rKo _ (by omega)]
        exact hu
      · rw [e2, rKs]
    · obtain ⟨A1, p1, p2, p3, p4, p5, p6⟩ := c_post (due := sK A 0 5 + 1 + late) (sec := 0) hi hM (by omega) hu (by omega) (Or.inl rfl)
      have hn : ¬ (kd = 0 ∨ ap = true ∨ u = 6000) := by
        rintro (q | q | q)
        · exact hk0 q
        · exact h1 q
        · exact h2 q
      by_cases hk1 : kd = 1
      · have hl0 : late = 0 := by rw [hlate, hk1]; rfl
        subst hl0
        by_cases h3 : u + 1 = 6000
        · have e1 : oc kd y ap u (sK A 0 5) (mkM A i) = [mkM A i (sK A 0 5 + 1 + 0) 0] := by unfold oc; rw [if_neg hn, if_pos hk1, if_pos h3]
          have e2 : ol kd ap u = 1 := by unfold ol; rw [if_neg hn, if_pos ⟨hk1, h3⟩]
          refine ⟨uK A1 0 8 (sK A1 0 8 + 1), fun B K hK => ha B _ ⟨0, rfl, fun _ => p1 B _ ⟨1, rfl, fun q => absurd q (by decide), fun _ => ⟨fun _ => c_full hi (by rw [p3, h3]) B _ ⟨0, rfl, fun _ => ?_, fun q => absurd rfl q⟩, fun q => absurd hk1 q⟩⟩, fun q => absurd rfl q⟩, ?_, ?_, ?_, ?_⟩
          · rintro _ rfl
            rw [pK, mxK]
            exact hK
          · rw [e1]
            unfold MC mgC at p2 ⊢
            simp only [pK, pN, pR, pQ, pM, pA, pS, pW, mxK, mxN, mxR, mxQ, mxM, mxU, mxS, mxW, fNK, fRK, fQK, fMK, fUK, fSK, fWK, fKN, fRN, fQN, fMN, fUN, fSN, fWN, fKR, fNR, fQR, fMR, fUR, fSR, fWR, fKQ, fNQ, fRQ, fMQ, fUQ, fSQ, fWQ, fKM, fNM, fRM, fQM, fUM, fSM, fWM, fKA, fNA, fRA, fQA, fSA, fWA, fKS, fNS, fRS, fQS, fMS, fUS, fWS, fKW, fNW, fRW, fQW, fMW, fUW, fSW, rN, rK, rS, rM, rNs, rKs, rSs, rMs, Nat.reduceEqDiff, false_and, and_false, true_and, and_true, and_self, if_false, if_true, reduceIte]
            exact p2
          · rw [e1, rKo _ (by omega), p3]
            rfl
          · rw [e2, rKs, p6 0 8 (by omega)]
          · exact ⟨fun _ _ _ => by rw [fNK, p4], fun _ _ => by rw [fRK, p5], fun v k h h8 => by rw [rKo _ (by omega), p6 v k h]⟩
        · have e1 : oc kd y ap u (sK A 0 5) (mkM A i) = [mkM A i (sK A 0 5 + 1 + 0) 0, mkM A i (sK A 0 5 + 2) 1] := by unfold oc; rw [if_neg hn, if_pos hk1, if_neg h3]
          have e2 : ol kd ap u = 0 := by unfold ol; rw [if_neg hn, if_neg (fun q => h3 q.2)]
          obtain ⟨A2, q1, q2, q3, q4, q5, q6⟩ := c_post (due := sK A1 0 5 + 2) (sec := 1) hi p2 (by rw [List.length_append]; simp; omega) p3 (by omega) (Or.inr rfl)
          have em : mkM A1 i (sK A1 0 5 + 2) 1 = mkM A i (sK A 0 5 + 2) 1 := by
            funext k
            unfold mkM
            rw [p4, p6 0 5 (by omega)]
          rw [em] at q2
          refine ⟨A2, fun B K hK => ha B _ ⟨0, rfl, fun _ => p1 B _ ⟨1, rfl, fun q => absurd q (by decide), fun _ => ⟨fun _ => q1 B _ ⟨1, rfl, fun q => absurd q (by decide), fun _ => hK⟩, fun q => absurd hk1 q⟩⟩, fun q => absurd rfl q⟩, ?_, ?_, ?_, ?_⟩
          · rw [e1]
            rw [List.append_assoc] at q2
            exact q2
          · rw [e1, q3]
            rfl
          · rw [e2, q6 0 8 (by omega), p6 0 8 (by omega), Int32.add_zero]
          · exact ⟨fun _ _ _ => by rw [q4, p4], fun _ _ => by rw [q5, p5], fun v k h h8 => by rw [q6 v k h, p6 v k h]⟩
      · have e1 : oc kd y ap u (sK A 0 5) (mkM A i) = [mkM A i (sK A 0 5 + 1 + late) 0] := by unfold oc; rw [if_neg hn, if_neg hk1, hlate]
        have e2 : ol kd ap u = 0 := by unfold ol; rw [if_neg hn, if_neg (fun q => hk1 q.1)]
        refine ⟨A1, fun B K hK => ha B _ ⟨0, rfl, fun _ => p1 B _ ⟨1, rfl, fun q => absurd q (by decide), fun _ => ⟨fun q => absurd q hk1, fun _ => hK⟩⟩, fun q => absurd rfl q⟩, ?_, ?_, ?_, ?_⟩
        · rw [e1]
          exact p2
        · rw [e1, p3]
          rfl
        · rw [e2, p6 0 8 (by omega), Int32.add_zero]
        · exact ⟨p4, p5, fun v k h h8 => p6 v k h⟩
theorem t73n {a b kd late : Int32} (hi : i < eN E) (hM : MC A M) (hu : sK A 1 2 = nI u) (h6 : u ≤ 6000) (hl : M.length ≤ u + 6000) (hk0 : kd = -2) (hlate : late = if kd = 2 then y else 0) : ∃ A', (∀ (B : mS) (K : Option Value → mS → Prop), K none (mix A' B) → ES E 74 0 [some (.ref (aK E 0)), some (.int a), some (.int b), none] [] (mix A B) (fun r S10 => ∃ x11 : Int32, r = some (.int x11) ∧ ((x11 = 0 → (ES E 32 0 [some (.ref (aK E 1)), some (.ref (aN E i 16)), some (.int (((sK S10 0 5) + 1) + late)), some (.int 0), none] [] S10 (fun r S13 => ∃ x14 : Int32, r = some (.int x14) ∧ ((x14 = 0 → (∀ S16, S16 = uK S13 0 8 ((sK S13 0 8) + 1) → (K none S16))) ∧ (¬ x14 = 0 → (K none S13)))))) ∧ (¬ x11 = 0 → (∀ S22, S22 = uK S10 0 8 ((sK S10 0 8) + 1) → (K none S22)))))) ∧
    MC A' (M ++ oc kd y (apB (sK A 0 5) (sK A 0 10) (sK A 0 11) (sK A 0 9) a b) u (sK A 0 5) (mkM A i)) ∧ sK A' 1 2 = nI (u + (oc kd y (apB (sK A 0 5) (sK A 0 10) (sK A 0 11) (sK A 0 9) a b) u (sK A 0 5) (mkM A i)).length) ∧ sK A' 0 8 = sK A 0 8 + ol kd (apB (sK A 0 5) (sK A 0 10) (sK A 0 11) (sK A 0 9) a b) u ∧ FAs A A' := by
  have hk1 : ¬ kd = 1 := by rw [hk0]; decide
  have hk00 : ¬ kd = 0 := by rw [hk0]; decide
  generalize hap : apB (sK A 0 5) (sK A 0 10) (sK A 0 11) (sK A 0 9) a b = ap
  have ha := c_apart (E := E) (A := A) (a := a) (b := b)
  rw [hap] at ha
  have lost1 : MC (uK A 0 8 (sK A 0 8 + 1)) M ∧ FAs A (uK A 0 8 (sK A 0 8 + 1)) := ⟨by
    unfold MC mgC at hM ⊢
    simp only [pK, pN, pR, pQ, pM, pA, pS, pW, mxK, mxN, mxR, mxQ, mxM, mxU, mxS, mxW, fNK, fRK, fQK, fMK, fUK, fSK, fWK, fKN, fRN, fQN, fMN, fUN, fSN, fWN, fKR, fNR, fQR, fMR, fUR, fSR, fWR, fKQ, fNQ, fRQ, fMQ, fUQ, fSQ, fWQ, fKM, fNM, fRM, fQM, fUM, fSM, fWM, fKA, fNA, fRA, fQA, fSA, fWA, fKS, fNS, fRS, fQS, fMS, fUS, fWS, fKW, fNW, fRW, fQW, fMW, fUW, fSW, rN, rK, rS, rM, rNs, rKs, rSs, rMs, Nat.reduceEqDiff, false_and, and_false, true_and, and_true, and_self, if_false, if_true, reduceIte]
    exact hM, fun _ _ _ => by rw [fNK], fun _ _ => by rw [fRK], fun v k _ h => by rw [rKo _ (by omega)]⟩
  by_cases h1 : ap = true
  · have e1 : oc kd y ap u (sK A 0 5) (mkM A i) = [] := if_pos (Or.inr (Or.inl h1))
    have e2 : ol kd ap u = 1 := if_pos (Or.inr (Or.inl h1))
    rw [if_pos h1] at ha
    refine ⟨uK A 0 8 (sK A 0 8 + 1), fun B K hK => ha B _ ⟨1, rfl, fun q => absurd q (by decide), fun _ => ?_⟩, ?_, ?_, ?_, lost1.2⟩
    · rintro _ rfl
      rw [pK, mxK]
      exact hK
    · rw [e1, List.append_nil]
      exact lost1.1
    · rw [e1, rKo _ (by omega)]
      exact hu
    · rw [e2, rKs]
  · rw [if_neg h1] at ha
    by_cases h2 : u = 6000
    · have e1 : oc kd y ap u (sK A 0 5) (mkM A i) = [] := if_pos (Or.inr (Or.inr h2))
      have e2 : ol kd ap u = 1 := if_pos (Or.inr (Or.inr h2))
      refine ⟨uK A 0 8 (sK A 0 8 + 1), fun B K hK => ha B _ ⟨0, rfl, fun _ => c_full hi (by rw [hu, h2]) B _ ⟨0, rfl, fun _ => ?_, fun q => absurd rfl q⟩, fun q => absurd rfl q⟩, ?_, ?_, ?_, lost1.2⟩
      · rintro _ rfl
        rw [pK, mxK]
        exact hK
      · rw [e1, List.append_nil]
        exact lost1.1
      · rw [e1, rKo _ (by omega)]
        exact hu
      · rw [e2, rKs]
    · obtain ⟨A1, p1, p2, p3, p4, p5, p6⟩ := c_post (due := sK A 0 5 + 1 + late) (sec := 0) hi hM (by omega) hu (by omega) (Or.inl rfl)
      have hn : ¬ (kd = 0 ∨ ap = true ∨ u = 6000) := by
        rintro (q | q | q)
        · exact hk00 q
        · exact h1 q
        · exact h2 q
      · have e1 : oc kd y ap u (sK A 0 5) (mkM A i) = [mkM A i (sK A 0 5 + 1 + late) 0] := by unfold oc; rw [if_neg hn, if_neg hk1, hlate]
        have e2 : ol kd ap u = 0 := by unfold ol; rw [if_neg hn, if_neg (fun q => hk1 q.1)]
        refine ⟨A1, fun B K hK => ha B _ ⟨0, rfl, fun _ => p1 B _ ⟨1, rfl, fun q => absurd q (by decide), fun _ => hK⟩, fun q => absurd rfl q⟩, ?_, ?_, ?_, ?_⟩
        · rw [e1]
          exact p2
        · rw [e1, p3]
          rfl
        · rw [e2, p6 0 8 (by omega), Int32.add_zero]
        · exact ⟨p4, p5, fun v k h h8 => p6 v k h⟩
/-- the class: a copy of node i's message goes -/
theorem c_copy {a b : Int32} (hi : i < eN E) (hT : TC A d R) (hM : MC A M) (hu : sK A 1 2 = nI u) (h6 : u ≤ 6000) (hl : M.length ≤ u + 6000) (ha : sN A i 16 0 = a) (hb : sN A i 16 1 = b) : ∃ kd y A' d', ((∃ p, p < d ∧ sK A 4 p = sK A 0 6 ∧ sK A 5 p = kd ∧ sK A 6 p = y ∧ d' = d - 1) ∨ ((∀ p, p < d → ¬ sK A 4 p = sK A 0 6) ∧ kd = -2 ∧ y = 0 ∧ d' = d)) ∧
    CR E 73 0 [some (.ref (aK E 0)), some (.ref (aN E i 16)), none, none, none] A none A' ∧ TC A' d' (fun x k y => R x k y ∧ ¬ x = sK A 0 6) ∧
    MC A' (M ++ oc kd y (apB (sK A 0 5) (sK A 0 10) (sK A 0 11) (sK A 0 9) a b) u (sK A 0 5) (mkM A i)) ∧ sK A' 1 2 = nI (u + (oc kd y (apB (sK A 0 5) (sK A 0 10) (sK A 0 11) (sK A 0 9) a b) u (sK A 0 5) (mkM A i)).length) ∧
    sK A' 0 6 = sK A 0 6 + 1 ∧ sK A' 0 8 = sK A 0 8 + ol kd (apB (sK A 0 5) (sK A 0 10) (sK A 0 11) (sK A 0 9) a b) u ∧
    (∀ i c k, sN A' i c k = sN A i c k) ∧ (∀ i j, sR A' i j = sR A i j) ∧ (∀ v k, 7 ≤ v → sK A' v k = sK A v k) ∧ ∀ k, ¬ k = 6 → ¬ k = 8 → sK A' 0 k = sK A 0 k := by
  have TCm : ∀ {A A' : mS} {d : Nat} {R : Int32 → Int32 → Int32 → Prop}, TC A d R → (∀ v k, 3 ≤ v → v ≤ 6 → sK A' v k = sK A v k) → TC A' d R := fun {A A' d R} h f => by
    unfold TC at h ⊢
    have e4 : sK A' 4 = sK A 4 := funext (fun k => f 4 k (by omega) (by omega))
    have e5 : sK A' 5 = sK A 5 := funext (fun k => f 5 k (by omega) (by omega))
    have e6 : sK A' 6 = sK A 6 := funext (fun k => f 6 k (by omega) (by omega))
    rw [e4, e5, e6, f 3 3 (by omega) (by omega)]
    exact h
  rcases c_find (E := E) hT (sK A 0 6) with ⟨p, hp, hx, hf⟩ | ⟨hno, hf⟩
  · obtain ⟨hr, hT2⟩ := c_rem (E := E) hT hp
    have c : (nI p).toNatClampNeg = p := nI_clamp (by have := hT.1; omega)
    rw [hx] at hT2
    generalize hA2 : uK (cRem A d p) 0 6 (sK A 0 6 + 1) = A2
    have gK : ∀ v k, v < 3 ∨ 6 < v → ¬ (v = 0 ∧ k = 6) → sK A2 v k = sK A v k := fun v k h h2 => by
      rw [← hA2, rKo _ h2]
      unfold cRem
      rw [rKo _ (by omega), rKo _ (by omega), rKo _ (by omega), rKo _ (by omega)]
    have gN : ∀ i c k, sN A2 i c k = sN A i c k := fun _ _ _ => by rw [← hA2]; unfold cRem; simp only [fNK, fRK, fQK, fMK, fUK, fSK, fWK, fKN, fRN, fQN, fMN, fUN, fSN, fWN, fKR, fNR, fQR, fMR, fUR, fSR, fWR, fKQ, fNQ, fRQ, fMQ, fUQ, fSQ, fWQ, fKM, fNM, fRM, fQM, fUM, fSM, fWM, fKA, fNA, fRA, fQA, fSA, fWA, fKS, fNS, fRS, fQS, fMS, fUS, fWS, fKW, fNW, fRW, fQW, fMW, fUW, fSW]
    have gR : ∀ i j, sR A2 i j = sR A i j := fun _ _ => by rw [← hA2]; unfold cRem; simp only [fNK, fRK, fQK, fMK, fUK, fSK, fWK, fKN, fRN, fQN, fMN, fUN, fSN, fWN, fKR, fNR, fQR, fMR, fUR, fSR, fWR, fKQ, fNQ, fRQ, fMQ, fUQ, fSQ, fWQ, fKM, fNM, fRM, fQM, fUM, fSM, fWM, fKA, fNA, fRA, fQA, fSA, fWA, fKS, fNS, fRS, fQS, fMS, fUS, fWS, fKW, fNW, fRW, fQW, fMW, fUW, fSW]
    have hM2 : MC A2 M := by
      have gQ : ∀ j, sQ A2 j = sQ A j := fun _ => by rw [← hA2]; unfold cRem; simp only [fNK, fRK, fQK, fMK, fUK, fSK, fWK, fKN, fRN, fQN, fMN, fUN, fSN, fWN, fKR, fNR, fQR, fMR, fUR, fSR, fWR, fKQ, fNQ, fRQ, fMQ, fUQ, fSQ, fWQ, fKM, fNM, fRM, fQM, fUM, fSM, fWM, fKA, fNA, fRA, fQA, fSA, fWA, fKS, fNS, fRS, fQS, fMS, fUS, fWS, fKW, fNW, fRW, fQW, fMW, fUW, fSW]
      have gM : ∀ q k, sM A2 q k = sM A q k := fun _ _ => by rw [← hA2]; unfold cRem; simp only [fNK, fRK, fQK, fMK, fUK, fSK, fWK, fKN, fRN, fQN, fMN, fUN, fSN, fWN, fKR, fNR, fQR, fMR, fUR, fSR, fWR, fKQ, fNQ, fRQ, fMQ, fUQ, fSQ, fWQ, fKM, fNM, fRM, fQM, fUM, fSM, fWM, fKA, fNA, fRA, fQA, fSA, fWA, fKS, fNS, fRS, fQS, fMS, fUS, fWS, fKW, fNW, fRW, fQW, fMW, fUW, fSW]
      have gU : sU A2 = sU A := by rw [← hA2]; unfold cRem; simp only [fNK, fRK, fQK, fMK, fUK, fSK, fWK, fKN, fRN, fQN, fMN, fUN, fSN, fWN, fKR, fNR, fQR, fMR, fUR, fSR, fWR, fKQ, fNQ, fRQ, fMQ, fUQ, fSQ, fWQ, fKM, fNM, fRM, fQM, fUM, fSM, fWM, fKA, fNA, fRA, fQA, fSA, fWA, fKS, fNS, fRS, fQS, fMS, fUS, fWS, fKW, fNW, fRW, fQW, fMW, fUW, fSW]
      unfold MC mgC at hM ⊢
      simp only [gQ, gM, gU, gK 1 1 (by omega) (by omega)]
      exact hM
    have hu2 : sK A2 1 2 = nI u := by rw [gK 1 2 (by omega) (by omega)]; exact hu
    have hT3 : TC A2 (d - 1) (fun x k y => R x k y ∧ ¬ x = sK A 0 6) := TCm hT2 (fun v k h1 h2 => by rw [← hA2, rKo _ (by omega)])
    have hg : sK A2 0 6 = sK A 0 6 + 1 := by rw [← hA2, rKs]
    have em : mkM A2 i = mkM A i := by
      funext x y k
      unfold mkM
      rw [gN]
    have g6 : sK (cRem A d p) 0 6 = sK A 0 6 := by
      unfold cRem
      simp only [pK, pN, pR, pQ, pM, pA, pS, pW, mxK, mxN, mxR, mxQ, mxM, mxU, mxS, mxW, fNK, fRK, fQK, fMK, fUK, fSK, fWK, fKN, fRN, fQN, fMN, fUN, fSN, fWN, fKR, fNR, fQR, fMR, fUR, fSR, fWR, fKQ, fNQ, fRQ, fMQ, fUQ, fSQ, fWQ, fKM, fNM, fRM, fQM, fUM, fSM, fWM, fKA, fNA, fRA, fQA, fSA, fWA, fKS, fNS, fRS, fQS, fMS, fUS, fWS, fKW, fNW, fRW, fQW, fMW, fUW, fSW, rN, rK, rS, rM, rNs, rKs, rSs, rMs, Nat.reduceEqDiff, false_and, and_false, true_and, and_true, and_self, if_false, if_true, reduceIte]
    by_cases hk0 : sK A 5 p = 0
    · refine ⟨0, sK A 6 p, uK A2 0 8 (sK A2 0 8 + 1), d - 1, Or.inl ⟨p, hp, hx, hk0, rfl, rfl⟩, fun B K hK => ?_, TCm hT3 (fun v k h1 h2 => by rw [rKo _ (by omega)]), ?_, ?_, ?_, ?_, ?_, ?_, ?_, ?_⟩
      · refine T73 hi (hf B _ ⟨_, rfl, fun _ => ⟨in_n rfl (by have := hT.1; omega) (by omega), ?_, ?_⟩, fun q => absurd (nI_pos' (by have := hT.1; omega)) q⟩)
        · simp only [c, mxK, hk0]
          intro q
          exact absurd q (by decide)
        · simp only [c, mxK, hk0]
          intro _
          refine hr B _ ⟨rfl, ?_⟩
          rintro _ rfl
          refine ⟨fun _ => ?_, fun q => absurd trivial q⟩
          rintro _ rfl
          rw [mxK, g6, pK, hA2, mxK, pK]
          exact hK
      · show MC _ (M ++ [])
        rw [List.append_nil]
        unfold MC mgC at hM2 ⊢
        simp only [pK, pN, pR, pQ, pM, pA, pS, pW, mxK, mxN, mxR, mxQ, mxM, mxU, mxS, mxW, fNK, fRK, fQK, fMK, fUK, fSK, fWK, fKN, fRN, fQN, fMN, fUN, fSN, fWN, fKR, fNR, fQR, fMR, fUR, fSR, fWR, fKQ, fNQ, fRQ, fMQ, fUQ, fSQ, fWQ, fKM, fNM, fRM, fQM, fUM, fSM, fWM, fKA, fNA, fRA, fQA, fSA, fWA, fKS, fNS, fRS, fQS, fMS, fUS, fWS, fKW, fNW, fRW, fQW, fMW, fUW, fSW, rN, rK, rS, rM, rNs, rKs, rSs, rMs, Nat.reduceEqDiff, false_and, and_false, true_and, and_true, and_self, if_false, if_true, reduceIte]
        exact hM2
      · rw [rKo _ (by omega), hu2]
        rfl
      · rw [rKo _ (by omega), hg]
      · rw [rKs, gK 0 8 (by omega) (by omega)]
        rfl
      · intro _ _ _
        rw [fNK, gN]
      · intro _ _
        rw [fRK, gR]
      · intro v k h
        rw [rKo _ (by omega), gK v k (by omega) (by omega)]
      · intro k h1 h2
        rw [rKo _ (by omega), gK 0 k (by omega) (by omega)]
    · have hb2 : sK A2 0 5 = sK A 0 5 ∧ sK A2 0 10 = sK A 0 10 ∧ sK A2 0 11 = sK A 0 11 ∧ sK A2 0 9 = sK A 0 9 ∧ sK A2 0 8 = sK A 0 8 := ⟨gK 0 5 (by omega) (by omega), gK 0 10 (by omega) (by omega), gK 0 11 (by omega) (by omega), gK 0 9 (by omega) (by omega), gK 0 8 (by omega) (by omega)⟩
      obtain ⟨A', t1, t2, t3, t4, t5⟩ := t73 (E := E) (a := a) (b := b) (kd := sK A 5 p) (y := sK A 6 p) (late := if sK A 5 p = 2 then sK A 6 p else 0) hi hM2 hu2 h6 hl hk0 rfl
      rw [hb2.1, hb2.2.1, hb2.2.2.1, hb2.2.2.2.1, em] at t2 t3
      rw [hb2.1, hb2.2.1, hb2.2.2.1, hb2.2.2.2.1, hb2.2.2.2.2] at t4
      refine ⟨sK A 5 p, sK A 6 p, A', d - 1, Or.inl ⟨p, hp, hx, rfl, rfl, rfl⟩, fun B K hK => ?_, TCm hT3 (fun v k h1 h2 => t5.2.2 v k (by omega) (by omega)), t2, t3, ?_, t4, ?_, ?_, ?_, ?_⟩
      · refine T73 hi (hf B _ ⟨_, rfl, fun _ => ⟨in_n rfl (by have := hT.1; omega) (by omega), ?_, ?_⟩, fun q => absurd (nI_pos' (by have := hT.1; omega)) q⟩)
        · simp only [c, mxK]
          intro h2
          refine hr B _ ⟨rfl, ?_⟩
          rintro _ rfl
          refine ⟨fun q => absurd q hk0, fun _ => ?_⟩
          have := t1 B K hK
          rw [if_pos h2] at this
          rw [mxK, g6, pK, hA2, mxN, mxN]
          have e0 : sN (cRem A d p) i 16 0 = a := by unfold cRem; simp only [fNK, fRK, fQK, fMK, fUK, fSK, fWK, fKN, fRN, fQN, fMN, fUN, fSN, fWN, fKR, fNR, fQR, fMR, fUR, fSR, fWR, fKQ, fNQ, fRQ, fMQ, fUQ, fSQ, fWQ, fKM, fNM, fRM, fQM, fUM, fSM, fWM, fKA, fNA, fRA, fQA, fSA, fWA, fKS, fNS, fRS, fQS, fMS, fUS, fWS, fKW, fNW, fRW, fQW, fMW, fUW, fSW]; exact ha
          have e1 : sN (cRem A d p) i 16 1 = b := by unfold cRem; simp only [fNK, fRK, fQK, fMK, fUK, fSK, fWK, fKN, fRN, fQN, fMN, fUN, fSN, fWN, fKR, fNR, fQR, fMR, fUR, fSR, fWR, fKQ, fNQ, fRQ, fMQ, fUQ, fSQ, fWQ, fKM, fNM, fRM, fQM, fUM, fSM, fWM, fKA, fNA, fRA, fQA, fSA, fWA, fKS, fNS, fRS, fQS, fMS, fUS, fWS, fKW, fNW, fRW, fQW, fMW, fUW, fSW]; exact hb
          rw [e0, e1]
          exact this
        · simp only [c, mxK]
          intro h2
          refine hr B _ ⟨rfl, ?_⟩
          rintro _ rfl
          refine ⟨fun q => absurd q hk0, fun _ => ?_⟩
          have := t1 B K hK
          rw [if_neg h2] at this
          rw [mxK, g6, pK, hA2, mxN, mxN]
          have e0 : sN (cRem A d p) i 16 0 = a := by unfold cRem; simp only [fNK, fRK, fQK, fMK, fUK, fSK, fWK, fKN, fRN, fQN, fMN, fUN, fSN, fWN, fKR, fNR, fQR, fMR, fUR, fSR, fWR, fKQ, fNQ, fRQ, fMQ, fUQ, fSQ, fWQ, fKM, fNM, fRM, fQM, fUM, fSM, fWM, fKA, fNA, fRA, fQA, fSA, fWA, fKS, fNS, fRS, fQS, fMS, fUS, fWS, fKW, fNW, fRW, fQW, fMW, fUW, fSW]; exact ha
          have e1 : sN (cRem A d p) i 16 1 = b := by unfold cRem; simp only [fNK, fRK, fQK, fMK, fUK, fSK, fWK, fKN, fRN, fQN, fMN, fUN, fSN, fWN, fKR, fNR, fQR, fMR, fUR, fSR, fWR, fKQ, fNQ, fRQ, fMQ, fUQ, fSQ, fWQ, fKM, fNM, fRM, fQM, fUM, fSM, fWM, fKA, fNA, fRA, fQA, fSA, fWA, fKS, fNS, fRS, fQS, fMS, fUS, fWS, fKW, fNW, fRW, fQW, fMW, fUW, fSW]; exact hb
          rw [e0, e1]
          exact this
      · rw [t5.2.2 0 6 (by omega) (by omega), hg]
      · intro _ _ _
        rw [t5.1, gN]
      · intro _ _
        rw [t5.2.1, gR]
      · intro v k h
        rw [t5.2.2 v k (by omega) (by omega), gK v k (by omega) (by omega)]
      · intro k h1 h2
        rw [t5.2.2 0 k (by omega) (by omega), gK 0 k (by omega) (by omega)]
  · generalize hA2 : uK A 0 6 (sK A 0 6 + 1) = A2
    have gK : ∀ v k, ¬ (v = 0 ∧ k = 6) → sK A2 v k = sK A v k := fun v k h2 => by rw [← hA2, rKo _ h2]
    have gN : ∀ i c k, sN A2 i c k = sN A i c k := fun _ _ _ => by rw [← hA2, fNK]
    have gR : ∀ i j, sR A2 i j = sR A i j := fun _ _ => by rw [← hA2, fRK]
    have hM2 : MC A2 M := by
      have gQ : ∀ j, sQ A2 j = sQ A j := fun _ => by rw [← hA2, fQK]
      have gM : ∀ q k, sM A2 q k = sM A q k := fun _ _ => by rw [← hA2, fMK]
      have gU : sU A2 = sU A := by rw [← hA2, fUK]
      unfold MC mgC at hM ⊢
      simp only [gQ, gM, gU, gK 1 1 (by omega)]
      exact hM
    have hu2 : sK A2 1 2 = nI u := by rw [gK 1 2 (by omega)]; exact hu
    have hT2 : TC A d (fun x k y => R x k y ∧ ¬ x = sK A 0 6) := ⟨hT.1, hT.2.1, hT.2.2.1, fun x k y => by
      rw [hT.2.2.2]
      refine ⟨fun h => ⟨h, fun e => ?_⟩, fun h => h.1⟩
      obtain ⟨j, hj, hj2, _⟩ := (hT.2.2.2 x k y).2 h
      exact hno j hj (hj2.trans e)⟩
    have hT3 : TC A2 d (fun x k y => R x k y ∧ ¬ x = sK A 0 6) := TCm hT2 (fun v k h1 h2 => gK v k (by omega))
    have hg : sK A2 0 6 = sK A 0 6 + 1 := by rw [← hA2, rKs]
    have em : mkM A2 i = mkM A i := by
      funext x y k
      unfold mkM
      rw [gN]
    have hb2 : sK A2 0 5 = sK A 0 5 ∧ sK A2 0 10 = sK A 0 10 ∧ sK A2 0 11 = sK A 0 11 ∧ sK A2 0 9 = sK A 0 9 ∧ sK A2 0 8 = sK A 0 8 := ⟨gK 0 5 (by omega), gK 0 10 (by omega), gK 0 11 (by omega), gK 0 9 (by omega), gK 0 8 (by omega)⟩
    obtain ⟨A', t1, t2, t3, t4, t5⟩ := t73n (E := E) (a := a) (b := b) (kd := -2) (y := 0) (late := 0) hi hM2 hu2 h6 hl rfl rfl
    rw [hb2.1, hb2.2.1, hb2.2.2.1, hb2.2.2.2.1, em] at t2 t3
    rw [hb2.1, hb2.2.1, hb2.2.2.1, hb2.2.2.2.1, hb2.2.2.2.2] at t4
    refine ⟨-2, 0, A', d, Or.inr ⟨hno, rfl, rfl, rfl⟩, fun B K hK => ?_, TCm hT3 (fun v k h1 h2 => t5.2.2 v k (by omega) (by omega)), t2, t3, ?_, t4, ?_, ?_, ?_, ?_⟩
    · refine T73 hi (hf B _ ⟨_, rfl, fun q => absurd q (by decide), fun _ => c_rem0 B _ ⟨rfl, ?_⟩⟩)
      rintro _ rfl
      have := t1 B K hK
      rw [mxK, pK, hA2, mxN, mxN, ha, hb]
      exact this
    · rw [t5.2.2 0 6 (by omega) (by omega), hg]
    · intro _ _ _
      rw [t5.1, gN]
    · intro _ _
      rw [t5.2.1, gR]
    · intro v k h
      rw [t5.2.2 v k (by omega) (by omega), gK v k (by omega)]
    · intro k h1 h2
      rw [t5.2.2 0 k (by omega) (by omega), gK 0 k (by omega)]
end Copy
