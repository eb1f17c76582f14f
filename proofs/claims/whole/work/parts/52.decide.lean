/-! ===== a height is decided ===== -/
section Dec
variable {E : mE} {A B : mS} {M N : List Mg} {i g r k : Nat}
theorem lN_w (k : Nat) : (lN k).toInt32 = nI k := by
  unfold lN nI
  exact Int64.toInt32_ofNat
/-- what is decided is put down on both sides, and the next height comes -/
theorem decd {B' : mS} {P R Bi : Int32} {W : Int64} (hN : NET E A B M N) (hBa : PBa E A B) (hSi : PSi E A B) (hI : Idle E A) (hRG : RG E A B) (hR1 : ∀ j, j < eN E → R1 E A B j) (hR2 : ∀ j, j < eN E → ¬ j = i → R2 E A B j) (hi : i < eN E) (b2 : sS B 2 i = nI g) (h40 : g ≤ 40) (hP : 0 < P) (hW : W.toInt32 = wsum (fun s => bt Bi s) (fun s => sK A (12 + g) s) (eN E))
    (fo : ∀ v l, ¬ ((21 ≤ v ∧ v ≤ 23) ∧ l = 10 * g + i) → sS B' v l = sS B v l) (f1 : sS B' 21 (10 * g + i) = P) (f2 : sS B' 22 (10 * g + i) = R) (f3 : sS B' 23 (10 * g + i) = Bi) (f4 : sW B' (10 * g + i) = W) (f5 : ∀ l, ¬ l = 10 * g + i → sW B' l = sW B l) :
    ∃ A1 B1, CR E 48 0 [some (.ref (aN E i 0)), none] (uN (uN (uN A i 6 g P) i 7 g R) i 8 g Bi) none A1 ∧ RR E 118 0 [some (.ref (aS E 0)), some (.int (nI i)), none] B' none B1 ∧ NET E A1 B1 M N ∧ PBa E A1 B1 ∧ PSi E A1 B1 ∧ Idle E A1 ∧ PRE E A1 B1 i 0 ∧ (∀ v l, sK A1 v l = sK A v l) ∧ (∀ j, sS B1 9 j = sS B 9 j ∧ sS B1 10 j = sS B 10 j) ∧
      sS B1 2 i = nI (g + 1) ∧ sN A1 i 0 2 = nI (g + 1) ∧ sS B1 3 i = 0 ∧ sS B1 4 i = 0 ∧ (∀ l, l < 3 → sS B1 12 (3 * i + l) = 0) ∧ (∀ j l, ¬ j = i → sN A1 j 0 l = sN A j 0 l ∧ sN A1 j 6 l = sN A j 6 l) ∧ (∀ h j, ¬ j = i → j < 10 → sS B1 21 (10 * h + j) = sS B 21 (10 * h + j)) ∧ (∀ j, ¬ j = i → sS B1 2 j = sS B 2 j ∧ sS B1 3 j = sS B 3 j) := by
  have hn := hN.1.2.2.2
  obtain ⟨h', q1, q2, q3, q4⟩ := (hR1 i hi).1
  have eg : h' = g := by
    rw [b2, nI_eq (by omega) (by omega)] at q4
    exact q4.symm
  subst eg
  generalize hAa : uN (uN (uN A i 6 h' P) i 7 h' R) i 8 h' Bi = Aa
  have ao : ∀ j d l, ¬ (j = i ∧ 6 ≤ d ∧ d ≤ 8 ∧ l = h') → sN Aa j d l = sN A j d l := fun j d l z => by rw [← hAa, rNo _ (by omega), rNo _ (by omega), rNo _ (by omega)]
  have a6 : sN Aa i 6 h' = P := by rw [← hAa, rNo _ (by omega), rNo _ (by omega), rNs]
  have a7 : sN Aa i 7 h' = R := by rw [← hAa, rNo _ (by omega), rNs]
  have a8 : sN Aa i 8 h' = Bi := by rw [← hAa, rNs]
  have aF : FNn A Aa := hAa ▸ ((FNn.u _ _ _ _ _).tr (FNn.u _ _ _ _ _)).tr (FNn.u _ _ _ _ _)
  have hNa : NET E Aa B' M N := hN.fr aF (fun j c l z => ao j c l (by omega)) (fun v l z => fo v l (by omega))
  have hBaa : PBa E Aa B' := hBa.fr aF.2.1 (fun l => fo 2 l (by omega)) (fun j d l z => ao j d l (by omega)) (fun p => fo 17 p (by omega)) (fun p => fo 18 p (by omega))
  have hSia : PSi E Aa B' := hSi.fr (fun l => fo 2 l (by omega)) (fun j d l z1 z2 => ao j d l (by omega)) (fun p => fo 19 p (by omega)) (fun p => fo 20 p (by omega))
  obtain ⟨A1, B1, n1, n2, n3, n4, n5, n6, n7, n8, n9, n10, n11, n12, n13, n14, z2, z3, z4, z5, z6, z7, z8, zt⟩ := nxt hNa hBaa hSia hi q1 h40 (by rw [ao _ _ _ (by omega)]; exact q3) (by rw [fo 2 i (by omega)]; exact b2)
  have oa : ∀ j d l, d < 9 → ¬ (j = i ∧ (d = 1 ∨ d = 2 ∨ (d = 0 ∧ l = 2) ∨ (6 ≤ d ∧ d ≤ 8 ∧ l = h'))) → sN A1 j d l = sN A j d l := fun j d l y1 y2 => by rw [n6 j d l y1 (by omega), ao j d l (by omega)]
  have oK : ∀ v l, sK A1 v l = sK A v l := fun v l => by rw [n12, aF.1]
  have ob : ∀ v l, ¬ (17 ≤ v ∧ v ≤ 20) → ¬ ((2 ≤ v ∧ v ≤ 8 ∧ l = i) ∨ (v = 12 ∧ (l = 3 * i ∨ l = 3 * i + 1 ∨ l = 3 * i + 2))) → ¬ ((21 ≤ v ∧ v ≤ 23) ∧ l = 10 * h' + i) → sS B1 v l = sS B v l := fun v l y1 y2 y3 => by rw [n13 v l y1 y2, fo v l y3]
  refine ⟨A1, B1, n1, n2, n3, n4, n5, fun j hj => ?_, ⟨?_, fun j hj => ?_, fun j hj e => ?_, ?_⟩, oK, fun j => ⟨ob 9 j (by omega) (by omega) (by omega), ob 10 j (by omega) (by omega) (by omega)⟩, z2, n7, z3, z4, zt, fun j l e => ⟨oa _ _ _ (by omega) (by omega), oa _ _ _ (by omega) (by omega)⟩, fun h j e hj => ob 21 _ (by omega) (by omega) (by omega), fun j e => ⟨ob 2 j (by omega) (by omega) (by omega), ob 3 j (by omega) (by omega) (by omega)⟩⟩
  · rw [oa _ _ _ (by omega) (by omega)]
    exact hI j hj
  · exact hRG.fr (fun v l _ => oK v l) (oK 0 7) (fun l => ob 1 l (by omega) (by omega) (by omega)) (fun l => ob 37 l (by omega) (by omega) (by omega)) (fun l _ => ob 0 l (by omega) (by omega) (by omega))
  · by_cases e : j = i
    · subst e
      obtain ⟨c1, c2, c3, c4, c5⟩ := hR1 j hj
      refine ⟨⟨h' + 1, by omega, by omega, n7, z2⟩, ?_, ?_, ?_, fun h hh w1 w2 w3 w4 => ?_⟩
      · unfold PBe1 at c2 ⊢
        rw [oa _ _ _ (by omega) (by omega), ob 11 j (by omega) (by omega) (by omega)]
        exact c2
      · unfold PCu1 at c3 ⊢
        rw [oa _ _ _ (by omega) (by omega), ob 9 j (by omega) (by omega) (by omega), ob 10 j (by omega) (by omega) (by omega)]
        exact c3
      · exact ⟨by rw [n8, z5], by rw [n9, z6], Or.inl ⟨z5, z6⟩⟩
      · have ehh : hh = h' + 1 := by
          rw [z2, nI_eq (by omega) (by omega)] at w4
          exact w4.symm
        subst ehh
        have old := c5 h h' w1 w2 (by omega) b2
        by_cases e2 : h = h'
        · subst e2
          refine ⟨fun _ => ?_, fun z => by omega⟩
          rw [n6 j 6 h (by omega) (by omega), n6 j 7 h (by omega) (by omega), n6 j 8 h (by omega) (by omega), a6, a7, a8, n13 21 _ (by omega) (by omega), n13 22 _ (by omega) (by omega), n13 23 _ (by omega) (by omega), f1, f2, f3, n14, f4]
          refine ⟨rfl, hP, rfl, rfl, hW.trans ?_⟩
          exact wsum_cg _ (fun k _ => (oK _ _).symm)
        · rw [oa _ _ _ (by omega) (by omega), oa _ _ _ (by omega) (by omega), oa _ _ _ (by omega) (by omega), ob 21 _ (by omega) (by omega) (by omega), ob 22 _ (by omega) (by omega) (by omega), ob 23 _ (by omega) (by omega) (by omega), n14, f5 _ (by omega), wsum_cg (w := fun s => sK A1 (12 + h) s) (w' := fun s => sK A (12 + h) s) _ (fun k _ => oK _ _)]
          exact ⟨fun z => old.1 (by omega), fun z => old.2 (by omega)⟩
    · refine (hR1 j hj).fr (oa _ _ _ (by omega) (by omega)) (oa _ _ _ (by omega) (by omega)) (oa _ _ _ (by omega) (by omega)) (fun d l z => oa _ _ _ (by omega) (by omega)) (fun v l _ => oK v l) (fun v z => ob v j (by omega) (by omega) (by omega)) (fun v h _ _ _ => ob v _ (by omega) (by omega) (by omega)) (fun h _ => by rw [n14, f5 _ (by omega)])
  · exact (hR2 j hj e).fr (oa _ _ _ (by omega) (by omega)) (oa _ _ _ (by omega) (by omega)) (fun d l _ _ => oa _ _ _ (by omega) (by omega)) (fun v z => ob v j (by omega) (by omega) (by omega)) (fun k hk => ob 12 _ (by omega) (by omega) (by omega))
  · exact ⟨by rw [n10, z7], by rw [n11, z8], Or.inl ⟨z7, z8⟩⟩
/-- the first round of a height begins, or nothing behind the last -/
theorem entr (hN : NET E A B M N) (hBa : PBa E A B) (hSi : PSi E A B) (hI : Idle E A) (hP : PRE E A B i 0) (hi : i < eN E) (b2 : sS B 2 i = nI g) (h41 : g ≤ 41) (z3 : sS B 3 i = 0) (z4 : sS B 4 i = 0) (zt : ∀ l, l < 3 → sS B 12 (3 * i + l) = 0) :
    ∃ A1 A2 B2 X, CR E 38 0 [some (.ref (aN E i 0)), some (.int 0), some (.int (sK A 0 5)), none] A none A1 ∧ dsp E i A1 A2 ∧ (g ≤ 40 → RR E 99 0 [some (.ref (aS E 0)), some (.int (nI i)), some (.int 0), none] B none B2) ∧ (¬ g ≤ 40 → B2 = B) ∧ Sim E A2 B2 (M ++ X) (N ++ X) ∧ Idle E A2 ∧ KP i A B A2 B2 ∧ (∀ m, m ∈ X → GM E m ∧ sK A 0 5 < m 7) ∧ sS B2 2 i = nI g ∧ sN A1 i 0 8 = sN A i 0 8 ∧ ∀ v l, sK A1 v l = sK A v l := by
  by_cases h40 : g ≤ 40
  · obtain ⟨A1, A2, B2, X, w1, w2, w3, w4, w5, w6, w7, w8, _, _, _, _, _, w9, w10⟩ := bgn (r := 0) hN hBa hSi hI hP hi (by omega) b2 h40
    exact ⟨A1, A2, B2, X, w1, w2, fun _ => w3, fun z => absurd h40 z, w4, w5, w6, w7, w8, w9, w10⟩
  · have e41 : g = 41 := by omega
    subst e41
    obtain ⟨hRG, hR1, hR2, hVA⟩ := hP
    obtain ⟨h', q1, q2, q3, q4⟩ := (hR1 i hi).1
    have eg : h' = 41 := by
      rw [b2, nI_eq (by omega) (by omega)] at q4
      exact q4.symm
    subst eg
    have c41 := c_bgn41 (E := E) (A := A) (i := i) (x := 0) (t := sK A 0 5) hi (by decide) (by rw [q3]; decide)
    have y3 := cZ_3 A i 0
    have y4 := cZ_4 A i 0
    have yt := cZ_t A i 0
    have yF := cZ_F A i 0
    have yo := cZ_o A i 0
    generalize cZ A i 0 = A1 at c41 y3 y4 yt yF yo
    have id : Idle E A1 := fun j hj => by rw [yo _ _ _ (by omega)]; exact hI j hj
    refine ⟨A1, A1, B, [], c41, disp0 hi (id i hi), fun z => absurd z h40, fun _ => rfl, ?_, id, ⟨fun l _ _ _ => yF.1 0 l, fun j => ⟨rfl, rfl⟩, fun j _ => ⟨rfl, rfl⟩⟩, fun m hm => (by cases hm), b2, yo _ _ _ (by omega), fun v l => yF.1 v l⟩
    rw [List.append_nil, List.append_nil]
    refine ⟨hN.fr yF (fun j c l z => yo j c l (by omega)) (fun _ _ _ => rfl), hBa.fr yF.2.1 (fun _ => rfl) (fun j d l z => yo j d l (by omega)) (fun _ => rfl) (fun _ => rfl), hSi.fr (fun _ => rfl) (fun j d l z1 z2 => yo j d l (by omega)) (fun _ => rfl) (fun _ => rfl), hRG.fr (fun v l _ => yF.1 v l) (yF.1 0 7) (fun _ => rfl) (fun _ => rfl) (fun _ _ => rfl), fun j hj => ⟨?_, ?_⟩⟩
    · exact (hR1 j hj).fr (yo _ _ _ (by omega)) (yo _ _ _ (by omega)) (yo _ _ _ (by omega)) (fun d l z => yo _ _ _ (by omega)) (fun v l _ => yF.1 v l) (fun _ _ => rfl) (fun _ _ _ _ _ => rfl) (fun _ _ => rfl)
    · by_cases e : j = i
      · subst e
        refine ⟨⟨0, by omega, by rw [y3]; rfl, by rw [z3]; rfl⟩, ⟨⟨0, by omega, by rw [y4]; rfl, by rw [z4]; rfl⟩, fun _ => z4⟩, fun r2 hr2 h3 => ?_, fun k hk => ⟨by rw [(yt k hk).1, zt k hk], fun _ => zt k hk⟩, fun z => absurd b2 z⟩
        exact hVA.fr (Nat.zero_le _) (fun l => yo _ _ _ (by omega)) (fun _ _ => rfl)
      · exact (hR2 j hj e).fr (yo _ _ _ (by omega)) (yo _ _ _ (by omega)) (fun d l _ _ => yo _ _ _ (by omega)) (fun _ _ => rfl) (fun _ _ => rfl)
/-- rule A goes for round r -/
def cA (E : mE) (B : mS) (i g r : Nat) : Prop := 0 ≤ sS B 17 (pl i g r ((g + r) % eN E) 0) ∧ MANY E B g (pF B i g r 2 (sS B 17 (pl i g r ((g + r) % eN E) 0))) = true
theorem c_rtdS {t : Nat} (hS : Sim E A B M N) (hi : i < eN E) (b2 : sS B 2 i = nI g) (h40 : g ≤ 40) (hr : r < 30) (ht : t ≤ 30) (hrt : r < t) {B0 : mS} {K : Option Value → mS → Prop} (h0 : ¬ cA E B i g r → ES E 44 10 [some (.ref (aN E i 0)), some (.int (nI t - 1)), some (.int (nI (r + 1))), none] [] (mix A B0) K) (h1 : cA E B i g r → K (some (.int (nI r))) (mix A B0)) : ES E 44 10 [some (.ref (aN E i 0)), some (.int (nI t - 1)), some (.int (nI r)), none] [] (mix A B0) K := by
  obtain ⟨q1, a2, _⟩ := hS.at hi b2 h40
  have hn := hS.1.1.2.2.2
  have hn1 := hS.1.1.2.2.1
  obtain ⟨p1, p2, p3, p4⟩ := hS.2.1 i hi
  obtain ⟨v1, v2⟩ := p4 g (by omega) b2
  have hp := Nat.mod_lt (g + r) (show 0 < eN E from by omega)
  have hne : ¬ nI (eN E) = 0 := nI_ne0 (by omega) (by omega)
  have hpr := hS.pr hi b2 (by omega) hr
  have lx := ix_lt (k := 0) hr hp (by omega)
  unfold cA at h0 h1
  generalize hP : sS B 17 (pl i g r ((g + r) % eN E) 0) = P at hpr h0 h1
  have mR : sR (mix A B0) i 0 = sR A i 0 := mxR _ _ _ _
  have m2 : sN (mix A B0) i 0 2 = nI g := a2
  have m9 : sK (mix A B0) 9 0 = nI (eN E) := hS.1.1.2.1
  have m0 : sN (mix A B0) i (sR A i 0) 0 = nI (eN E) := v1.1
  have cx : (nI ((r * eN E + (g + r) % eN E) * 3 + 0)).toNatClampNeg = (r * eN E + (g + r) % eN E) * 3 + 0 := nI_clamp (by omega)
  refine T44_10 hi ⟨fun z => absurd z (nlt.2 ((top_le (by omega) (by omega)).2 hrt)), fun _ => ?_⟩
  rw [mR, m2, m9, m0, ix_pc (by omega) hr hn1 hn, cx, nI_1]
  refine ⟨p1, hne, ⟨nI_pos (by omega), by rw [p1.ln]; exact lx⟩, ?_⟩
  rcases hpr with ⟨x1, x2, x3⟩ | ⟨x1, x2, x3, x4, x5⟩
  · have mp : sN (mix A B0) i (sR A i 0 + 2) ((r * eN E + (g + r) % eN E) * 3 + 0) = -2 := x1
    exact ⟨fun _ => h0 (fun z => x3 z.1), fun z => absurd mp z⟩
  · have mp : sN (mix A B0) i (sR A i 0 + 2) ((r * eN E + (g + r) % eN E) * 3 + 0) = P := x1
    rw [mp]
    refine ⟨fun z => absurd z x3, fun _ => c_mf hS hi b2 h40 hr (k := 2) (by omega) il2 x2 ⟨_, rfl, fun y => ?_, fun y => ?_⟩⟩
    · exact h0 (fun x => by rw [if_pos x.2] at y; exact one0 y)
    · refine h1 ⟨x2, ?_⟩
      by_cases m : MANY E B g (pF B i g r 2 P) = true
      · exact m
      · rw [if_neg m] at y
        exact absurd rfl y
/-- no proposal stands above the top -/
theorem Sim.topA (hS : Sim E A B M N) (hi : i < eN E) (b2 : sS B 2 i = nI g) (h40 : g ≤ 40) : ∃ t, t ≤ 30 ∧ sN A i (sR A i 0) 3 = nI t - 1 ∧ (∀ r, t ≤ r → r < 30 → ¬ cA E B i g r) ∧ ∀ r s k, t ≤ r → r < 30 → s < eN E → k < 3 → ¬ 0 ≤ sS B 17 (pl i g r s k) := by
  obtain ⟨p1, p2, p3, p4⟩ := hS.2.1 i hi
  obtain ⟨v1, v2⟩ := p4 g (by omega) b2
  obtain ⟨t, t1, t2, t3⟩ := v1.2.2.2
  have key : ∀ r s k, t ≤ r → r < 30 → s < eN E → k < 3 → ¬ 0 ≤ sS B 17 (pl i g r s k) := fun r s k x1 x2 x3 x4 => by
    have := t3 r s k x1 x2 x3 x4
    rcases (v1.2.1 r s k x2 x3 x4).c with ⟨y1, y2, y3, y4⟩ | ⟨y1, y2, y3, y4⟩
    · exact y3
    · exact absurd this y3
  exact ⟨t, t1, t2, fun r x1 x2 z => key r _ 0 x1 x2 (Nat.mod_lt _ (by omega)) (by omega) z.1, key⟩
theorem c_rtd (hS : Sim E A B M N) (hi : i < eN E) (b2 : sS B 2 i = nI g) (h40 : g ≤ 40) : ((∀ r, r < 30 → ¬ cA E B i g r) → CR E 44 0 [some (.ref (aN E i 0)), none, none, none] A (some (.int (-1))) A) ∧ ∀ r0, r0 < 30 → cA E B i g r0 → (∀ r, r < r0 → ¬ cA E B i g r) → CR E 44 0 [some (.ref (aN E i 0)), none, none, none] A (some (.int (nI r0))) A := by
  obtain ⟨t, t1, t2, t3, _⟩ := hS.topA hi b2 h40
  have p1 := (hS.2.1 i hi).1
  have st : ∀ B0 K, ES E 44 10 [some (.ref (aN E i 0)), some (.int (nI t - 1)), some (.int (nI 0)), none] [] (mix A B0) K → ES E 44 0 [some (.ref (aN E i 0)), none, none, none] [] (mix A B0) K := fun B0 K h => by
    refine T44 hi ⟨p1, ?_⟩
    have m : sN (mix A B0) i (sR (mix A B0) i 0) 3 = nI t - 1 := t2
    rw [m]
    exact h
  have skip : ∀ r0, r0 ≤ t → (∀ r, r < r0 → ¬ cA E B i g r) → ∀ B0 K, ES E 44 10 [some (.ref (aN E i 0)), some (.int (nI t - 1)), some (.int (nI r0)), none] [] (mix A B0) K → ES E 44 10 [some (.ref (aN E i 0)), some (.int (nI t - 1)), some (.int (nI 0)), none] [] (mix A B0) K := by
    intro r0
    induction r0 with
    | zero => exact fun _ _ B0 K h => h
    | succ n ih => exact fun h1 h2 B0 K h => ih (by omega) (fun r hr => h2 r (by omega)) B0 K (c_rtdS hS hi b2 h40 (by omega) t1 (by omega) (fun _ => h) (fun z => absurd z (h2 n (by omega))))
  refine ⟨fun hno B0 K hK => st B0 K (skip t (Nat.le_refl _) (fun r hr => hno r (by omega)) B0 K (T44_10 hi ⟨fun _ => hK, fun z => absurd ?_ z⟩)), fun r0 h1 h2 h3 B0 K hK => ?_⟩
  · by_cases z : nI t - 1 < nI t
    · exact z
    · have := (top_le (r := t) (t := t) (by omega) (by omega)).1 (nlt.1 z)
      omega
  · have hrt : r0 < t := by
      by_cases z : r0 < t
      · exact z
      · exact absurd h2 (t3 r0 (by omega) h1)
    exact st B0 K (skip r0 (by omega) h3 B0 K (c_rtdS hS hi b2 h40 h1 t1 hrt (fun z => absurd h2 z) (fun _ => hK)))
/-- the reference's search -/
theorem r_rtdS (hS : Sim E A B M N) (hi : i < eN E) (b2 : sS B 2 i = nI g) (h40 : g ≤ 40) (hr : r < 30) {A0 : mS} {K : Option Value → mS → Prop} (h0 : ¬ cA E B i g r → ES E 112 9 [some (.ref (aS E 0)), some (.int (nI i)), some (.int (nI g)), some (.int (nI (r + 1))), none, none, none] [] (mix A0 B) K)
    (h1 : cA E B i g r → ES E 112 81 [some (.ref (aS E 0)), some (.int (nI i)), some (.int (nI g)), some (.int (nI r)), some (.int (sS B 17 (pl i g r ((g + r) % eN E) 0))), some (.int (nI (10 * g + i))), some (.int 0)] [] (mix A0 (uS (uS (uS B 21 (10 * g + i) (sS B 17 (pl i g r ((g + r) % eN E) 0))) 22 (10 * g + i) (nI r)) 23 (10 * g + i) 0)) K) : ES E 112 9 [some (.ref (aS E 0)), some (.int (nI i)), some (.int (nI g)), some (.int (nI r)), none, none, none] [] (mix A0 B) K := by
  obtain ⟨q1, a2, _⟩ := hS.at hi b2 h40
  have hn := hS.1.1.2.2.2
  have hn1 := hS.1.1.2.2.1
  have ci : (nI i).toNatClampNeg = i := nI_clamp (by omega)
  have hp := Nat.mod_lt (g + r) (show 0 < eN E from by omega)
  have hne : ¬ nI (eN E) = 0 := nI_ne0 (by omega) (by omega)
  have hpr := hS.pr hi b2 (by omega) hr
  have lp := pl_lt (i := i) (h := g) (r := r) (s := (g + r) % eN E) (k := 0) (by omega) hr (by omega) (by omega)
  unfold cA at h0 h1
  have mp : sS (mix A0 B) 17 (pl i g r ((g + r) % eN E) 0) = sS B 17 (pl i g r ((g + r) % eN E) 0) := mxS _ _ _ _
  generalize hP : sS B 17 (pl i g r ((g + r) % eN E) 0) = P at hpr h0 h1 mp
  have m2 : sS (mix A0 B) 2 i = nI g := b2
  have m9 : sS (mix A0 B) 0 1 = nI (eN E) := hS.1.1.1
  have cx : (nI (pl i g r ((g + r) % eN E) 0)).toNatClampNeg = pl i g r ((g + r) % eN E) 0 := nI_clamp (by omega)
  have cd : (nI (10 * g + i)).toNatClampNeg = 10 * g + i := nI_clamp (by omega)
  refine T112_9 ⟨fun z => absurd z (by rw [il30, le_n (by omega) (by omega)]; omega), fun _ => ⟨in_n rfl (by omega) (by omega), ?_⟩⟩
  rw [ci, m2, m9, ix_pr (by omega) (by omega) hr hn1 hn, cx, mp, nI_1, ix_w, cd]
  refine ⟨hne, by decide, ⟨nI_pos (by omega), lp⟩, fun z => h0 (fun y => ?_), fun z => ?_⟩
  · rcases hpr with ⟨x1, x2, x3⟩ | ⟨x1, x2, x3, x4, x5, _⟩
    · exact x3 y.1
    · exact (nlt.2 z) (x5.pos hr).2.1
  · rcases hpr with ⟨x1, x2, x3⟩ | ⟨x1, x2, x3, x4, x5, _⟩
    · refine absurd ?_ z
      rw [Int32.lt_iff_toInt_lt] at x2
      rw [Int32.le_iff_toInt_le]
      omega
    · refine r_votes hS.2.2.2.1.1 hS.1.1 hi b2 q1 h40 hr (k := 2) (by omega) _ (fun s _ => pF_p x2 s) A0 _ ⟨_, rfl, r_many hS.2.2.2.1.1 hS.1.1 q1 h40 _ A0 _ ⟨_, rfl, fun y => ?_, fun y => ?_⟩⟩
      · exact h0 (fun x => by rw [if_pos x.2] at y; exact one0 y)
      · refine ⟨⟨nI_pos (by omega), by omega⟩, ?_⟩
        rintro _ rfl _ rfl _ rfl
        rw [pS, pS, pS]
        refine h1 ⟨x2, ?_⟩
        by_cases m : MANY E B g (pF B i g r 2 P) = true
        · exact m
        · rw [if_neg m] at y
          exact absurd rfl y
/-- the reference's bits -/
theorem r_bits {B1 : mS} {P : Int32} {D : Nat} (hi : i < 10) (hn : eN E ≤ 10) (h40 : g ≤ 40) (hr : r < 30) (hD : D < 410) (b2 : sS B 2 i = nI g) (b01 : sS B 0 1 = nI (eN E)) (fo : ∀ v l, ¬ ((21 ≤ v ∧ v ≤ 23) ∧ l = D) → sS B1 v l = sS B v l) : ∀ e s Bs, s + e = eN E → (∀ v l, ¬ (v = 23 ∧ l = D) → sS Bs v l = sS B1 v l) → (∀ l, sW Bs l = sW B1 l) → sS Bs 23 D = vbits (pF B i g r 2 P) s →
    ∃ Be, (∀ v l, ¬ (v = 23 ∧ l = D) → sS Be v l = sS B1 v l) ∧ (∀ l, sW Be l = sW B1 l) ∧ sS Be 23 D = vbits (pF B i g r 2 P) (eN E) ∧ ∀ (A0 : mS) (K : Option Value → mS → Prop), ES E 112 81 [some (.ref (aS E 0)), some (.int (nI i)), some (.int (nI g)), some (.int (nI r)), some (.int P), some (.int (nI D)), some (.int (nI (eN E)))] [] (mix A0 Be) K → ES E 112 81 [some (.ref (aS E 0)), some (.int (nI i)), some (.int (nI g)), some (.int (nI r)), some (.int P), some (.int (nI D)), some (.int (nI s))] [] (mix A0 Bs) K := by
  intro e
  induction e with
  | zero =>
    intro s Bs h1 h2 h3 h4
    have : s = eN E := by omega
    subst this
    exact ⟨Bs, h2, h3, h4, fun _ _ h => h⟩
  | succ e ih =>
    intro s Bs h1 h2 h3 h4
    have ci : (nI i).toNatClampNeg = i := nI_clamp (by omega)
    have cD : (nI D).toNatClampNeg = D := nI_clamp (by omega)
    have lp := pl_lt (i := i) (h := g) (r := r) (s := s) (k := 2) hi hr (by omega) (by omega)
    have hx : sS Bs 17 (pl i g r s 2) = sS B 17 (pl i g r s 2) := by rw [h2 _ _ (by omega), fo _ _ (by omega)]
    generalize hBn : uS Bs 23 D (vbits (pF B i g r 2 P) (s + 1)) = Bn
    obtain ⟨Be, e1, e2, e3, e4⟩ := ih (s + 1) Bn (by omega) (fun v l z => by rw [← hBn, rSo _ z, h2 v l z]) (fun l => by rw [← hBn, fWS, h3]) (by rw [← hBn, rSs])
    refine ⟨Be, e1, e2, e3, fun A0 K h => ?_⟩
    have m2 : sS (mix A0 Bs) 2 i = nI g := by rw [mxS, h2 _ _ (by omega), fo _ _ (by omega), b2]
    have m1 : sS (mix A0 Bs) 0 1 = nI (eN E) := by rw [mxS, h2 _ _ (by omega), fo _ _ (by omega), b01]
    have m23 : sS (mix A0 Bs) 23 D = vbits (pF B i g r 2 P) s := by rw [mxS, h4]
    have ix : (((((2 * nI i + (nI g - nI g / 2 * 2)) * 30 + nI r) * 10 + nI s) * 3) + 2) = nI (pl i g r s 2) := ix_p (k := 2) hi (by omega) hr (by omega) (by omega)
    have cx : (nI (pl i g r s 2)).toNatClampNeg = pl i g r s 2 := nI_clamp (by omega)
    have mp : sS (mix A0 Bs) 17 (pl i g r s 2) = sS B 17 (pl i g r s 2) := by rw [mxS, hx]
    refine T112_81 ⟨fun z => ?_, fun _ => ?_⟩
    · rw [m1, le_n (by omega) (by omega)] at z
      omega
    · rw [ci, cD, m2, ix, cx, mp, m23, nI_1]
      refine ⟨⟨nI_pos (by omega), hD⟩, ⟨nI_pos (by omega), hi⟩, by decide, ⟨nI_pos (by omega), lp⟩, fun y => ?_, fun y => ?_⟩
      · rintro _ rfl
        rw [pS]
        have ev : vbits (pF B i g r 2 P) s ||| ((1 : Int32) <<< (nI s &&& 31)) = vbits (pF B i g r 2 P) (s + 1) := by
          show _ = if pF B i g r 2 P s then _ else _
          rw [if_pos (by unfold pF; rw [decide_eq_true_iff]; exact y)]
        rw [ev, hBn]
        exact e4 A0 K h
      · rintro _ rfl
        rw [pS]
        have ev : vbits (pF B i g r 2 P) s ||| 0 = vbits (pF B i g r 2 P) (s + 1) := by
          show _ = if pF B i g r 2 P s then _ else _
          rw [if_neg (by unfold pF; rw [decide_eq_true_iff]; exact y)]
          exact Int32.or_zero
        rw [ev, hBn]
        exact e4 A0 K h
/-- rule A -/
theorem ruleA (hS : Sim E A B M N) (hI : Idle E A) (hi : i < eN E) (b2 : sS B 2 i = nI g) (h40 : g ≤ 40) : (CR E 44 0 [some (.ref (aN E i 0)), none, none, none] A (some (.int (-1))) A ∧ RR E 112 0 [some (.ref (aS E 0)), some (.int (nI i)), none, none, none, none, none] B (some (.int 0)) B) ∨
    ∃ r0 Aa A1 A2 B2 X, r0 < 30 ∧ CR E 44 0 [some (.ref (aN E i 0)), none, none, none] A (some (.int (nI r0))) A ∧ CR E 47 0 [some (.ref (aN E i 0)), some (.int (nI r0)), none] A none Aa ∧ CR E 38 0 [some (.ref (aN E i 0)), some (.int 0), some (.int (sK A 0 5)), none] Aa none A1 ∧ dsp E i A1 A2 ∧ RR E 112 0 [some (.ref (aS E 0)), some (.int (nI i)), none, none, none, none, none] B (some (.int 1)) B2 ∧ POST E i A B A2 B2 M N X := by
  obtain ⟨q1, a2, r', s', hr', hs', a3, b3, a4, b4, _⟩ := hS.at hi b2 h40
  have hn := hS.1.1.2.2.2
  have hn1 := hS.1.1.2.2.1
  have ci : (nI i).toNatClampNeg = i := nI_clamp (by omega)
  have cg : (nI g).toNatClampNeg = g := nI_clamp (by omega)
  obtain ⟨t1, t2⟩ := c_rtd hS hi b2 h40
  have st : ∀ A0 K, ES E 112 9 [some (.ref (aS E 0)), some (.int (nI i)), some (.int (nI g)), some (.int (nI 0)), none, none, none] [] (mix A0 B) K → ES E 112 0 [some (.ref (aS E 0)), some (.int (nI i)), none, none, none, none, none] [] (mix A0 B) K := fun A0 K h => by
    refine T112 ⟨in_n rfl (by omega) (by omega), ?_⟩
    rw [ci, mxS, b2]
    exact h
  have skip : ∀ r0, r0 ≤ 30 → (∀ r, r < r0 → ¬ cA E B i g r) → ∀ A0 K, ES E 112 9 [some (.ref (aS E 0)), some (.int (nI i)), some (.int (nI g)), some (.int (nI r0)), none, none, none] [] (mix A0 B) K → ES E 112 9 [some (.ref (aS E 0)), some (.int (nI i)), some (.int (nI g)), some (.int (nI 0)), none, none, none] [] (mix A0 B) K := by
    intro r0
    induction r0 with
    | zero => exact fun _ _ A0 K h => h
    | succ n ih => exact fun h1 h2 A0 K h => ih (by omega) (fun r hr => h2 r (by omega)) A0 K (r_rtdS hS hi b2 h40 (by omega) (fun _ => h) (fun z => absurd z (h2 n (by omega))))
  by_cases hno : ∀ r, r < 30 → ¬ cA E B i g r
  · refine Or.inl ⟨t1 hno, fun A0 K hK => st A0 K (skip 30 (Nat.le_refl _) hno A0 K (T112_9 ⟨fun _ => hK, fun z => absurd ?_ z⟩))⟩
    rw [il30]
    exact Int32.le_refl _
  · have hex : ∃ r, r < 30 ∧ cA E B i g r ∧ ∀ r', r' < r → ¬ cA E B i g r' := by
      have key : ∀ n, (∃ r, r < n ∧ cA E B i g r) → ∃ r, r < n ∧ cA E B i g r ∧ ∀ r', r' < r → ¬ cA E B i g r' := by
        intro n
        induction n with
        | zero => rintro ⟨r, h, _⟩; omega
        | succ n ih =>
          rintro ⟨r, h1, h2⟩
          by_cases z : ∃ r, r < n ∧ cA E B i g r
          · obtain ⟨r, y1, y2, y3⟩ := ih z
            exact ⟨r, by omega, y2, y3⟩
          · have : r = n := by
              by_cases y : r < n
              · exact absurd ⟨r, y, h2⟩ z
              · omega
            subst this
            exact ⟨r, by omega, h2, fun r' y1 y2 => z ⟨r', y1, y2⟩⟩
      refine key 30 ?_
      by_cases z : ∃ r, r < 30 ∧ cA E B i g r
      · exact z
      · exact absurd (fun r h1 h2 => z ⟨r, h1, h2⟩) hno
    obtain ⟨r, hr, hc, hl⟩ := hex
    have hp := Nat.mod_lt (g + r) (show 0 < eN E from by omega)
    have hne : ¬ nI (eN E) = 0 := nI_ne0 (by omega) (by omega)
    have hpr := hS.pr hi b2 (by omega) hr
    have lx := ix_lt (k := 0) hr hp (by omega)
    obtain ⟨p1, p2, p3, p4⟩ := hS.2.1 i hi
    obtain ⟨v1, v2⟩ := p4 g (by omega) b2
    have hc' := hc
    unfold cA at hc'
    have h1s := @r_rtdS E A B M N i g r hS hi b2 h40 hr
    generalize hP : sS B 17 (pl i g r ((g + r) % eN E) 0) = P at hpr hc' h1s
    rcases hpr with ⟨x1, x2, x3⟩ | ⟨x1, x2, x3, x4, x5, _⟩
    · exact absurd hc'.1 x3
    generalize hBq : uS (uS (uS B 21 (10 * g + i) P) 22 (10 * g + i) (nI r)) 23 (10 * g + i) 0 = Bq at h1s
    have qo : ∀ v l, ¬ ((21 ≤ v ∧ v ≤ 23) ∧ l = 10 * g + i) → sS Bq v l = sS B v l := fun v l z => by rw [← hBq, rSo _ (by omega), rSo _ (by omega), rSo _ (by omega)]
    have qW : ∀ l, sW Bq l = sW B l := fun l => by rw [← hBq, fWS, fWS, fWS]
    have q21 : sS Bq 21 (10 * g + i) = P := by rw [← hBq, rSo _ (by omega), rSo _ (by omega), rSs]
    have q22 : sS Bq 22 (10 * g + i) = nI r := by rw [← hBq, rSo _ (by omega), rSs]
    have q23 : sS Bq 23 (10 * g + i) = 0 := by rw [← hBq, rSs]
    obtain ⟨Be, e1, e2, e3, e4⟩ := r_bits (E := E) (B := B) (B1 := Bq) (P := P) (D := 10 * g + i) (i := i) (g := g) (r := r) (by omega) hn h40 hr (by omega) b2 hS.1.1.1 qo (eN E) 0 Bq (by omega) (fun _ _ _ => rfl) (fun _ => rfl) q23
    have eo : ∀ v l, ¬ ((21 ≤ v ∧ v ≤ 23) ∧ l = 10 * g + i) → sS Be v l = sS B v l := fun v l z => by rw [e1 v l (by omega), qo v l z]
    have hRGe : RG E A Be := hS.2.2.2.1.fr (fun _ _ _ => rfl) rfl (fun l => eo 1 l (by omega)) (fun l => eo 37 l (by omega)) (fun l _ => eo 0 l (by omega))
    have hG1e : G1 E A Be := ⟨by rw [eo 0 1 (by omega)]; exact hS.1.1.1, hS.1.1.2⟩
    have hrv := r_votes (v := P) (k := 2) hRGe.1 hG1e hi (by rw [eo 2 i (by omega)]; exact b2) q1 h40 hr (by omega) (pF B i g r 2 P) (fun s _ => by rw [eo 17 _ (by omega)]; exact pF_p x2 s)
    generalize hBw : uW Be (10 * g + i) (lN (nsum (pF B i g r 2 P) (ww Be g) (eN E))) = Bw
    have wo : ∀ v l, sS Bw v l = sS Be v l := fun v l => by rw [← hBw, fSW]
    have wW : ∀ l, sW Bw l = if l = 10 * g + i then lN (nsum (pF B i g r 2 P) (ww Be g) (eN E)) else sW Be l := fun l => by rw [← hBw]; rfl
    obtain ⟨A1, B1, d1, d2, d3, d4, d5, d6, d7, d8, d9, d10, d11, d12, d13, d14, _, _, d17⟩ := decd (B' := Bw) (P := P) (R := nI r) (Bi := vbits (pF B i g r 2 P) (eN E)) (W := lN (nsum (pF B i g r 2 P) (ww Be g) (eN E))) hS.1 hS.2.1 hS.2.2.1 hI hS.2.2.2.1 (fun j hj => (hS.2.2.2.2 j hj).1) (fun j hj _ => (hS.2.2.2.2 j hj).2) hi b2 h40 (x5.pos hr).2.1 (by
      rw [lN_w, wsum_n (ω := ww Be g) _ (fun s hs => (hRGe.1.w q1 h40 s hs).1)]
      exact congrArg nI (nsum_cg _ (fun s hs => ⟨(bt_vb hn s hs).symm, rfl⟩))) (fun v l z => by rw [wo, eo v l z]) (by rw [wo, e1 _ _ (by omega), q21]) (by rw [wo, e1 _ _ (by omega), q22]) (by rw [wo, e3]) (by rw [wW, if_pos rfl]) (fun l z => by rw [wW, if_neg z, e2, qW])
    obtain ⟨A2, A3, B2, X, w1, w2, w3, w4, w5, w6, w7, w8, w9, _⟩ := entr d3 d4 d5 d6 d7 hi d10 (by omega) d12 d13 d14
    refine Or.inr ⟨r, A1, A2, A3, B2, X, hr, t2 r hr hc hl, fun B0 K hK => ?_, by rw [← d8 0 5]; exact w1, w2, fun A0 K hK => ?_, w5, w6, ⟨fun l y1 y2 y3 => by rw [w7.1 l y1 y2 y3, d8], fun j => ⟨(w7.2.1 j).1.trans (d9 j).1, (w7.2.1 j).2.trans (d9 j).2⟩, fun j e => ⟨(w7.2.2 j e).1.trans (d17 j e).1, (w7.2.2 j e).2.trans (d17 j e).2⟩⟩, fun m hm => by rw [← d8 0 5]; exact w8 m hm, ?_⟩
    · have mR : sR (mix A B0) i 0 = sR A i 0 := mxR _ _ _ _
      have m2 : sN (mix A B0) i 0 2 = nI g := a2
      have m9 : sK (mix A B0) 9 0 = nI (eN E) := hS.1.1.2.1
      have m0 : sN (mix A B0) i (sR A i 0) 0 = nI (eN E) := v1.1
      have cx : (nI ((r * eN E + (g + r) % eN E) * 3 + 0)).toNatClampNeg = (r * eN E + (g + r) % eN E) * 3 + 0 := nI_clamp (by omega)
      have mp : sN (mix A B0) i (sR A i 0 + 2) ((r * eN E + (g + r) % eN E) * 3 + 0) = P := x1
      refine T47 hi ?_
      rw [mR, m2, m9, m0, ix_pc (by omega) hr hn1 hn, cx, cg, mp]
      refine ⟨p1, hne, ⟨nI_pos (by omega), by rw [p1.ln]; exact lx⟩, ?_⟩
      refine c_vf (k := 2) (hS.2.1 i hi) hi hn b2 h40 hr (by omega) x2 B0 _ ⟨_, rfl, ⟨nI_pos (by omega), by omega⟩, ?_⟩
      rintro _ rfl _ rfl _ rfl
      rw [pN, pN, pN]
      exact d1 B0 _ ⟨rfl, hK⟩
    · refine st A0 K (skip r (by omega) hl A0 K (h1s (fun z => absurd hc z) (fun _ => e4 A0 K ?_)))
      have cD : (nI (10 * g + i)).toNatClampNeg = 10 * g + i := nI_clamp (by omega)
      refine T112_81 ⟨fun _ => hrv A0 _ ⟨_, rfl, ⟨nI_pos (by omega), by rw [cD]; omega⟩, ?_⟩, fun z => absurd ?_ z⟩
      · rw [cD, ci]
        rintro _ rfl
        rw [pW, hBw]
        refine d2 A0 _ ⟨rfl, ⟨nI_pos (by omega), by omega⟩, ?_⟩
        rw [mxS, d10, show (40 : Int32) = nI 40 from rfl, nI_ltI (by omega) (by omega)]
        refine ⟨fun z => ?_, fun z => w3 (by omega) A0 _ ⟨rfl, hK⟩⟩
        rw [w4 (by omega)] at hK
        exact hK
      · rw [mxS, eo 0 1 (by omega), hS.1.1.1]
        exact Int32.le_refl _
    · unfold mu
      rw [w9, b2, nI_clamp (by omega), nI_clamp (by omega)]
      omega
end Dec
