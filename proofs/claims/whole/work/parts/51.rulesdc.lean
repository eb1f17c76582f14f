/-! ===== rules D and C ===== -/
section RulesD
variable {E : mE} {A B : mS} {M N : List Mg} {i g r k : Nat}
/-- the proposal of a round, on both sides -/
theorem Sim.pr (hS : Sim E A B M N) (hi : i < eN E) (b2 : sS B 2 i = nI g) (h40 : g ≤ 41) (hr : r < 30) : (sN A i (sR A i 0 + 2) ((r * eN E + (g + r) % eN E) * 3 + 0) = -2 ∧ sS B 17 (pl i g r ((g + r) % eN E) 0) < 0 ∧ ¬ 0 ≤ sS B 17 (pl i g r ((g + r) % eN E) 0)) ∨ (sN A i (sR A i 0 + 2) ((r * eN E + (g + r) % eN E) * 3 + 0) = sS B 17 (pl i g r ((g + r) % eN E) 0) ∧ 0 ≤ sS B 17 (pl i g r ((g + r) % eN E) 0) ∧ ¬ sS B 17 (pl i g r ((g + r) % eN E) 0) = -2 ∧ ¬ sS B 17 (pl i g r ((g + r) % eN E) 0) < 0 ∧ gv E i g r (sS B 17 (pl i g r ((g + r) % eN E) 0)) ∧ sS B 18 (rp i g r ((g + r) % eN E)) = sN A i (sR A i 0 + 1) r ∧ -1 ≤ sN A i (sR A i 0 + 1) r) := by
  have hp := Nat.mod_lt (g + r) (show 0 < eN E from by omega)
  obtain ⟨p1, p2, p3, p4⟩ := hS.2.1 i hi
  obtain ⟨v1, v2⟩ := p4 g (by omega) b2
  rcases (v1.2.1 r _ 0 hr hp (by omega)).c with ⟨x1, x2, x3, x4⟩ | ⟨x1, x2, x3, x4⟩
  · exact Or.inl ⟨x1, x4, x3⟩
  · obtain ⟨y1, y2, y3, y4⟩ := (v1.2.2.1 r _ hr hp).2 x2
    exact Or.inr ⟨x1, x2, by rw [← x1]; exact x3, x4, y1, y3, y4⟩
theorem KP.trans {A1 B1 A2 B2 : mS} (h : KP i A B A1 B1) (h2 : KP i A1 B1 A2 B2) : KP i A B A2 B2 := ⟨fun l a b c => (h2.1 l a b c).trans (h.1 l a b c), fun j => ⟨(h2.2.1 j).1.trans (h.2.1 j).1, (h2.2.1 j).2.trans (h.2.1 j).2⟩, fun j e => ⟨(h2.2.2 j e).1.trans (h.2.2 j e).1, (h2.2.2 j e).2.trans (h.2.2 j e).2⟩⟩
/-- rule D -/
theorem ruleD (hS : Sim E A B M N) (hI : Idle E A) (hi : i < eN E) (b2 : sS B 2 i = nI g) (h40 : g ≤ 40) : RUL E i 53 [some (.ref (aN E i 0)), none] 122 [some (.ref (aS E 0)), some (.int (nI i)), none, none] A B M N := by
  obtain ⟨q1, a2, r, s, hr, hs, a3, b3, a4, b4, o1, o2, o3, o4, o5, o6⟩ := hS.at hi b2 h40
  have hn := hS.1.1.2.2.2
  have hn1 := hS.1.1.2.2.1
  have ci : (nI i).toNatClampNeg = i := nI_clamp (by omega)
  have e1 : nI s = 1 ↔ s = 1 := by rw [il1, nI_eq (by omega) (by omega)]
  have e0 : nI s = 0 ↔ s = 0 := by rw [il0, nI_eq (by omega) (by omega)]
  obtain ⟨p1, p2, p3, p4⟩ := hS.2.1 i hi
  obtain ⟨v1, v2⟩ := p4 g (by omega) b2
  have hp := Nat.mod_lt (g + r) (show 0 < eN E from by omega)
  have hne : ¬ nI (eN E) = 0 := nI_ne0 (by omega) (by omega)
  have hpr := hS.pr hi b2 (by omega) hr
  have lx := ix_lt (k := 0) hr hp (by omega)
  have lp := pl_lt (i := i) (h := g) (r := r) (s := (g + r) % eN E) (k := 0) (by omega) hr (by omega) (by omega)
  generalize hP : sS B 17 (pl i g r ((g + r) % eN E) 0) = P at hpr
  generalize hgo : (sS B 13 i = 0 ∧ ¬ s = 0 ∧ 0 ≤ P ∧ MANY E B g (pF B i g r 1 P) = true) = go
  have crun : ∀ B0 K, (¬ go → K (some (.int 0)) (mix A B0)) → (go → s = 1 → ES E 40 0 [some (.ref (aN E i 0)), some (.int 2), some (.int P), some (.int (-1)), none, none] [] (mix (uN (uN (uN A i 4 0 1) i 1 0 P) i 1 1 (nI r)) B0) (fun r S17 => r = none ∧ (∀ S18, S18 = uN S17 i 2 0 P → (∀ S19, S19 = uN S18 i 2 1 (sN S17 i 0 3) → (K (some (.int 1)) S19))))) → (go → ¬ s = 1 → K (some (.int 1)) (mix (uN (uN (uN A i 4 0 1) i 2 0 P) i 2 1 (nI r)) B0)) → ES E 53 0 [some (.ref (aN E i 0)), none] [] (mix A B0) K := by
    intro B0 K h0 h1 h2
    subst hgo
    have mR : sR (mix A B0) i 0 = sR A i 0 := mxR _ _ _ _
    have m3 : sN (mix A B0) i 0 3 = nI r := a3
    have m2 : sN (mix A B0) i 0 2 = nI g := a2
    have m4 : sN (mix A B0) i 0 4 = nI s := a4
    have mo : sN (mix A B0) i 4 0 = sS B 13 i := o1
    have m9 : sK (mix A B0) 9 0 = nI (eN E) := hS.1.1.2.1
    have m0 : sN (mix A B0) i (sR A i 0) 0 = nI (eN E) := v1.1
    have cx : (nI ((r * eN E + (g + r) % eN E) * 3 + 0)).toNatClampNeg = (r * eN E + (g + r) % eN E) * 3 + 0 := nI_clamp (by omega)
    refine T53 hi ?_
    rw [mR, m3, m2, m9, m0, ix_pc (by omega) hr hn1 hn, cx, i00, m4, mo, e0]
    refine ⟨p1, hne, ⟨nI_pos (by omega), by rw [p1.ln]; exact lx⟩, by decide, fun y1 => ⟨fun y2 => h0 (fun z => z.2.1 y2), fun y2 => ?_⟩, fun y1 => h0 (fun z => y1 z.1)⟩
    rcases hpr with ⟨x1, x2, x3⟩ | ⟨x1, x2, x3, x4, x5⟩
    · have mp : sN (mix A B0) i (sR A i 0 + 2) ((r * eN E + (g + r) % eN E) * 3 + 0) = -2 := x1
      exact ⟨fun _ => h0 (fun z => x3 z.2.2.1), fun z => absurd mp z⟩
    · have mp : sN (mix A B0) i (sR A i 0 + 2) ((r * eN E + (g + r) % eN E) * 3 + 0) = P := x1
      rw [mp]
      refine ⟨fun z => absurd z x3, fun _ => c_mf hS hi b2 h40 hr (k := 1) (by omega) il1 x2 ⟨_, rfl, fun y => ?_, fun y => ?_⟩⟩
      · exact h0 (fun x => by rw [if_pos x.2.2.2] at y; exact one0 y)
      · have hgo : sS B 13 i = 0 ∧ ¬ s = 0 ∧ 0 ≤ P ∧ MANY E B g (pF B i g r 1 P) = true := by
          refine ⟨y1, y2, x2, ?_⟩
          by_cases m : MANY E B g (pF B i g r 1 P) = true
          · exact m
          · rw [if_neg m] at y
            exact absurd rfl y
        rintro _ rfl
        have f4 : sN (uN (mix A B0) i 4 0 1) i 0 4 = nI s := by rw [rNo _ (by omega), mxN, a4]
        have f3 : sN (uN (mix A B0) i 4 0 1) i 0 3 = nI r := by rw [rNo _ (by omega), mxN, a3]
        rw [f4, f3, e1]
        refine ⟨fun y => ?_, fun y => ?_⟩
        · rintro _ rfl _ rfl
          rw [pN, pN, pN]
          exact h1 hgo y
        · rintro _ rfl _ rfl
          rw [pN, pN, pN]
          exact h2 hgo y
  have rrun : ∀ A0 K, (¬ go → K (some (.int 0)) (mix A0 B)) → (go → s = 1 → ES E 101 0 [some (.ref (aS E 0)), some (.int (nI i)), some (.int 2), some (.int P), some (.int (-9)), none, none, none, none, none, none, none] [] (mix A0 (uS (uS (uS B 13 i 1) 5 i P) 6 i (nI r))) (fun r0 S17 => r0 = none ∧ (∀ S18, S18 = uS S17 4 i 2 → (∀ S19, S19 = uS S18 7 i P → (∀ S20, S20 = uS S19 8 i (nI r) → (K (some (.int 1)) S20)))))) → (go → ¬ s = 1 → K (some (.int 1)) (mix A0 (uS (uS (uS B 13 i 1) 7 i P) 8 i (nI r)))) → ES E 122 0 [some (.ref (aS E 0)), some (.int (nI i)), none, none] [] (mix A0 B) K := by
    intro A0 K h0 h1 h2
    subst hgo
    have m3 : sS (mix A0 B) 3 i = nI r := b3
    have m2 : sS (mix A0 B) 2 i = nI g := b2
    have m4 : sS (mix A0 B) 4 i = nI s := b4
    have mo : sS (mix A0 B) 13 i = sS B 13 i := mxS _ _ _ _
    have m9 : sS (mix A0 B) 0 1 = nI (eN E) := hS.1.1.1
    have mp : sS (mix A0 B) 17 (pl i g r ((g + r) % eN E) 0) = P := hP
    have cx : (nI (pl i g r ((g + r) % eN E) 0)).toNatClampNeg = pl i g r ((g + r) % eN E) 0 := nI_clamp (by omega)
    refine T122 ⟨in_n rfl (by omega) (by omega), ?_⟩
    rw [ci, m3, m2, m9, ix_pr (by omega) (by omega) hr hn1 hn, cx, m4, mo, e0, mp]
    refine ⟨hne, by decide, ⟨nI_pos (by omega), lp⟩, fun y1 => ⟨fun y2 => h0 (fun z => z.2.1 y2), fun y2 => ?_⟩, fun y1 => h0 (fun z => y1 z.1)⟩
    rcases hpr with ⟨x1, x2, x3⟩ | ⟨x1, x2, x3, x4, x5⟩
    · exact ⟨fun _ => h0 (fun z => x3 z.2.2.1), fun z => absurd x2 z⟩
    · refine ⟨fun z => absurd z x4, fun _ => r_mf hS hi b2 h40 hr (k := 1) (by omega) il1 x2 ⟨_, rfl, fun y => ?_, fun y => ?_⟩⟩
      · exact h0 (fun x => by rw [if_pos x.2.2.2] at y; exact one0 y)
      · have hgo : sS B 13 i = 0 ∧ ¬ s = 0 ∧ 0 ≤ P ∧ MANY E B g (pF B i g r 1 P) = true := by
          refine ⟨y1, y2, x2, ?_⟩
          by_cases m : MANY E B g (pF B i g r 1 P) = true
          · exact m
          · rw [if_neg m] at y
            exact absurd rfl y
        rintro _ rfl
        have f4 : sS (uS (mix A0 B) 13 i 1) 4 i = nI s := by rw [rSo _ (by omega), mxS, b4]
        rw [f4, e1]
        refine ⟨fun y => ?_, fun y => ?_⟩
        · rintro _ rfl _ rfl
          rw [pS, pS, pS]
          exact h1 hgo y
        · rintro _ rfl _ rfl
          rw [pS, pS, pS]
          exact h2 hgo y
  by_cases h : go
  · have hb : sS B 13 i = 0 ∧ ¬ s = 0 ∧ 0 ≤ P ∧ MANY E B g (pF B i g r 1 P) = true := by rw [hgo]; exact h
    have x5 : gv E i g r P ∧ 0 < P := by
      rcases hpr with ⟨x1, x2, x3⟩ | ⟨x1, x2, x3, x4, x5, _⟩
      · exact absurd hb.2.2.1 x3
      · exact ⟨x5, (x5.pos hr).2.1⟩
    have on := hS.2.2.2.2 i hi
    have c13 : (0 : Int32).toNatClampNeg ≤ (1 : Int32).toNatClampNeg := by decide
    by_cases h1 : s = 1
    · -- it locks and precommits
      generalize hA0 : uN (uN (uN A i 4 0 1) i 1 0 P) i 1 1 (nI r) = A0
      generalize hB0 : uS (uS (uS B 13 i 1) 5 i P) 6 i (nI r) = B0
      have oa : ∀ j d l, ¬ (j = i ∧ (d = 1 ∨ (d = 4 ∧ l = 0))) → sN A0 j d l = sN A j d l := fun j d l z => by rw [← hA0, rNo _ (by omega), rNo _ (by omega), rNo _ (by omega)]
      have ob : ∀ v l, ¬ (l = i ∧ (v = 13 ∨ v = 5 ∨ v = 6)) → sS B0 v l = sS B v l := fun v l z => by rw [← hB0, rSo _ (by omega), rSo _ (by omega), rSo _ (by omega)]
      have oF : FNn A A0 := hA0 ▸ ((FNn.u _ _ _ _ _).tr (FNn.u _ _ _ _ _)).tr (FNn.u _ _ _ _ _)
      have f40 : sN A0 i 4 0 = 1 := by rw [← hA0, rNo _ (by omega), rNo _ (by omega), rNs]
      have f10 : sN A0 i 1 0 = P := by rw [← hA0, rNo _ (by omega), rNs]
      have f11 : sN A0 i 1 1 = nI r := by rw [← hA0, rNs]
      have g13 : sS B0 13 i = 1 := by rw [← hB0, rSo _ (by omega), rSo _ (by omega), rSs]
      have g5 : sS B0 5 i = P := by rw [← hB0, rSo _ (by omega), rSs]
      have g6 : sS B0 6 i = nI r := by rw [← hB0, rSs]
      have n41 : ¬ sS B0 2 i = nI 41 := by
        rw [ob 2 i (by omega), b2, nI_eq (by omega) (by omega)]
        omega
      have hS0 : Sim E A0 B0 M N := by
        refine hS.up (i := i) oF (fun j d l z => oa j d l (by omega)) (fun v l z1 z2 => ob v l (by omega)) (fun l => by rw [← hB0, fWS, fWS, fWS]) ⟨by rw [f10, g5], by rw [f11, g6], Or.inr ⟨by rw [g5]; exact x5.2, by rw [g6]; exact nI_pos' (by omega)⟩⟩ ?_
        obtain ⟨x1, x2, x3, x4, x5'⟩ := on.2
        refine ⟨⟨r, hr, by rw [oa _ _ _ (by omega)]; exact a3, by rw [ob 3 i (by omega)]; exact b3⟩, ⟨⟨s, hs, by rw [oa _ _ _ (by omega)]; exact a4, by rw [ob 4 i (by omega)]; exact b4⟩, fun z => absurd z n41⟩, fun r2 hr2 h3 => ?_, fun l hl => ⟨?_, fun z => absurd z n41⟩, fun _ => ?_⟩
        · rw [ob 3 i (by omega)] at h3
          exact (x3 r2 hr2 h3).fr (Nat.le_refl _) (fun l => oa _ _ _ (by omega)) (fun v z => ob v i (by omega))
        · rw [oa _ _ _ (by omega), ob 12 _ (by omega)]
          exact (x4 l hl).1
        · rw [f40, g13, oa _ _ _ (by omega), oa _ _ _ (by omega), ob 14 i (by omega), ob 15 i (by omega)]
          exact ⟨rfl, o2, o3, Or.inr rfl, o5, o6⟩
      have hI0 : Idle E A0 := fun j hj => by rw [oa _ _ _ (by omega)]; exact hI j hj
      obtain ⟨A1, A2, B2, X, w1, w2, w3, w4, w5, w6, w7, w8, w9, w10, w11⟩ := vote (k := 2) (w := P) (some (P, nI r)) hS0 hI0 hi h40 (by rw [ob 2 i (by omega)]; exact b2) (Or.inr rfl) hb.2.2.1 (fun a b z => by
        cases z
        exact ⟨r, hr, by rw [ob 3 i (by omega)]; exact b3, rfl, x5.1⟩)
      refine Or.inr ⟨Uf (some (P, nI r)) i A1, A2, Vf (some (P, nI r)) i (uS B2 4 i (nI 2)), X, fun B0' K hK => crun B0' K (fun z => absurd h z) (fun _ _ => ?_) (fun _ z => absurd h1 z), w2, fun A0' K hK => rrun A0' K (fun z => absurd h z) (fun _ _ => ?_) (fun _ z => absurd h1 z), w4, w5, ?_, fun m hm => ?_, ?_⟩
      · rw [hA0]
        refine w1 B0' _ ⟨rfl, ?_⟩
        have e3 : sN (mix A1 B0') i 0 3 = nI r := by rw [mxN, w9.1 3 (by omega) (by omega), oa _ _ _ (by omega), a3]
        rw [e3]
        rintro _ rfl _ rfl
        rw [pN, pN]
        exact hK
      · rw [hB0]
        refine w3 A0' _ ⟨rfl, ?_⟩
        rintro _ rfl _ rfl _ rfl
        rw [pS, pS, pS]
        exact hK
      · exact KP.trans ⟨fun l _ _ _ => oF.1 0 l, fun j => ⟨ob 9 j (by omega), ob 10 j (by omega)⟩, fun j e => ⟨ob 2 j (by omega), ob 3 j (by omega)⟩⟩ w6
      · have := w7 m hm
        rw [oF.1] at this
        exact this
      · exact mu_lt h40 hr hs (show 2 < 3 by omega) (by omega) b2 b3 b4 ((w11 2 (by omega) (by omega) (by omega)).trans (by rw [ob 2 i (by omega)]; exact b2)) ((w11 3 (by omega) (by omega) (by omega)).trans (by rw [ob 3 i (by omega)]; exact b3)) w10 (by rw [w11 13 (by omega) (by omega) (by omega), g13, hb.1]; exact c13) ((w11 14 (by omega) (by omega) (by omega)).trans (ob 14 i (by omega))) ((w11 15 (by omega) (by omega) (by omega)).trans (ob 15 i (by omega)))
    · -- the value becomes valid
      generalize hA0 : uN (uN (uN A i 4 0 1) i 2 0 P) i 2 1 (nI r) = A0 at crun
      generalize hB0 : uS (uS (uS B 13 i 1) 7 i P) 8 i (nI r) = B0 at rrun
      have oa : ∀ j d l, ¬ (j = i ∧ (d = 2 ∨ (d = 4 ∧ l = 0))) → sN A0 j d l = sN A j d l := fun j d l z => by rw [← hA0, rNo _ (by omega), rNo _ (by omega), rNo _ (by omega)]
      have ob : ∀ v l, ¬ (l = i ∧ (v = 13 ∨ v = 7 ∨ v = 8)) → sS B0 v l = sS B v l := fun v l z => by rw [← hB0, rSo _ (by omega), rSo _ (by omega), rSo _ (by omega)]
      have oF : FNn A A0 := hA0 ▸ ((FNn.u _ _ _ _ _).tr (FNn.u _ _ _ _ _)).tr (FNn.u _ _ _ _ _)
      have f40 : sN A0 i 4 0 = 1 := by rw [← hA0, rNo _ (by omega), rNo _ (by omega), rNs]
      have f10 : sN A0 i 2 0 = P := by rw [← hA0, rNo _ (by omega), rNs]
      have f11 : sN A0 i 2 1 = nI r := by rw [← hA0, rNs]
      have g13 : sS B0 13 i = 1 := by rw [← hB0, rSo _ (by omega), rSo _ (by omega), rSs]
      have g5 : sS B0 7 i = P := by rw [← hB0, rSo _ (by omega), rSs]
      have g6 : sS B0 8 i = nI r := by rw [← hB0, rSs]
      have g2 : sS B0 2 i = nI g := by rw [ob 2 i (by omega), b2]
      have n41 : ¬ sS B0 2 i = nI 41 := by
        rw [g2, nI_eq (by omega) (by omega)]
        omega
      have hI0 : Idle E A0 := fun j hj => by rw [oa _ _ _ (by omega)]; exact hI j hj
      refine Or.inr ⟨A0, A0, B0, [], fun B0' K hK => crun B0' K (fun z => absurd h z) (fun _ z => absurd z h1) (fun _ _ => hK), disp0 hi (hI0 i hi), fun A0' K hK => rrun A0' K (fun z => absurd h z) (fun _ z => absurd z h1) (fun _ _ => hK), ?_, hI0, ⟨fun l _ _ _ => oF.1 0 l, fun j => ⟨ob 9 j (by omega), ob 10 j (by omega)⟩, fun j e => ⟨ob 2 j (by omega), ob 3 j (by omega)⟩⟩, fun m hm => (by cases hm), ?_⟩
      · rw [List.append_nil, List.append_nil]
        refine hS.up (i := i) oF (fun j d l z => oa j d l (by omega)) (fun v l z1 z2 => ob v l (by omega)) (fun l => by rw [← hB0, fWS, fWS, fWS]) ?_ ?_
        · have := on.1.2.2.2.1
          unfold PLk1 at this ⊢
          rw [oa _ _ _ (by omega), oa _ _ _ (by omega), ob 5 i (by omega), ob 6 i (by omega)]
          exact this
        · obtain ⟨x1, x2, x3, x4, x5'⟩ := on.2
          refine ⟨⟨r, hr, by rw [oa _ _ _ (by omega)]; exact a3, by rw [ob 3 i (by omega)]; exact b3⟩, ⟨⟨s, hs, by rw [oa _ _ _ (by omega)]; exact a4, by rw [ob 4 i (by omega)]; exact b4⟩, fun z => absurd z n41⟩, fun r2 hr2 h3 => ?_, fun l hl => ⟨?_, fun z => absurd z n41⟩, fun _ => ?_⟩
          · rw [ob 3 i (by omega), b3, nI_eq (by omega) (by omega)] at h3
            subst h3
            exact ⟨by rw [f10, g5], by rw [f11, g6], Or.inr ⟨r, g, Nat.le_refl _, by omega, g6, g2, by rw [g5]; exact x5.1⟩⟩
          · rw [oa _ _ _ (by omega), ob 12 _ (by omega)]
            exact (x4 l hl).1
          · rw [f40, g13, oa _ _ _ (by omega), oa _ _ _ (by omega), ob 14 i (by omega), ob 15 i (by omega)]
            exact ⟨rfl, o2, o3, Or.inr rfl, o5, o6⟩
      · unfold mu
        rw [ob 2 i (by omega), ob 3 i (by omega), ob 4 i (by omega), ob 14 i (by omega), ob 15 i (by omega), g13, hb.1, i00, cl1]
        omega
  · exact Or.inl ⟨fun B0 K hK => crun B0 K (fun _ => hK) (fun z => absurd z h) (fun z => absurd z h), fun A0 K hK => rrun A0 K (fun _ => hK) (fun z => absurd z h) (fun z => absurd z h)⟩
/-- may it vote for v, which is valid since q? -/
def may (B : mS) (i : Nat) (v q : Int32) : Prop := sS B 6 i < 0 ∨ sS B 5 i = v ∨ (¬ q ≤ -1 ∧ sS B 6 i ≤ q) ∨ sS B 11 i = 4
theorem nlt {x y : Int32} : ¬ x < y ↔ y ≤ x := by rw [Int32.lt_iff_toInt_lt, Int32.le_iff_toInt_le]; omega
theorem c_may {v q : Int32} [Decidable (may B i v q)] (hS : Sim E A B M N) (hi : i < eN E) : CR E 52 0 [some (.ref (aN E i 0)), some (.int v), some (.int q)] A (some (.int (if may B i v q then 1 else 0))) A := by
  intro B0 K hK
  have on := (hS.2.2.2.2 i hi).1
  have hbe : sN (mix A B0) i 0 7 = sS B 11 i := on.2.1
  obtain ⟨k1, k2, k3⟩ := on.2.2.2.1
  have n0 : sN (mix A B0) i 1 0 = sS B 5 i := k1
  have n1 : sN (mix A B0) i 1 1 = sS B 6 i := k2
  refine T52 hi ?_
  rw [hbe, n0, n1]
  refine ⟨fun y => ?_, fun y1 => ⟨fun y => ?_, fun y2 => ⟨fun y => ?_, fun y3 => ⟨fun y => ?_, fun y4 => ⟨fun y => ?_, fun y => ?_⟩⟩⟩⟩⟩
  · rw [if_pos (show may B i v q from Or.inr (Or.inr (Or.inr y)))] at hK
    exact hK
  · rcases k3 with z | z
    · rw [if_pos (show may B i v q from Or.inl (by rw [z.2]; decide))] at hK
      exact hK
    · rw [y] at z
      exact absurd z.1 (by decide)
  · rw [if_pos (show may B i v q from Or.inr (Or.inl y))] at hK
    exact hK
  · rw [if_neg] at hK
    · exact hK
    · rintro (z | z | z | z)
      · rcases k3 with x | x
        · exact y2 x.1
        · exact (m2_n x.2).2.2.1 z
      · exact y3 z
      · exact z.1 y
      · exact y1 z
  · rw [if_neg] at hK
    · exact hK
    · rintro (z | z | z | z)
      · rcases k3 with x | x
        · exact y2 x.1
        · exact (m2_n x.2).2.2.1 z
      · exact y3 z
      · exact (nlt.2 z.2) y
      · exact y1 z
  · rw [if_pos (show may B i v q from Or.inr (Or.inr (Or.inl ⟨y4, nlt.1 y⟩)))] at hK
    exact hK
theorem r_may {v q x : Int32} [Decidable (may B i v q)] (hi : i < 10) {A0 : mS} {K : Option Value → mS → Prop} (h : ES E 101 0 [some (.ref (aS E 0)), some (.int (nI i)), some (.int 1), some (.int (if may B i v q then v else 0)), some (.int (-9)), none, none, none, none, none, none, none] [] (mix A0 B) (fun r S3 => r = none ∧ (∀ S4, S4 = uS S3 4 i 1 → (K (some (.int 1)) S4)))) : ES E 120 81 [some (.ref (aS E 0)), some (.int (nI i)), some (.int x), some (.int v), some (.int q), none] [] (mix A0 B) K := by
  have ci : (nI i).toNatClampNeg = i := nI_clamp (by omega)
  have yes : may B i v q → ES E 120 127 [some (.ref (aS E 0)), some (.int (nI i)), some (.int x), some (.int v), some (.int q), none] [] (mix A0 B) K := fun m => by
    rw [if_pos m] at h
    refine T120_127 ?_
    rw [ci]
    exact ES.mono h (fun r S' z => ⟨z.1, in_n rfl hi (by omega) |>.imp_right (fun w => by rw [ci] at w; exact w), z.2⟩)
  have no : ¬ (sS B 6 i < 0 ∨ sS B 5 i = v ∨ (¬ q ≤ -1 ∧ sS B 6 i ≤ q)) → ES E 120 117 [some (.ref (aS E 0)), some (.int (nI i)), some (.int x), some (.int v), some (.int q), none] [] (mix A0 B) K := fun m => by
    refine T120_117 ⟨in_n rfl hi (by omega), ?_⟩
    rw [ci, mxS]
    refine ⟨fun y => yes (Or.inr (Or.inr (Or.inr y))), fun y => ?_⟩
    rw [if_neg] at h
    · exact h
    · rintro (z | z | z | z)
      · exact m (Or.inl z)
      · exact m (Or.inr (Or.inl z))
      · exact m (Or.inr (Or.inr z))
      · exact y z
  refine T120_81 ⟨in_n rfl hi (by omega), ?_⟩
  have n5 : sS (mix A0 B) 5 i = sS B 5 i := mxS _ _ _ _
  have n6 : sS (mix A0 B) 6 i = sS B 6 i := mxS _ _ _ _
  rw [ci, n5, n6]
  refine ⟨fun y => yes (Or.inl y), fun y1 => ⟨fun y => yes (Or.inr (Or.inl y)), fun y2 => ⟨fun y3 => no ?_, fun y3 => ⟨fun y => yes (Or.inr (Or.inr (Or.inl ⟨y3, y⟩))), fun y => no ?_⟩⟩⟩⟩
  · rintro (z | z | z)
    · exact y1 z
    · exact y2 z
    · exact z.1 y3
  · rintro (z | z | z)
    · exact y1 z
    · exact y2 z
    · exact y z.2
/-- rule C -/
theorem ruleC (hS : Sim E A B M N) (hI : Idle E A) (hi : i < eN E) (b2 : sS B 2 i = nI g) (h40 : g ≤ 40) : RUL E i 51 [some (.ref (aN E i 0)), none, none] 120 [some (.ref (aS E 0)), some (.int (nI i)), none, none, none, none] A B M N := by
  classical
  obtain ⟨q1, a2, r, s, hr, hs, a3, b3, a4, b4, o1, o2, o3, o4, o5, o6⟩ := hS.at hi b2 h40
  have hn := hS.1.1.2.2.2
  have hn1 := hS.1.1.2.2.1
  have ci : (nI i).toNatClampNeg = i := nI_clamp (by omega)
  have cr : (nI r).toNatClampNeg = r := nI_clamp (by omega)
  have e0 : nI s = 0 ↔ s = 0 := by rw [il0, nI_eq (by omega) (by omega)]
  obtain ⟨p1, p2, p3, p4⟩ := hS.2.1 i hi
  obtain ⟨v1, v2⟩ := p4 g (by omega) b2
  have hp := Nat.mod_lt (g + r) (show 0 < eN E from by omega)
  have hne : ¬ nI (eN E) = 0 := nI_ne0 (by omega) (by omega)
  have hpr := hS.pr hi b2 (by omega) hr
  have lx := ix_lt (k := 0) hr hp (by omega)
  have lp := pl_lt (i := i) (h := g) (r := r) (s := (g + r) % eN E) (k := 0) (by omega) hr (by omega) (by omega)
  have lr := rp_lt (i := i) (h := g) (r := r) (s := (g + r) % eN E) (by omega) hr (by omega)
  generalize hP : sS B 17 (pl i g r ((g + r) % eN E) 0) = P at hpr
  generalize hQ : sN A i (sR A i 0 + 1) r = q at hpr
  generalize hgo : (s = 0 ∧ 0 ≤ P ∧ (q = -1 ∨ ∃ n, n < r ∧ q = nI n ∧ MANY E B g (pF B i g n 1 P) = true)) = go
  have hq : -1 ≤ q → q = -1 ∨ ¬ q ≤ -1 := fun h => by
    by_cases e : q ≤ -1
    · exact Or.inl (Int32.le_antisymm e h)
    · exact Or.inr e
  have hq2 : ¬ q ≤ -1 → ¬ q < 0 := fun h => by
    rw [Int32.le_iff_toInt_le] at h
    rw [Int32.lt_iff_toInt_lt, Int32.toInt_zero]
    have : (-1 : Int32).toInt = -1 := rfl
    omega
  have hq3 : ∀ n, n < r → q = nI n → ¬ q ≤ -1 ∧ q < nI r := fun n h1 h2 => by
    rw [h2]
    refine ⟨?_, nI_lt h1 (by omega)⟩
    rw [Int32.le_iff_toInt_le, nI_toInt (by omega)]
    have : (-1 : Int32).toInt = -1 := rfl
    omega
  have hq4 : q < nI r → ¬ q ≤ -1 → ∃ n, n < r ∧ q = nI n := fun h1 h2 => by
    rcases pk_ix q (show r < 2 ^ 31 by omega) with z | z | z
    · exact absurd z (hq2 h2)
    · exact absurd h1 (nlt.2 z)
    · exact z
  have crun : ∀ B0 K, (¬ go → K (some (.int 0)) (mix A B0)) → (go → ES E 40 0 [some (.ref (aN E i 0)), some (.int 1), some (.int (if may B i P q then P else 0)), some (.int (-1)), none, none] [] (mix A B0) (fun r S12 => r = none ∧ (K (some (.int 1)) S12))) → ES E 51 0 [some (.ref (aN E i 0)), none, none] [] (mix A B0) K := by
    intro B0 K h0 h1
    subst hgo
    have mR : sR (mix A B0) i 0 = sR A i 0 := mxR _ _ _ _
    have m3 : sN (mix A B0) i 0 3 = nI r := a3
    have m2 : sN (mix A B0) i 0 2 = nI g := a2
    have m4 : sN (mix A B0) i 0 4 = nI s := a4
    have m9 : sK (mix A B0) 9 0 = nI (eN E) := hS.1.1.2.1
    have m0 : sN (mix A B0) i (sR A i 0) 0 = nI (eN E) := v1.1
    have mq : sN (mix A B0) i (sR A i 0 + 1) r = q := hQ
    have cx : (nI ((r * eN E + (g + r) % eN E) * 3 + 0)).toNatClampNeg = (r * eN E + (g + r) % eN E) * 3 + 0 := nI_clamp (by omega)
    refine T51 hi ?_
    rw [mR, m3, m2, m9, m0, ix_pc (by omega) hr hn1 hn, cx, cr, m4, e0, mq]
    refine ⟨p1, hne, ⟨nI_pos (by omega), by rw [p1.ln]; exact lx⟩, fun y1 => ?_, fun y1 => h0 (fun z => y1 z.1)⟩
    rcases hpr with ⟨x1, x2, x3⟩ | ⟨x1, x2, x3, x4, x5, x6, x7⟩
    · have mp : sN (mix A B0) i (sR A i 0 + 2) ((r * eN E + (g + r) % eN E) * 3 + 0) = -2 := x1
      exact ⟨fun _ => h0 (fun z => x3 z.2.1), fun z => absurd mp z⟩
    · have mp : sN (mix A B0) i (sR A i 0 + 2) ((r * eN E + (g + r) % eN E) * 3 + 0) = P := x1
      rw [mp]
      have fin : (s = 0 ∧ 0 ≤ P ∧ (q = -1 ∨ ∃ n, n < r ∧ q = nI n ∧ MANY E B g (pF B i g n 1 P) = true)) → ES E 52 0 [some (.ref (aN E i 0)), some (.int P), some (.int q)] [] (mix A B0) (fun r S9 => ∃ x10 : Int32, r = some (.int x10) ∧ ((x10 = 0 → (ES E 40 0 [some (.ref (aN E i 0)), some (.int 1), some (.int 0), some (.int (-1)), none, none] [] S9 (fun r S12 => r = none ∧ (K (some (.int 1)) S12)))) ∧ (¬ x10 = 0 → (ES E 40 0 [some (.ref (aN E i 0)), some (.int 1), some (.int P), some (.int (-1)), none, none] [] S9 (fun r S13 => r = none ∧ (K (some (.int 1)) S13)))))) := fun hg => by
        have h1' := h1 hg
        refine c_may hS hi B0 _ ⟨_, rfl, fun y => ?_, fun y => ?_⟩
        · rw [if_neg] at h1'
          · exact h1'
          · intro z
            rw [if_pos z] at y
            exact one0 y
        · rw [if_pos] at h1'
          · exact h1'
          · by_cases z : may B i P q
            · exact z
            · rw [if_neg z] at y
              exact absurd rfl y
      refine ⟨fun z => absurd z x3, fun _ => ⟨⟨nI_pos (by omega), hr⟩, fun y2 => ⟨fun y3 => ?_, fun y3 => ?_⟩, fun y2 => h0 ?_⟩⟩
      · rcases hq x7 with z | z
        · exact fin ⟨y1, x2, Or.inl z⟩
        · exact absurd y3 z
      · obtain ⟨n, n1, n2⟩ := hq4 y2 y3
        have hc : ∀ K', K' (some (.int (if MANY E B g (pF B i g n 1 P) = true then 1 else 0))) (mix A B0) → ES E 12 0 [some (.ref (aN E i (sR A i 0))), some (.int q), some (.int 1), some (.int P), none, none] [] (mix A B0) (fun r S3 => ∃ x4 : Int32, r = some (.int x4) ∧ (ES E 46 0 [some (.ref (aN E i 0)), some (.int x4)] [] S3 K')) := fun K' hK' => by
          rw [n2]
          exact c_mf hS hi b2 h40 (show n < 30 by omega) (k := 1) (by omega) il1 x2 hK'
        refine hc _ ⟨_, rfl, fun y => ?_, fun y => ?_⟩
        · refine h0 ?_
          rintro ⟨_, _, z | ⟨n', z1, z2, z3⟩⟩
          · exact y3 (by rw [z]; exact Int32.le_refl _)
          · have e : n' = n := by
              rw [n2, nI_eq (by omega) (by omega)] at z2
              exact z2.symm
            subst e
            rw [if_pos z3] at y
            exact one0 y
        · refine fin ⟨y1, x2, Or.inr ⟨n, n1, n2, ?_⟩⟩
          by_cases z : MANY E B g (pF B i g n 1 P) = true
          · exact z
          · rw [if_neg z] at y
            exact absurd rfl y
      · rintro ⟨_, _, z | ⟨n', z1, z2, z3⟩⟩
        · refine y2 ?_
          rw [z, Int32.lt_iff_toInt_lt, nI_toInt (by omega)]
          have : (-1 : Int32).toInt = -1 := rfl
          omega
        · exact y2 (hq3 n' z1 z2).2
  have rrun : ∀ A0 K, (¬ go → K (some (.int 0)) (mix A0 B)) → (go → ES E 101 0 [some (.ref (aS E 0)), some (.int (nI i)), some (.int 1), some (.int (if may B i P q then P else 0)), some (.int (-9)), none, none, none, none, none, none, none] [] (mix A0 B) (fun r S3 => r = none ∧ (∀ S4, S4 = uS S3 4 i 1 → (K (some (.int 1)) S4)))) → ES E 120 0 [some (.ref (aS E 0)), some (.int (nI i)), none, none, none, none] [] (mix A0 B) K := by
    intro A0 K h0 h1
    subst hgo
    have m3 : sS (mix A0 B) 3 i = nI r := b3
    have m2 : sS (mix A0 B) 2 i = nI g := b2
    have m4 : sS (mix A0 B) 4 i = nI s := b4
    have m9 : sS (mix A0 B) 0 1 = nI (eN E) := hS.1.1.1
    have mp : sS (mix A0 B) 17 (pl i g r ((g + r) % eN E) 0) = P := hP
    have cx : (nI (pl i g r ((g + r) % eN E) 0)).toNatClampNeg = pl i g r ((g + r) % eN E) 0 := nI_clamp (by omega)
    have cy : (nI (rp i g r ((g + r) % eN E))).toNatClampNeg = rp i g r ((g + r) % eN E) := nI_clamp (by omega)
    refine T120 ⟨in_n rfl (by omega) (by omega), ?_⟩
    rw [ci, m3, m2, m9, ix_pr (by omega) (by omega) hr hn1 hn, ix_rr (by omega) (by omega) hr hn1 hn, cx, cy, m4, e0, mp]
    refine ⟨hne, by decide, ⟨nI_pos (by omega), lp⟩, fun y1 => ⟨fun y2 => ⟨⟨nI_pos (by omega), lr⟩, ?_⟩, fun y2 => T120_27 (h0 (fun z => y2 z.2.1))⟩, fun y1 => T120_27 (h0 (fun z => y1 z.1))⟩
    rcases hpr with ⟨x1, x2, x3⟩ | ⟨x1, x2, x3, x4, x5, x6, x7⟩
    · exact absurd y2 x3
    · have m18 : sS (mix A0 B) 18 (rp i g r ((g + r) % eN E)) = q := x6
      have er1 : nI r - 1 < q ↔ ¬ q < nI r ∨ nI r - 1 < q := by
        constructor
        · exact fun h => Or.inr h
        · rintro (h | h)
          · rw [nlt, Int32.le_iff_toInt_le, nI_toInt (by omega)] at h
            rw [Int32.lt_iff_toInt_lt]
            have : (nI r - 1).toInt = (r : Int) - 1 := by
              by_cases z : r = 0
              · subst z
                decide
              · rw [il1, pk_sub (by omega), nI_toInt (by omega)]
                omega
            omega
          · exact h
      have er2 : q < nI r → ¬ nI r - 1 < q := fun h => by
        rw [Int32.lt_iff_toInt_lt, nI_toInt (by omega)] at h
        rw [Int32.lt_iff_toInt_lt]
        have : (nI r - 1).toInt = (r : Int) - 1 := by
          by_cases z : r = 0
          · subst z
            decide
          · rw [il1, pk_sub (by omega), nI_toInt (by omega)]
            omega
        omega
      rw [m18, lgc_lt, show (0 : Int64) = (0 : Int32).toInt64 from rfl, l32_lt, lgc_gt, l32_lt]
      refine ⟨fun y => r_may (by omega) (h1 ⟨y1, x2, Or.inl y⟩), fun y3 => ⟨fun y4 => ?_, fun y4 => ⟨fun y5 => ?_, fun y5 => ?_⟩⟩⟩
      · refine T120_79 (h0 ?_)
        rintro ⟨_, _, z | ⟨n', z1, z2, z3⟩⟩
        · exact y3 z
        · exact hq2 (hq3 n' z1 z2).1 y4
      · refine T120_79 (h0 ?_)
        rintro ⟨_, _, z | ⟨n', z1, z2, z3⟩⟩
        · exact y3 z
        · exact er2 (hq3 n' z1 z2).2 y5
      · have y3' : ¬ q ≤ -1 := by
          rcases hq x7 with z | z
          · exact absurd z y3
          · exact z
        have y5' : q < nI r := by
          by_cases z : q < nI r
          · exact z
          · exact absurd (er1.2 (Or.inl z)) y5
        obtain ⟨n, n1, n2⟩ := hq4 y5' y3'
        have hc : ∀ K', K' (some (.int (if MANY E B g (pF B i g n 1 P) = true then 1 else 0))) (mix A0 B) → ES E 115 0 [some (.ref (aS E 0)), some (.int (nI i)), some (.int q), some (.int 1), some (.int P), none, none, none, none] [] (mix A0 B) (fun r S3 => ∃ x4 : Int64, r = some (.long x4) ∧ (ES E 116 0 [some (.ref (aS E 0)), some (.long x4), none, some (.int (sS S3 2 i))] [] S3 K')) := fun K' hK' => by
          rw [n2]
          exact r_mf hS hi b2 h40 (show n < 30 by omega) (k := 1) (by omega) il1 x2 hK'
        refine hc _ ⟨_, rfl, fun y => ?_, fun y => ?_⟩
        · refine T120_79 (h0 ?_)
          rintro ⟨_, _, z | ⟨n', z1, z2, z3⟩⟩
          · exact y3 z
          · have e : n' = n := by
              rw [n2, nI_eq (by omega) (by omega)] at z2
              exact z2.symm
            subst e
            rw [if_pos z3] at y
            exact one0 y
        · refine r_may (by omega) (h1 ⟨y1, x2, Or.inr ⟨n, n1, n2, ?_⟩⟩)
          by_cases z : MANY E B g (pF B i g n 1 P) = true
          · exact z
          · rw [if_neg z] at y
            exact absurd rfl y
  by_cases h : go
  · have hb : s = 0 ∧ 0 ≤ P := by rw [← hgo] at h; exact ⟨h.1, h.2.1⟩
    have hw : 0 ≤ (if may B i P q then P else 0) := by
      split
      · exact hb.2
      · decide
    obtain ⟨A1, A2, B2, X, w1, w2, w3, w4, w5, w6, w7, w8, w9, w10, w11⟩ := vote (k := 1) none hS hI hi h40 b2 (Or.inl rfl) hw (fun a b z => by cases z)
    refine Or.inr ⟨A1, A2, uS B2 4 i (nI 1), X, fun B0 K hK => crun B0 K (fun z => absurd h z) (fun _ => w1 B0 _ ⟨rfl, hK⟩), w2, fun A0 K hK => rrun A0 K (fun z => absurd h z) (fun _ => w3 A0 _ ⟨rfl, ?_⟩), w4, w5, w6, w7, ?_⟩
    · rintro _ rfl
      rw [pS]
      exact hK
    · exact mu_lt h40 hr hs (show 1 < 3 by omega) (by omega) b2 b3 b4 ((w11 2 (by omega) (by omega) (by omega)).trans b2) ((w11 3 (by omega) (by omega) (by omega)).trans b3) w10 (by rw [show sS (uS B2 4 i (nI 1)) 13 i = sS B 13 i from w11 13 (by omega) (by omega) (by omega)]; exact Nat.le_refl _) (w11 14 (by omega) (by omega) (by omega)) (w11 15 (by omega) (by omega) (by omega))
  · exact Or.inl ⟨fun B0 K hK => crun B0 K (fun _ => hK) (fun z => absurd z h), fun A0 K hK => rrun A0 K (fun _ => hK) (fun z => absurd z h)⟩
end RulesD
