/-! ===== calls: disturb, weight ===== -/
section Weight
variable {E : mE} {A B A' B' : mS} {L M N : List Mg} {T i : Nat}
theorem td_add {d : Nat} {f g b f' g' b' : Nat → Int32} {a1 a2 a3 : Int32} (ef : ∀ j, f' j = if j = d then a1 else f j) (eg : ∀ j, g' j = if j = d then a2 else g j) (eb : ∀ j, b' j = if j = d then a3 else b j) (x k y : Int32) : tdR (d + 1) f' g' b' x k y ↔ (tdR d f g b x k y ∨ (x = a1 ∧ k = a2 ∧ y = a3)) := by
  constructor
  · rintro ⟨j, hj, h1, h2, h3⟩
    rw [ef] at h1
    rw [eg] at h2
    rw [eb] at h3
    by_cases e : j = d
    · rw [if_pos e] at h1 h2 h3
      exact Or.inr ⟨h1.symm, h2.symm, h3.symm⟩
    · rw [if_neg e] at h1 h2 h3
      exact Or.inl ⟨j, by omega, h1, h2, h3⟩
  · rintro (⟨j, hj, h1, h2, h3⟩ | ⟨h1, h2, h3⟩)
    · exact ⟨j, by omega, by rw [ef, if_neg (by omega)]; exact h1, by rw [eg, if_neg (by omega)]; exact h2, by rw [eb, if_neg (by omega)]; exact h3⟩
    · exact ⟨d, by omega, by rw [ef, if_pos rfl, h1], by rw [eg, if_pos rfl, h2], by rw [eb, if_pos rfl, h3]⟩
theorem inj_add {d : Nat} {f f' : Nat → Int32} {a1 : Int32} (ef : ∀ j, f' j = if j = d then a1 else f j) (hi : ∀ a b, a < d → b < d → f a = f b → a = b) (hn : ∀ p, p < d → ¬ f p = a1) : ∀ a b, a < d + 1 → b < d + 1 → f' a = f' b → a = b := by
  intro a b ha hb h
  rw [ef, ef] at h
  by_cases e1 : a = d <;> by_cases e2 : b = d
  · omega
  · rw [if_pos e1, if_neg e2] at h
    exact absurd h.symm (hn b (by omega))
  · rw [if_neg e1, if_pos e2] at h
    exact absurd h (hn a (by omega))
  · rw [if_neg e1, if_neg e2] at h
    exact hi a b (by omega) (by omega) h
theorem k_disturb (h : CI E T A B L) (a1 a2 a3 : Int32) : ANS E (T + 100) 66 [some (.ref (aK E 0)), some (.int a1), some (.int a2), some (.int a3)] 133 [some (.ref (aS E 0)), some (.int a1), some (.int a2), some (.int a3), none] A B := by
  have h1 := h.thr
  generalize hB1 : uS B 0 0 0 = B1 at h1
  obtain ⟨c1, c2, c3, ⟨t, d1, d2⟩, e, f, l, g1, gl⟩ := h1
  have h1' : CI E T A B1 L := ⟨c1, c2, c3, ⟨t, d1, d2⟩, e, f, l, g1, gl⟩
  obtain ⟨hG1, hNT, ⟨d, R, hC, hR, hcond⟩, hML, hTM, hPS, hPN⟩ := c1.1
  have h60 := hC.1
  have gone : sS B1 0 39 = sK A 0 6 := hNT.2.1
  -- the same number is told on both sides
  have fnd : (∃ p, p < d ∧ sK A 4 p = a1) ↔ ∃ p, p < d ∧ sS B1 34 p = a1 := by
    constructor
    · rintro ⟨p, p1, p2⟩
      obtain ⟨j, j1, j2, _⟩ := (hR.2.2.2 _ _ _).2 ((hC.2.2.2 _ _ _).1 ⟨p, p1, p2, rfl, rfl⟩)
      exact ⟨j, j1, j2⟩
    · rintro ⟨p, p1, p2⟩
      obtain ⟨j, j1, j2, _⟩ := (hC.2.2.2 _ _ _).2 ((hR.2.2.2 _ _ _).1 ⟨p, p1, p2, rfl, rfl⟩)
      exact ⟨j, j1, j2⟩
  generalize hinv : (a1 < sK A 0 6 ∨ a2 < 0 ∨ ¬ a2 ≤ 2 ∨ (∃ p, p < d ∧ sK A 4 p = a1) ∨ (a2 = 2 ∧ (a3 < 1 ∨ ¬ a3 ≤ 20))) = inv
  have crun : ∀ B0 K, (inv → K (some (.int (-1))) (mix A B0)) → (¬ inv → ES E 24 0 [some (.ref (aK E 3)), some (.int a1), some (.int a2), some (.int a3)] [] (mix A B0) (fun r S10 => ∃ x11 : Int32, r = some (.int x11) ∧ ((x11 = 0 → (K (some (.int (-3))) S10)) ∧ (¬ x11 = 0 → (K (some (.int (sK S10 3 3))) S10))))) → ES E 66 0 [some (.ref (aK E 0)), some (.int a1), some (.int a2), some (.int a3)] [] (mix A B0) K := by
    intro B0 K f0 f1
    subst hinv
    have e6 : sK (mix A B0) 0 6 = sK A 0 6 := mxK _ _ _ _
    refine T66 ?_
    rw [e6]
    refine ⟨fun y => f0 (Or.inl y), fun y1 => ⟨fun y => f0 (Or.inr (Or.inl y)), fun y2 => ⟨fun y => f0 (Or.inr (Or.inr (Or.inl (nge.2 y)))), fun y3 => ?_⟩⟩⟩
    rcases c_find (E := E) hC a1 with ⟨p, p1, p2, p3⟩ | ⟨p1, p2⟩
    · exact p3 B0 _ ⟨_, rfl, fun y => absurd y (nI_pos (by omega)), fun _ => f0 (Or.inr (Or.inr (Or.inr (Or.inl ⟨p, p1, p2⟩))))⟩
    · refine p2 B0 _ ⟨_, rfl, fun _ => ⟨fun y4 => ⟨fun y => f0 (Or.inr (Or.inr (Or.inr (Or.inr ⟨y4, Or.inl y⟩)))), fun y5 => ⟨fun y6 => f1 ?_, fun y => f0 (Or.inr (Or.inr (Or.inr (Or.inr ⟨y4, Or.inr y⟩))))⟩⟩, fun y4 => f1 ?_⟩, fun y => absurd (by decide) y⟩
      · rintro (w | w | w | ⟨p, w1, w2⟩ | ⟨_, w | w⟩)
        · exact y1 w
        · exact y2 w
        · exact y3 (nge.1 w)
        · exact p1 p w1 w2
        · exact y5 w
        · exact w y6
      · rintro (w | w | w | ⟨p, w1, w2⟩ | ⟨w, _⟩)
        · exact y1 w
        · exact y2 w
        · exact y3 (nge.1 w)
        · exact p1 p w1 w2
        · exact y4 w
  have rrun : ∀ A0 K, (inv → K (some (.int (-1))) (mix A0 B1)) → (¬ inv → ES E 133 47 [some (.ref (aS E 0)), some (.int a1), some (.int a2), some (.int a3), some (.int (nI d))] [] (mix A0 B1) K) → ES E 133 0 [some (.ref (aS E 0)), some (.int a1), some (.int a2), some (.int a3), none] [] (mix A0 B) K := by
    intro A0 K f0 f1
    subst hinv
    have m45 : sS (mix A0 B1) 0 45 = nI d := hR.2.1
    have m34 : ∀ l, sS (mix A0 B1) 34 l = sS B1 34 l := fun l => mxS _ _ _ _
    have srch : ¬ (a1 < sK A 0 6) → ¬ a2 < 0 → a2 ≤ 2 → (a2 = 2 → ¬ a3 < 1 ∧ a3 ≤ 20) → ∀ n j, j + n = d → (∀ p, p < j → ¬ sS B1 34 p = a1) → ES E 133 47 [some (.ref (aS E 0)), some (.int a1), some (.int a2), some (.int a3), some (.int (nI j))] [] (mix A0 B1) K := by
      intro w1 w2 w3 w4 n
      induction n with
      | zero =>
        intro j hj hp
        have ej : j = d := by omega
        subst ej
        refine f1 ?_
        rintro (w | w | w | w | ⟨x1, x2 | x2⟩)
        · exact w1 w
        · exact w2 w
        · exact w w3
        · obtain ⟨p, p1, p2⟩ := fnd.1 w
          exact hp p p1 p2
        · exact (w4 x1).1 x2
        · exact x2 (w4 x1).2
      | succ n ih =>
        intro j hj hp
        have cj : (nI j).toNatClampNeg = j := nI_clamp (by omega)
        refine T133_47 ⟨fun y => ?_, fun _ => ?_⟩
        · rw [m45, le_n (by omega) (by omega)] at y
          omega
        · rw [cj, m34, nI_1]
          refine ⟨⟨nI_pos (by omega), by omega⟩, fun y => f0 (Or.inr (Or.inr (Or.inr (Or.inl (fnd.2 ⟨j, by omega, y⟩))))), fun y => ih (j + 1) (by omega) (fun p x => ?_)⟩
          by_cases ep : p = j
          · subst ep
            exact y
          · exact hp p (by omega)
    refine T133 ?_
    rintro _ rfl
    have e39 : sS (mix A0 B1) 0 39 = sK A 0 6 := gone
    rw [pS, hB1, e39, q0, g2 a2, q1, g20]
    refine ⟨fun y => f0 (Or.inl y), fun y1 => ⟨fun y => f0 (Or.inr (Or.inl y)), fun y2 => ⟨fun y => f0 (Or.inr (Or.inr (Or.inl y))), fun y3 => ⟨fun y4 => ⟨fun y => f0 (Or.inr (Or.inr (Or.inr (Or.inr ⟨y4, Or.inl y⟩)))), fun y5 => ⟨fun y => f0 (Or.inr (Or.inr (Or.inr (Or.inr ⟨y4, Or.inr y⟩)))), fun y6 => ?_⟩⟩, fun y4 => ?_⟩⟩⟩⟩
    · exact srch y1 y2 (Decidable.not_not.1 y3) (fun _ => ⟨y5, Decidable.not_not.1 y6⟩) d 0 (by omega) (fun p hp => by omega)
    · exact srch y1 y2 (Decidable.not_not.1 y3) (fun w => absurd w y4) d 0 (by omega) (fun p hp => by omega)
  by_cases hi : inv
  · exact ⟨-1, A, B1, L, fun B0 K hK => crun B0 K (fun _ => hK) (fun y => absurd hi y), fun A0 K hK => rrun A0 K (fun _ => hK) (fun y => absurd hi y), h1'.mono (by omega)⟩
  · have m3 : ∀ B0, sK (mix A B0) 3 3 = nI d := fun B0 => hC.2.1
    have m45 : ∀ A0, sS (mix A0 B1) 0 45 = nI d := fun A0 => hR.2.1
    have cd : (nI d).toNatClampNeg = d := nI_clamp (by omega)
    by_cases full : d = 60
    · refine ⟨-3, A, B1, L, fun B0 K hK => crun B0 K (fun y => absurd y hi) (fun _ => T24 ⟨fun y => ?_, fun _ => ⟨_, rfl, fun _ => hK, fun y => absurd rfl y⟩⟩), fun A0 K hK => rrun A0 K (fun y => absurd y hi) (fun _ => T133_47 ⟨fun _ => ⟨fun _ => hK, fun y => absurd ?_ y⟩, fun y => absurd ?_ y⟩), h1'.mono (by omega)⟩
      · rw [m3, full] at y
        exact absurd y (by decide)
      · rw [m45, full]
        rfl
      · rw [m45]
        exact Int32.le_refl _
    · generalize hA2 : uK (uK (uK (uK A 4 d a1) 5 d a2) 6 d a3) 3 3 (nI (d + 1)) = A2
      generalize hB2 : uS (uS (uS (uS B1 34 d a1) 35 d a2) 36 d a3) 0 45 (nI (d + 1)) = B2
      have oK : ∀ v l, ¬ (3 ≤ v ∧ v ≤ 6) → sK A2 v l = sK A v l := fun v l y => by rw [← hA2, rKo _ (by omega), rKo _ (by omega), rKo _ (by omega), rKo _ (by omega)]
      have oB : ∀ v l, ¬ (34 ≤ v ∧ v ≤ 36) → ¬ (v = 0 ∧ l = 45) → sS B2 v l = sS B1 v l := fun v l y1 y2 => by rw [← hB2, rSo _ (by omega), rSo _ (by omega), rSo _ (by omega), rSo _ (by omega)]
      have oF : FKk A A2 := hA2 ▸ (((FKk.u _ _ _ _).tr (FKk.u _ _ _ _)).tr (FKk.u _ _ _ _)).tr (FKk.u _ _ _ _)
      have hW : ∀ l, sW B2 l = sW B1 l := fun l => by rw [← hB2, fWS, fWS, fWS, fWS]
      have k33 : sK A2 3 3 = nI (d + 1) := by rw [← hA2, rKs]
      have s45 : sS B2 0 45 = nI (d + 1) := by rw [← hB2, rSs]
      have ifd : ∀ {x y : Int32} {j v : Nat}, (if v = v ∧ j = d then x else y) = if j = d then x else y := fun {x y j v} => by
        by_cases e : j = d
        · rw [if_pos ⟨rfl, e⟩, if_pos e]
        · rw [if_neg (fun w => e w.2), if_neg e]
      have k4 : ∀ j, sK A2 4 j = if j = d then a1 else sK A 4 j := fun j => by rw [← hA2, rKo _ (by omega), rKo _ (by omega), rKo _ (by omega), rK, ifd]
      have k5 : ∀ j, sK A2 5 j = if j = d then a2 else sK A 5 j := fun j => by rw [← hA2, rKo _ (by omega), rKo _ (by omega), rK, ifd, rKo _ (by omega)]
      have k6 : ∀ j, sK A2 6 j = if j = d then a3 else sK A 6 j := fun j => by rw [← hA2, rKo _ (by omega), rK, ifd, rKo _ (by omega), rKo _ (by omega)]
      have s34 : ∀ j, sS B2 34 j = if j = d then a1 else sS B1 34 j := fun j => by rw [← hB2, rSo _ (by omega), rSo _ (by omega), rSo _ (by omega), rS, ifd]
      have s35 : ∀ j, sS B2 35 j = if j = d then a2 else sS B1 35 j := fun j => by rw [← hB2, rSo _ (by omega), rSo _ (by omega), rS, ifd, rSo _ (by omega)]
      have s36 : ∀ j, sS B2 36 j = if j = d then a3 else sS B1 36 j := fun j => by rw [← hB2, rSo _ (by omega), rS, ifd, rSo _ (by omega), rSo _ (by omega)]
      have nf : ¬ ∃ p, p < d ∧ sK A 4 p = a1 := fun w => hi (by rw [← hinv]; exact Or.inr (Or.inr (Or.inr (Or.inl w))))
      have nf2 : ¬ ∃ p, p < d ∧ sS B1 34 p = a1 := fun w => nf (fnd.2 w)
      have hGT : GT A2 B2 := by
        refine ⟨d + 1, fun x k y => R x k y ∨ (x = a1 ∧ k = a2 ∧ y = a3), ⟨by omega, k33, inj_add k4 hC.2.2.1 (fun p x y => nf ⟨p, x, y⟩), fun x k y => ?_⟩, ⟨by omega, s45, inj_add s34 hR.2.2.1 (fun p x y => nf2 ⟨p, x, y⟩), fun x k y => ?_⟩, fun x k y w hk => ?_⟩
        · rw [td_add k4 k5 k6 x k y, hC.2.2.2]
        · rw [td_add s34 s35 s36 x k y, hR.2.2.2]
        · rcases w with w | ⟨_, w2, w3⟩
          · exact hcond x k y w hk
          · have n5 : ¬ (a2 = 2 ∧ (a3 < 1 ∨ ¬ a3 ≤ 20)) := fun v => hi (by rw [← hinv]; exact Or.inr (Or.inr (Or.inr (Or.inr v))))
            have e2 : a2 = 2 := w2.symm.trans hk
            refine ⟨?_, ?_⟩
            · rw [w3]
              exact nlt.1 (fun v => n5 ⟨e2, Or.inl v⟩)
            · rw [w3]
              by_cases v : a3 ≤ 20
              · exact v
              · exact absurd ⟨e2, Or.inr v⟩ n5
      obtain ⟨u, m1, m2, m3', m4, m5⟩ := hML
      have hS2 : Sim E A2 B2 L L := by
        obtain ⟨_, b, c, rg, rest⟩ := c1
        refine ⟨⟨⟨by rw [oB _ _ (by omega) (by omega)]; exact hG1.1, by rw [oK _ _ (by omega)]; exact hG1.2.1, hG1.2.2⟩, ?_, hGT, ⟨u, m1.fr (oK _ _ (by omega)) oF.2.2.1 oF.2.2.2.1 oF.2.2.2.2, m2.fr (oB _ _ (by omega) (by omega)) (fun v k _ _ => oB v k (by omega) (by omega)), by rw [oK _ _ (by omega)]; exact m3', by rw [oB _ _ (by omega) (by omega)]; exact m4, m5⟩, ?_, fun j hj => (hPS j hj).fr (fun c k _ _ => oF.1 _ _ _) (oB _ _ (by omega) (by omega)) (oB _ _ (by omega) (by omega)) (fun _ _ _ _ _ _ => ⟨oB _ _ (by omega) (by omega), oB _ _ (by omega) (by omega)⟩), fun j hj => by rw [oF.1]; exact hPN j hj⟩, b.fr oF.2.1 (fun l => oB 2 l (by omega) (by omega)) (fun j d l z => oF.1 _ _ _) (fun p => oB 17 p (by omega) (by omega)) (fun p => oB 18 p (by omega) (by omega)), c.fr (fun l => oB 2 l (by omega) (by omega)) (fun j d l z1 z2 => oF.1 _ _ _) (fun p => oB 19 p (by omega) (by omega)) (fun p => oB 20 p (by omega) (by omega)), rg.fr (fun v l _ => oK v l (by omega)) (oK 0 7 (by omega)) (fun l => oB 1 l (by omega) (by omega)) (fun l => oB 37 l (by omega) (by omega)) (fun l _ => oB 0 l (by omega) (by omega)), fun j hj => ⟨(rest j hj).1.fr (oF.1 _ _ _) (oF.1 _ _ _) (oF.1 _ _ _) (fun d l _ => oF.1 _ _ _) (fun v l _ => oK v l (by omega)) (fun v z => oB v j (by omega) (by omega)) (fun v h _ _ _ => oB v _ (by omega) (by omega)) (fun h _ => hW _), (rest j hj).2.fr (oF.1 _ _ _) (oF.1 _ _ _) (fun d l _ _ => oF.1 _ _ _) (fun v z => oB v j (by omega) (by omega)) (fun k hk => oB 12 _ (by omega) (by omega))⟩⟩
        · unfold NT at hNT ⊢
          rw [oK 0 5 (by omega), oK 0 6 (by omega), oK 0 8 (by omega), oK 0 9 (by omega), oK 0 10 (by omega), oK 0 11 (by omega), oB 0 3 (by omega) (by omega), oB 0 39 (by omega) (by omega), oB 0 41 (by omega) (by omega), oB 0 46 (by omega) (by omega), oB 0 47 (by omega) (by omega), oB 0 48 (by omega) (by omega)]
          exact hNT
        · obtain ⟨tt, t1, t2⟩ := hTM
          exact ⟨tt, t1, by rw [oK _ _ (by omega)]; exact t2⟩
      have lt60 : nI d < 60 := by rw [show (60 : Int32) = nI 60 from rfl, nI_ltI (by omega) (by omega)]; omega
      refine ⟨nI (d + 1), A2, B2, L, fun B0 K hK => crun B0 K (fun y => absurd y hi) (fun _ => T24 ⟨fun _ => ?_, fun y => absurd (by rw [m3]; exact lt60) y⟩), fun A0 K hK => rrun A0 K (fun y => absurd y hi) (fun _ => T133_47 ⟨fun _ => ⟨fun y => ?_, fun _ => ?_⟩, fun y => absurd (by rw [m45]; exact Int32.le_refl _) y⟩), ⟨hS2, fun j hj => by rw [oF.1]; exact c2 j hj, by rw [oK _ _ (by omega)]; exact c3, ⟨t, by omega, by rw [oK _ _ (by omega)]; exact d2⟩, fun j hj => ?_, fun y j hj => ?_, l, by omega, by rw [oK _ _ (by omega)]; exact gl⟩⟩
      · have r1 : sK (uK (mix A B0) 4 d a1) 3 3 = nI d := by rw [rKo _ (by omega), m3]
        have r2 : sK (uK (uK (mix A B0) 4 d a1) 5 d a2) 3 3 = nI d := by rw [rKo _ (by omega), r1]
        have r3 : sK (uK (uK (uK (mix A B0) 4 d a1) 5 d a2) 6 d a3) 3 3 = nI d := by rw [rKo _ (by omega), r2]
        rw [m3, cd]
        refine ⟨⟨nI_pos (by omega), by omega⟩, ?_⟩
        rintro _ rfl
        rw [r1, cd]
        refine ⟨⟨nI_pos (by omega), by omega⟩, ?_⟩
        rintro _ rfl
        rw [r2, cd]
        refine ⟨⟨nI_pos (by omega), by omega⟩, ?_⟩
        rintro _ rfl
        rw [r3, nI_1]
        rintro _ rfl
        refine ⟨_, rfl, fun y => absurd y one0, fun _ => ?_⟩
        rw [pK, pK, pK, pK, hA2, mxK, k33]
        exact hK
      · rw [m45, show (60 : Int32) = nI 60 from rfl, nI_eq (by omega) (by omega)] at y
        exact absurd y full
      · have r1 : sS (uS (mix A0 B1) 34 d a1) 0 45 = nI d := by rw [rSo _ (by omega), m45]
        have r2 : sS (uS (uS (mix A0 B1) 34 d a1) 35 d a2) 0 45 = nI d := by rw [rSo _ (by omega), r1]
        have r3 : sS (uS (uS (uS (mix A0 B1) 34 d a1) 35 d a2) 36 d a3) 0 45 = nI d := by rw [rSo _ (by omega), r2]
        rw [m45, cd]
        refine ⟨⟨nI_pos (by omega), by omega⟩, ?_⟩
        rintro _ rfl
        rw [r1, cd]
        refine ⟨⟨nI_pos (by omega), by omega⟩, ?_⟩
        rintro _ rfl
        rw [r2, cd]
        refine ⟨⟨nI_pos (by omega), by omega⟩, ?_⟩
        rintro _ rfl
        rw [r3, nI_1]
        rintro _ rfl
        rw [pS, pS, pS, pS, hB2, mxS, s45]
        exact hK
      · rw [oB _ _ (by omega) (by omega), oB _ _ (by omega) (by omega), oK _ _ (by omega)]
        rcases e j hj with y | ⟨x, x1, x2, x3⟩
        · exact Or.inl y
        · exact Or.inr ⟨x, by omega, x2, x3⟩
      · rw [oK _ _ (by omega)] at y
        rw [oB _ _ (by omega) (by omega), oB _ _ (by omega) (by omega), oB _ _ (by omega) (by omega)]
        exact f y j hj
end Weight
