/-! ===== calls: what is asked, second part ===== -/
section AskL
variable {E : mE} {A B B1 : mS} {L : List Mg} {T : Nat}
theorem k_node (h : CI E T A B L) (hT : T ≤ 50000) (a1 a2 : Int32) : ANS E (T + 100) 81 [some (.ref (aK E 0)), some (.int a1), some (.int a2), none] 137 [some (.ref (aS E 0)), some (.int a1), some (.int a2)] A B := by
  have h1 := h.thr
  generalize hB1 : uS B 0 0 0 = B1 at h1
  have hn := h1.1.1.1.2.2.2
  rcases nodeK h1 a1 with ⟨c1, r1⟩ | ⟨i, hi, rfl, c1, r1⟩
  · refine ANS.same h1 (-1) (fun B0 K hK => T81 (c1 B0 _ _ hK)) (fun A0 K hK => T137 ?_)
    rintro _ rfl
    rw [pS, hB1]
    exact r1 A0 _ _ hK
  have ci : (nI i).toNatClampNeg = i := nI_clamp (by omega)
  have z0 : ¬ nI i < 0 := nI_pos (by omega)
  have none13 : (∀ k, k < 13 → ¬ a2 = nI k) → ∀ (B0 : mS) (K : Option Value → mS → Prop), K (some (.int (-1))) (mix A B0) → ES E 81 0 [some (.ref (aK E 0)), some (.int (nI i)), some (.int a2), none] [] (mix A B0) K := fun ne B0 K hK => T81 (c1 B0 _ _ ⟨⟨z0, by rw [ci]; exact hi⟩, fun e => absurd e (ne 0 (by decide)), fun e => absurd e (ne 1 (by decide)), fun e => absurd e (ne 2 (by decide)), fun e => absurd e (ne 3 (by decide)), fun e => absurd e (ne 4 (by decide)), fun e => absurd e (ne 5 (by decide)), fun e => absurd e (ne 6 (by decide)), fun e => absurd e (ne 7 (by decide)), fun e => absurd e (ne 8 (by decide)), fun e => absurd e (ne 9 (by decide)), fun e => absurd e (ne 10 (by decide)), fun e => absurd e (ne 11 (by decide)), fun e => absurd e (ne 12 (by decide)), fun _ _ _ _ _ _ _ _ _ _ _ _ _ => hK⟩)
  rcases aq_rng a2 (n := 13) (by omega) with y | ⟨y0, y⟩ | ⟨k, hk, rfl⟩
  · refine ANS.same h1 (-1) (none13 (fun k hk e => by rw [e] at y; exact absurd y (nI_pos (by omega)))) (fun A0 K hK => T137 ?_)
    rintro _ rfl
    rw [pS, hB1]
    exact r1 A0 _ _ (aq_T ((q0 a2).2 y) hK)
  · refine ANS.same h1 (-1) (none13 (fun k hk e => by rw [e, le_n (by omega) (by omega)] at y; omega)) (fun A0 K hK => T137 ?_)
    rintro _ rfl
    rw [pS, hB1]
    have y12 : ¬ a2 ≤ 12 := fun w => by
      rw [Int32.le_iff_toInt_le] at w y
      rw [show (12 : Int32).toInt = 12 from rfl] at w
      rw [show (nI 13).toInt = 13 from rfl] at y
      omega
    exact r1 A0 _ _ (aq_F (aq_n (q0 a2).1 y0) (aq_T ((g12 a2).2 y12) hK))
  have y0 : ¬ nI k < 0 := nI_pos (by omega)
  have y12 : ¬ ¬ nI k ≤ 12 := fun w => w (by rw [show (12 : Int32) = nI 12 from rfl, le_n (by omega) (by omega)]; omega)
  -- behind the tests
  have go : ∀ x, (∀ (B0 : mS) (K : Option Value → mS → Prop), K (some (.int x)) (mix A B0) → ES E 81 0 [some (.ref (aK E 0)), some (.int (nI i)), some (.int (nI k)), none] [] (mix A B0) K) → (∀ (A0 : mS) (K : Option Value → mS → Prop), K (some (.int x)) (mix A0 B1) → ES E 137 0 [some (.ref (aS E 0)), some (.int (nI i)), some (.int (nI k))] [] (mix A0 B) K) → ANS E (T + 100) 81 [some (.ref (aK E 0)), some (.int (nI i)), some (.int (nI k)), none] 137 [some (.ref (aS E 0)), some (.int (nI i)), some (.int (nI k))] A B := fun x c r => ANS.same h1 x c r
  obtain ⟨g, g1, g2, hgA, hgB⟩ := (h1.1.2.2.2.2 i hi).1.1
  obtain ⟨r, hr, hrA, hrB⟩ := (h1.1.2.2.2.2 i hi).2.1
  obtain ⟨⟨s, hs, hsA, hsB⟩, -⟩ := (h1.1.2.2.2.2 i hi).2.2.1
  obtain ⟨lk1, lk2, -⟩ := (h1.1.2.2.2.2 i hi).1.2.2.2.1
  obtain ⟨va1, va2, -⟩ := (h1.1.2.2.2.2 i hi).2.2.2.1 r hr hrB
  have hbe : sN A i 0 7 = sS B1 11 i := (h1.1.2.2.2.2 i hi).1.2.1
  have hti := (h1.1.2.2.2.2 i hi).2.2.2.2.1
  have hse := (h1.1.1.2.2.2.2.2.1 i hi).1
  have hcu : (sS B1 10 i = 0 → (if (0 : Int32) < (sN A i 0 8 - sK A 0 5) then (sN A i 0 8 - sK A 0 5) else 0) = 0) ∧ (¬ sS B1 10 i = 0 → (if (0 : Int32) < (sN A i 0 8 - sK A 0 5) then (sN A i 0 8 - sK A 0 5) else 0) = sS B1 9 i - sS B1 0 3) := by
    obtain ⟨t, t1, t2⟩ := h1.2.2.2.1
    have t3 : sS B1 0 3 = sK A 0 5 := h1.1.1.2.1.1
    rw [t3, t2]
    rcases (h1.1.2.2.2.2 i hi).1.2.2.1 with ⟨x1, x2, x3⟩ | ⟨x1, x2⟩
    · refine ⟨fun y => absurd (x1.symm.trans y) one0, fun _ => ?_⟩
      rcases h1.2.2.2.2.1 i hi with w | ⟨c, w1, w2, w3⟩
      · exact absurd (x1.symm.trans w) one0
      · rw [t2, le_n (by omega) (by omega)] at w3
        rw [x2, w2, pk_sub w3]
        by_cases q : c - t = 0
        · rw [q]
          rfl
        · exact if_pos (by rw [il0, nI_ltI (by omega) (by omega)]; omega)
    · refine ⟨fun _ => ?_, fun y => absurd x1 y⟩
      rw [x2]
      refine if_neg (fun q => ?_)
      rw [Int32.lt_iff_toInt_lt, il0, pk_sub_toInt (by omega) (by omega)] at q
      rw [show (nI 0).toInt = 0 from rfl] at q
      omega
  rcases (by omega : k = 0 ∨ k = 1 ∨ k = 2 ∨ k = 3 ∨ k = 4 ∨ k = 5 ∨ k = 6 ∨ k = 7 ∨ k = 8 ∨ k = 9 ∨ k = 10 ∨ k = 11 ∨ k = 12) with rfl | rfl | rfl | rfl | rfl | rfl | rfl | rfl | rfl | rfl | rfl | rfl | rfl
  · refine go (sS B1 2 i) (fun B0 K hK => T81 (c1 B0 _ _ ⟨⟨z0, by rw [ci]; exact hi⟩, fun _ => ?_, fun e => absurd e (by decide), fun e => absurd e (by decide), fun e => absurd e (by decide), fun e => absurd e (by decide), fun e => absurd e (by decide), fun e => absurd e (by decide), fun e => absurd e (by decide), fun e => absurd e (by decide), fun e => absurd e (by decide), fun e => absurd e (by decide), fun e => absurd e (by decide), fun e => absurd e (by decide), fun n => absurd rfl n⟩)) (fun A0 K hK => T137 ?_)
    · rw [ci, show sN (mix A B0) i 0 2 = sS B1 2 i from hgA.trans hgB.symm]
      exact hK
    · rintro _ rfl
      rw [pS, hB1]
      refine r1 A0 _ _ (aq_F (aq_n (q0 _).1 y0) (aq_F (aq_n (g12 _).1 y12) ⟨fun _ => ?_, fun e => absurd e (by decide), fun e => absurd e (by decide), fun e => absurd e (by decide), fun e => absurd e (by decide), fun e => absurd e (by decide), fun e => absurd e (by decide), fun e => absurd e (by decide), fun e => absurd e (by decide), fun e => absurd e (by decide), fun e => absurd e (by decide), fun e => absurd e (by decide), fun e => absurd e (by decide), fun n => absurd rfl n⟩))
      rw [ci]
      exact ⟨⟨z0, by omega⟩, hK⟩
  · refine go (sS B1 3 i) (fun B0 K hK => T81 (c1 B0 _ _ ⟨⟨z0, by rw [ci]; exact hi⟩, fun e => absurd e (by decide), fun _ => ?_, fun e => absurd e (by decide), fun e => absurd e (by decide), fun e => absurd e (by decide), fun e => absurd e (by decide), fun e => absurd e (by decide), fun e => absurd e (by decide), fun e => absurd e (by decide), fun e => absurd e (by decide), fun e => absurd e (by decide), fun e => absurd e (by decide), fun e => absurd e (by decide), fun _ n => absurd rfl n⟩)) (fun A0 K hK => T137 ?_)
    · rw [ci, show sN (mix A B0) i 0 3 = sS B1 3 i from hrA.trans hrB.symm]
      exact hK
    · rintro _ rfl
      rw [pS, hB1]
      refine r1 A0 _ _ (aq_F (aq_n (q0 _).1 y0) (aq_F (aq_n (g12 _).1 y12) ⟨fun e => absurd e (by decide), fun _ => ?_, fun e => absurd e (by decide), fun e => absurd e (by decide), fun e => absurd e (by decide), fun e => absurd e (by decide), fun e => absurd e (by decide), fun e => absurd e (by decide), fun e => absurd e (by decide), fun e => absurd e (by decide), fun e => absurd e (by decide), fun e => absurd e (by decide), fun e => absurd e (by decide), fun _ n => absurd rfl n⟩))
      rw [ci]
      exact ⟨⟨z0, by omega⟩, hK⟩
  · refine go (sS B1 4 i) (fun B0 K hK => T81 (c1 B0 _ _ ⟨⟨z0, by rw [ci]; exact hi⟩, fun e => absurd e (by decide), fun e => absurd e (by decide), fun _ => ?_, fun e => absurd e (by decide), fun e => absurd e (by decide), fun e => absurd e (by decide), fun e => absurd e (by decide), fun e => absurd e (by decide), fun e => absurd e (by decide), fun e => absurd e (by decide), fun e => absurd e (by decide), fun e => absurd e (by decide), fun e => absurd e (by decide), fun _ _ n => absurd rfl n⟩)) (fun A0 K hK => T137 ?_)
    · rw [ci, show sN (mix A B0) i 0 4 = sS B1 4 i from hsA.trans hsB.symm]
      exact hK
    · rintro _ rfl
      rw [pS, hB1]
      refine r1 A0 _ _ (aq_F (aq_n (q0 _).1 y0) (aq_F (aq_n (g12 _).1 y12) ⟨fun e => absurd e (by decide), fun e => absurd e (by decide), fun _ => ?_, fun e => absurd e (by decide), fun e => absurd e (by decide), fun e => absurd e (by decide), fun e => absurd e (by decide), fun e => absurd e (by decide), fun e => absurd e (by decide), fun e => absurd e (by decide), fun e => absurd e (by decide), fun e => absurd e (by decide), fun e => absurd e (by decide), fun _ _ n => absurd rfl n⟩))
      rw [ci]
      exact ⟨⟨z0, by omega⟩, hK⟩
  · refine go (sS B1 5 i) (fun B0 K hK => T81 (c1 B0 _ _ ⟨⟨z0, by rw [ci]; exact hi⟩, fun e => absurd e (by decide), fun e => absurd e (by decide), fun e => absurd e (by decide), fun _ => ?_, fun e => absurd e (by decide), fun e => absurd e (by decide), fun e => absurd e (by decide), fun e => absurd e (by decide), fun e => absurd e (by decide), fun e => absurd e (by decide), fun e => absurd e (by decide), fun e => absurd e (by decide), fun e => absurd e (by decide), fun _ _ _ n => absurd rfl n⟩)) (fun A0 K hK => T137 ?_)
    · rw [ci, show sN (mix A B0) i 1 0 = sS B1 5 i from lk1]
      exact hK
    · rintro _ rfl
      rw [pS, hB1]
      refine r1 A0 _ _ (aq_F (aq_n (q0 _).1 y0) (aq_F (aq_n (g12 _).1 y12) ⟨fun e => absurd e (by decide), fun e => absurd e (by decide), fun e => absurd e (by decide), fun _ => ?_, fun e => absurd e (by decide), fun e => absurd e (by decide), fun e => absurd e (by decide), fun e => absurd e (by decide), fun e => absurd e (by decide), fun e => absurd e (by decide), fun e => absurd e (by decide), fun e => absurd e (by decide), fun e => absurd e (by decide), fun _ _ _ n => absurd rfl n⟩))
      rw [ci]
      exact ⟨⟨z0, by omega⟩, hK⟩
  · refine go (sS B1 6 i) (fun B0 K hK => T81 (c1 B0 _ _ ⟨⟨z0, by rw [ci]; exact hi⟩, fun e => absurd e (by decide), fun e => absurd e (by decide), fun e => absurd e (by decide), fun e => absurd e (by decide), fun _ => ?_, fun e => absurd e (by decide), fun e => absurd e (by decide), fun e => absurd e (by decide), fun e => absurd e (by decide), fun e => absurd e (by decide), fun e => absurd e (by decide), fun e => absurd e (by decide), fun e => absurd e (by decide), fun _ _ _ _ n => absurd rfl n⟩)) (fun A0 K hK => T137 ?_)
    · rw [ci, show sN (mix A B0) i 1 1 = sS B1 6 i from lk2]
      exact hK
    · rintro _ rfl
      rw [pS, hB1]
      refine r1 A0 _ _ (aq_F (aq_n (q0 _).1 y0) (aq_F (aq_n (g12 _).1 y12) ⟨fun e => absurd e (by decide), fun e => absurd e (by decide), fun e => absurd e (by decide), fun e => absurd e (by decide), fun _ => ?_, fun e => absurd e (by decide), fun e => absurd e (by decide), fun e => absurd e (by decide), fun e => absurd e (by decide), fun e => absurd e (by decide), fun e => absurd e (by decide), fun e => absurd e (by decide), fun e => absurd e (by decide), fun _ _ _ _ n => absurd rfl n⟩))
      rw [ci]
      exact ⟨⟨z0, by omega⟩, hK⟩
  · refine go (sS B1 7 i) (fun B0 K hK => T81 (c1 B0 _ _ ⟨⟨z0, by rw [ci]; exact hi⟩, fun e => absurd e (by decide), fun e => absurd e (by decide), fun e => absurd e (by decide), fun e => absurd e (by decide), fun e => absurd e (by decide), fun _ => ?_, fun e => absurd e (by decide), fun e => absurd e (by decide), fun e => absurd e (by decide), fun e => absurd e (by decide), fun e => absurd e (by decide), fun e => absurd e (by decide), fun e => absurd e (by decide), fun _ _ _ _ _ n => absurd rfl n⟩)) (fun A0 K hK => T137 ?_)
    · rw [ci, show sN (mix A B0) i 2 0 = sS B1 7 i from va1]
      exact hK
    · rintro _ rfl
      rw [pS, hB1]
      refine r1 A0 _ _ (aq_F (aq_n (q0 _).1 y0) (aq_F (aq_n (g12 _).1 y12) ⟨fun e => absurd e (by decide), fun e => absurd e (by decide), fun e => absurd e (by decide), fun e => absurd e (by decide), fun e => absurd e (by decide), fun _ => ?_, fun e => absurd e (by decide), fun e => absurd e (by decide), fun e => absurd e (by decide), fun e => absurd e (by decide), fun e => absurd e (by decide), fun e => absurd e (by decide), fun e => absurd e (by decide), fun _ _ _ _ _ n => absurd rfl n⟩))
      rw [ci]
      exact ⟨⟨z0, by omega⟩, hK⟩
  · refine go (sS B1 8 i) (fun B0 K hK => T81 (c1 B0 _ _ ⟨⟨z0, by rw [ci]; exact hi⟩, fun e => absurd e (by decide), fun e => absurd e (by decide), fun e => absurd e (by decide), fun e => absurd e (by decide), fun e => absurd e (by decide), fun e => absurd e (by decide), fun _ => ?_, fun e => absurd e (by decide), fun e => absurd e (by decide), fun e => absurd e (by decide), fun e => absurd e (by decide), fun e => absurd e (by decide), fun e => absurd e (by decide), fun _ _ _ _ _ _ n => absurd rfl n⟩)) (fun A0 K hK => T137 ?_)
    · rw [ci, show sN (mix A B0) i 2 1 = sS B1 8 i from va2]
      exact hK
    · rintro _ rfl
      rw [pS, hB1]
      refine r1 A0 _ _ (aq_F (aq_n (q0 _).1 y0) (aq_F (aq_n (g12 _).1 y12) ⟨fun e => absurd e (by decide), fun e => absurd e (by decide), fun e => absurd e (by decide), fun e => absurd e (by decide), fun e => absurd e (by decide), fun e => absurd e (by decide), fun _ => ?_, fun e => absurd e (by decide), fun e => absurd e (by decide), fun e => absurd e (by decide), fun e => absurd e (by decide), fun e => absurd e (by decide), fun e => absurd e (by decide), fun _ _ _ _ _ _ n => absurd rfl n⟩))
      rw [ci]
      exact ⟨⟨z0, by omega⟩, hK⟩
  · refine go (if sS B1 10 i = 0 then 0 else sS B1 9 i - sS B1 0 3) (fun B0 K hK => T81 (c1 B0 _ _ ⟨⟨z0, by rw [ci]; exact hi⟩, fun e => absurd e (by decide), fun e => absurd e (by decide), fun e => absurd e (by decide), fun e => absurd e (by decide), fun e => absurd e (by decide), fun e => absurd e (by decide), fun e => absurd e (by decide), fun _ => ?_, fun e => absurd e (by decide), fun e => absurd e (by decide), fun e => absurd e (by decide), fun e => absurd e (by decide), fun e => absurd e (by decide), fun _ _ _ _ _ _ _ n => absurd rfl n⟩)) (fun A0 K hK => T137 ?_)
    · rw [ci, mxN, mxK]
      by_cases w : sS B1 10 i = 0
      · rw [if_pos w] at hK
        rw [hcu.1 w]
        exact hK
      · rw [if_neg w] at hK
        rw [hcu.2 w]
        exact hK
    · rintro _ rfl
      rw [pS, hB1]
      refine r1 A0 _ _ (aq_F (aq_n (q0 _).1 y0) (aq_F (aq_n (g12 _).1 y12) ⟨fun e => absurd e (by decide), fun e => absurd e (by decide), fun e => absurd e (by decide), fun e => absurd e (by decide), fun e => absurd e (by decide), fun e => absurd e (by decide), fun e => absurd e (by decide), fun _ => ?_, fun e => absurd e (by decide), fun e => absurd e (by decide), fun e => absurd e (by decide), fun e => absurd e (by decide), fun e => absurd e (by decide), fun _ _ _ _ _ _ _ n => absurd rfl n⟩))
      rw [ci]
      refine ⟨⟨z0, by omega⟩, fun w => ?_, fun w => ?_⟩
      · rw [if_pos (show sS B1 10 i = 0 from w)] at hK
        exact hK
      · rw [if_neg (show ¬ sS B1 10 i = 0 from w)] at hK
        exact hK
  · refine go (sS B1 11 i) (fun B0 K hK => T81 (c1 B0 _ _ ⟨⟨z0, by rw [ci]; exact hi⟩, fun e => absurd e (by decide), fun e => absurd e (by decide), fun e => absurd e (by decide), fun e => absurd e (by decide), fun e => absurd e (by decide), fun e => absurd e (by decide), fun e => absurd e (by decide), fun e => absurd e (by decide), fun _ => ?_, fun e => absurd e (by decide), fun e => absurd e (by decide), fun e => absurd e (by decide), fun e => absurd e (by decide), fun _ _ _ _ _ _ _ _ n => absurd rfl n⟩)) (fun A0 K hK => T137 ?_)
    · rw [ci, show sN (mix A B0) i 0 7 = sS B1 11 i from hbe]
      exact hK
    · rintro _ rfl
      rw [pS, hB1]
      refine r1 A0 _ _ (aq_F (aq_n (q0 _).1 y0) (aq_F (aq_n (g12 _).1 y12) ⟨fun e => absurd e (by decide), fun e => absurd e (by decide), fun e => absurd e (by decide), fun e => absurd e (by decide), fun e => absurd e (by decide), fun e => absurd e (by decide), fun e => absurd e (by decide), fun e => absurd e (by decide), fun _ => ?_, fun e => absurd e (by decide), fun e => absurd e (by decide), fun e => absurd e (by decide), fun e => absurd e (by decide), fun _ _ _ _ _ _ _ _ n => absurd rfl n⟩))
      rw [ci]
      exact ⟨⟨z0, by omega⟩, hK⟩
  · refine go (sS B1 12 (3 * i + 0)) (fun B0 K hK => T81 (c1 B0 _ _ ⟨⟨z0, by rw [ci]; exact hi⟩, fun e => absurd e (by decide), fun e => absurd e (by decide), fun e => absurd e (by decide), fun e => absurd e (by decide), fun e => absurd e (by decide), fun e => absurd e (by decide), fun e => absurd e (by decide), fun e => absurd e (by decide), fun e => absurd e (by decide), fun _ => ?_, fun e => absurd e (by decide), fun e => absurd e (by decide), fun e => absurd e (by decide), fun _ _ _ _ _ _ _ _ _ n => absurd rfl n⟩)) (fun A0 K hK => T137 ?_)
    · rw [ci, show (0 : Int32).toNatClampNeg = 0 from rfl, show sN (mix A B0) i 3 0 = sS B1 12 (3 * i + 0) from (hti 0 (by omega)).1]
      exact ⟨⟨by decide, by decide⟩, hK⟩
    · rintro _ rfl
      rw [pS, hB1]
      refine r1 A0 _ _ (aq_F (aq_n (q0 _).1 y0) (aq_F (aq_n (g12 _).1 y12) ⟨fun e => absurd e (by decide), fun e => absurd e (by decide), fun e => absurd e (by decide), fun e => absurd e (by decide), fun e => absurd e (by decide), fun e => absurd e (by decide), fun e => absurd e (by decide), fun e => absurd e (by decide), fun e => absurd e (by decide), fun _ => ?_, fun e => absurd e (by decide), fun e => absurd e (by decide), fun e => absurd e (by decide), fun _ _ _ _ _ _ _ _ _ n => absurd rfl n⟩))
      have ei : 3 * nI i + nI 9 - 9 = nI (3 * i + 0) := by rw [il3, pk_mul, nI_add, show (9 : Int32) = nI 9 from rfl, pk_sub (by omega)]; exact congrArg nI (by omega)
      rw [ei, nI_clamp (show 3 * i + 0 < 2 ^ 31 by omega)]
      exact ⟨⟨nI_pos (by omega), by omega⟩, hK⟩
  · refine go (sS B1 12 (3 * i + 1)) (fun B0 K hK => T81 (c1 B0 _ _ ⟨⟨z0, by rw [ci]; exact hi⟩, fun e => absurd e (by decide), fun e => absurd e (by decide), fun e => absurd e (by decide), fun e => absurd e (by decide), fun e => absurd e (by decide), fun e => absurd e (by decide), fun e => absurd e (by decide), fun e => absurd e (by decide), fun e => absurd e (by decide), fun e => absurd e (by decide), fun _ => ?_, fun e => absurd e (by decide), fun e => absurd e (by decide), fun _ _ _ _ _ _ _ _ _ _ n => absurd rfl n⟩)) (fun A0 K hK => T137 ?_)
    · rw [ci, show (1 : Int32).toNatClampNeg = 1 from rfl, show sN (mix A B0) i 3 1 = sS B1 12 (3 * i + 1) from (hti 1 (by omega)).1]
      exact ⟨⟨by decide, by decide⟩, hK⟩
    · rintro _ rfl
      rw [pS, hB1]
      refine r1 A0 _ _ (aq_F (aq_n (q0 _).1 y0) (aq_F (aq_n (g12 _).1 y12) ⟨fun e => absurd e (by decide), fun e => absurd e (by decide), fun e => absurd e (by decide), fun e => absurd e (by decide), fun e => absurd e (by decide), fun e => absurd e (by decide), fun e => absurd e (by decide), fun e => absurd e (by decide), fun e => absurd e (by decide), fun e => absurd e (by decide), fun _ => ?_, fun e => absurd e (by decide), fun e => absurd e (by decide), fun _ _ _ _ _ _ _ _ _ _ n => absurd rfl n⟩))
      have ei : 3 * nI i + nI 10 - 9 = nI (3 * i + 1) := by rw [il3, pk_mul, nI_add, show (9 : Int32) = nI 9 from rfl, pk_sub (by omega)]; exact congrArg nI (by omega)
      rw [ei, nI_clamp (show 3 * i + 1 < 2 ^ 31 by omega)]
      exact ⟨⟨nI_pos (by omega), by omega⟩, hK⟩
  · refine go (sS B1 12 (3 * i + 2)) (fun B0 K hK => T81 (c1 B0 _ _ ⟨⟨z0, by rw [ci]; exact hi⟩, fun e => absurd e (by decide), fun e => absurd e (by decide), fun e => absurd e (by decide), fun e => absurd e (by decide), fun e => absurd e (by decide), fun e => absurd e (by decide), fun e => absurd e (by decide), fun e => absurd e (by decide), fun e => absurd e (by decide), fun e => absurd e (by decide), fun e => absurd e (by decide), fun _ => ?_, fun e => absurd e (by decide), fun _ _ _ _ _ _ _ _ _ _ _ n => absurd rfl n⟩)) (fun A0 K hK => T137 ?_)
    · rw [ci, show (2 : Int32).toNatClampNeg = 2 from rfl, show sN (mix A B0) i 3 2 = sS B1 12 (3 * i + 2) from (hti 2 (by omega)).1]
      exact ⟨⟨by decide, by decide⟩, hK⟩
    · rintro _ rfl
      rw [pS, hB1]
      refine r1 A0 _ _ (aq_F (aq_n (q0 _).1 y0) (aq_F (aq_n (g12 _).1 y12) ⟨fun e => absurd e (by decide), fun e => absurd e (by decide), fun e => absurd e (by decide), fun e => absurd e (by decide), fun e => absurd e (by decide), fun e => absurd e (by decide), fun e => absurd e (by decide), fun e => absurd e (by decide), fun e => absurd e (by decide), fun e => absurd e (by decide), fun e => absurd e (by decide), fun _ => ?_, fun e => absurd e (by decide), fun _ _ _ _ _ _ _ _ _ _ _ n => absurd rfl n⟩))
      have ei : 3 * nI i + nI 11 - 9 = nI (3 * i + 2) := by rw [il3, pk_mul, nI_add, show (9 : Int32) = nI 9 from rfl, pk_sub (by omega)]; exact congrArg nI (by omega)
      rw [ei, nI_clamp (show 3 * i + 2 < 2 ^ 31 by omega)]
      exact ⟨⟨nI_pos (by omega), by omega⟩, hK⟩
  · refine go (sS B1 16 i) (fun B0 K hK => T81 (c1 B0 _ _ ⟨⟨z0, by rw [ci]; exact hi⟩, fun e => absurd e (by decide), fun e => absurd e (by decide), fun e => absurd e (by decide), fun e => absurd e (by decide), fun e => absurd e (by decide), fun e => absurd e (by decide), fun e => absurd e (by decide), fun e => absurd e (by decide), fun e => absurd e (by decide), fun e => absurd e (by decide), fun e => absurd e (by decide), fun e => absurd e (by decide), fun _ => ?_, fun _ _ _ _ _ _ _ _ _ _ _ _ n => absurd rfl n⟩)) (fun A0 K hK => T137 ?_)
    · rw [ci, show sN (mix A B0) i 12 0 = sS B1 16 i from hse]
      exact hK
    · rintro _ rfl
      rw [pS, hB1]
      refine r1 A0 _ _ (aq_F (aq_n (q0 _).1 y0) (aq_F (aq_n (g12 _).1 y12) ⟨fun e => absurd e (by decide), fun e => absurd e (by decide), fun e => absurd e (by decide), fun e => absurd e (by decide), fun e => absurd e (by decide), fun e => absurd e (by decide), fun e => absurd e (by decide), fun e => absurd e (by decide), fun e => absurd e (by decide), fun e => absurd e (by decide), fun e => absurd e (by decide), fun e => absurd e (by decide), fun _ => ?_, fun _ _ _ _ _ _ _ _ _ _ _ _ n => absurd rfl n⟩))
      rw [ci]
      exact ⟨⟨z0, by omega⟩, hK⟩
theorem k_vote (h : CI E T A B L) (a1 a2 a3 a4 : Int32) : ANS E (T + 100) 82 [some (.ref (aK E 0)), some (.int a1), some (.int a2), some (.int a3), some (.int a4), none] 138 [some (.ref (aS E 0)), some (.int a1), some (.int a2), some (.int a3), some (.int a4), none] A B := by
  have h1 := h.thr
  generalize hB1 : uS B 0 0 0 = B1 at h1
  have hn := h1.1.1.1.2.2.2
  rcases nodeK h1 a1 with ⟨c1, r1⟩ | ⟨i, hi, rfl, c1, r1⟩
  · refine ANS.same h1 (-1) (fun B0 K hK => T82 (c1 B0 _ _ hK)) (fun A0 K hK => T138 ?_)
    rintro _ rfl
    rw [pS, hB1]
    exact r1 A0 _ _ hK
  rcases nodeK h1 a3 with ⟨c3, r3⟩ | ⟨s, hs, rfl, c3, r3⟩
  · refine ANS.same h1 (-1) (fun B0 K hK => T82 (c1 B0 _ _ (c3 B0 _ _ hK))) (fun A0 K hK => T138 ?_)
    rintro _ rfl
    rw [pS, hB1]
    exact r1 A0 _ _ (r3 A0 _ _ hK)
  rcases aq_rng a2 (n := 30) (by omega) with y | ⟨y0, y⟩ | ⟨r, hr, rfl⟩
  · refine ANS.same h1 (-1) (fun B0 K hK => T82 (c1 B0 _ _ (c3 B0 _ _ (aq_T y hK)))) (fun A0 K hK => T138 ?_)
    rintro _ rfl
    rw [pS, hB1]
    exact r1 A0 _ _ (r3 A0 _ _ (aq_T ((q0 a2).2 y) hK))
  · refine ANS.same h1 (-1) (fun B0 K hK => T82 (c1 B0 _ _ (c3 B0 _ _ (aq_F y0 (aq_T y hK))))) (fun A0 K hK => T138 ?_)
    rintro _ rfl
    rw [pS, hB1]
    exact r1 A0 _ _ (r3 A0 _ _ (aq_F (aq_n (q0 a2).1 y0) (aq_T ((g29 a2).2 y) hK)))
  have r0 : ¬ nI r < 0 := nI_pos (by omega)
  have r30 : ¬ (30 : Int32) ≤ nI r := by rw [il30, le_n (by omega) (by omega)]; omega
  rcases aq_rng a4 (n := 4) (by omega) with y | ⟨y0, y⟩ | ⟨k, hk, rfl⟩
  · refine ANS.same h1 (-1) (fun B0 K hK => T82 (c1 B0 _ _ (c3 B0 _ _ (aq_F r0 (aq_F r30 (aq_T y hK)))))) (fun A0 K hK => T138 ?_)
    rintro _ rfl
    rw [pS, hB1]
    exact r1 A0 _ _ (r3 A0 _ _ (aq_F (aq_n (q0 _).1 r0) (aq_F (aq_n (g29 _).1 r30) (aq_T ((q0 a4).2 y) hK))))
  · have y3 : ¬ a4 ≤ 3 := fun w => by
      rw [Int32.le_iff_toInt_le] at w y
      rw [show (3 : Int32).toInt = 3 from rfl] at w
      rw [show (nI 4).toInt = 4 from rfl] at y
      omega
    refine ANS.same h1 (-1) (fun B0 K hK => T82 (c1 B0 _ _ (c3 B0 _ _ (aq_F r0 (aq_F r30 (aq_F y0 (aq_F y3 hK))))))) (fun A0 K hK => T138 ?_)
    rintro _ rfl
    rw [pS, hB1]
    exact r1 A0 _ _ (r3 A0 _ _ (aq_F (aq_n (q0 _).1 r0) (aq_F (aq_n (g29 _).1 r30) (aq_F (aq_n (q0 a4).1 y0) (aq_T ((g3 a4).2 y3) hK)))))
  have k0 : ¬ nI k < 0 := nI_pos (by omega)
  have k3 : nI k ≤ 3 := by rw [il3, le_n (by omega) (by omega)]; omega
  have ci : (nI i).toNatClampNeg = i := nI_clamp (by omega)
  have cr : (nI r).toNatClampNeg = r := nI_clamp (by omega)
  have i0 : ¬ nI i < 0 := nI_pos (by omega)
  obtain ⟨g, g1, g2, hgA, hgB⟩ := (h1.1.2.2.2.2 i hi).1.1
  obtain ⟨p1, p2, p3, p4⟩ := h1.1.2.1 i hi
  obtain ⟨bv0, bv1, bv2, -⟩ := (p4 g (by omega) hgB).1
  have hln : lnB (eN E) (sR A i 0) = 90 * eN E := p1.ln
  have eR : ∀ B0, sR (mix A B0) i 0 = sR A i 0 := fun B0 => mxR _ _ _ _
  have e0 : ∀ B0, sN (mix A B0) i (sR A i 0) 0 = nI (eN E) := fun B0 => bv0
  have e2 : ∀ A0, sS (mix A0 B1) 2 i = nI g := fun A0 => hgB
  by_cases e3 : k = 3
  · subst e3
    have ix := ix_lt (r := r) (z := eN E) (j := s) (k := 0) hr hs (by omega)
    have hx := bv1 r s 0 hr hs (by omega)
    refine ANS.same h1 (sS B1 18 (rp i g r s)) (fun B0 K hK => T82 (c1 B0 _ _ (c3 B0 _ _ (aq_F r0 (aq_F r30 (aq_F k0 (aq_T k3 ?_))))))) (fun A0 K hK => T138 ?_)
    · have eix : (nI r * nI (eN E) + nI s) * 3 + 0 = nI ((r * eN E + s) * 3 + 0) := ix_b r (eN E) s 0
      rw [ci, eR, e0, eix, cr, nI_clamp (show (r * eN E + s) * 3 + 0 < 2 ^ 31 by omega), hln]
      refine ⟨⟨i0, hi⟩, p1, fun _ => ⟨⟨nI_pos (by omega), ix⟩, fun w => ?_, fun w => ⟨⟨r0, hr⟩, ?_⟩⟩, fun n => absurd rfl n⟩
      · rcases hx.c with ⟨x1, x2, x3, x4⟩ | ⟨x1, x2, x3, x4⟩
        · rw [(bv2 r s hr hs).1 x2] at hK
          exact hK
        · exact absurd w x3
      · rcases hx.c with ⟨x1, x2, x3, x4⟩ | ⟨x1, x2, x3, x4⟩
        · exact absurd x1 w
        · rw [((bv2 r s hr hs).2 x2).2.2.1] at hK
          exact hK
    · rintro _ rfl
      rw [pS, hB1]
      refine r1 A0 _ _ (r3 A0 _ _ (aq_F (aq_n (q0 _).1 r0) (aq_F (aq_n (g29 _).1 r30) (aq_F (aq_n (q0 _).1 k0) (aq_F (aq_n (g3 _).1 (fun w => w k3)) (aq_T rfl ?_))))))
      have hp : rp i g r s < 6000 := by unfold rp; have : g % 2 < 2 := Nat.mod_lt _ (by omega); omega
      rw [ci, e2, ix_r (by omega) (by omega) hr (by omega), nI_clamp (show rp i g r s < 2 ^ 31 by omega)]
      exact ⟨⟨i0, by omega⟩, by decide, ⟨nI_pos (by omega), hp⟩, hK⟩
  · have hk3 : k < 3 := by omega
    have nk : ¬ nI k = 3 := fun w => by rw [il3, nI_eq (by omega) (by omega)] at w; omega
    have ix := ix_lt (r := r) (z := eN E) (j := s) (k := k) hr hs hk3
    have hx := bv1 r s k hr hs hk3
    refine ANS.same h1 (sN A i (sR A i 0 + 2) ((r * eN E + s) * 3 + k)) (fun B0 K hK => T82 (c1 B0 _ _ (c3 B0 _ _ (aq_F r0 (aq_F r30 (aq_F k0 (aq_T k3 ?_))))))) (fun A0 K hK => T138 ?_)
    · rw [ci, eR, e0, ix_b, nI_clamp (show (r * eN E + s) * 3 + k < 2 ^ 31 by omega), hln]
      exact ⟨⟨i0, hi⟩, p1, aq_F nk ⟨⟨nI_pos (by omega), ix⟩, hK⟩⟩
    · rintro _ rfl
      rw [pS, hB1]
      refine r1 A0 _ _ (r3 A0 _ _ (aq_F (aq_n (q0 _).1 r0) (aq_F (aq_n (g29 _).1 r30) (aq_F (aq_n (q0 _).1 k0) (aq_F (aq_n (g3 _).1 (fun w => w k3)) (aq_F nk ?_))))))
      have hp := pl_lt (i := i) (h := g) (r := r) (s := s) (k := k) (by omega) hr (by omega) hk3
      have epl : ((((2 * nI i + (nI g - nI g / 2 * 2)) * 30 + nI r) * 10 + nI s) * 3 + nI k) = nI (pl i g r s k) := ix_p (by omega) (by omega) hr (by omega) hk3
      rw [ci, e2, epl, nI_clamp (show pl i g r s k < 2 ^ 31 by omega)]
      refine ⟨⟨i0, by omega⟩, by decide, ⟨nI_pos (by omega), hp⟩, fun w => ?_, fun w => ?_⟩
      · rcases hx.c with ⟨x1, x2, x3, x4⟩ | ⟨x1, x2, x3, x4⟩
        · exact absurd w x3
        · rw [x1] at hK
          exact hK
      · rcases hx.c with ⟨x1, x2, x3, x4⟩ | ⟨x1, x2, x3, x4⟩
        · rw [x1] at hK
          exact hK
        · exact absurd x2 w
theorem k_decided (h : CI E T A B L) (a1 a2 a3 : Int32) : ANS E (T + 100) 83 [some (.ref (aK E 0)), some (.int a1), some (.int a2), some (.int a3), none] 139 [some (.ref (aS E 0)), some (.int a1), some (.int a2), some (.int a3), none] A B := by
  have h1 := h.thr
  have hW : ∀ (A0 : mS) (k : Nat), sW (mix A0 B) k = sW (uS B 0 0 0) k := fun A0 k => by rw [fWS, mxW]
  generalize hB1 : uS B 0 0 0 = B1 at h1 hW
  have hn := h1.1.1.1.2.2.2
  rcases nodeK h1 a1 with ⟨c1, r1⟩ | ⟨i, hi, rfl, c1, r1⟩
  · refine ANS.same h1 (-1) (fun B0 K hK => T83 (c1 B0 _ _ hK)) (fun A0 K hK => T139 ?_)
    rintro _ rfl
    rw [pS, hB1]
    exact r1 A0 _ _ hK
  by_cases y1 : a2 < 1
  · refine ANS.same h1 (-1) (fun B0 K hK => T83 (c1 B0 _ _ (aq_T y1 hK))) (fun A0 K hK => T139 ?_)
    rintro _ rfl
    rw [pS, hB1]
    exact r1 A0 _ _ (aq_T ((q1 a2).2 y1) hK)
  by_cases y2 : 40 < a2
  · refine ANS.same h1 (-1) (fun B0 K hK => T83 (c1 B0 _ _ (aq_F y1 (aq_T y2 hK)))) (fun A0 K hK => T139 ?_)
    rintro _ rfl
    rw [pS, hB1]
    exact r1 A0 _ _ (aq_F (aq_n (q1 a2).1 y1) (aq_T ((g40 a2).2 y2) hK))
  obtain ⟨g, g1, g2, rfl⟩ := rangeC (lo := 1) (hi := 40) (by omega) (by omega) y1 (nlt.1 y2)
  have cg : (nI g).toNatClampNeg = g := nI_clamp (by omega)
  have ci : (nI i).toNatClampNeg = i := nI_clamp (by omega)
  have i0 : ¬ nI i < 0 := nI_pos (by omega)
  have cd : (nI (10 * g + i)).toNatClampNeg = 10 * g + i := nI_clamp (by omega)
  rcases aq_rng a3 (n := 4) (by omega) with y | ⟨y0, y⟩ | ⟨k, hk, rfl⟩
  · refine ANS.same h1 (-1) (fun B0 K hK => T83 (c1 B0 _ _ (aq_F y1 (aq_F y2 (aq_T y hK))))) (fun A0 K hK => T139 ?_)
    rintro _ rfl
    rw [pS, hB1]
    exact r1 A0 _ _ (aq_F (aq_n (q1 _).1 y1) (aq_F (aq_n (g40 _).1 y2) (aq_T ((q0 a3).2 y) hK)))
  · have y3 : ¬ a3 ≤ 3 := fun w => by
      rw [Int32.le_iff_toInt_le] at w y
      rw [show (3 : Int32).toInt = 3 from rfl] at w
      rw [show (nI 4).toInt = 4 from rfl] at y
      omega
    refine ANS.same h1 (-1) (fun B0 K hK => T83 (c1 B0 _ _ (aq_F y1 (aq_F y2 (aq_F y0 (aq_F y3 hK)))))) (fun A0 K hK => T139 ?_)
    rintro _ rfl
    rw [pS, hB1]
    exact r1 A0 _ _ (aq_F (aq_n (q1 _).1 y1) (aq_F (aq_n (g40 _).1 y2) (aq_F (aq_n (q0 a3).1 y0) (aq_T ((g3 a3).2 y3) hK))))
  have k0 : ¬ nI k < 0 := nI_pos (by omega)
  have k3 : nI k ≤ 3 := by rw [il3, le_n (by omega) (by omega)]; omega
  obtain ⟨w1, w2, w3, w4⟩ := h1.1.hg hi
  obtain ⟨d1, d2⟩ := (h1.1.2.2.2.2 i hi).1.2.2.2.2 g (hgt B1 i) g1 g2 w2 w4
  by_cases z : g < hgt B1 i
  · obtain ⟨v1, v2, v3, v4, v5⟩ := d1 z
    have v0 : ¬ sS B1 21 (10 * g + i) = 0 := fun q => by rw [q] at v2; exact absurd v2 (by decide)
    have v0' : ¬ sN A i 6 g = 0 := fun q => v0 (v1.symm.trans q)
    have cc : ∀ (B0 : mS) (K : Option Value → mS → Prop), ((nI k = 0 → (K (some (.int (sN A i 6 g))) (mix A B0))) ∧ (nI k = 1 → (K (some (.int (sN A i 7 g))) (mix A B0))) ∧ (nI k = 2 → (K (some (.int (sN A i 8 g))) (mix A B0))) ∧ (¬ nI k = 0 → ((¬ nI k = 1 → ((¬ nI k = 2 → (ES E 30 0 [some (.ref (aK E 9)), some (.int (sN A i 8 g)), some (.int (nI g)), none, none] [] (mix A B0) (fun r S13 => ∃ x14 : Int32, r = some (.int x14) ∧ (K (some (.int x14)) S13))))))))) → ES E 83 0 [some (.ref (aK E 0)), some (.int (nI i)), some (.int (nI g)), some (.int (nI k)), none] [] (mix A B0) K := fun B0 K y => T83 (c1 B0 _ _ (aq_F y1 (aq_F y2 (aq_F k0 (aq_T k3 (by
      rw [ci, cg]
      exact ⟨⟨i0, hi⟩, ⟨nI_pos (by omega), by omega⟩, aq_F v0' y⟩))))))
    have rr : ∀ (A0 : mS) (K : Option Value → mS → Prop), ((nI k = 0 → (K (some (.int (sS B1 21 (10 * g + i)))) (mix A0 B1))) ∧ (nI k = 1 → (K (some (.int (sS B1 22 (10 * g + i)))) (mix A0 B1))) ∧ (nI k = 2 → (K (some (.int (sS B1 23 (10 * g + i)))) (mix A0 B1))) ∧ (¬ nI k = 0 → ((¬ nI k = 1 → ((¬ nI k = 2 → (K (some (.int ((sW B1 (10 * g + i)).toInt32))) (mix A0 B1)))))))) → ES E 139 0 [some (.ref (aS E 0)), some (.int (nI i)), some (.int (nI g)), some (.int (nI k)), none] [] (mix A0 B) K := fun A0 K y => T139 (by
      rintro _ rfl
      rw [pS, hB1]
      refine r1 A0 _ _ (aq_F (aq_n (q1 _).1 y1) (aq_F (aq_n (g40 _).1 y2) (aq_F (aq_n (q0 _).1 k0) (aq_F (aq_n (g3 _).1 (fun w => w k3)) ?_))))
      rw [ix_w, cd, hW]
      exact ⟨⟨nI_pos (by omega), by omega⟩, aq_F v0 y⟩)
    rcases (by omega : k = 0 ∨ k = 1 ∨ k = 2 ∨ k = 3) with rfl | rfl | rfl | rfl
    · exact ANS.same h1 (sN A i 6 g) (fun B0 K hK => cc B0 K ⟨fun _ => hK, fun e => absurd e (by decide), fun e => absurd e (by decide), fun n => absurd rfl n⟩) (fun A0 K hK => rr A0 K ⟨fun _ => by rw [← v1]; exact hK, fun e => absurd e (by decide), fun e => absurd e (by decide), fun n => absurd rfl n⟩)
    · exact ANS.same h1 (sN A i 7 g) (fun B0 K hK => cc B0 K ⟨fun e => absurd e (by decide), fun _ => hK, fun e => absurd e (by decide), fun _ n => absurd rfl n⟩) (fun A0 K hK => rr A0 K ⟨fun e => absurd e (by decide), fun _ => by rw [← v3]; exact hK, fun e => absurd e (by decide), fun _ n => absurd rfl n⟩)
    · exact ANS.same h1 (sN A i 8 g) (fun B0 K hK => cc B0 K ⟨fun e => absurd e (by decide), fun e => absurd e (by decide), fun _ => hK, fun _ _ n => absurd rfl n⟩) (fun A0 K hK => rr A0 K ⟨fun e => absurd e (by decide), fun e => absurd e (by decide), fun _ => by rw [← v4]; exact hK, fun _ _ n => absurd rfl n⟩)
    · exact ANS.same h1 (wsum (fun s => bt (sN A i 8 g) s) (fun s => sK A (12 + g) s) (eN E)) (fun B0 K hK => cc B0 K ⟨fun e => absurd e (by decide), fun e => absurd e (by decide), fun e => absurd e (by decide), fun _ _ _ => sp_weightOfAll h1.1.1.1.2.1 hn (by omega) ⟨_, rfl, hK⟩⟩) (fun A0 K hK => rr A0 K ⟨fun e => absurd e (by decide), fun e => absurd e (by decide), fun e => absurd e (by decide), fun _ _ _ => by rw [v5]; exact hK⟩)
  · obtain ⟨v1, v2⟩ := d2 (by omega)
    refine ANS.same h1 (-2) (fun B0 K hK => T83 (c1 B0 _ _ (aq_F y1 (aq_F y2 (aq_F k0 (aq_T k3 ?_)))))) (fun A0 K hK => T139 ?_)
    · rw [ci, cg]
      exact ⟨⟨i0, hi⟩, ⟨nI_pos (by omega), by omega⟩, aq_T v1 hK⟩
    · rintro _ rfl
      rw [pS, hB1]
      refine r1 A0 _ _ (aq_F (aq_n (q1 _).1 y1) (aq_F (aq_n (g40 _).1 y2) (aq_F (aq_n (q0 _).1 k0) (aq_F (aq_n (g3 _).1 (fun w => w k3)) ?_))))
      rw [ix_w, cd]
      exact ⟨⟨nI_pos (by omega), by omega⟩, aq_T v2 hK⟩
/-- the reference's greatest decided height -/
theorem ra_dec (h1 : CI E T A B1 L) (v1 : Int32) : ∀ (A0 : mS) (K : Option Value → mS → Prop), K (some (.int (nI (mxh B1 (eN E) - 1)))) (mix A0 B1) → ES E 143 85 [some (.ref (aS E 0)), some (.int v1), some (.int 0), some (.int 1), none] [] (mix A0 B1) K := by
  intro A0 K hK
  have hn := h1.1.1.1.2.2.2
  have m1 : sS (mix A0 B1) 0 1 = nI (eN E) := h1.1.1.1.1
  have hM := h1.1.mx (Nat.le_refl (eN E))
  have outer : ∀ d g, g + d = 41 → 1 ≤ g → ES E 143 85 [some (.ref (aS E 0)), some (.int v1), some (.int (nI (min (g - 1) (mxh B1 (eN E) - 1)))), some (.int (nI g)), none] [] (mix A0 B1) K := by
    intro d
    induction d with
    | zero =>
      intro g hg g1
      have e : g = 41 := by omega
      subst e
      rw [show min (41 - 1) (mxh B1 (eN E) - 1) = mxh B1 (eN E) - 1 by omega]
      exact T143_85 (aq_T (by decide) hK)
    | succ d ih =>
      intro g hg g1
      have nx := ih (g + 1) (by omega) (by omega)
      have inner : ∀ c j, j + c = eN E → ES E 143 94 [some (.ref (aS E 0)), some (.int v1), some (.int (nI (if g < mxh B1 j then g else min (g - 1) (mxh B1 (eN E) - 1)))), some (.int (nI g)), some (.int (nI j))] [] (mix A0 B1) K := by
        intro c
        induction c with
        | zero =>
          intro j hj
          have e : j = eN E := by omega
          subst e
          refine T143_94 (aq_T (by rw [m1]; exact Int32.le_refl _) ?_)
          rw [nI_1, show (if g < mxh B1 (eN E) then g else min (g - 1) (mxh B1 (eN E) - 1)) = min (g + 1 - 1) (mxh B1 (eN E) - 1) by split <;> omega]
          exact nx
        | succ c ihc =>
          intro j hj
          have n2 := ihc (j + 1) (by omega)
          have hj' : j < eN E := by omega
          have dv := (dec_v h1 g1 (by omega : g ≤ 40) hj').2
          have em : mxh B1 (j + 1) = if mxh B1 j < hgt B1 j then hgt B1 j else mxh B1 j := rfl
          have mj := mxh_ge B1 (eN E) j hj'
          refine T143_94 (aq_F (by rw [m1, le_n (by omega) (by omega)]; omega) ?_)
          rw [ix_w, nI_clamp (show 10 * g + j < 2 ^ 31 by omega), nI_1]
          refine ⟨⟨nI_pos (by omega), by omega⟩, fun w => ?_, fun w => ?_⟩
          · rcases dv with ⟨u1, u2⟩ | ⟨u1, u2⟩
            · have en : (if g < mxh B1 (j + 1) then g else min (g - 1) (mxh B1 (eN E) - 1)) = if g < mxh B1 j then g else min (g - 1) (mxh B1 (eN E) - 1) := by
                rw [em]
                by_cases q : mxh B1 j < hgt B1 j
                · rw [if_pos q, if_neg (show ¬ g < hgt B1 j by omega), if_neg (show ¬ g < mxh B1 j by omega)]
                · rw [if_neg q]
              rw [en] at n2
              exact n2
            · exact absurd w (nge.2 u1)
          · rcases dv with ⟨u1, u2⟩ | ⟨u1, u2⟩
            · exact absurd (by rw [show sS (mix A0 B1) 21 (10 * g + j) = 0 from u1]; exact Int32.le_refl _) w
            · have en : (if g < mxh B1 (j + 1) then g else min (g - 1) (mxh B1 (eN E) - 1)) = g := by
                rw [em]
                by_cases q : mxh B1 j < hgt B1 j
                · rw [if_pos q, if_pos u2]
                · rw [if_neg q, if_pos (show g < mxh B1 j by omega)]
              rw [en] at n2
              exact n2
      have st := inner (eN E) 0 (by omega)
      rw [show (if g < mxh B1 0 then g else min (g - 1) (mxh B1 (eN E) - 1)) = min (g - 1) (mxh B1 (eN E) - 1) from if_neg (by unfold mxh; omega)] at st
      exact T143_85 (aq_F (by rw [show (40 : Int32) = nI 40 from rfl, nI_ltI (by omega) (by omega)]; omega) st)
  have := outer 40 1 (by omega) (by omega)
  rw [show min (1 - 1) (mxh B1 (eN E) - 1) = 0 by omega] at this
  exact this
theorem k_count (h : CI E T A B L) (hT : T ≤ 50000) (a1 : Int32) : ANS E (T + 100) 88 [some (.ref (aK E 0)), some (.int a1)] 143 [some (.ref (aS E 0)), some (.int a1), none, none, none] A B := by
  have h1 := h.thr
  generalize hB1 : uS B 0 0 0 = B1 at h1
  have hn := h1.1.1.1.2.2.2
  have hn1 := h1.1.1.1.2.2.1
  by_cases ne : ∀ k, k < 9 → ¬ a1 = nI k
  · refine ANS.same h1 (-1) (fun B0 K hK => T88 ⟨fun e => absurd e (ne 0 (by decide)), fun e => absurd e (ne 1 (by decide)), fun e => absurd e (ne 2 (by decide)), fun e => absurd e (ne 3 (by decide)), fun e => absurd e (ne 4 (by decide)), fun e => absurd e (ne 5 (by decide)), fun e => absurd e (ne 6 (by decide)), fun e => absurd e (ne 7 (by decide)), fun e => absurd e (ne 8 (by decide)), fun _ _ _ _ _ _ _ _ _ => hK⟩) (fun A0 K hK => T143 ?_)
    rintro _ rfl
    rw [pS, hB1]
    exact ⟨fun e => absurd e (ne 0 (by decide)), fun e => absurd e (ne 1 (by decide)), fun e => absurd e (ne 2 (by decide)), fun e => absurd e (ne 3 (by decide)), fun e => absurd e (ne 4 (by decide)), fun e => absurd e (ne 5 (by decide)), fun e => absurd e (ne 6 (by decide)), fun e => absurd e (ne 7 (by decide)), fun e => absurd e (ne 8 (by decide)), fun _ _ _ _ _ _ _ _ _ => hK⟩
  obtain ⟨k, hk, rfl⟩ : ∃ k, k < 9 ∧ a1 = nI k := by
    rcases aq_rng a1 (n := 9) (by omega) with y | ⟨y0, y⟩ | z
    · exact absurd (fun k hk e => by rw [e] at y; exact absurd y (nI_pos (by omega))) ne
    · exact absurd (fun k hk e => by rw [e, le_n (by omega) (by omega)] at y; omega) ne
    · exact z
  obtain ⟨n1, n2, n3, n4, n5, n6⟩ := h1.1.1.2.1
  obtain ⟨u, -, -, u3, u4, -⟩ := h1.1.1.2.2.2.1
  have n7 : sS B1 0 40 = sK A 0 7 := h1.1.2.2.2.1.2.2.1
  have gw := h1.1.2.2.2.1.1
  have sid : (sS B1 0 48 ≤ sS B1 0 3 → (if (0 : Int32) < (sK A 0 11 - sK A 0 5) then (sK A 0 11 - sK A 0 5) else 0) = 0) ∧ (¬ sS B1 0 48 ≤ sS B1 0 3 → (if (0 : Int32) < (sK A 0 11 - sK A 0 5) then (sK A 0 11 - sK A 0 5) else 0) = sS B1 0 48 - sS B1 0 3) := by
    obtain ⟨t, t1, t2⟩ := h1.2.2.2.1
    obtain ⟨l, l1, l2⟩ := h1.2.2.2.2.2.2
    rw [n6, n1, t2, l2]
    refine ⟨fun w => ?_, fun w => ?_⟩
    · rw [le_n (by omega) (by omega)] at w
      refine if_neg (fun q => ?_)
      rw [Int32.lt_iff_toInt_lt, pk_sub_toInt (by omega) (by omega), show (0 : Int32).toInt = 0 from rfl] at q
      omega
    · rw [le_n (by omega) (by omega)] at w
      rw [pk_sub (by omega)]
      exact if_pos (by rw [il0, nI_ltI (by omega) (by omega)]; omega)
  rcases (by omega : k = 0 ∨ k = 1 ∨ k = 2 ∨ k = 3 ∨ k = 4 ∨ k = 5 ∨ k = 6 ∨ k = 7 ∨ k = 8) with rfl | rfl | rfl | rfl | rfl | rfl | rfl | rfl | rfl
  · refine ANS.same h1 (sK A 0 5) (fun B0 K hK => T88 ⟨fun _ => hK, fun e => absurd e (by decide), fun e => absurd e (by decide), fun e => absurd e (by decide), fun e => absurd e (by decide), fun e => absurd e (by decide), fun e => absurd e (by decide), fun e => absurd e (by decide), fun e => absurd e (by decide), fun n => absurd rfl n⟩) (fun A0 K hK => T143 ?_)
    rintro _ rfl
    rw [pS, hB1]
    refine ⟨fun _ => ?_, fun e => absurd e (by decide), fun e => absurd e (by decide), fun e => absurd e (by decide), fun e => absurd e (by decide), fun e => absurd e (by decide), fun e => absurd e (by decide), fun e => absurd e (by decide), fun e => absurd e (by decide), fun n => absurd rfl n⟩
    rw [show sS (mix A0 B1) 0 3 = sK A 0 5 from n1]
    exact hK
  · refine ANS.same h1 (sK A 0 6) (fun B0 K hK => T88 ⟨fun e => absurd e (by decide), fun _ => hK, fun e => absurd e (by decide), fun e => absurd e (by decide), fun e => absurd e (by decide), fun e => absurd e (by decide), fun e => absurd e (by decide), fun e => absurd e (by decide), fun e => absurd e (by decide), fun _ n => absurd rfl n⟩) (fun A0 K hK => T143 ?_)
    rintro _ rfl
    rw [pS, hB1]
    refine ⟨fun e => absurd e (by decide), fun _ => ?_, fun e => absurd e (by decide), fun e => absurd e (by decide), fun e => absurd e (by decide), fun e => absurd e (by decide), fun e => absurd e (by decide), fun e => absurd e (by decide), fun e => absurd e (by decide), fun _ n => absurd rfl n⟩
    rw [show sS (mix A0 B1) 0 39 = sK A 0 6 from n2]
    exact hK
  · refine ANS.same h1 (sK A 0 7) (fun B0 K hK => T88 ⟨fun e => absurd e (by decide), fun e => absurd e (by decide), fun _ => hK, fun e => absurd e (by decide), fun e => absurd e (by decide), fun e => absurd e (by decide), fun e => absurd e (by decide), fun e => absurd e (by decide), fun e => absurd e (by decide), fun _ _ n => absurd rfl n⟩) (fun A0 K hK => T143 ?_)
    rintro _ rfl
    rw [pS, hB1]
    refine ⟨fun e => absurd e (by decide), fun e => absurd e (by decide), fun _ => ?_, fun e => absurd e (by decide), fun e => absurd e (by decide), fun e => absurd e (by decide), fun e => absurd e (by decide), fun e => absurd e (by decide), fun e => absurd e (by decide), fun _ _ n => absurd rfl n⟩
    rw [show sS (mix A0 B1) 0 40 = sK A 0 7 from n7]
    exact hK
  · refine ANS.same h1 (sK A 0 8) (fun B0 K hK => T88 ⟨fun e => absurd e (by decide), fun e => absurd e (by decide), fun e => absurd e (by decide), fun _ => hK, fun e => absurd e (by decide), fun e => absurd e (by decide), fun e => absurd e (by decide), fun e => absurd e (by decide), fun e => absurd e (by decide), fun _ _ _ n => absurd rfl n⟩) (fun A0 K hK => T143 ?_)
    rintro _ rfl
    rw [pS, hB1]
    refine ⟨fun e => absurd e (by decide), fun e => absurd e (by decide), fun e => absurd e (by decide), fun _ => ?_, fun e => absurd e (by decide), fun e => absurd e (by decide), fun e => absurd e (by decide), fun e => absurd e (by decide), fun e => absurd e (by decide), fun _ _ _ n => absurd rfl n⟩
    rw [show sS (mix A0 B1) 0 41 = sK A 0 8 from n3]
    exact hK
  · refine ANS.same h1 (sK A 1 2) (fun B0 K hK => T88 ⟨fun e => absurd e (by decide), fun e => absurd e (by decide), fun e => absurd e (by decide), fun e => absurd e (by decide), fun _ => hK, fun e => absurd e (by decide), fun e => absurd e (by decide), fun e => absurd e (by decide), fun e => absurd e (by decide), fun _ _ _ _ n => absurd rfl n⟩) (fun A0 K hK => T143 ?_)
    rintro _ rfl
    rw [pS, hB1]
    refine ⟨fun e => absurd e (by decide), fun e => absurd e (by decide), fun e => absurd e (by decide), fun e => absurd e (by decide), fun _ => ?_, fun e => absurd e (by decide), fun e => absurd e (by decide), fun e => absurd e (by decide), fun e => absurd e (by decide), fun _ _ _ _ n => absurd rfl n⟩
    rw [show sS (mix A0 B1) 0 38 = sK A 1 2 from u4.trans u3.symm]
    exact hK
  · have hM := h1.1.mx (Nat.le_refl (eN E))
    have hM1 : 1 ≤ mxh B1 (eN E) := Nat.le_trans (h1.1.hg (show 0 < eN E by omega)).1 (mxh_ge B1 (eN E) 0 (by omega))
    refine ANS.same h1 (nI (mxh B1 (eN E) - 1)) (fun B0 K hK => T88 ⟨fun e => absurd e (by decide), fun e => absurd e (by decide), fun e => absurd e (by decide), fun e => absurd e (by decide), fun e => absurd e (by decide), fun _ => c_top h1.1 B0 _ ⟨_, rfl, by rw [il1, pk_sub hM1]; exact hK⟩, fun e => absurd e (by decide), fun e => absurd e (by decide), fun e => absurd e (by decide), fun _ _ _ _ _ n => absurd rfl n⟩) (fun A0 K hK => T143 ?_)
    rintro _ rfl
    rw [pS, hB1]
    exact ⟨fun e => absurd e (by decide), fun e => absurd e (by decide), fun e => absurd e (by decide), fun e => absurd e (by decide), fun e => absurd e (by decide), fun _ => ra_dec h1 _ A0 K hK, fun e => absurd e (by decide), fun e => absurd e (by decide), fun e => absurd e (by decide), fun _ _ _ _ _ n => absurd rfl n⟩
  · refine ANS.same h1 (sK A 9 0) (fun B0 K hK => T88 ⟨fun e => absurd e (by decide), fun e => absurd e (by decide), fun e => absurd e (by decide), fun e => absurd e (by decide), fun e => absurd e (by decide), fun e => absurd e (by decide), fun _ => hK, fun e => absurd e (by decide), fun e => absurd e (by decide), fun _ _ _ _ _ _ n => absurd rfl n⟩) (fun A0 K hK => T143 ?_)
    rintro _ rfl
    rw [pS, hB1]
    refine ⟨fun e => absurd e (by decide), fun e => absurd e (by decide), fun e => absurd e (by decide), fun e => absurd e (by decide), fun e => absurd e (by decide), fun e => absurd e (by decide), fun _ => ?_, fun e => absurd e (by decide), fun e => absurd e (by decide), fun _ _ _ _ _ _ n => absurd rfl n⟩
    rw [show sS (mix A0 B1) 0 1 = sK A 9 0 from h1.1.1.1.1.trans h1.1.1.1.2.1.symm]
    exact hK
  · refine ANS.same h1 (sK A 10 1) (fun B0 K hK => T88 ⟨fun e => absurd e (by decide), fun e => absurd e (by decide), fun e => absurd e (by decide), fun e => absurd e (by decide), fun e => absurd e (by decide), fun e => absurd e (by decide), fun e => absurd e (by decide), fun _ => ⟨⟨by decide, by decide⟩, hK⟩, fun e => absurd e (by decide), fun _ _ _ _ _ _ _ n => absurd rfl n⟩) (fun A0 K hK => T143 ?_)
    rintro _ rfl
    rw [pS, hB1]
    refine ⟨fun e => absurd e (by decide), fun e => absurd e (by decide), fun e => absurd e (by decide), fun e => absurd e (by decide), fun e => absurd e (by decide), fun e => absurd e (by decide), fun e => absurd e (by decide), fun _ => ra_all h1 (g := 1) (by omega) (by omega) A0 _ ⟨_, rfl, ?_⟩, fun e => absurd e (by decide), fun _ _ _ _ _ _ _ n => absurd rfl n⟩
    rw [lN_w, ← gw.all (g := 1) (by omega) (by omega)]
    exact hK
  · refine ANS.same h1 (if sS B1 0 48 ≤ sS B1 0 3 then 0 else sS B1 0 48 - sS B1 0 3) (fun B0 K hK => T88 ⟨fun e => absurd e (by decide), fun e => absurd e (by decide), fun e => absurd e (by decide), fun e => absurd e (by decide), fun e => absurd e (by decide), fun e => absurd e (by decide), fun e => absurd e (by decide), fun e => absurd e (by decide), fun _ => ?_, fun _ _ _ _ _ _ _ _ n => absurd rfl n⟩) (fun A0 K hK => T143 ?_)
    · rw [mxK, mxK]
      by_cases w : sS B1 0 48 ≤ sS B1 0 3
      · rw [if_pos w] at hK
        rw [sid.1 w]
        exact hK
      · rw [if_neg w] at hK
        rw [sid.2 w]
        exact hK
    · rintro _ rfl
      rw [pS, hB1]
      refine ⟨fun e => absurd e (by decide), fun e => absurd e (by decide), fun e => absurd e (by decide), fun e => absurd e (by decide), fun e => absurd e (by decide), fun e => absurd e (by decide), fun e => absurd e (by decide), fun e => absurd e (by decide), fun _ => ⟨fun w => ?_, fun w => ?_⟩, fun _ _ _ _ _ _ _ _ n => absurd rfl n⟩
      · rw [if_pos (show sS B1 0 48 ≤ sS B1 0 3 from w)] at hK
        exact hK
      · rw [if_neg (show ¬ sS B1 0 48 ≤ sS B1 0 3 from w)] at hK
        exact hK
end AskL
