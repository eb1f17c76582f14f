/-! ===== the two passes over the copies ===== -/
/-- in pass p, before c, over those posted M0; Y has gone since -/
def INV (E : mE) (t : Int32) (p c : Nat) (M0 : List Mg) (A B : mS) (Y : List Mg) : Prop := Sim E A B (M0 ++ Y) (mkN t p c M0 ++ Y) ∧ Idle E A ∧ (∀ m, m ∈ Y → GM E m ∧ t < m 7) ∧ sK A 0 5 = t
/-- what passes keep -/
def KC (A B A2 B2 : mS) : Prop := (∀ l, ¬ l = 6 → ¬ l = 7 → ¬ l = 8 → sK A2 0 l = sK A 0 l) ∧ ∀ j, sS B2 9 j = sS B 9 j ∧ sS B2 10 j = sS B 10 j
theorem KC.rf (A B : mS) : KC A B A B := ⟨fun _ _ _ _ => rfl, fun _ => ⟨rfl, rfl⟩⟩
theorem KC.tr {A B A1 B1 A2 B2 : mS} (h : KC A B A1 B1) (h2 : KC A1 B1 A2 B2) : KC A B A2 B2 := ⟨fun l a b c => (h2.1 l a b c).trans (h.1 l a b c), fun j => ⟨(h2.2 j).1.trans (h.2 j).1, (h2.2 j).2.trans (h.2 j).2⟩⟩
theorem KP.kc {i : Nat} {A B A2 B2 : mS} (h : KP i A B A2 B2) : KC A B A2 B2 := ⟨h.1, h.2.1⟩
section Pass
variable {E : mE} {A B : mS} {M N M0 Y : List Mg} {m : Mg} {c q p : Nat} {t : Int32}
theorem MC.at {j : Nat} (h : MC A M) (hj : M[j]? = some m) : ∃ q, sQ A j = some q ∧ mgC A q m ∧ q < sU A ∧ j < sU A := by
  obtain ⟨m1, m2, m3, m4, m5, m6, m7⟩ := h
  obtain ⟨q, q1, q2⟩ := m7 j m hj
  have hlt : j < M.length := by
    rcases Nat.lt_or_ge j M.length with z | z
    · exact z
    · rw [List.getElem?_eq_none z] at hj
      cases hj
  obtain ⟨q', q3, q4⟩ := m4 j (by omega)
  rw [q1] at q4
  cases q4
  exact ⟨q, q1, q2, q3, by omega⟩
/-- one copy, on both sides -/
theorem pstep (hp : p < 2) (hI : INV E t p c M0 A B Y) (hM0 : ∀ m, m ∈ M0 → GM E m ∧ t ≤ m 7) (h0 : 0 ≤ t) (hlen : M0.length ≤ 6000) (hc : M0[c]? = some m) : ∃ A2 B2 Y2, INV E t p (c + 1) M0 A2 B2 Y2 ∧ KC A B A2 B2 ∧
    (∀ (B0 : mS) (K : Option Value → mS → Prop), ES E 76 17 [some (.ref (aK E 0)), some (.int (nI M0.length)), some (.int (nI p)), some (.int (nI (c + 1))), none] [] (mix A2 B0) K → ES E 76 17 [some (.ref (aK E 0)), some (.int (nI M0.length)), some (.int (nI p)), some (.int (nI c)), none] [] (mix A B0) K) ∧
    (∀ (A0 : mS) (K : Option Value → mS → Prop), ES E 127 2 [some (.ref (aS E 0)), some (.int (nI p)), some (.int (nI M0.length)), some (.int (nI (c + 1))), none] [] (mix A0 B2) K → ES E 127 2 [some (.ref (aS E 0)), some (.int (nI p)), some (.int (nI M0.length)), some (.int (nI c)), none] [] (mix A0 B) K) := by
  obtain ⟨hS, hId, hY, ht⟩ := hI
  have hlt : c < M0.length := by
    rcases Nat.lt_or_ge c M0.length with z | z
    · exact z
    · rw [List.getElem?_eq_none z] at hc
      cases hc
  have hn := hS.1.1.2.2.2
  obtain ⟨hG, htm⟩ := hM0 m (List.mem_of_getElem? hc)
  have h8 := hG
  obtain ⟨_, _, _, _, _, _, _, _, _, _, _, _, _, _, _, _, _, _, h8, _⟩ := h8
  obtain ⟨u, m1, m2, m3, m4, m5, m6, m7, m8⟩ := hS.1.2.2.2.1
  have hMc : (M0 ++ Y)[c]? = some m := by rw [List.getElem?_append_left hlt]; exact hc
  obtain ⟨q, q1, q2, q3, q4⟩ := m1.at hMc
  have hNc : (mkN t p c M0 ++ Y)[c]? = some (if dlv t p c c m then dd m else m) := by rw [List.getElem?_append_left (by rw [mkN_len]; exact hlt), mkN_get, hc]; rfl
  have cc : (nI c).toNatClampNeg = c := nI_clamp (by omega)
  have ple : ¬ nI M0.length ≤ nI c := by rw [le_n (by omega) (by omega)]; omega
  have tB : sS B 0 3 = t := hS.1.2.1.1.trans ht
  have p1 : nI p = 1 ↔ p = 1 := by rw [il1, nI_eq (by omega) (by omega)]
  have cM : ∀ B0, sQ (mix A B0) c = some q := fun B0 => q1
  have c7 : ∀ B0, sM (mix A B0) q 7 = m 7 := fun B0 => q2 7 (by omega) (by omega)
  have c8 : ∀ B0, sM (mix A B0) q 8 = m 8 := fun B0 => q2 8 (by omega) (by omega)
  have c5 : ∀ B0, sK (mix A B0) 0 5 = t := fun B0 => ht
  by_cases go : m 7 = t ∧ m 8 = nI p
  · -- it comes now
    have nd : dlv t p c c m = false := by
      unfold dlv
      rw [decide_eq_false_iff_not]
      rintro ⟨_, ⟨z1, z2⟩ | ⟨_, z2⟩⟩
      · rw [go.2, z1] at z2
        exact absurd z2 (by decide)
      · omega
    rw [nd, if_neg (by decide)] at hNc
    have hm0 : 0 ≤ m 7 := by rw [go.1]; exact h0
    have hl := lvn_set hm0 _ c hNc
    have lY : lv Y = Y.length := lv_all (fun x hx => by
      have := (hY x hx).2
      rw [Int32.lt_iff_toInt_lt] at this
      rw [Int32.le_iff_toInt_le] at h0 ⊢
      omega)
    have lset : (mkN t p c M0 ++ Y).set c (dd m) = mkN t p (c + 1) M0 ++ Y := by
      rw [List.set_append_left _ _ (by rw [mkN_len]; exact hlt), mkN_set hc go.1 go.2]
    have lN := lv_app (mkN t p c M0) Y
    have lN2 := lv_app (mkN t p (c + 1) M0) Y
    rw [lset] at hl
    obtain ⟨b, A2, B2, hb, e1, w1, w2, w3, w4, w5, w6, w7⟩ := hand hS hId q3 q2 hG hNc hm0 (by rw [List.length_append]; omega) (by rw [List.length_append, mkN_len]; omega)
    rw [lset] at w4
    have cb : (nI b).toNatClampNeg = b := nI_clamp (by omega)
    have k5 : sK A2 0 5 = t := (w6.1 5 (by omega) (by omega) (by omega)).trans ht
    have tail : ∀ (A3 B3 : mS) (X : List Mg), CR E 71 0 [some (.ref (aK E 0)), some (.ref (aN E b 0)), none] A2 none A3 → ∀ (B0 : mS) (K : Option Value → mS → Prop), ES E 76 17 [some (.ref (aK E 0)), some (.int (nI M0.length)), some (.int (nI p)), some (.int (nI (c + 1))), none] [] (mix A3 B0) K → ES E 76 17 [some (.ref (aK E 0)), some (.int (nI M0.length)), some (.int (nI p)), some (.int (nI c)), none] [] (mix A B0) K := by
      intro A3 B3 X hr B0 K h
      refine T76_17 ⟨fun z => absurd z ple, fun _ => ?_⟩
      rw [cc, nI_1]
      refine ⟨⟨nI_pos (by omega), by omega⟩, q, cM B0, ?_⟩
      rw [c7, c8, c5, p1]
      have m2' : sM (mix A2 B0) q 1 = nI b := w3
      refine ⟨fun _ => ⟨fun z => ⟨fun _ => w1 B0 _ ⟨rfl, ?_, ?_⟩, fun y => absurd (by rw [go.2, z]; rfl) y⟩, fun z => ⟨fun _ => w1 B0 _ ⟨rfl, ?_, ?_⟩, fun y => absurd (by rw [go.2, show p = 0 by omega]; rfl) y⟩⟩, fun z => absurd go.1 z⟩
      · show q < sU (mix A2 B0)
        rw [mxU, w2]
        exact q3
      · rw [m2', cb]
        exact ⟨⟨nI_pos (by omega), hb⟩, hr B0 _ ⟨rfl, h⟩⟩
      · show q < sU (mix A2 B0)
        rw [mxU, w2]
        exact q3
      · rw [m2', cb]
        exact ⟨⟨nI_pos (by omega), hb⟩, hr B0 _ ⟨rfl, h⟩⟩
    have r25 : sS B 25 c = t := (m2.2 c m hNc 7 (by omega) (by omega)).trans go.1
    have r33 : sS B 33 c = nI p := (m2.2 c m hNc 8 (by omega) (by omega)).trans go.2
    have r26 : sS B 26 c = m 0 := m2.2 c m hNc 0 (by omega) (by omega)
    have r27 : sS B 27 c = m 1 := m2.2 c m hNc 1 (by omega) (by omega)
    have r28 : sS B 28 c = m 2 := m2.2 c m hNc 2 (by omega) (by omega)
    have r29 : sS B 29 c = m 3 := m2.2 c m hNc 3 (by omega) (by omega)
    have r30 : sS B 30 c = m 4 := m2.2 c m hNc 4 (by omega) (by omega)
    have r31 : sS B 31 c = m 5 := m2.2 c m hNc 5 (by omega) (by omega)
    -- the reference up to the question whether the receiver is cut
    have rrun : ∀ (A0 : mS) (K : Option Value → mS → Prop), ((sS B 10 b = 0 → ES E 102 0 [some (.ref (aS E 0)), some (.int (m 1)), some (.int (m 0)), some (.int (m 2)), some (.int (m 3)), some (.int (m 4)), some (.int (m 5)), some (.int (sS B 32 c)), some (.int 1), none, none] [] (mix A0 (uS (uS (uS B 25 c (-1)) 0 38 (sS B 0 38 - 1)) 0 40 (sS B 0 40 + 1))) (fun r S10 => r = none ∧ (ES E 111 0 [some (.ref (aS E 0)), some (.int (nI b)), none] [] S10 (fun r S11 => r = none ∧ (ES E 127 2 [some (.ref (aS E 0)), some (.int (nI p)), some (.int (nI M0.length)), some (.int (nI (c + 1))), none] [] S11 K))))) ∧ (¬ sS B 10 b = 0 → ES E 127 2 [some (.ref (aS E 0)), some (.int (nI p)), some (.int (nI M0.length)), some (.int (nI (c + 1))), none] [] (mix A0 (uS (uS (uS B 25 c (-1)) 0 38 (sS B 0 38 - 1)) 0 41 (sS B 0 41 + 1))) K)) → ES E 127 2 [some (.ref (aS E 0)), some (.int (nI p)), some (.int (nI M0.length)), some (.int (nI c)), none] [] (mix A0 B) K := by
      intro A0 K h
      refine T127_2 ⟨fun z => absurd z ple, fun _ => ?_⟩
      have y25 : sS (mix A0 B) 25 c = t := r25
      have y33 : sS (mix A0 B) 33 c = nI p := r33
      have y3 : sS (mix A0 B) 0 3 = t := tB
      rw [cc, nI_1, y25, y33, y3]
      refine ⟨⟨nI_pos (by omega), by omega⟩, fun _ => ⟨fun _ => ?_, fun z => absurd rfl z⟩, fun z => absurd rfl z⟩
      rintro _ rfl
      have y38 : sS (uS (mix A0 B) 25 c (-1)) 0 38 = sS B 0 38 := by rw [rSo _ (by omega), mxS]
      rw [y38]
      rintro _ rfl
      rw [pS, pS]
      have o : ∀ v l, ¬ (v = 25 ∧ l = c) → ¬ (v = 0 ∧ l = 38) → sS (mix A0 (uS (uS B 25 c (-1)) 0 38 (sS B 0 38 - 1))) v l = sS B v l := fun v l x1 x2 => by rw [mxS, rSo _ x2, rSo _ x1]
      rw [o 27 c (by omega) (by omega), r27, e1, cb, o 10 b (by omega) (by omega), o 0 40 (by omega) (by omega), o 0 41 (by omega) (by omega)]
      refine ⟨⟨nI_pos (by omega), by omega⟩, fun y => ?_, fun y => ?_⟩
      · rintro _ rfl
        rw [pS]
        have o2 : ∀ v l, ¬ (v = 25 ∧ l = c) → ¬ (v = 0 ∧ l = 38) → ¬ (v = 0 ∧ l = 40) → sS (mix A0 (uS (uS (uS B 25 c (-1)) 0 38 (sS B 0 38 - 1)) 0 40 (sS B 0 40 + 1))) v l = sS B v l := fun v l x1 x2 x3 => by rw [mxS, rSo _ x3, rSo _ x2, rSo _ x1]
        rw [o2 26 c (by omega) (by omega) (by omega), o2 28 c (by omega) (by omega) (by omega), o2 29 c (by omega) (by omega) (by omega), o2 30 c (by omega) (by omega) (by omega), o2 31 c (by omega) (by omega) (by omega), o2 32 c (by omega) (by omega) (by omega), r26, r28, r29, r30, r31]
        have := h.1 y
        rw [e1] at this
        exact this
      · rintro _ rfl
        rw [pS]
        exact h.2 y
    rcases w7 with ⟨x1, x2, x3⟩ | ⟨x1, x2, x3⟩
    · obtain ⟨A3, B3, X, s1, s2, s3, s4, s5, s6⟩ := settle w4 w5 hb (by rw [(w6.2.1 b).2]; exact x1) (disp0 hb (w5 b hb)) x2
      refine ⟨A3, B3, Y ++ X, ⟨by rw [← List.append_assoc, ← List.append_assoc]; exact s3, s4, fun x hx => ?_, (s5.1 5 (by omega) (by omega) (by omega)).trans k5⟩, w6.kc.tr s5.kc, tail A3 B3 X s1, fun A0 K hK => rrun A0 K ⟨fun _ => x3 A0 _ ⟨rfl, s2 A0 _ ⟨rfl, hK⟩⟩, fun z => absurd x1 z⟩⟩
      rcases List.mem_append.1 hx with z | z
      · exact hY x z
      · have := s6 x z
        rw [k5] at this
        exact this
    · refine ⟨A2, B2, Y, ⟨w4, w5, hY, k5⟩, w6.kc, tail A2 B2 [] (settle0 (B := B) hb hn x1 x2).1, fun A0 K hK => rrun A0 K ⟨fun z => absurd z x1, fun _ => ?_⟩⟩
      rw [← x3]
      exact hK
  · -- it doesn't
    refine ⟨A, B, Y, ⟨by rw [mkN_same hc go]; exact hS, hId, hY, ht⟩, KC.rf A B, fun B0 K h => ?_, fun A0 K h => ?_⟩
    · refine T76_17 ⟨fun z => absurd z ple, fun _ => ?_⟩
      rw [cc, nI_1]
      refine ⟨⟨nI_pos (by omega), by omega⟩, q, cM B0, ?_⟩
      rw [c7, c8, c5, p1]
      exact ⟨fun y1 => ⟨fun z => ⟨fun y2 => absurd ⟨y1, by rw [y2, z]; rfl⟩ go, fun _ => h⟩, fun z => ⟨fun y2 => absurd ⟨y1, by rw [y2, show p = 0 by omega]; rfl⟩ go, fun _ => h⟩⟩, fun _ => h⟩
    · refine T127_2 ⟨fun z => absurd z ple, fun _ => ?_⟩
      have y3 : sS (mix A0 B) 0 3 = t := tB
      by_cases hd : dlv t p c c m = true
      · rw [if_pos hd] at hNc
        have y25 : sS (mix A0 B) 25 c = -1 := m2.2 c _ hNc 7 (by omega) (by omega)
        rw [cc, nI_1, y25, y3]
        refine ⟨⟨nI_pos (by omega), by omega⟩, fun z => absurd h0 (by rw [← z]; decide), fun _ => h⟩
      · rw [if_neg hd] at hNc
        have y25 : sS (mix A0 B) 25 c = m 7 := m2.2 c _ hNc 7 (by omega) (by omega)
        have y33 : sS (mix A0 B) 33 c = m 8 := m2.2 c _ hNc 8 (by omega) (by omega)
        rw [cc, nI_1, y25, y33, y3]
        exact ⟨⟨nI_pos (by omega), by omega⟩, fun y1 => ⟨fun y2 => absurd ⟨y1, y2⟩ go, fun _ => h⟩, fun _ => h⟩
theorem pass1 (hp : p < 2) (hM0 : ∀ m, m ∈ M0 → GM E m ∧ t ≤ m 7) (h0 : 0 ≤ t) (hlen : M0.length ≤ 6000) : ∀ d c (A B : mS) (Y : List Mg), c + d = M0.length → INV E t p c M0 A B Y → ∃ A2 B2 Y2, INV E t p M0.length M0 A2 B2 Y2 ∧ KC A B A2 B2 ∧
    (∀ (B0 : mS) (K : Option Value → mS → Prop), ES E 76 10 [some (.ref (aK E 0)), some (.int (nI M0.length)), some (.int (nI (p + 1))), none, none] [] (mix A2 B0) K → ES E 76 17 [some (.ref (aK E 0)), some (.int (nI M0.length)), some (.int (nI p)), some (.int (nI c)), none] [] (mix A B0) K) ∧
    (∀ (A0 : mS) (K : Option Value → mS → Prop), K none (mix A0 B2) → ES E 127 2 [some (.ref (aS E 0)), some (.int (nI p)), some (.int (nI M0.length)), some (.int (nI c)), none] [] (mix A0 B) K) := by
  intro d
  induction d with
  | zero =>
    intro c A B Y hc hI
    have : c = M0.length := by omega
    subst this
    refine ⟨A, B, Y, hI, KC.rf A B, fun B0 K h => T76_17 ⟨fun _ => ?_, fun z => absurd (Int32.le_refl _) z⟩, fun A0 K hK => T127_2 ⟨fun _ => hK, fun z => absurd (Int32.le_refl _) z⟩⟩
    rw [nI_1]
    exact h
  | succ d ih =>
    intro c A B Y hc hI
    obtain ⟨m, hm⟩ : ∃ m, M0[c]? = some m := ⟨M0[c]'(by omega), List.getElem?_eq_getElem _⟩
    obtain ⟨A1, B1, Y1, i1, k1, c1, r1⟩ := pstep hp hI hM0 h0 hlen hm
    obtain ⟨A2, B2, Y2, i2, k2, c2, r2⟩ := ih (c + 1) A1 B1 Y1 (by omega) i1
    exact ⟨A2, B2, Y2, i2, k1.tr k2, fun B0 K h => c1 B0 K (c2 B0 K h), fun A0 K h => r1 A0 K (r2 A0 K h)⟩
end Pass
