/-! ===== a round begins ===== -/
def cZ (A : mS) (i : Nat) (x : Int32) : mS := uN (uN (uN (uN (uN (uN (uN (uN A i 0 3 x) i 0 4 0) i 3 0 0) i 3 1 0) i 3 2 0) i 4 0 0) i 4 1 0) i 4 2 0
theorem cZ_o (A : mS) (i : Nat) (x : Int32) (j c l : Nat) (h : ¬ (j = i ∧ ((c = 0 ∧ (l = 3 ∨ l = 4)) ∨ c = 3 ∨ c = 4))) : sN (cZ A i x) j c l = sN A j c l := by
  unfold cZ
  rw [rNo _ (by omega), rNo _ (by omega), rNo _ (by omega), rNo _ (by omega), rNo _ (by omega), rNo _ (by omega), rNo _ (by omega), rNo _ (by omega)]
theorem cZ_3 (A : mS) (i : Nat) (x : Int32) : sN (cZ A i x) i 0 3 = x := by
  unfold cZ
  rw [rNo _ (by omega), rNo _ (by omega), rNo _ (by omega), rNo _ (by omega), rNo _ (by omega), rNo _ (by omega), rNo _ (by omega), rNs]
theorem cZ_4 (A : mS) (i : Nat) (x : Int32) : sN (cZ A i x) i 0 4 = 0 := by
  unfold cZ
  rw [rNo _ (by omega), rNo _ (by omega), rNo _ (by omega), rNo _ (by omega), rNo _ (by omega), rNo _ (by omega), rNs]
theorem cZ_t (A : mS) (i : Nat) (x : Int32) (l : Nat) (hl : l < 3) : sN (cZ A i x) i 3 l = 0 ∧ sN (cZ A i x) i 4 l = 0 := by
  unfold cZ
  rcases (by omega : l = 0 ∨ l = 1 ∨ l = 2) with rfl | rfl | rfl <;> constructor <;> simp [rN]
theorem cZ_F (A : mS) (i : Nat) (x : Int32) : FNn A (cZ A i x) := (((((((FNn.u _ _ _ _ _).tr (FNn.u _ _ _ _ _)).tr (FNn.u _ _ _ _ _)).tr (FNn.u _ _ _ _ _)).tr (FNn.u _ _ _ _ _)).tr (FNn.u _ _ _ _ _)).tr (FNn.u _ _ _ _ _)).tr (FNn.u _ _ _ _ _)
def rZ (B : mS) (i : Nat) (x : Int32) : mS := uS (uS (uS (uS (uS (uS (uS (uS B 3 i x) 4 i 0) 12 (3 * i) 0) 12 (3 * i + 1) 0) 12 (3 * i + 2) 0) 13 i 0) 14 i 0) 15 i 0
theorem rZ_o (B : mS) (i : Nat) (x : Int32) (v l : Nat) (h : ¬ (((v = 3 ∨ v = 4 ∨ v = 13 ∨ v = 14 ∨ v = 15) ∧ l = i) ∨ (v = 12 ∧ (l = 3 * i ∨ l = 3 * i + 1 ∨ l = 3 * i + 2)))) : sS (rZ B i x) v l = sS B v l := by
  unfold rZ
  rw [rSo _ (by omega), rSo _ (by omega), rSo _ (by omega), rSo _ (by omega), rSo _ (by omega), rSo _ (by omega), rSo _ (by omega), rSo _ (by omega)]
theorem rZ_i (B : mS) (i : Nat) (x : Int32) : sS (rZ B i x) 3 i = x ∧ sS (rZ B i x) 4 i = 0 ∧ sS (rZ B i x) 13 i = 0 ∧ sS (rZ B i x) 14 i = 0 ∧ sS (rZ B i x) 15 i = 0 := by
  unfold rZ
  simp [rS]
theorem rZ_t (B : mS) (i : Nat) (x : Int32) (l : Nat) (hl : l < 3) : sS (rZ B i x) 12 (3 * i + l) = 0 := by
  unfold rZ
  rcases (by omega : l = 0 ∨ l = 1 ∨ l = 2) with rfl | rfl | rfl <;> simp [rS]
theorem rZ_W (B : mS) (i : Nat) (x : Int32) (l : Nat) : sW (rZ B i x) l = sW B l := by
  unfold rZ
  simp only [fNK, fRK, fQK, fMK, fUK, fSK, fWK, fKN, fRN, fQN, fMN, fUN, fSN, fWN, fKR, fNR, fQR, fMR, fUR, fSR, fWR, fKQ, fNQ, fRQ, fMQ, fUQ, fSQ, fWQ, fKM, fNM, fRM, fQM, fUM, fSM, fWM, fKA, fNA, fRA, fQA, fSA, fWA, fKS, fNS, fRS, fQS, fMS, fUS, fWS, fKW, fNW, fRW, fQW, fMW, fUW, fSW]
theorem i01 : ((0 : Int32) + 1).toNatClampNeg = 1 := by decide
theorem i02 : ((0 : Int32) + 1 + 1).toNatClampNeg = 2 := by decide
theorem i00 : (0 : Int32).toNatClampNeg = 0 := by decide
/-- what going by rules keeps -/
def KP (i : Nat) (A B A2 B2 : mS) : Prop := (∀ l, ¬ l = 6 → ¬ l = 7 → ¬ l = 8 → sK A2 0 l = sK A 0 l) ∧ (∀ j, sS B2 9 j = sS B 9 j ∧ sS B2 10 j = sS B 10 j) ∧ ∀ j, ¬ j = i → sS B2 2 j = sS B 2 j ∧ sS B2 3 j = sS B 3 j
section Beg
variable {E : mE} {A B : mS} {M N : List Mg} {i g r : Nat} {t x : Int32}
theorem c_z (hi : i < eN E) (hx : x < 30) {B0 : mS} {K : Option Value → mS → Prop} (h : ES E 38 39 [some (.ref (aN E i 0)), some (.int x), some (.int t), some (.int (0 + 1 + 1 + 1))] [] (mix (cZ A i x) B0) K) : ES E 38 0 [some (.ref (aN E i 0)), some (.int x), some (.int t), none] [] (mix A B0) K := by
  refine T38 hi ⟨fun _ => ?_, fun z => absurd hx z⟩
  rintro _ rfl _ rfl
  refine T38_19 hi ⟨fun z => absurd z (by decide), fun _ => ⟨by decide, ?_⟩⟩
  rw [i00]
  rintro _ rfl
  refine T38_19 hi ⟨fun z => absurd z (by decide), fun _ => ⟨by decide, ?_⟩⟩
  rw [i01]
  rintro _ rfl
  refine T38_19 hi ⟨fun z => absurd z (by decide), fun _ => ⟨by decide, ?_⟩⟩
  rw [i02]
  rintro _ rfl
  refine T38_19 hi ⟨fun _ => ?_, fun z => absurd (by decide) z⟩
  refine T38_39 hi ⟨fun z => absurd z (by decide), fun _ => ⟨by decide, ?_⟩⟩
  rw [i00]
  rintro _ rfl
  refine T38_39 hi ⟨fun z => absurd z (by decide), fun _ => ⟨by decide, ?_⟩⟩
  rw [i01]
  rintro _ rfl
  refine T38_39 hi ⟨fun z => absurd z (by decide), fun _ => ⟨by decide, ?_⟩⟩
  rw [i02]
  rintro _ rfl
  simp only [pN]
  exact h
/-- behind the last height a round begins for nothing -/
theorem c_bgn41 (hi : i < eN E) (hx : x < 30) (h41 : ¬ sN A i 0 2 ≤ 40) : CR E 38 0 [some (.ref (aN E i 0)), some (.int x), some (.int t), none] A none (cZ A i x) := fun B0 K hK => c_z hi hx (T38_39 hi ⟨fun _ => ⟨fun z => absurd (by rw [mxN, cZ_o _ _ _ _ _ _ (by omega)] at z; exact z) h41, fun _ => hK⟩, fun z => absurd (by decide) z⟩)
theorem c_bgn30 (hi : i < eN E) (hx : ¬ x < 30) : CR E 38 0 [some (.ref (aN E i 0)), some (.int x), some (.int t), none] A none A := fun B0 K hK => T38 hi ⟨fun z => absurd z hx, fun _ => hK⟩
theorem r_bgn30 (hx : ¬ x < 30) {y : Int32} : RR E 99 0 [some (.ref (aS E 0)), some (.int y), some (.int x), none] B none B := fun A0 K hK => T99 ⟨fun z => absurd z hx, fun _ => hK⟩
theorem r_z (hi : i < 10) (hr : r < 30) {A0 : mS} {K : Option Value → mS → Prop} (h : ES E 99 23 [some (.ref (aS E 0)), some (.int (nI i)), some (.int (nI r)), some (.int (0 + 1 + 1 + 1))] [] (mix A0 (uS (uS (uS (uS (uS B 3 i (nI r)) 4 i 0) 12 (3 * i) 0) 12 (3 * i + 1) 0) 12 (3 * i + 2) 0)) K) : ES E 99 0 [some (.ref (aS E 0)), some (.int (nI i)), some (.int (nI r)), none] [] (mix A0 B) K := by
  have ci : (nI i).toNatClampNeg = i := nI_clamp (by omega)
  have e0 : 3 * nI i + 0 = nI (3 * i) := by rw [il3, pk_mul, Int32.add_zero]
  have e1 : 3 * nI i + (0 + 1) = nI (3 * i + 1) := by rw [il3, pk_mul, show (0 : Int32) + 1 = nI 1 from rfl, nI_add]
  have e2 : 3 * nI i + (0 + 1 + 1) = nI (3 * i + 2) := by rw [il3, pk_mul, show (0 : Int32) + 1 + 1 = nI 2 from rfl, nI_add]
  refine T99 ⟨fun _ => ⟨in_n rfl hi (by omega), ?_⟩, fun z => absurd (nI_lt hr (by omega)) z⟩
  rw [ci]
  rintro _ rfl _ rfl
  refine T99_23 ⟨fun z => absurd z (by decide), fun _ => ⟨in_n e0 (by omega) (by omega), ?_⟩⟩
  rw [e0, nI_clamp (by omega)]
  rintro _ rfl
  refine T99_23 ⟨fun z => absurd z (by decide), fun _ => ⟨in_n e1 (by omega) (by omega), ?_⟩⟩
  rw [e1, nI_clamp (by omega)]
  rintro _ rfl
  refine T99_23 ⟨fun z => absurd z (by decide), fun _ => ⟨in_n e2 (by omega) (by omega), ?_⟩⟩
  rw [e2, nI_clamp (by omega)]
  rintro _ rfl
  simp only [pS]
  exact h
theorem ownv (x : Int32) (r : Nat) : ∃ w, 1 ≤ w ∧ w ≤ MOSTV + r ∧ 2 + 2 * (x &&& 1048575) = nI w := by
  obtain ⟨j, hj, e⟩ := pk_andE x (m := 1048575) 20 (by decide)
  refine ⟨2 + 2 * j, by omega, ?_, by rw [e, il2, pk_mul, nI_add]⟩
  unfold MOSTV
  omega
/-- all but what a round's beginning sets at node i -/
def PRE (E : mE) (A B : mS) (i r : Nat) : Prop := RG E A B ∧ (∀ j, j < eN E → R1 E A B j) ∧ (∀ j, j < eN E → ¬ j = i → R2 E A B j) ∧ VA E A B i r
theorem REST.pre (h : REST E A B) (hi : i < eN E) {r' : Nat} (hr : ∀ r0, r0 < 30 → sS B 3 i = nI r0 → r0 ≤ r') : PRE E A B i r' := by
  refine ⟨h.1, fun j hj => (h.2 j hj).1, fun j hj _ => (h.2 j hj).2, ?_⟩
  obtain ⟨⟨r0, q1, q2, q3⟩, _, q4, _⟩ := (h.2 i hi).2
  exact (q4 r0 q1 q3).fr (hr r0 q1 q3) (fun _ => rfl) (fun _ _ => rfl)
/-- a round begins at node i, on both sides -/
theorem bgn (hN : NET E A B M N) (hBa : PBa E A B) (hSi : PSi E A B) (hI : Idle E A) (hP : PRE E A B i r) (hi : i < eN E) (hr : r < 30) (hg : sS B 2 i = nI g) (h40 : g ≤ 40) :
    ∃ A1 A2 B2 X, CR E 38 0 [some (.ref (aN E i 0)), some (.int (nI r)), some (.int (sK A 0 5)), none] A none A1 ∧ CR E 72 0 [some (.ref (aK E 0)), some (.ref (aN E i 0)), none, none, none, none, none, none] A1 none A2 ∧ RR E 99 0 [some (.ref (aS E 0)), some (.int (nI i)), some (.int (nI r)), none] B none B2 ∧
      Sim E A2 B2 (M ++ X) (N ++ X) ∧ Idle E A2 ∧ KP i A B A2 B2 ∧ (∀ m, m ∈ X → GM E m ∧ sK A 0 5 < m 7) ∧
      sS B2 2 i = nI g ∧ sS B2 3 i = nI r ∧ sS B2 4 i = 0 ∧ sS B2 13 i = 0 ∧ sS B2 14 i = 0 ∧ sS B2 15 i = 0 ∧ sN A1 i 0 8 = sN A i 0 8 ∧ ∀ v l, sK A1 v l = sK A v l := by
  have hn := hN.1.2.2.2
  have hn1 := hN.1.2.2.1
  obtain ⟨hRG, hR1, hR2, hVA⟩ := hP
  obtain ⟨h', q1, q2, q3, q4⟩ := (hR1 i hi).1
  have eg : h' = g := by
    rw [hg, nI_eq (by omega) (by omega)] at q4
    exact q4.symm
  subst eg
  have a0 := hN.2.2.2.2.2.2 i hi
  have ci : (nI i).toNatClampNeg = i := nI_clamp (by omega)
  have tB : sS B 0 3 = sK A 0 5 := hN.2.1.1
  -- states behind the zeroing
  generalize hA0 : uN (cZ A i (nI r)) i 3 0 (sK A 0 5 + 4 + nI r) = A0
  have a0o : ∀ j c l, ¬ (j = i ∧ ((c = 0 ∧ (l = 3 ∨ l = 4)) ∨ c = 3 ∨ c = 4)) → sN A0 j c l = sN A j c l := fun j c l z => by rw [← hA0, rNo _ (by omega), cZ_o _ _ _ _ _ _ z]
  have a03 : sN A0 i 0 3 = nI r := by rw [← hA0, rNo _ (by omega), cZ_3]
  have a04 : sN A0 i 0 4 = 0 := by rw [← hA0, rNo _ (by omega), cZ_4]
  have a0t : ∀ l, l < 3 → sN A0 i 3 l = (if l = 0 then sK A 0 5 + 4 + nI r else 0) ∧ sN A0 i 4 l = 0 := fun l hl => by
    rw [← hA0, rN, rNo _ (by omega), (cZ_t A i (nI r) l hl).1, (cZ_t A i (nI r) l hl).2]
    by_cases e : l = 0
    · rw [if_pos ⟨rfl, e, rfl⟩, if_pos e]
      exact ⟨rfl, rfl⟩
    · rw [if_neg (fun z => e z.2.1), if_neg e]
      exact ⟨rfl, rfl⟩
  have F0 : FNn A A0 := hA0 ▸ (cZ_F A i (nI r)).tr (FNn.u _ _ _ _ _)
  generalize hB0 : rZ B i (nI r) = B0
  have b0o : ∀ v l, ¬ (((v = 3 ∨ v = 4 ∨ v = 13 ∨ v = 14 ∨ v = 15) ∧ l = i) ∨ (v = 12 ∧ (l = 3 * i ∨ l = 3 * i + 1 ∨ l = 3 * i + 2))) → sS B0 v l = sS B v l := fun v l z => by rw [← hB0, rZ_o _ _ _ _ _ z]
  obtain ⟨z3, z4, z13, z14, z15⟩ := rZ_i B i (nI r)
  rw [hB0] at z3 z4 z13 z14 z15
  have b0t : ∀ l, l < 3 → sS B0 12 (3 * i + l) = 0 := fun l hl => by rw [← hB0, rZ_t _ _ _ _ hl]
  have b0W : ∀ l, sW B0 l = sW B l := fun l => by rw [← hB0, rZ_W]
  have hN0 : NET E A0 B0 M N := hN.fr F0 (fun j c l z => a0o j c l (by omega)) (fun v l z => b0o v l (by omega))
  have hBa0 : PBa E A0 B0 := hBa.fr F0.2.1 (fun l => b0o 2 l (by omega)) (fun j d l z => a0o j d l (by omega)) (fun p => b0o 17 p (by omega)) (fun p => b0o 18 p (by omega))
  have hSi0 : PSi E A0 B0 := hSi.fr (fun l => b0o 2 l (by omega)) (fun j d l z1 z2 => a0o j d l (by omega)) (fun p => b0o 19 p (by omega)) (fun p => b0o 20 p (by omega))
  -- the rest, with the timer set
  have hrest : REST E A0 (uS B0 12 (3 * i) (sK A 0 5 + 4 + nI r)) := by
    refine ⟨hRG.fr (fun v l _ => F0.1 v l) (F0.1 0 7) (fun l => by rw [rSo _ (by omega), b0o 1 l (by omega)]) (fun l => by rw [rSo _ (by omega), b0o 37 l (by omega)]) (fun l z => by rw [rSo _ (by omega), b0o 0 l (by omega)]), fun j hj => ⟨(hR1 j hj).fr (a0o _ _ _ (by omega)) (a0o _ _ _ (by omega)) (a0o _ _ _ (by omega)) (fun d l z => a0o _ _ _ (by omega)) (fun v l _ => F0.1 v l) (fun v z => by rw [rSo _ (by omega), b0o v j (by omega)]) (fun v h y1 y2 y3 => by rw [rSo _ (by omega), b0o v _ (by omega)]) (fun h _ => by rw [fWS, b0W]), ?_⟩⟩
    by_cases e : j = i
    · subst e
      have e2 : sS (uS B0 12 (3 * j) (sK A 0 5 + 4 + nI r)) 2 j = nI h' := by rw [rSo _ (by omega), b0o 2 j (by omega)]; exact hg
      have n41 : ¬ sS (uS B0 12 (3 * j) (sK A 0 5 + 4 + nI r)) 2 j = nI 41 := by
        rw [e2, nI_eq (by omega) (by omega)]
        omega
      refine ⟨⟨r, hr, a03, by rw [rSo _ (by omega)]; exact z3⟩, ⟨⟨0, by omega, a04, by rw [rSo _ (by omega)]; exact z4⟩, fun z => absurd z n41⟩, fun r2 hr2 h3 => ?_, fun k hk => ⟨?_, fun z => absurd z n41⟩, fun _ => ?_⟩
      · rw [rSo _ (by omega), z3, nI_eq (by omega) (by omega)] at h3
        subst h3
        exact hVA.fr (Nat.le_refl _) (fun l => a0o _ _ _ (by omega)) (fun v z => by rw [rSo _ (by omega), b0o v j (by omega)])
      · rw [(a0t k hk).1, rS]
        by_cases e0 : k = 0
        · rw [if_pos e0, if_pos ⟨rfl, by omega⟩]
        · rw [if_neg e0, if_neg (by omega), b0t k hk]
      · rw [rSo _ (by omega), rSo _ (by omega), rSo _ (by omega), z13, z14, z15, (a0t 0 (by omega)).2, (a0t 1 (by omega)).2, (a0t 2 (by omega)).2]
        exact ⟨rfl, rfl, rfl, Or.inl rfl, Or.inl rfl, Or.inl rfl⟩
    · exact (hR2 j hj e).fr (a0o _ _ _ (by omega)) (a0o _ _ _ (by omega)) (fun d l _ _ => a0o _ _ _ (by omega)) (fun v z => by rw [rSo _ (by omega), b0o v j (by omega)]) (fun k hk => by rw [rSo _ (by omega), b0o 12 _ (by omega)])
  -- who proposes
  have ep : ∀ S : mS, nI h' + nI r - (nI h' + nI r) / nI (eN E) * nI (eN E) = nI i ↔ (h' + r) % eN E = i := fun _ => by
    rw [nI_add, pk_rem (by omega) (by omega) (by omega), nI_eq (by have := Nat.mod_lt (h' + r) (show 0 < eN E by omega); omega) (by omega)]
  have hne : ¬ nI (eN E) = 0 := nI_ne0 (by omega) (by omega)
  have le40 : nI h' ≤ 40 := by
    rw [show (40 : Int32) = nI 40 from rfl]
    exact nI_le h40 (by omega)
  have rx : nI r < 30 := by rw [il30]; exact nI_lt hr (by omega)
  -- class's run up to the question who proposes
  have crun : ∀ B1 K, (((h' + r) % eN E = i → ((sN A0 i 2 0 = 0 → (ES E 40 0 [some (.ref (aN E i 0)), some (.int 0), some (.int (2 + (2 * (((((sK A 9 1) ^^^ (7919 * nI i)) ^^^ (104729 * nI h')) ^^^ (1299709 * nI r)) &&& 1048575)))), some (.int (-1)), none, none] [] (mix A0 B1) (fun r S8 => r = none ∧ (K none S8)))) ∧ (¬ sN A0 i 2 0 = 0 → (ES E 40 0 [some (.ref (aN E i 0)), some (.int 0), some (.int (sN A0 i 2 0)), some (.int (sN A0 i 2 1)), none, none] [] (mix A0 B1) (fun r S9 => r = none ∧ (K none S9)))))) ∧ (¬ (h' + r) % eN E = i → K none (mix A0 B1))) → ES E 38 0 [some (.ref (aN E i 0)), some (.int (nI r)), some (.int (sK A 0 5)), none] [] (mix A B1) K := by
    intro B1 K h
    refine c_z hi rx (T38_39 hi ⟨fun _ => ⟨fun _ => ⟨by decide, ?_⟩, fun z => absurd (by rw [mxN, cZ_o _ _ _ _ _ _ (by omega), q3]; exact le40) z⟩, fun z => absurd (by decide) z⟩)
    rw [i00, mxN, cZ_3, pN, hA0]
    rintro _ rfl
    simp only [mxK, mxN]
    rw [(cZ_F A i (nI r)).1 9 0, (cZ_F A i (nI r)).1 9 1, hN.1.2.1, a0o i 0 2 (by omega), q3, a03, a0o i 0 0 (by omega), a0, ep A]
    exact ⟨hne, h⟩
  -- the reference's run up to there
  have rrun : ∀ A1 K, (((h' + r) % eN E = i → ((sS B 8 i < 0 → (ES E 101 0 [some (.ref (aS E 0)), some (.int (nI i)), some (.int 0), some (.int (2 + (2 * (((((sS B 0 2) ^^^ (7919 * nI i)) ^^^ (104729 * nI h')) ^^^ (1299709 * nI r)) &&& 1048575)))), some (.int (-1)), none, none, none, none, none, none, none] [] (mix A1 B0) (fun r0 S9 => r0 = none ∧ (∀ S11, S11 = uS S9 12 (3 * i) (((sS S9 0 3) + 4) + nI r) → (K none S11))))) ∧ (¬ sS B 8 i < 0 → (ES E 101 0 [some (.ref (aS E 0)), some (.int (nI i)), some (.int 0), some (.int (sS B 7 i)), some (.int (sS B 8 i)), none, none, none, none, none, none, none] [] (mix A1 B0) (fun r0 S12 => r0 = none ∧ (∀ S14, S14 = uS S12 12 (3 * i) (((sS S12 0 3) + 4) + nI r) → (K none S14))))))) ∧ (¬ (h' + r) % eN E = i → ∀ S16, S16 = uS (mix A1 B0) 12 (3 * i) (((sS (mix A1 B0) 0 3) + 4) + nI r) → (K none S16))) → ES E 99 0 [some (.ref (aS E 0)), some (.int (nI i)), some (.int (nI r)), none] [] (mix A1 B) K := by
    intro A1 K h
    have c3i : (3 * nI i).toNatClampNeg = 3 * i := cl_n (by rw [il3, pk_mul]) (by omega)
    have g3i : ¬ 3 * nI i < 0 ∧ 3 * i < 30 := ⟨(in_n (n := 30) (show 3 * nI i = nI (3 * i) by rw [il3, pk_mul]) (by omega) (by omega)).1, by omega⟩
    refine r_z (by omega) hr (T99_23 ⟨fun _ => ⟨in_n rfl (by omega) (by omega), ?_⟩, fun z => absurd (by decide) z⟩)
    rw [ci, c3i]
    rintro _ rfl _ rfl _ rfl
    have eB : uS (uS (uS (mix A1 (uS (uS (uS (uS (uS B 3 i (nI r)) 4 i 0) 12 (3 * i) 0) 12 (3 * i + 1) 0) 12 (3 * i + 2) 0)) 13 i 0) 14 i 0) 15 i 0 = mix A1 B0 := by
      rw [pS, pS, pS, ← hB0]
      rfl
    rw [eB]
    have f1 : ∀ v l, sS (mix A1 B0) v l = sS B0 v l := fun v l => mxS _ _ _ _
    rw [f1 0 1, f1 2 i, f1 8 i, f1 7 i, f1 0 2, b0o 0 1 (by omega), b0o 2 i (by omega), b0o 8 i (by omega), b0o 7 i (by omega), b0o 0 2 (by omega), hN.1.1, hg, ep A]
    refine ⟨hne, fun e => ⟨fun e1 => ES.mono ((h.1 e).1 e1) (fun r0 S' z => ⟨z.1, g3i, z.2⟩), fun e1 => ES.mono ((h.1 e).2 e1) (fun r0 S' z => ⟨z.1, g3i, z.2⟩)⟩, fun e => ⟨g3i, h.2 e⟩⟩
  -- what follows sending
  have fin : ∀ (w q : Int32), gw E i h' r 0 w q q → (∀ B1 K, ES E 40 0 [some (.ref (aN E i 0)), some (.int 0), some (.int w), some (.int q), none, none] [] (mix A0 B1) (fun r S8 => r = none ∧ (K none S8)) → ES E 38 0 [some (.ref (aN E i 0)), some (.int (nI r)), some (.int (sK A 0 5)), none] [] (mix A B1) K) →
      (∀ A1 K, (ES E 101 0 [some (.ref (aS E 0)), some (.int (nI i)), some (.int 0), some (.int w), some (.int q), none, none, none, none, none, none, none] [] (mix A1 B0) (fun r0 S9 => r0 = none ∧ (∀ S11, S11 = uS S9 12 (3 * i) (((sS S9 0 3) + 4) + nI r) → (K none S11)))) → ES E 99 0 [some (.ref (aS E 0)), some (.int (nI i)), some (.int (nI r)), none] [] (mix A1 B) K) →
      ∃ A1 A2 B2 X, CR E 38 0 [some (.ref (aN E i 0)), some (.int (nI r)), some (.int (sK A 0 5)), none] A none A1 ∧ CR E 72 0 [some (.ref (aK E 0)), some (.ref (aN E i 0)), none, none, none, none, none, none] A1 none A2 ∧ RR E 99 0 [some (.ref (aS E 0)), some (.int (nI i)), some (.int (nI r)), none] B none B2 ∧
      Sim E A2 B2 (M ++ X) (N ++ X) ∧ Idle E A2 ∧ KP i A B A2 B2 ∧ (∀ m, m ∈ X → GM E m ∧ sK A 0 5 < m 7) ∧
      sS B2 2 i = nI h' ∧ sS B2 3 i = nI r ∧ sS B2 4 i = 0 ∧ sS B2 13 i = 0 ∧ sS B2 14 i = 0 ∧ sS B2 15 i = 0 ∧ sN A1 i 0 8 = sN A i 0 8 ∧ ∀ v l, sK A1 v l = sK A v l := by
    intro w q hw hc hr0
    obtain ⟨A1, A2, B2, X, s1, s2, s3, s4, s5, s6, s7, s8, s9, s10, s11, s12, s13, s14, _, s15, s16⟩ := snd none hN0 hi q1 h40 hr (show 0 < 3 by omega) (by rw [a0o i 0 2 (by omega)]; exact q3) a03 (by rw [b0o 2 i (by omega)]; exact hg) z3 (by rw [a0o i 0 7 (by omega), b0o 11 i (by omega)]; exact (hR1 i hi).2.1) hBa0 hSi0 hw
    have s8' : ∀ j d l, d < 9 → ¬ (d = 0 ∧ l = 17) → sN A2 j d l = sN A0 j d l := fun j d l z1 z2 => by
      by_cases e : j = i ∧ d = 0 ∧ l = 4
      · obtain ⟨rfl, rfl, rfl⟩ := e
        rw [s9, if_pos rfl]
      · exact s8 j d l z1 (by omega)
    have tB2 : sS B2 0 3 + 4 + nI r = sK A 0 5 + 4 + nI r := by rw [s13.1 0 3 (by omega) (by omega) (by omega), b0o 0 3 (by omega), tB]
    have sF : FBS (uS B0 12 (3 * i) (sK A 0 5 + 4 + nI r)) (uS B2 12 (3 * i) (sK A 0 5 + 4 + nI r)) := s13.u _ _ _
    refine ⟨A1, A2, uS B2 12 (3 * i) (sK A 0 5 + 4 + nI r), X, fun B1 K hK => hc B1 K (s1 B1 _ ⟨rfl, hK⟩), s2, fun A3 K hK => hr0 A3 K (s3 A3 _ ⟨rfl, ?_⟩), ⟨?_, ?_, ?_, ?_⟩, fun j hj => ?_, ?_, fun m hm => ?_, ?_, ?_, ?_, ?_, ?_, ?_, by rw [s15 8 (by omega) (by omega), a0o _ _ _ (by omega)], fun v l => by rw [s16.1, F0.1]⟩
    · rw [mxS, tB2]
      rintro _ rfl
      rw [pS]
      exact hK
    · exact s4.fr (FNn.rf A2) (fun _ _ _ _ => rfl) (fun v l z => by rw [rSo _ (by omega)])
    · exact s5.fr (fun _ _ => rfl) (fun l => by rw [rSo _ (by omega)]) (fun _ _ _ _ => rfl) (fun p => by rw [rSo _ (by omega)]) (fun p => by rw [rSo _ (by omega)])
    · exact s6.fr (fun l => by rw [rSo _ (by omega)]) (fun _ _ _ _ _ => rfl) (fun p => by rw [rSo _ (by omega)]) (fun p => by rw [rSo _ (by omega)])
    · exact ⟨hrest.1.snd s11 (s12 7 (by omega) (by omega)) sF, fun j hj => ⟨((hrest.2 j hj).1).snd (fun d l z1 z2 => s8' j d l z1 (by omega)) s11 sF, ((hrest.2 j hj).2).snd (fun d l z1 z2 => s8' j d l z1 z2) sF⟩⟩
    · by_cases e : j = i
      · subst e
        exact s7
      · rw [s8 j 0 17 (by omega) (by omega)]
        show sN A0 j 0 17 = 0
        rw [a0o j 0 17 (by omega)]
        exact hI j hj
    · exact ⟨fun l y1 _ y3 => by rw [s12 l y1 y3, F0.1], fun j => ⟨by rw [rSo _ (by omega), s13.1 9 j (by omega) (by omega) (by omega), b0o 9 j (by omega)], by rw [rSo _ (by omega), s13.1 10 j (by omega) (by omega) (by omega), b0o 10 j (by omega)]⟩, fun j e => ⟨by rw [rSo _ (by omega), s13.1 2 j (by omega) (by omega) (by omega), b0o 2 j (by omega)], by rw [rSo _ (by omega), s13.1 3 j (by omega) (by omega) (by omega), b0o 3 j (by omega)]⟩⟩
    · have := s14 m hm
      rw [F0.1] at this
      exact this
    · rw [rSo _ (by omega), s13.1 2 i (by omega) (by omega) (by omega), b0o 2 i (by omega)]
      exact hg
    · rw [rSo _ (by omega), s13.1 3 i (by omega) (by omega) (by omega), z3]
    · rw [rSo _ (by omega), s13.1 4 i (by omega) (by omega) (by omega), z4]
    · rw [rSo _ (by omega), s13.1 13 i (by omega) (by omega) (by omega), z13]
    · rw [rSo _ (by omega), s13.1 14 i (by omega) (by omega) (by omega), z14]
    · rw [rSo _ (by omega), s13.1 15 i (by omega) (by omega) (by omega), z15]
  have va20 : sN A0 i 2 0 = sN A i 2 0 := a0o _ _ _ (by omega)
  have va21 : sN A0 i 2 1 = sN A i 2 1 := a0o _ _ _ (by omega)
  by_cases hp : (h' + r) % eN E = i
  · rcases hVA.2.2 with ⟨y1, y2⟩ | ⟨q, h2, y1, y2, y3, y4, y5⟩
    · have n0 : sN A0 i 2 0 = 0 := by rw [va20, hVA.1, y1]
      have n8 : sS B 8 i < 0 := by rw [y2]; decide
      refine fin (2 + (2 * (((((sK A 9 1) ^^^ (7919 * nI i)) ^^^ (104729 * nI h')) ^^^ (1299709 * nI r)) &&& 1048575))) (-1) ⟨?_, fun _ => ⟨rfl, hp, by decide, ownv _ r⟩⟩ (fun B1 K h => crun B1 K ⟨fun _ => ⟨fun _ => h, fun z => absurd n0 z⟩, fun z => absurd hp z⟩) (fun A1 K h => rrun A1 K ⟨fun _ => ⟨fun _ => ?_, fun z => absurd n8 z⟩, fun z => absurd hp z⟩)
      · obtain ⟨w, w1, w2, w3⟩ := ownv ((((sK A 9 1) ^^^ (7919 * nI i)) ^^^ (104729 * nI h')) ^^^ (1299709 * nI r)) r
        rw [w3]
        unfold MOSTV at w2
        exact nI_pos' (by omega)
      · rw [hRG.2.2.2]
        exact h
    · have eh : h2 = h' := by
        rw [hg, nI_eq (by omega) (by omega)] at y4
        exact y4.symm
      subst eh
      obtain ⟨y6, y7, y8⟩ := y5.pos (by omega)
      have n0 : ¬ sN A0 i 2 0 = 0 := by rw [va20, hVA.1]; exact y8
      have n8 : ¬ sS B 8 i < 0 := by rw [y3]; exact nI_pos (by omega)
      refine fin (sS B 7 i) (sS B 8 i) ⟨y6, fun _ => ⟨rfl, hp, ?_, ?_⟩⟩ (fun B1 K h => crun B1 K ⟨fun _ => ⟨fun z => absurd z n0, fun _ => ?_⟩, fun z => absurd hp z⟩) (fun A1 K h => rrun A1 K ⟨fun _ => ⟨fun z => absurd z n8, fun _ => h⟩, fun z => absurd hp z⟩)
      · rw [y3, Int32.le_iff_toInt_le, nI_toInt (by omega)]
        have : (-1 : Int32).toInt = -1 := rfl
        omega
      · obtain ⟨w, w1, w2, w3⟩ := y5
        refine ⟨w, w1, ?_, w3⟩
        by_cases e : q = r
        · subst e
          rw [if_pos hp] at w2
          omega
        · split at w2 <;> omega
      · rw [va20, va21, hVA.1, hVA.2.1]
        exact h
  · -- another proposes
    refine ⟨A0, A0, uS B0 12 (3 * i) (sK A 0 5 + 4 + nI r), [], fun B1 K hK => crun B1 K ⟨fun z => absurd z hp, fun _ => hK⟩, disp0 hi (by rw [a0o i 0 17 (by omega)]; exact hI i hi), fun A1 K hK => rrun A1 K ⟨fun z => absurd z hp, fun _ => ?_⟩, ⟨?_, ?_, ?_, hrest⟩, fun j hj => by rw [a0o j 0 17 (by omega)]; exact hI j hj, ⟨fun l _ _ _ => F0.1 0 l, fun j => ⟨by rw [rSo _ (by omega), b0o 9 j (by omega)], by rw [rSo _ (by omega), b0o 10 j (by omega)]⟩, fun j e => ⟨by rw [rSo _ (by omega), b0o 2 j (by omega)], by rw [rSo _ (by omega), b0o 3 j (by omega)]⟩⟩, fun m hm => (by cases hm), ?_, ?_, ?_, ?_, ?_, ?_, a0o _ _ _ (by omega), fun v l => F0.1 v l⟩
    · rw [mxS, b0o 0 3 (by omega), tB]
      rintro _ rfl
      rw [pS]
      exact hK
    · rw [List.append_nil, List.append_nil]
      exact hN0.fr (FNn.rf A0) (fun _ _ _ _ => rfl) (fun v l z => by rw [rSo _ (by omega)])
    · exact hBa0.fr (fun _ _ => rfl) (fun l => by rw [rSo _ (by omega)]) (fun _ _ _ _ => rfl) (fun p => by rw [rSo _ (by omega)]) (fun p => by rw [rSo _ (by omega)])
    · exact hSi0.fr (fun l => by rw [rSo _ (by omega)]) (fun _ _ _ _ _ => rfl) (fun p => by rw [rSo _ (by omega)]) (fun p => by rw [rSo _ (by omega)])
    · rw [rSo _ (by omega), b0o 2 i (by omega)]
      exact hg
    · rw [rSo _ (by omega)]
      exact z3
    · rw [rSo _ (by omega)]
      exact z4
    · rw [rSo _ (by omega)]
      exact z13
    · rw [rSo _ (by omega)]
      exact z14
    · rw [rSo _ (by omega)]
      exact z15
end Beg
