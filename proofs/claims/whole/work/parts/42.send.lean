/-! ===== a node signs a message, keeps it and sends it ===== -/
/-- a good value to be sent: of proposals its size, the proposer, and since when -/
def gw (E : mE) (i g r k : Nat) (v qc qr : Int32) : Prop := 0 ≤ v ∧ (k = 0 → qc = qr ∧ (g + r) % eN E = i ∧ -1 ≤ qr ∧ ∃ w, 1 ≤ w ∧ w ≤ MOSTV + r ∧ v = nI w)
section Snd
variable {E : mE} {A B : mS} {i g r k : Nat} {w qc qr : Int32}
theorem sg_put {A' B' : mS} {v q q2 : Int32} (hP : PSi E A B) (hg41 : g ≤ 40) (hh : sS B 2 i = nI g) (hr : r < 30) (hk : k < 3) (h2 : ∀ l, sS B' 2 l = sS B 2 l) (ho : ∀ j d l, ¬ j = i → sN A' j d l = sN A j d l) (e2 : ∀ l, sN A' i 11 l = if l = (r * 1 + 0) * 3 + k then v else sN A i 11 l) (e1 : ∀ l, sN A' i 10 l = if k = 0 ∧ l = r then q else sN A i 10 l) (e0 : sN A' i 9 0 = sN A i 9 0) (e3 : sN A' i 9 3 = if nI r ≤ sN A i 9 3 then sN A i 9 3 else nI r)
    (f19 : ∀ p, sS B' 19 p = if p = 90 * i + 3 * r + k then v else sS B 19 p) (f20 : ∀ p, sS B' 20 p = if p = 90 * i + 3 * r + k then q2 else sS B 20 p) (hw : gw E i g r k v q q2) : PSi E A' B' := by
  intro j hj
  obtain ⟨a, b, d, t, t1, t2, t3, t4⟩ := hP j hj
  by_cases e : j = i
  · subst e
    refine ⟨e0.trans a, fun r' k' hr' hk' => ?_, fun r' h' hr' h41 hh' hv' => ?_, ?_⟩
    · rw [e2, f19]
      by_cases z : r' = r ∧ k' = k
      · obtain ⟨rfl, rfl⟩ := z
        rw [if_pos (by omega), if_pos rfl]
        exact Or.inr ⟨rfl, hw.1⟩
      · rw [if_neg (by omega), if_neg (by omega)]
        exact b r' k' hr' hk'
    · rw [h2] at hh'
      have eh : h' = g := by
        rw [hh, nI_eq (by omega) (by omega)] at hh'
        exact hh'.symm
      subst eh
      rw [f19] at hv' ⊢
      rw [f20, e1]
      by_cases z : r' = r ∧ k = 0
      · obtain ⟨rfl, rfl⟩ := z
        obtain ⟨w1, w2, w3, w4⟩ := hw.2 rfl
        rw [if_pos (by omega), if_pos (by omega), if_pos ⟨rfl, rfl⟩]
        exact ⟨w4, w2, w1.symm, by rw [w1]; exact w3⟩
      · rw [if_neg (by omega)] at hv' ⊢
        rw [if_neg (by omega), if_neg (by omega)]
        exact d r' h' hr' h41 hh hv'
    · rw [e3, t2]
      by_cases z : r < t
      · rw [if_pos ((top_le (by omega) (by omega)).2 z)]
        refine ⟨t, t1, rfl, fun r' k' q1 q2 q3 => ?_, fun z3 => absurd z3 (by rw [h2, hh, nI_eq (by omega) (by omega)]; omega)⟩
        rw [e2, if_neg (by omega)]
        exact t3 r' k' q1 q2 q3
      · rw [if_neg (fun z2 => z ((top_le (by omega) (by omega)).1 z2))]
        refine ⟨r + 1, by omega, (nI_pred r).symm, fun r' k' q1 q2 q3 => ?_, fun z3 => absurd z3 (by rw [h2, hh, nI_eq (by omega) (by omega)]; omega)⟩
        rw [e2, if_neg (by omega)]
        exact t3 r' k' (by omega) q2 q3
  · have n19 : ∀ r' k', r' < 30 → k' < 3 → sS B' 19 (90 * j + 3 * r' + k') = sS B 19 (90 * j + 3 * r' + k') := fun r' k' _ _ => by rw [f19, if_neg (by omega)]
    have n20 : ∀ r', r' < 30 → sS B' 20 (90 * j + 3 * r') = sS B 20 (90 * j + 3 * r') := fun r' _ => by rw [f20, if_neg (by omega)]
    refine ⟨by rw [ho j _ _ e]; exact a, fun r' k' hr' hk' => ?_, fun r' h' hr' h41 hh' hv' => ?_, t, t1, by rw [ho j _ _ e]; exact t2, fun r' k' q1 q2 q3 => ?_, by rw [h2]; exact t4⟩
    · rw [ho j _ _ e, n19 r' k' hr' hk']
      exact b r' k' hr' hk'
    · have := n19 r' 0 hr' (by omega)
      rw [Nat.add_zero] at this
      rw [this] at hv' ⊢
      rw [n20 r' hr', ho j _ _ e]
      rw [h2] at hh'
      exact d r' h' hr' h41 hh' hv'
    · rw [ho j _ _ e]
      exact t3 r' k' q1 q2 q3
/-- signing -/
theorem sndS (hi : i < eN E) (hn : eN E ≤ 10) (h40 : g ≤ 40) (hr : r < 30) (hk : k < 3) (a3 : sN A i 0 3 = nI r) (b2 : sS B 2 i = nI g) (b3 : sS B 3 i = nI r) (hbe : sN A i 0 7 = sS B 11 i) (hP : PSi E A B) (hw : gw E i g r k w qc qr) :
    ∃ A1 B1 v qc' qr', (∀ B0 K, ES E 40 103 [some (.ref (aN E i 0)), some (.int (nI k)), some (.int w), some (.int qc), some (.int v), some (.int qc')] [] (mix A1 B0) K → ES E 40 0 [some (.ref (aN E i 0)), some (.int (nI k)), some (.int w), some (.int qc), none, none] [] (mix A B0) K) ∧
      (∀ A0 K, ES E 101 113 [some (.ref (aS E 0)), some (.int (nI i)), some (.int (nI k)), some (.int w), some (.int qr), some (.int (nI g)), some (.int (nI r)), some (.int v), some (.int qr'), some (.int (90 * nI i + 3 * nI r + nI k)), none, none] [] (mix A0 B1) K → ES E 101 0 [some (.ref (aS E 0)), some (.int (nI i)), some (.int (nI k)), some (.int w), some (.int qr), none, none, none, none, none, none, none] [] (mix A0 B) K) ∧
      PSi E A1 B1 ∧ gw E i g r k v qc' qr' ∧ FNn A A1 ∧ (∀ j d l, d < 9 ∨ 11 < d → sN A1 j d l = sN A j d l) ∧ (∀ v l, ¬ v = 19 → ¬ v = 20 → sS B1 v l = sS B v l) ∧ ∀ l, sW B1 l = sW B l := by
  have ci : (nI i).toNatClampNeg = i := nI_clamp (by omega)
  have cr : (nI r).toNatClampNeg = r := nI_clamp (by omega)
  have hk0 : nI k = 0 ↔ k = 0 := by rw [il0, nI_eq (by omega) (by omega)]
  have hk1 : nI k ≤ 0 ↔ k = 0 := by
    rw [il0, le_n (by omega) (by omega)]
    omega
  have e9 : 90 * nI i + 3 * nI r + nI k = nI (90 * i + 3 * r + k) := by rw [il90, il3, pk_mul, pk_mul, nI_add, nI_add]
  have c9 : (90 * nI i + 3 * nI r + nI k).toNatClampNeg = 90 * i + 3 * r + k := cl_n e9 (by omega)
  have g9 : ¬ 90 * nI i + 3 * nI r + nI k < 0 ∧ (90 * nI i + 3 * nI r + nI k).toNatClampNeg < 900 := in_n e9 (by omega) (by omega)
  obtain ⟨p1, p2, p3, t, t1, t2, t3⟩ := hP i hi
  have ex : ∀ B0, (sN (mix A B0) i 0 3 * sN (mix A B0) i 9 0 + 0) * 3 + nI k = nI (r * 3 + k) := fun B0 => by
    rw [mxN, mxN, a3, p1]
    have := ix_b r 1 0 k
    rw [show (r * 1 + 0) * 3 + k = r * 3 + k by omega] at this
    exact this
  have gx : ∀ B0, ¬ (sN (mix A B0) i 0 3 * sN (mix A B0) i 9 0 + 0) * 3 + nI k < 0 ∧ ((sN (mix A B0) i 0 3 * sN (mix A B0) i 9 0 + 0) * 3 + nI k).toNatClampNeg < lnB (eN E) 9 := fun B0 => in_n (ex B0) (show r * 3 + k < 90 by omega) (by show (90 : Nat) < _; omega)
  have cx : ∀ B0, sN (mix A B0) i (9 + 2) ((sN (mix A B0) i 0 3 * sN (mix A B0) i 9 0 + 0) * 3 + nI k).toNatClampNeg = sN A i 11 (r * 3 + k) := fun B0 => by
    rw [ex, nI_clamp (by omega)]
    rfl
  have mb : ∀ B0, sN (mix A B0) i 0 7 = sS B 11 i := fun B0 => hbe
  have m3 : ∀ B0, sN (mix A B0) i 0 3 = nI r := fun B0 => a3
  have rb : ∀ A0, sS (mix A0 B) 11 i = sS B 11 i := fun _ => rfl
  -- the value
  have hv0 : gw E i g r k (if sS B 11 i = 5 ∧ ¬ k = 0 then 0 else w) qc qr := by
    by_cases z : sS B 11 i = 5 ∧ ¬ k = 0
    · rw [if_pos z]
      exact ⟨by decide, fun e => absurd e z.2⟩
    · rw [if_neg z]
      exact hw
  by_cases h4 : sS B 11 i = 4
  · have h5 : ¬ sS B 11 i = 5 := by rw [h4]; decide
    refine ⟨A, B, w, qc, qr, fun B0 K h => T40 hi ⟨fun z => absurd ((mb B0).symm.trans z) h5, fun _ => ⟨fun _ => h, fun z => absurd ((mb B0).trans h4) z⟩⟩, fun A0 K h => T101 ⟨in_n rfl (by omega) (by omega), ?_⟩, hP, hw, FNn.rf A, fun _ _ _ _ => rfl, fun _ _ _ _ => rfl, fun _ => rfl⟩
    rw [ci, rb]
    refine ⟨fun z => absurd z h5, fun _ => T101_34 ⟨in_n rfl (by omega) (by omega), ?_⟩⟩
    rw [ci, rb, mxS, b2, mxS, b3]
    exact ⟨fun _ => h, fun z => absurd h4 z⟩
  · rcases (p2 r k hr hk).c with ⟨x1, x2, x3, x4⟩ | ⟨x1, x2, x3, x4⟩
    · -- not signed yet
      obtain ⟨A1, q1, q2, q3, q4, q5, q6, q7⟩ := c_put (E := E) (A := A) (i := i) (c := 9) (z := 1) (r := r) (s := 0) (k := k) (v := if sS B 11 i = 5 ∧ ¬ k = 0 then 0 else w) (q := qc) hi hn Bal.n9 p1 rfl hr (by omega) hk
      refine ⟨A1, uS (uS B 19 (90 * i + 3 * r + k) (if sS B 11 i = 5 ∧ ¬ k = 0 then 0 else w)) 20 (90 * i + 3 * r + k) qr, if sS B 11 i = 5 ∧ ¬ k = 0 then 0 else w, qc, qr, fun B0 K h => T40 hi ?_, fun A0 K h => T101 ⟨in_n rfl (by omega) (by omega), ?_⟩, ?_, hv0, q2, fun j d l z => q3 j d l (by omega), fun v l z1 z2 => by rw [rSo _ (by omega), rSo _ (by omega)], fun l => by rw [fWS, fWS]⟩
      · rw [mb, cx]
        refine ⟨fun z5 => ⟨fun z => ⟨fun z4 => absurd z4 h4, fun _ => ⟨gx B0, fun _ => ?_, fun z6 => absurd x1 z6⟩⟩, fun z => ⟨fun z4 => absurd z4 h4, fun _ => ⟨gx B0, fun _ => ?_, fun z6 => absurd x1 z6⟩⟩⟩, fun z5 => ⟨fun z4 => absurd z4 h4, fun _ => ⟨gx B0, fun _ => ?_, fun z6 => absurd x1 z6⟩⟩⟩
        · rw [if_neg (fun y => y.2 (hk0.1 z))] at q1 h
          rw [m3]
          exact q1 B0 _ ⟨rfl, h⟩
        · rw [if_pos ⟨z5, fun y => z (hk0.2 y)⟩] at q1 h
          rw [m3]
          exact q1 B0 _ ⟨rfl, h⟩
        · rw [if_neg (fun y => z5 y.1)] at q1 h
          rw [m3]
          exact q1 B0 _ ⟨rfl, h⟩
      · have s19 : ∀ A0 : mS, sS (mix A0 B) 19 (90 * i + 3 * r + k) < 0 := fun _ => x4
        rw [ci, rb, mxS A0 B 2, mxS A0 B 3, b2, b3, c9, hk1]
        have hE : sS B 11 i = 5 ∧ ¬ k = 0 ∨ ¬ (sS B 11 i = 5 ∧ ¬ k = 0) := Classical.em _
        rcases hE with hE | hE
        · rw [if_pos hE] at h
          refine ⟨fun _ => ⟨fun z => absurd z hE.2, fun _ => ⟨fun z => absurd z h4, fun _ => ⟨c9 ▸ g9, fun _ => ?_, fun z => absurd (s19 A0) z⟩⟩⟩, fun z => absurd hE.1 z⟩
          rintro _ rfl _ rfl
          rw [pS, pS]
          exact h
        · rw [if_neg hE] at h
          have go : ES E 101 34 [some (.ref (aS E 0)), some (.int (nI i)), some (.int (nI k)), some (.int w), some (.int qr), some (.int (nI g)), some (.int (nI r)), none, none, none, none, none] [] (mix A0 B) K := by
            refine T101_34 ⟨in_n rfl (by omega) (by omega), ?_⟩
            rw [ci, rb, c9]
            refine ⟨fun z => absurd z h4, fun _ => ⟨c9 ▸ g9, fun _ => ?_, fun z => absurd (s19 A0) z⟩⟩
            rintro _ rfl _ rfl
            rw [pS, pS]
            exact h
          exact ⟨fun z => ⟨fun _ => go, fun z2 => absurd ⟨z, z2⟩ hE⟩, fun _ => go⟩
      · refine sg_put hP (by omega) b2 hr hk (fun l => by rw [rSo _ (by omega), rSo _ (by omega)]) (fun j d l z => q3 j d l (by omega)) q4 q5 (q6 0 (by omega)) q7 (fun p => ?_) (fun p => ?_) hv0
        · rw [rSo _ (by omega), rS]
          by_cases z : p = 90 * i + 3 * r + k
          · rw [if_pos ⟨rfl, z⟩, if_pos z]
          · rw [if_neg (fun y => z y.2), if_neg z]
        · rw [rS]
          by_cases z : p = 90 * i + 3 * r + k
          · rw [if_pos ⟨rfl, z⟩, if_pos z]
          · rw [if_neg (fun y => z y.2), if_neg z, rSo _ (by omega)]
    · -- signed before
      refine ⟨A, B, sS B 19 (90 * i + 3 * r + k), if k = 0 then sN A i 10 r else qc, sS B 20 (90 * i + 3 * r + k), fun B0 K h => T40 hi ?_, fun A0 K h => T101 ⟨in_n rfl (by omega) (by omega), ?_⟩, hP, ⟨x2, fun e => ?_⟩, FNn.rf A, fun _ _ _ _ => rfl, fun _ _ _ _ => rfl, fun _ => rfl⟩
      · rw [mb, cx, m3, cr]
        rw [← x1] at h
        have hr30 : ¬ nI r < 0 ∧ r < 30 := ⟨nI_pos (by omega), hr⟩
        refine ⟨fun z5 => ⟨fun z => ⟨fun z4 => absurd z4 h4, fun _ => ⟨?_, fun z6 => absurd z6 x3, fun _ => ⟨hr30, ?_⟩⟩⟩, fun z => ⟨fun z4 => absurd z4 h4, fun _ => ⟨?_, fun z6 => absurd z6 x3, fun _ => ?_⟩⟩⟩, fun z5 => ⟨fun z4 => absurd z4 h4, fun _ => ⟨?_, fun z6 => absurd z6 x3, fun _ => ⟨fun z => ⟨hr30, ?_⟩, fun z => ?_⟩⟩⟩⟩
        · have := gx B0
          rw [m3] at this
          exact this
        · rw [if_pos (hk0.1 z)] at h
          exact h
        · have := gx B0
          rw [m3] at this
          exact this
        · rw [if_neg (fun y => z (hk0.2 y))] at h
          exact h
        · have := gx B0
          rw [m3] at this
          exact this
        · rw [if_pos (hk0.1 z)] at h
          exact h
        · rw [if_neg (fun y => z (hk0.2 y))] at h
          exact h
      · have s19 : ∀ A0 : mS, ¬ sS (mix A0 B) 19 (90 * i + 3 * r + k) < 0 := fun _ => x4
        rw [ci, rb, mxS A0 B 2, mxS A0 B 3, b2, b3, c9, hk1]
        have go : ES E 101 34 [some (.ref (aS E 0)), some (.int (nI i)), some (.int (nI k)), some (.int w), some (.int qr), some (.int (nI g)), some (.int (nI r)), none, none, none, none, none] [] (mix A0 B) K := by
          refine T101_34 ⟨in_n rfl (by omega) (by omega), ?_⟩
          rw [ci, rb, c9]
          exact ⟨fun z => absurd z h4, fun _ => ⟨c9 ▸ g9, fun z => absurd z (s19 A0), fun _ => h⟩⟩
        exact ⟨fun z => ⟨fun _ => go, fun z2 => ⟨fun z => absurd z h4, fun _ => ⟨c9 ▸ g9, fun z => absurd z (s19 A0), fun _ => h⟩⟩⟩, fun _ => go⟩
      · subst e
        rw [Nat.add_zero] at x2 ⊢
        obtain ⟨y1, y2, y3, y4⟩ := p3 r g hr (by omega) b2 x2
        rw [if_pos rfl]
        exact ⟨y3.symm, y2, by rw [y3]; exact y4, y1⟩
end Snd
