/-! ===== clearing ===== -/
section Clr
variable {E : mE} {A B : mS} {i c z t h : Nat}
/-- the class clears ballots -/
theorem c_clear (hi : i < eN E) (hn : eN E ≤ 10) (hc : Bal c) (hz : sN A i c 0 = nI z) (hl : lnB (eN E) c = 90 * z) (ht : t ≤ 30) (htop : sN A i c 3 = nI t - 1) (he : ∀ r s k, t ≤ r → r < 30 → s < z → k < 3 → sN A i (c + 2) ((r * z + s) * 3 + k) = -2) : ∃ A', CR E 13 0 [some (.ref (aN E i c)), none, none] A none A' ∧ FNn A A' ∧ (∀ j d l, ¬ (j = i ∧ (d = c + 2 ∨ (d = c ∧ l = 3))) → sN A' j d l = sN A j d l) ∧ sN A' i c 3 = -1 ∧ ∀ r s k, r < 30 → s < z → k < 3 → sN A' i (c + 2) ((r * z + s) * 3 + k) = -2 := by
  have hz2 : z ≤ 10 := by
    unfold lnB at hl
    split at hl <;> omega
  have hb : t * z * 3 ≤ 90 * z := by
    have : t * z ≤ 30 * z := Nat.mul_le_mul_right z ht
    omega
  have e1 : (sN A i c 3 + 1) * sN A i c 0 * 3 = nI (t * z * 3) := by
    rw [htop, hz, Int32.sub_add_cancel, pk_mul, il3, pk_mul]
  have key : ∀ m j A1, j + m = t * z * 3 → FNn A A1 → (∀ j' d l, ¬ (j' = i ∧ d = c + 2) → sN A1 j' d l = sN A j' d l) → (∀ l, sN A1 i (c + 2) l = if l < j then -2 else sN A i (c + 2) l) →
      ∃ A', CR E 13 16 [some (.ref (aN E i c)), some (.int (nI (t * z * 3))), some (.int (nI j))] A1 none A' ∧ FNn A A' ∧ (∀ j' d l, ¬ (j' = i ∧ (d = c + 2 ∨ (d = c ∧ l = 3))) → sN A' j' d l = sN A j' d l) ∧ sN A' i c 3 = -1 ∧ ∀ l, sN A' i (c + 2) l = if l < t * z * 3 then -2 else sN A i (c + 2) l := by
    intro m
    induction m with
    | zero =>
      intro j A1 hj hF ho hv
      have e : j = t * z * 3 := by omega
      subst e
      refine ⟨uN A1 i c 3 (-1), fun B0 K hK => T13_16 hi hc ⟨fun _ => ?_, fun q => absurd (nI_le (Nat.le_refl _) (by omega)) q⟩, hF.tr (FNn.u _ _ _ _ _), fun j' d l q => by rw [rNo _ (by omega), ho j' d l (by omega)], rNs _ _ _ _ _, fun l => by rw [rNo _ (by omega), hv]⟩
      rintro _ rfl
      rw [pN]
      exact hK
    | succ m ih =>
      intro j A1 hj hF ho hv
      obtain ⟨A', h1, h2⟩ := ih (j + 1) (uN A1 i (c + 2) j (-2)) (by omega) (hF.tr (FNn.u _ _ _ _ _)) (fun j' d l q => by rw [rNo _ (by omega), ho j' d l q]) (fun l => by
        rw [rN]
        by_cases e : l = j
        · rw [if_pos ⟨rfl, e, rfl⟩, if_pos (by omega)]
        · rw [if_neg (fun q => e q.2.1), hv]
          by_cases e2 : l < j
          · rw [if_pos e2, if_pos (by omega)]
          · rw [if_neg e2, if_neg (by omega)])
      refine ⟨A', fun B0 K hK => T13_16 hi hc ⟨fun q => ?_, fun _ => ⟨in_n rfl (by rw [hl]; omega) (by rw [hl]; omega), ?_⟩⟩, h2⟩
      · rw [le_n (by omega) (by omega)] at q
        omega
      · rw [nI_clamp (by omega), nI_1]
        rintro _ rfl
        rw [pN]
        exact h1 B0 K hK
  obtain ⟨A', h1, h2, h3, h4, h5⟩ := key (t * z * 3) 0 A (by omega) (FNn.rf A) (fun _ _ _ _ => rfl) (fun l => by rw [if_neg (by omega)])
  refine ⟨A', fun B0 K hK => T13 hi hc ?_, h2, h3, h4, fun r s k hr hs hk => ?_⟩
  · rw [mxN, mxN, e1]
    exact h1 B0 K hK
  · rw [h5]
    by_cases q : (r * z + s) * 3 + k < t * z * 3
    · rw [if_pos q]
    · rw [if_neg q]
      refine he r s k ?_ hr hs hk
      rcases Nat.lt_or_ge r t with y | y
      · have : (r + 1) * z ≤ t * z := Nat.mul_le_mul_right z y
        rw [Nat.succ_mul] at this
        omega
      · exact y
/-- the reference clears a height's rows -/
theorem r_clr (hi : i < 10) (hh : h < 100) : ∃ B', RR E 92 0 [some (.ref (aS E 0)), some (.int (nI i)), some (.int (nI h)), none, none, none] B none B' ∧ (∀ p, sS B' 17 p = if p / 900 = 2 * i + h % 2 then -1 else sS B 17 p) ∧ (∀ p, sS B' 18 p = if p / 300 = 2 * i + h % 2 then -9 else sS B 18 p) ∧ (∀ v l, ¬ v = 17 → ¬ v = 18 → sS B' v l = sS B v l) ∧ ∀ l, sW B' l = sW B l := by
  have h2 : h % 2 < 2 := Nat.mod_lt _ (by omega)
  -- state: below a of 17 and below b of 18 are cleared
  have inner : ∀ m k (B1 : mS) r s, r < 30 → s < 10 → k + m = 3 → (∀ p, sS B1 17 p = if (2 * i + h % 2) * 900 ≤ p ∧ p < pl i h r s k then -1 else sS B 17 p) → (∀ p, sS B1 18 p = if (2 * i + h % 2) * 300 ≤ p ∧ p < rp i h r s then -9 else sS B 18 p) → (∀ v l, ¬ v = 17 → ¬ v = 18 → sS B1 v l = sS B v l) → (∀ l, sW B1 l = sW B l) →
      ∃ B', (∀ A0 K, ES E 92 11 [some (.ref (aS E 0)), some (.int (nI i)), some (.int (nI h)), some (.int (nI r)), some (.int (nI (s + 1))), none] [] (mix A0 B') K → ES E 92 21 [some (.ref (aS E 0)), some (.int (nI i)), some (.int (nI h)), some (.int (nI r)), some (.int (nI s)), some (.int (nI k))] [] (mix A0 B1) K) ∧ (∀ p, sS B' 17 p = if (2 * i + h % 2) * 900 ≤ p ∧ p < pl i h r (s + 1) 0 then -1 else sS B 17 p) ∧ (∀ p, sS B' 18 p = if (2 * i + h % 2) * 300 ≤ p ∧ p < rp i h r (s + 1) then -9 else sS B 18 p) ∧ (∀ v l, ¬ v = 17 → ¬ v = 18 → sS B' v l = sS B v l) ∧ ∀ l, sW B' l = sW B l := by
    intro m
    induction m with
    | zero =>
      intro k B1 r s hr hs hk h17 h18 ho hW
      have e : k = 3 := by omega
      subst e
      have er := ix_r (i := i) (h := h) (r := r) (s := s) hi hh hr hs
      have hp2 := rp_lt (h := h) hi hr hs
      refine ⟨uS B1 18 (rp i h r s) (-9), fun A0 K hK => T92_21 ⟨fun _ => ⟨by decide, in_n er hp2 (by omega), ?_⟩, fun q => absurd (by decide) q⟩, fun p => ?_, fun p => ?_, fun v l q1 q2 => by rw [rSo _ (by omega), ho v l q1 q2], fun l => by rw [fWS, hW]⟩
      · rw [er, nI_clamp (by omega), nI_1]
        rintro _ rfl
        rw [pS]
        exact hK
      · rw [rSo _ (by omega), h17]
        have : pl i h r s 3 = pl i h r (s + 1) 0 := by unfold pl; omega
        rw [this]
      · rw [rS]
        have e2 : rp i h r (s + 1) = rp i h r s + 1 := by unfold rp; omega
        have e3 : (2 * i + h % 2) * 300 ≤ rp i h r s := by unfold rp; omega
        rw [e2]
        by_cases q : p = rp i h r s
        · rw [if_pos ⟨rfl, q⟩, if_pos (by omega)]
        · rw [if_neg (fun y => q y.2), h18]
          by_cases q2 : (2 * i + h % 2) * 300 ≤ p ∧ p < rp i h r s
          · rw [if_pos q2, if_pos (by omega)]
          · rw [if_neg q2, if_neg (by omega)]
    | succ m ih =>
      intro k B1 r s hr hs hk h17 h18 ho hW
      have ep := ix_p (i := i) (h := h) (r := r) (s := s) (k := k) hi hh hr hs (by omega)
      have hp := pl_lt (h := h) hi hr hs (show k < 3 by omega)
      have cp : (((((2 * nI i + (nI h - nI h / 2 * 2)) * 30 + nI r) * 10 + nI s) * 3 + nI k)).toNatClampNeg = pl i h r s k := cl_n ep (Nat.lt_trans hp (by omega))
      have e3 : (2 * i + h % 2) * 900 ≤ pl i h r s k := by unfold pl; omega
      have e2 : pl i h r s (k + 1) = pl i h r s k + 1 := by unfold pl; omega
      obtain ⟨B', q1, q2⟩ := ih (k + 1) (uS B1 17 (pl i h r s k) (-1)) r s hr hs (by omega) (fun p => by
        rw [rS, e2]
        by_cases q : p = pl i h r s k
        · rw [if_pos ⟨rfl, q⟩, if_pos (by omega)]
        · rw [if_neg (fun y => q y.2), h17]
          by_cases q2 : (2 * i + h % 2) * 900 ≤ p ∧ p < pl i h r s k
          · rw [if_pos q2, if_pos (by omega)]
          · rw [if_neg q2, if_neg (by omega)]) (fun p => by rw [rSo _ (by omega), h18]) (fun v l y1 y2 => by rw [rSo _ (by omega), ho v l y1 y2]) (fun l => by rw [fWS, hW])
      refine ⟨B', fun A0 K hK => T92_21 ⟨fun q => ?_, fun _ => ⟨by decide, in_n ep (Nat.lt_of_lt_of_le hp (Nat.le_refl _)) (by omega), ?_⟩⟩, q2⟩
      · rw [il3, le_n (by omega) (by omega)] at q
        omega
      · rw [cp, nI_1]
        rintro _ rfl
        rw [pS]
        exact q1 A0 K hK
  have mid : ∀ m s (B1 : mS) r, r < 30 → s + m = 10 → (∀ p, sS B1 17 p = if (2 * i + h % 2) * 900 ≤ p ∧ p < pl i h r s 0 then -1 else sS B 17 p) → (∀ p, sS B1 18 p = if (2 * i + h % 2) * 300 ≤ p ∧ p < rp i h r s then -9 else sS B 18 p) → (∀ v l, ¬ v = 17 → ¬ v = 18 → sS B1 v l = sS B v l) → (∀ l, sW B1 l = sW B l) →
      ∃ B', (∀ A0 K, ES E 92 2 [some (.ref (aS E 0)), some (.int (nI i)), some (.int (nI h)), some (.int (nI (r + 1))), none, none] [] (mix A0 B') K → ES E 92 11 [some (.ref (aS E 0)), some (.int (nI i)), some (.int (nI h)), some (.int (nI r)), some (.int (nI s)), none] [] (mix A0 B1) K) ∧ (∀ p, sS B' 17 p = if (2 * i + h % 2) * 900 ≤ p ∧ p < pl i h (r + 1) 0 0 then -1 else sS B 17 p) ∧ (∀ p, sS B' 18 p = if (2 * i + h % 2) * 300 ≤ p ∧ p < rp i h (r + 1) 0 then -9 else sS B 18 p) ∧ (∀ v l, ¬ v = 17 → ¬ v = 18 → sS B' v l = sS B v l) ∧ ∀ l, sW B' l = sW B l := by
    intro m
    induction m with
    | zero =>
      intro s B1 r hr hs h17 h18 ho hW
      have e : s = 10 := by omega
      subst e
      refine ⟨B1, fun A0 K hK => T92_11 ⟨fun _ => ?_, fun q => absurd (by decide) q⟩, fun p => ?_, fun p => ?_, ho, hW⟩
      · rw [nI_1]
        exact hK
      · rw [h17, show pl i h r 10 0 = pl i h (r + 1) 0 0 by unfold pl; omega]
      · rw [h18, show rp i h r 10 = rp i h (r + 1) 0 by unfold rp; omega]
    | succ m ih =>
      intro s B1 r hr hs h17 h18 ho hW
      obtain ⟨B2, a1, a2, a3, a4, a5⟩ := inner 3 0 B1 r s hr (by omega) (by omega) h17 h18 ho hW
      obtain ⟨B', q1, q2⟩ := ih (s + 1) B2 r hr (by omega) a2 a3 a4 a5
      refine ⟨B', fun A0 K hK => T92_11 ⟨fun q => ?_, fun _ => a1 A0 K (q1 A0 K hK)⟩, q2⟩
      rw [il10, le_n (by omega) (by omega)] at q
      omega
  have outer : ∀ m r (B1 : mS), r + m = 30 → (∀ p, sS B1 17 p = if (2 * i + h % 2) * 900 ≤ p ∧ p < pl i h r 0 0 then -1 else sS B 17 p) → (∀ p, sS B1 18 p = if (2 * i + h % 2) * 300 ≤ p ∧ p < rp i h r 0 then -9 else sS B 18 p) → (∀ v l, ¬ v = 17 → ¬ v = 18 → sS B1 v l = sS B v l) → (∀ l, sW B1 l = sW B l) →
      ∃ B', RR E 92 2 [some (.ref (aS E 0)), some (.int (nI i)), some (.int (nI h)), some (.int (nI r)), none, none] B1 none B' ∧ (∀ p, sS B' 17 p = if (2 * i + h % 2) * 900 ≤ p ∧ p < pl i h 30 0 0 then -1 else sS B 17 p) ∧ (∀ p, sS B' 18 p = if (2 * i + h % 2) * 300 ≤ p ∧ p < rp i h 30 0 then -9 else sS B 18 p) ∧ (∀ v l, ¬ v = 17 → ¬ v = 18 → sS B' v l = sS B v l) ∧ ∀ l, sW B' l = sW B l := by
    intro m
    induction m with
    | zero =>
      intro r B1 hr h17 h18 ho hW
      have e : r = 30 := by omega
      subst e
      exact ⟨B1, fun A0 K hK => T92_2 ⟨fun _ => hK, fun q => absurd (by decide) q⟩, h17, h18, ho, hW⟩
    | succ m ih =>
      intro r B1 hr h17 h18 ho hW
      obtain ⟨B2, a1, a2, a3, a4, a5⟩ := mid 10 0 B1 r (by omega) (by omega) h17 h18 ho hW
      obtain ⟨B', q1, q2⟩ := ih (r + 1) B2 (by omega) a2 a3 a4 a5
      refine ⟨B', fun A0 K hK => T92_2 ⟨fun q => ?_, fun _ => a1 A0 K (q1 A0 K hK)⟩, q2⟩
      rw [il30, le_n (by omega) (by omega)] at q
      omega
  have b17 : pl i h 0 0 0 = (2 * i + h % 2) * 900 := by unfold pl; omega
  have b18 : rp i h 0 0 = (2 * i + h % 2) * 300 := by unfold rp; omega
  have t17 : pl i h 30 0 0 = (2 * i + h % 2) * 900 + 900 := by unfold pl; omega
  have t18 : rp i h 30 0 = (2 * i + h % 2) * 300 + 300 := by unfold rp; omega
  obtain ⟨B', q1, q2, q3, q4, q5⟩ := outer 30 0 B (by omega) (fun p => by rw [b17, if_neg (by omega)]) (fun p => by rw [b18, if_neg (by omega)]) (fun _ _ _ _ => rfl) (fun _ => rfl)
  refine ⟨B', fun A0 K hK => T92 (q1 A0 K hK), fun p => ?_, fun p => ?_, q4, q5⟩
  · rw [q2, t17]
    by_cases e : p / 900 = 2 * i + h % 2
    · rw [if_pos e, if_pos (by omega)]
    · rw [if_neg e, if_neg (by omega)]
  · rw [q3, t18]
    by_cases e : p / 300 = 2 * i + h % 2
    · rw [if_pos e, if_pos (by omega)]
    · rw [if_neg e, if_neg (by omega)]
/-- the reference clears what is signed -/
theorem r_clrS (hi : i < 10) : ∃ B', RR E 95 0 [some (.ref (aS E 0)), some (.int (nI i)), none] B none B' ∧ (∀ p, sS B' 19 p = if p / 90 = i then -1 else sS B 19 p) ∧ (∀ p, sS B' 20 p = if p / 90 = i then -9 else sS B 20 p) ∧ (∀ v l, ¬ v = 19 → ¬ v = 20 → sS B' v l = sS B v l) ∧ ∀ l, sW B' l = sW B l := by
  have loop : ∀ m k (B1 : mS), k + m = 90 → (∀ p, sS B1 19 p = if 90 * i ≤ p ∧ p < 90 * i + k then -1 else sS B 19 p) → (∀ p, sS B1 20 p = if 90 * i ≤ p ∧ p < 90 * i + k then -9 else sS B 20 p) → (∀ v l, ¬ v = 19 → ¬ v = 20 → sS B1 v l = sS B v l) → (∀ l, sW B1 l = sW B l) →
      ∃ B', RR E 95 2 [some (.ref (aS E 0)), some (.int (nI i)), some (.int (nI k))] B1 none B' ∧ (∀ p, sS B' 19 p = if 90 * i ≤ p ∧ p < 90 * i + 90 then -1 else sS B 19 p) ∧ (∀ p, sS B' 20 p = if 90 * i ≤ p ∧ p < 90 * i + 90 then -9 else sS B 20 p) ∧ (∀ v l, ¬ v = 19 → ¬ v = 20 → sS B' v l = sS B v l) ∧ ∀ l, sW B' l = sW B l := by
    intro m
    induction m with
    | zero =>
      intro k B1 hk h1 h2 h3 h4
      have e : k = 90 := by omega
      subst e
      exact ⟨B1, fun A0 K hK => T95_2 ⟨fun _ => hK, fun q => absurd (by decide) q⟩, h1, h2, h3, h4⟩
    | succ m ih =>
      intro k B1 hk h1 h2 h3 h4
      have e9 : 90 * nI i + nI k = nI (90 * i + k) := by rw [il90, pk_mul, nI_add]
      have sets : ∀ (v : Nat) (x : Int32), (∀ p, sS B1 v p = if 90 * i ≤ p ∧ p < 90 * i + k then x else sS B v p) → ∀ p, (if p = 90 * i + k then x else sS B1 v p) = if 90 * i ≤ p ∧ p < 90 * i + (k + 1) then x else sS B v p := fun v x hv p => by
        by_cases q : p = 90 * i + k
        · rw [if_pos q, if_pos (by omega)]
        · rw [if_neg q, hv]
          by_cases q2 : 90 * i ≤ p ∧ p < 90 * i + k
          · rw [if_pos q2, if_pos (by omega)]
          · rw [if_neg q2, if_neg (by omega)]
      obtain ⟨B', q1, q2⟩ := ih (k + 1) (uS (uS B1 19 (90 * i + k) (-1)) 20 (90 * i + k) (-9)) (by omega) (fun p => by
        rw [rSo _ (by omega), ← sets 19 (-1) h1 p, rS]
        by_cases q : p = 90 * i + k
        · rw [if_pos ⟨rfl, q⟩, if_pos q]
        · rw [if_neg (fun y => q y.2), if_neg q]) (fun p => by
        rw [← sets 20 (-9) h2 p, rS]
        by_cases q : p = 90 * i + k
        · rw [if_pos ⟨rfl, q⟩, if_pos q]
        · rw [if_neg (fun y => q y.2), if_neg q, rSo _ (by omega)]) (fun v l y1 y2 => by rw [rSo _ (by omega), rSo _ (by omega), h3 v l y1 y2]) (fun l => by rw [fWS, fWS, h4])
      refine ⟨B', fun A0 K hK => T95_2 ⟨fun q => ?_, fun _ => ⟨in_n e9 (by omega) (by omega), ?_⟩⟩, q2⟩
      · rw [il90, le_n (by omega) (by omega)] at q
        omega
      · rw [e9, nI_clamp (by omega), nI_1]
        rintro _ rfl _ rfl
        rw [pS, pS]
        exact q1 A0 K hK
  obtain ⟨B', q1, q2, q3, q4, q5⟩ := loop 90 0 B (by omega) (fun p => by rw [if_neg (by omega)]) (fun p => by rw [if_neg (by omega)]) (fun _ _ _ _ => rfl) (fun _ => rfl)
  refine ⟨B', fun A0 K hK => T95 (q1 A0 K hK), fun p => ?_, fun p => ?_, q4, q5⟩
  · rw [q2]
    by_cases e : p / 90 = i
    · rw [if_pos e, if_pos (by omega)]
    · rw [if_neg e, if_neg (by omega)]
  · rw [q3]
    by_cases e : p / 90 = i
    · rw [if_pos e, if_pos (by omega)]
    · rw [if_neg e, if_neg (by omega)]
end Clr
