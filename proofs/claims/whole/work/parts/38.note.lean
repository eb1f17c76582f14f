/-! ===== what is noted of a sent copy ===== -/
theorem PSe1.up {A B A1 B1 : mS} {i g r k : Nat} {x' f' u' : Int32} (h : PSe1 A B i) (hh : sS B 2 i = nI g) (h40 : g ≤ 40) (hr : r < 30) (hk : k < 3) (e1 : sN A1 i 12 0 = sN A i 12 0 + 1) (e2 : sS B1 16 i = sS B 16 i + 1)
    (e3 : ∀ l, sN A1 i 15 l = if l = r * 3 + k then x' else sN A i 15 l) (e4 : sN A1 i 13 0 = sN A i 13 0) (e5 : sN A1 i 13 3 = if nI r ≤ sN A i 13 3 then sN A i 13 3 else nI r)
    (e6 : ∀ p, sS B1 38 p = if p = sp i g r k then f' else sS B 38 p) (e7 : ∀ p, sS B1 39 p = if p = sp i g r k then u' else sS B 39 p)
    (e8 : (u' = sS B 39 (sp i g r k) ∧ sN A1 i 12 1 = sN A i 12 1) ∨ (sS B 39 (sp i g r k) = 0 ∧ u' = 1 ∧ sN A1 i 12 1 = sN A i 12 1 + 1)) (e9 : sS B1 2 i = sS B 2 i) (hd : sd3 x' f' u') : PSe1 A1 B1 i := by
  obtain ⟨a, b, c, d, e, t, t1, t2, t3⟩ := h
  have h31 : g < 2 ^ 31 := by omega
  refine ⟨by rw [e1, e2, a], ?_, e4.trans c, fun h2 r2 k2 q1 q2 q3 q4 => ?_, fun h2 g2 r2 k2 q1 q2 q3 q4 q5 => ?_, ?_⟩
  · have hp : sp i g r k = 3690 * i + ((g * 30 + r) * 3 + k) := by unfold sp; omega
    rcases e8 with ⟨u1, u2⟩ | ⟨u0, u1, u2⟩
    · rw [u2, b]
      refine wsum_cg _ (fun j _ => ?_)
      show (if sS B 39 (3690 * i + j) = 0 then (0 : Int32) else 1) = if sS B1 39 (3690 * i + j) = 0 then 0 else 1
      rw [e7]
      by_cases q : 3690 * i + j = sp i g r k
      · rw [if_pos q, q, u1]
      · rw [if_neg q]
    · rw [u2, b]
      refine (wsum_1 (j := (g * 30 + r) * 3 + k) ?_ ?_ (fun j hj => ?_) 3690 (by omega)).symm
      · show (if sS B 39 (3690 * i + ((g * 30 + r) * 3 + k)) = 0 then (0 : Int32) else 1) = 0
        rw [← hp, if_pos u0]
      · show (if sS B1 39 (3690 * i + ((g * 30 + r) * 3 + k)) = 0 then (0 : Int32) else 1) = 1
        rw [← hp, e7, if_pos rfl, u1]
        exact if_neg (by decide)
      · show (if sS B1 39 (3690 * i + j) = 0 then (0 : Int32) else 1) = if sS B 39 (3690 * i + j) = 0 then 0 else 1
        rw [e7, if_neg (show ¬ 3690 * i + j = sp i g r k by omega)]
  · rw [e9, hh, nI_eq h31 (by omega)] at q1
    subst q1
    rw [e3, e6, e7]
    by_cases q : r2 = r ∧ k2 = k
    · obtain ⟨rfl, rfl⟩ := q
      rw [if_pos rfl, if_pos rfl, if_pos rfl]
      exact hd
    · have n1 : ¬ sp i g r2 k2 = sp i g r k := fun z => q ((sp_inj q3 q4 q2 hr hk h40 z).2.2)
      rw [if_neg (by omega), if_neg n1, if_neg n1]
      exact d g r2 k2 hh q2 q3 q4
  · rw [e9, hh, nI_eq h31 (by omega)] at q1
    subst q1
    have n1 : ¬ sp i g2 r2 k2 = sp i g r k := fun z => by
      have := (sp_inj q4 q5 q3 hr hk h40 z).2.1
      omega
    rw [e6, e7, if_neg n1, if_neg n1]
    exact e g g2 r2 k2 hh q2 q3 q4 q5
  · rw [e5, t2]
    by_cases q : r < t
    · rw [if_pos ((top_le (by omega) (by omega)).2 q)]
      refine ⟨t, t1, rfl, fun r2 k2 q1 q2 q3 => ?_⟩
      rw [e3, if_neg (by omega)]
      exact t3 r2 k2 q1 q2 q3
    · rw [if_neg (fun z => q ((top_le (by omega) (by omega)).1 z))]
      refine ⟨r + 1, by omega, (nI_pred r).symm, fun r2 k2 q1 q2 q3 => ?_⟩
      rw [e3, if_neg (by omega)]
      exact t3 r2 k2 (by omega) q2 q3
theorem m2_n {x : Int32} (h : 0 ≤ x) : ¬ x = -2 ∧ ¬ x = -3 ∧ ¬ x < 0 ∧ ¬ x = -1 := by
  refine ⟨fun q => ?_, fun q => ?_, fun q => ?_, fun q => ?_⟩
  · subst q; exact absurd h (by decide)
  · subst q; exact absurd h (by decide)
  · rw [Int32.le_iff_toInt_le] at h
    rw [Int32.lt_iff_toInt_lt] at q
    omega
  · subst q; exact absurd h (by decide)
section Note
variable {E : mE} {A B : mS} {i g r k : Nat} {v : Int32}
theorem noteP (hi : i < eN E) (hn : eN E ≤ 10) (hS : PSe E A B) (hh : sS B 2 i = nI g) (h40 : g ≤ 40) (hr : r < 30) (hk : k < 3) (o3 : sN A i 16 3 = nI r) (o4 : sN A i 16 4 = nI k) (o5 : sN A i 16 5 = v) (hv : 0 ≤ v) :
    ∃ A1 B1, CR E 35 0 [some (.ref (aN E i 12)), some (.ref (aN E i 16)), none] A none A1 ∧ RR E 106 0 [some (.ref (aS E 0)), some (.int (nI i)), some (.int (nI g)), some (.int (nI r)), some (.int (nI k)), some (.int v), none] (uS B 16 i (sS B 16 i + 1)) none B1 ∧ PSe E A1 B1 ∧ FNn A A1 ∧ (∀ j c k, c < 12 ∨ 15 < c → sN A1 j c k = sN A j c k) ∧ (∀ v k, ¬ v = 16 → ¬ v = 38 → ¬ v = 39 → sS B1 v k = sS B v k) ∧ (∀ k, sW B1 k = sW B k) := by
  have hS1 := hS i hi
  obtain ⟨a, b, c, d, e, t, t1, t2, t3⟩ := hS1
  have hb := ix_lt (r := r) (z := 1) (j := 0) (k := k) hr (by omega) hk
  have e1 : (r * 1 + 0) * 3 + k = r * 3 + k := by omega
  have ex : ∀ x : Int32, (nI r * 1 + 0) * 3 + nI k = nI (r * 3 + k) := fun _ => by
    have := ix_b r 1 0 k
    rw [e1] at this
    exact this
  have hp : sp i g r k < 36900 := by unfold sp; omega
  have ep : ((41 * nI i + nI g) * 30 + nI r) * 3 + nI k = nI (sp i g r k) := by
    rw [il41, il30, il3, pk_mul, nI_add, pk_mul, nI_add, pk_mul, nI_add]
    rfl
  have cp : (((41 * nI i + nI g) * 30 + nI r) * 3 + nI k).toNatClampNeg = sp i g r k := cl_n ep (by omega)
  have gp : ¬ (((41 * nI i + nI g) * 30 + nI r) * 3 + nI k) < 0 ∧ (((41 * nI i + nI g) * 30 + nI r) * 3 + nI k).toNatClampNeg < 36900 := in_n ep hp (by omega)
  generalize hA0 : uN A i 12 0 (sN A i 12 0 + 1) = A0
  generalize hB0 : uS B 16 i (sS B 16 i + 1) = B0
  have A0o : ∀ j c k, ¬ c = 12 → sN A0 j c k = sN A j c k := fun j c k h => by rw [← hA0, rNo _ (by omega)]
  have A0j : ∀ j c k, ¬ j = i → sN A0 j c k = sN A j c k := fun j c k h => by rw [← hA0, rNo _ (by omega)]
  have A01 : sN A0 i 12 1 = sN A i 12 1 := by rw [← hA0, rNo _ (by omega)]
  have A00 : sN A0 i 12 0 = sN A i 12 0 + 1 := by rw [← hA0, rNs]
  have B0o : ∀ v k, ¬ v = 16 → sS B0 v k = sS B v k := fun v k h => by rw [← hB0, rSo _ (by omega)]
  have B0i : sS B0 16 i = sS B 16 i + 1 := by rw [← hB0, rSs]
  have B0j : ∀ j, ¬ j = i → sS B0 16 j = sS B 16 j := fun j h => by rw [← hB0, rSo _ (by omega)]
  have B0W : ∀ k, sW B0 k = sW B k := fun k => by rw [← hB0, fWS]
  have FA0 : FNn A A0 := hA0 ▸ FNn.u _ _ _ _ _
  -- others
  have oth : ∀ A1 B1 : mS, (∀ j c k, ¬ j = i → sN A1 j c k = sN A j c k) → (∀ j, ¬ j = i → sS B1 16 j = sS B 16 j) → (∀ k, sS B1 2 k = sS B 2 k) → (∀ p, ¬ p = sp i g r k → sS B1 38 p = sS B 38 p ∧ sS B1 39 p = sS B 39 p) → PSe1 A1 B1 i → PSe E A1 B1 := fun A1 B1 q1 q2 q3 q4 q5 j hj => by
    by_cases e : j = i
    · subst e
      exact q5
    · refine (hS j hj).fr (fun c k _ _ => q1 j c k e) (q2 j e) (q3 j) (fun g2 r2 k2 z1 z2 z3 => q4 _ (fun z => e ?_))
      exact (sp_inj z2 z3 z1 hr hk h40 z).1
  have hx := d g r k hh h40 hr hk
  have cl : ∀ B2 : mS, (((sN (mix A0 B2) i 16 3 * sN (mix A0 B2) i 13 0 + 0) * 3 + sN (mix A0 B2) i 16 4)) = nI (r * 3 + k) := fun B2 => by
    rw [mxN, mxN, mxN, A0o _ _ _ (by omega), A0o _ _ _ (by omega), A0o _ _ _ (by omega), o3, o4, c]
    exact ex 0
  have st0 : ∀ B2 : mS, uN (mix A B2) i 12 0 (sN (mix A B2) i 12 0 + 1) = mix A0 B2 := fun B2 => by rw [mxN, pN, hA0]
  have cI : (nI (r * 3 + k)).toNatClampNeg = r * 3 + k := nI_clamp (by omega)
  have cX : ∀ B2 : mS, sN (mix A0 B2) i (13 + 2) (nI (r * 3 + k)).toNatClampNeg = sN A i 15 (r * 3 + k) := fun B2 => by
    rw [cI, mxN, A0o _ _ _ (by omega)]
  have r3 : ∀ B2 : mS, sN (mix A0 B2) i 16 3 = nI r := fun B2 => by rw [mxN, A0o _ _ _ (by omega), o3]
  have r4 : ∀ B2 : mS, sN (mix A0 B2) i 16 4 = nI k := fun B2 => by rw [mxN, A0o _ _ _ (by omega), o4]
  have r5 : ∀ B2 : mS, sN (mix A0 B2) i 16 5 = v := fun B2 => by rw [mxN, A0o _ _ _ (by omega), o5]
  have hz0 : sN A0 i 13 0 = nI 1 := by rw [A0o _ _ _ (by omega), c]; rfl
  have gi : ∀ B2 : mS, (¬ ((sN (mix A0 B2) i 16 3 * sN (mix A0 B2) i 13 0 + 0) * 3 + sN (mix A0 B2) i 16 4) < 0 ∧ ((sN (mix A0 B2) i 16 3 * sN (mix A0 B2) i 13 0 + 0) * 3 + sN (mix A0 B2) i 16 4).toNatClampNeg < lnB (eN E) 13) := fun B2 => in_n (cl B2) (show r * 3 + k < 90 by omega) (by show (90 : Nat) < _; omega)
  have t13 : ¬ sN A i 15 (r * 3 + k) = -2 → sN A0 i 13 3 = if nI r ≤ sN A i 13 3 then sN A i 13 3 else nI r := fun hne => by
    rw [A0o _ _ _ (by omega), t2, if_pos]
    refine (top_le (by omega) (by omega)).2 ?_
    rcases Nat.lt_or_ge r t with q | q
    · exact q
    · exact absurd (t3 r k q hr hk) hne
  -- nothing new in the class
  have same : ¬ sN A i 15 (r * 3 + k) = -2 → ∀ (f' u' : Int32) (B1 : mS), (∀ p, sS B1 38 p = if p = sp i g r k then f' else sS B 38 p) → (∀ p, sS B1 39 p = if p = sp i g r k then u' else sS B 39 p) → (∀ j, sS B1 16 j = sS B0 16 j) → (∀ k, sS B1 2 k = sS B 2 k) → u' = sS B 39 (sp i g r k) → sd3 (sN A i 15 (r * 3 + k)) f' u' → PSe E A0 B1 := fun hne f' u' B1 q6 q7 q8 q9 q10 q11 =>
    oth A0 B1 A0j (fun j hj => by rw [q8, B0j j hj]) q9 (fun p hp => ⟨by rw [q6, if_neg hp], by rw [q7, if_neg hp]⟩)
      ((hS i hi).up hh h40 hr hk A00 (by rw [q8, B0i]) (x' := sN A i 15 (r * 3 + k)) (fun l => by
        rw [A0o _ _ _ (by omega)]
        by_cases q : l = r * 3 + k
        · rw [if_pos q, q]
        · rw [if_neg q]) (A0o _ _ _ (by omega)) (t13 hne) q6 q7 (Or.inl ⟨q10, A01⟩) (q9 i) q11)
  rcases hx with ⟨x1, x2, x3⟩ | ⟨x1, x2, x3⟩ | ⟨x1, x2, x3⟩
  · -- the first of its kind
    obtain ⟨A1, p1, p2, p3, p4, p5, p6, p7⟩ := c_put (E := E) (A := A0) (i := i) (c := 13) (z := 1) (r := r) (s := 0) (k := k) (v := v) (q := sN A i 16 6) hi hn Bal.n13 hz0 rfl hr (by omega) hk
    have A1o : ∀ j c k, ¬ j = i ∨ c < 13 ∨ 15 < c → sN A1 j c k = sN A0 j c k := fun j c k h => p3 j c k (by omega)
    refine ⟨A1, uS B0 38 (sp i g r k) v, fun B2 K hK => ?_, fun A2 K hK => ?_, ?_, FA0.tr p2, fun j c k h => ?_, fun v k h1 h2 h3 => ?_, fun k => ?_⟩
    · refine T35 hi ?_
      rw [st0]
      rintro _ rfl
      refine ⟨gi B2, ?_⟩
      rw [cl, cX, r3, r4, r5]
      refine ⟨fun _ => ?_, fun q => absurd x1 q⟩
      have h6 : sN (mix A0 B2) i 16 6 = sN A i 16 6 := by rw [mxN, A0o _ _ _ (by omega)]
      rw [h6]
      exact p1 B2 _ ⟨rfl, hK⟩
    · refine T106 ⟨gp, ?_⟩
      rw [cp, mxS, B0o _ _ (by omega), x2]
      refine ⟨fun q => absurd q (by decide), fun _ => ?_⟩
      rintro _ rfl
      rw [pS]
      exact hK
    · refine oth A1 _ (fun j c k hj => by rw [A1o j c k (Or.inl hj), A0j j c k hj]) (fun j hj => by rw [rSo _ (by omega), B0j j hj]) (fun k => by rw [rSo _ (by omega), B0o _ _ (by omega)]) (fun p hp => ⟨by rw [rSo _ (by omega), B0o _ _ (by omega)], by rw [rSo _ (by omega), B0o _ _ (by omega)]⟩) ?_
      refine (hS i hi).up (x' := v) (f' := v) (u' := sS B 39 (sp i g r k)) hh h40 hr hk (by rw [A1o _ _ _ (by omega), A00]) (by rw [rSo _ (by omega), B0i]) (fun l => ?_) ?_ ?_ (fun p => ?_) (fun p => ?_) (Or.inl ⟨rfl, by rw [A1o _ _ _ (by omega), A01]⟩) (by rw [rSo _ (by omega), B0o _ _ (by omega)]) (Or.inr (Or.inr ⟨rfl, hv, x3⟩))
      · rw [show (15 : Nat) = 13 + 2 from rfl, p4, e1, A0o _ _ _ (by omega)]
      · rw [p6 0 (by omega), A0o _ _ _ (by omega)]
      · rw [p7, A0o _ _ _ (by omega)]
      · rw [rS]
        by_cases q : p = sp i g r k
        · rw [if_pos ⟨rfl, q⟩, if_pos q]
        · rw [if_neg (fun z => q z.2), if_neg q, B0o _ _ (by omega)]
      · rw [rSo _ (by omega), B0o _ _ (by omega)]
        by_cases q : p = sp i g r k
        · rw [if_pos q, q]
        · rw [if_neg q]
    · rw [A1o _ _ _ (by omega), A0o _ _ _ (by omega)]
    · rw [rSo _ (by omega), B0o _ _ h1]
    · rw [fWS, B0W]
  · -- unlike ones were sent before
    have hne : ¬ sN A i 15 (r * 3 + k) = -2 := by rw [x1]; decide
    have crun : CR E 35 0 [some (.ref (aN E i 12)), some (.ref (aN E i 16)), none] A none A0 := fun B2 K hK => by
      refine T35 hi ?_
      rw [st0]
      rintro _ rfl
      refine ⟨gi B2, ?_⟩
      rw [cl, cX, x1]
      exact ⟨fun q => absurd q (by decide), fun _ => ⟨fun _ => hK, fun q => absurd rfl q⟩⟩
    by_cases hf : sS B 38 (sp i g r k) = v
    · refine ⟨A0, B0, crun, fun A2 K hK => ?_, ?_, FA0, fun j c k h => A0o _ _ _ (by omega), fun v k h1 _ _ => B0o _ _ h1, B0W⟩
      · refine T106 ⟨gp, ?_⟩
        rw [cp, mxS, B0o _ _ (by omega)]
        exact ⟨fun _ => ⟨fun _ => hK, fun q => absurd hf q⟩, fun q => absurd x2 q⟩
      · refine same hne (sS B 38 (sp i g r k)) (sS B 39 (sp i g r k)) B0 (fun p => ?_) (fun p => ?_) (fun _ => rfl) (fun k => B0o _ _ (by omega)) rfl (Or.inr (Or.inl ⟨x1, x2, x3⟩))
        · rw [B0o _ _ (by omega)]
          by_cases q : p = sp i g r k
          · rw [if_pos q, q]
          · rw [if_neg q]
        · rw [B0o _ _ (by omega)]
          by_cases q : p = sp i g r k
          · rw [if_pos q, q]
          · rw [if_neg q]
    · refine ⟨A0, uS B0 39 (sp i g r k) 1, crun, fun A2 K hK => ?_, ?_, FA0, fun j c k h => A0o _ _ _ (by omega), fun v k h1 h2 h3 => by rw [rSo _ (by omega), B0o _ _ h1], fun k => by rw [fWS, B0W]⟩
      · refine T106 ⟨gp, ?_⟩
        rw [cp, mxS, B0o _ _ (by omega)]
        refine ⟨fun _ => ⟨fun q => absurd q hf, fun _ => ?_⟩, fun q => absurd x2 q⟩
        rintro _ rfl
        rw [pS]
        exact hK
      · refine same hne (sS B 38 (sp i g r k)) 1 _ (fun p => ?_) (fun p => ?_) (fun _ => by rw [rSo _ (by omega)]) (fun k => by rw [rSo _ (by omega), B0o _ _ (by omega)]) x3.symm (Or.inr (Or.inl ⟨x1, x2, rfl⟩))
        · rw [rSo _ (by omega), B0o _ _ (by omega)]
          by_cases q : p = sp i g r k
          · rw [if_pos q, q]
          · rw [if_neg q]
        · rw [rS]
          by_cases q : p = sp i g r k
          · rw [if_pos ⟨rfl, q⟩, if_pos q]
          · rw [if_neg (fun z => q z.2), if_neg q, B0o _ _ (by omega)]
  · -- one value was sent before
    obtain ⟨n1, n2, n3, n4⟩ := m2_n x2
    have hne : ¬ sN A i 15 (r * 3 + k) = -2 := by rw [x1]; exact n1
    by_cases hf : sS B 38 (sp i g r k) = v
    · refine ⟨A0, B0, fun B2 K hK => ?_, fun A2 K hK => ?_, ?_, FA0, fun j c k h => A0o _ _ _ (by omega), fun v k h1 _ _ => B0o _ _ h1, B0W⟩
      · refine T35 hi ?_
        rw [st0]
        rintro _ rfl
        refine ⟨gi B2, ?_⟩
        rw [cl, cX, x1, r5]
        exact ⟨fun q => absurd q n1, fun _ => ⟨fun q => absurd q n2, fun _ => ⟨fun _ => hK, fun q => absurd hf q⟩⟩⟩
      · refine T106 ⟨gp, ?_⟩
        rw [cp, mxS, B0o _ _ (by omega)]
        exact ⟨fun _ => ⟨fun _ => hK, fun q => absurd hf q⟩, fun q => absurd x2 q⟩
      · refine same hne (sS B 38 (sp i g r k)) (sS B 39 (sp i g r k)) B0 (fun p => ?_) (fun p => ?_) (fun _ => rfl) (fun k => B0o _ _ (by omega)) rfl (Or.inr (Or.inr ⟨x1, x2, x3⟩))
        · rw [B0o _ _ (by omega)]
          by_cases q : p = sp i g r k
          · rw [if_pos q, q]
          · rw [if_neg q]
        · rw [B0o _ _ (by omega)]
          by_cases q : p = sp i g r k
          · rw [if_pos q, q]
          · rw [if_neg q]
    · obtain ⟨A1, p1, p2, p3, p4, p5, p6, p7⟩ := c_put (E := E) (A := A0) (i := i) (c := 13) (z := 1) (r := r) (s := 0) (k := k) (v := -3) (q := sN A i 16 6) hi hn Bal.n13 hz0 rfl hr (by omega) hk
      have A1o : ∀ j c k, ¬ j = i ∨ c < 13 ∨ 15 < c → sN A1 j c k = sN A0 j c k := fun j c k h => p3 j c k (by omega)
      refine ⟨uN A1 i 12 1 (sN A1 i 12 1 + 1), uS B0 39 (sp i g r k) 1, fun B2 K hK => ?_, fun A2 K hK => ?_, ?_, (FA0.tr p2).tr (FNn.u _ _ _ _ _), fun j c k h => ?_, fun v k h1 h2 h3 => ?_, fun k => ?_⟩
      · refine T35 hi ?_
        rw [st0]
        rintro _ rfl
        refine ⟨gi B2, ?_⟩
        rw [cl, cX, x1, r3, r4, r5]
        refine ⟨fun q => absurd q n1, fun _ => ⟨fun q => absurd q n2, fun _ => ⟨fun q => absurd q hf, fun _ => ?_⟩⟩⟩
        have h6 : sN (mix A0 B2) i 16 6 = sN A i 16 6 := by rw [mxN, A0o _ _ _ (by omega)]
        rw [h6]
        refine p1 B2 _ ⟨rfl, ?_⟩
        rintro _ rfl
        rw [pN, mxN]
        exact hK
      · refine T106 ⟨gp, ?_⟩
        rw [cp, mxS, B0o _ _ (by omega)]
        refine ⟨fun _ => ⟨fun q => absurd q hf, fun _ => ?_⟩, fun q => absurd x2 q⟩
        rintro _ rfl
        rw [pS]
        exact hK
      · refine oth _ _ (fun j c k hj => by rw [rNo _ (by omega), A1o j c k (Or.inl hj), A0j j c k hj]) (fun j hj => by rw [rSo _ (by omega), B0j j hj]) (fun k => by rw [rSo _ (by omega), B0o _ _ (by omega)]) (fun p hp => ⟨by rw [rSo _ (by omega), B0o _ _ (by omega)], by rw [rSo _ (by omega), B0o _ _ (by omega)]⟩) ?_
        refine (hS i hi).up (x' := -3) (f' := sS B 38 (sp i g r k)) (u' := 1) hh h40 hr hk (by rw [rNo _ (by omega), A1o _ _ _ (by omega), A00]) (by rw [rSo _ (by omega), B0i]) (fun l => ?_) ?_ ?_ (fun p => ?_) (fun p => ?_) (Or.inr ⟨x3, rfl, by rw [rNs, A1o _ _ _ (by omega), A01]⟩) (by rw [rSo _ (by omega), B0o _ _ (by omega)]) (Or.inr (Or.inl ⟨rfl, x2, rfl⟩))
        · rw [rNo _ (by omega), show (15 : Nat) = 13 + 2 from rfl, p4, e1, A0o _ _ _ (by omega)]
        · rw [rNo _ (by omega), p6 0 (by omega), A0o _ _ _ (by omega)]
        · rw [rNo _ (by omega), p7, A0o _ _ _ (by omega)]
        · rw [rSo _ (by omega), B0o _ _ (by omega)]
          by_cases q : p = sp i g r k
          · rw [if_pos q, q]
          · rw [if_neg q]
        · rw [rS]
          by_cases q : p = sp i g r k
          · rw [if_pos ⟨rfl, q⟩, if_pos q]
          · rw [if_neg (fun z => q z.2), if_neg q, B0o _ _ (by omega)]
      · rw [rNo _ (by omega), A1o _ _ _ (by omega), A0o _ _ _ (by omega)]
      · rw [rSo _ (by omega), B0o _ _ h1]
      · rw [fWS, B0W]
end Note
