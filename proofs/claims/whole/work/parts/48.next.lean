/-! ===== the next height ===== -/
def rNx (B : mS) (i : Nat) (x : Int32) : mS := uS (uS (uS (uS (uS (uS (uS (uS (uS (uS B 2 i x) 5 i 0) 6 i (-1)) 7 i 0) 8 i (-1)) 3 i 0) 4 i 0) 12 (3 * i) 0) 12 (3 * i + 1) 0) 12 (3 * i + 2) 0
theorem rNx_o (B : mS) (i : Nat) (x : Int32) (v l : Nat) (h : ¬ ((2 ≤ v ∧ v ≤ 8 ∧ l = i) ∨ (v = 12 ∧ (l = 3 * i ∨ l = 3 * i + 1 ∨ l = 3 * i + 2)))) : sS (rNx B i x) v l = sS B v l := by
  unfold rNx
  rw [rSo _ (by omega), rSo _ (by omega), rSo _ (by omega), rSo _ (by omega), rSo _ (by omega), rSo _ (by omega), rSo _ (by omega), rSo _ (by omega), rSo _ (by omega), rSo _ (by omega)]
theorem rNx_i (B : mS) (i : Nat) (x : Int32) : sS (rNx B i x) 2 i = x ∧ sS (rNx B i x) 3 i = 0 ∧ sS (rNx B i x) 4 i = 0 ∧ sS (rNx B i x) 5 i = 0 ∧ sS (rNx B i x) 6 i = -1 ∧ sS (rNx B i x) 7 i = 0 ∧ sS (rNx B i x) 8 i = -1 := by
  unfold rNx
  simp [rS]
theorem rNx_t (B : mS) (i : Nat) (x : Int32) (l : Nat) (hl : l < 3) : sS (rNx B i x) 12 (3 * i + l) = 0 := by
  unfold rNx
  rcases (by omega : l = 0 ∨ l = 1 ∨ l = 2) with rfl | rfl | rfl <;> simp [rS]
theorem rNx_W (B : mS) (i : Nat) (x : Int32) (l : Nat) : sW (rNx B i x) l = sW B l := by
  unfold rNx
  simp only [fNK, fRK, fQK, fMK, fUK, fSK, fWK, fKN, fRN, fQN, fMN, fUN, fSN, fWN, fKR, fNR, fQR, fMR, fUR, fSR, fWR, fKQ, fNQ, fRQ, fMQ, fUQ, fSQ, fWQ, fKM, fNM, fRM, fQM, fUM, fSM, fWM, fKA, fNA, fRA, fQA, fSA, fWA, fKS, fNS, fRS, fQS, fMS, fUS, fWS, fKW, fNW, fRW, fQW, fMW, fUW, fSW]
section Nxt
variable {E : mE} {A B : mS} {M N : List Mg} {i g : Nat}
theorem r_nx (hi : i < 10) (hg : g ≤ 40) (b2 : sS B 2 i = nI g) : ∃ B1, RR E 118 0 [some (.ref (aS E 0)), some (.int (nI i)), none] B none B1 ∧ (∀ p, sS B1 17 p = if p / 900 = 2 * i + g % 2 then -1 else sS B 17 p) ∧ (∀ p, sS B1 18 p = if p / 300 = 2 * i + g % 2 then -9 else sS B 18 p) ∧ (∀ p, sS B1 19 p = if p / 90 = i then -1 else sS B 19 p) ∧ (∀ p, sS B1 20 p = if p / 90 = i then -9 else sS B 20 p) ∧
    (∀ v l, ¬ (17 ≤ v ∧ v ≤ 20) → ¬ ((2 ≤ v ∧ v ≤ 8 ∧ l = i) ∨ (v = 12 ∧ (l = 3 * i ∨ l = 3 * i + 1 ∨ l = 3 * i + 2))) → sS B1 v l = sS B v l) ∧ (∀ l, sW B1 l = sW B l) ∧
    sS B1 2 i = nI (g + 1) ∧ sS B1 3 i = 0 ∧ sS B1 4 i = 0 ∧ sS B1 5 i = 0 ∧ sS B1 6 i = -1 ∧ sS B1 7 i = 0 ∧ sS B1 8 i = -1 ∧ ∀ l, l < 3 → sS B1 12 (3 * i + l) = 0 := by
  have ci : (nI i).toNatClampNeg = i := nI_clamp (by omega)
  obtain ⟨Ba, a1, a2, a3, a4, a5⟩ := r_clr (E := E) (B := B) (i := i) (h := g) hi (by omega)
  obtain ⟨Bb, b1, b2', b3, b4, b5⟩ := r_clrS (E := E) (B := Ba) (i := i) hi
  have hb2 : sS Bb 2 i + 1 = nI (g + 1) := by rw [b4 2 i (by omega) (by omega), a4 2 i (by omega) (by omega), b2, nI_1]
  obtain ⟨z2, z3, z4, z5, z6, z7, z8⟩ := rNx_i Bb i (nI (g + 1))
  refine ⟨rNx Bb i (nI (g + 1)), fun A0 K hK => T118 ⟨in_n rfl hi (by omega), ?_⟩, fun p => ?_, fun p => ?_, fun p => ?_, fun p => ?_, fun v l y1 y2 => ?_, fun l => ?_, z2, z3, z4, z5, z6, z7, z8, fun l hl => rNx_t _ _ _ _ hl⟩
  · rw [ci, mxS, b2]
    refine a1 A0 _ ⟨rfl, b1 A0 _ ⟨rfl, ?_⟩⟩
    rw [mxS, hb2]
    have e0 : 3 * nI i + 0 = nI (3 * i) := by rw [il3, pk_mul, Int32.add_zero]
    have e1 : 3 * nI i + (0 + 1) = nI (3 * i + 1) := by rw [il3, pk_mul, show (0 : Int32) + 1 = nI 1 from rfl, nI_add]
    have e2 : 3 * nI i + (0 + 1 + 1) = nI (3 * i + 2) := by rw [il3, pk_mul, show (0 : Int32) + 1 + 1 = nI 2 from rfl, nI_add]
    rintro _ rfl _ rfl _ rfl _ rfl _ rfl _ rfl _ rfl
    refine T118_70 ⟨fun z => absurd z (by decide), fun _ => ⟨in_n e0 (by omega) (by omega), ?_⟩⟩
    rw [e0, nI_clamp (by omega)]
    rintro _ rfl
    refine T118_70 ⟨fun z => absurd z (by decide), fun _ => ⟨in_n e1 (by omega) (by omega), ?_⟩⟩
    rw [e1, nI_clamp (by omega)]
    rintro _ rfl
    refine T118_70 ⟨fun z => absurd z (by decide), fun _ => ⟨in_n e2 (by omega) (by omega), ?_⟩⟩
    rw [e2, nI_clamp (by omega)]
    rintro _ rfl
    refine T118_70 ⟨fun _ => ?_, fun z => absurd (by decide) z⟩
    simp only [pS]
    unfold rNx at hK
    exact hK
  · rw [rNx_o _ _ _ _ _ (by omega), b4 17 p (by omega) (by omega), a2]
  · rw [rNx_o _ _ _ _ _ (by omega), b4 18 p (by omega) (by omega), a3]
  · rw [rNx_o _ _ _ _ _ (by omega), b2', a4 19 p (by omega) (by omega)]
  · rw [rNx_o _ _ _ _ _ (by omega), b3, a4 20 p (by omega) (by omega)]
  · rw [rNx_o _ _ _ _ _ y2, b4 v l (by omega) (by omega), a4 v l (by omega) (by omega)]
  · rw [rNx_W, b5, a5]
theorem pl_q {i h r s k : Nat} (hr : r < 30) (hs : s < 10) (hk : k < 3) : pl i h r s k / 900 = 2 * i + h % 2 := by unfold pl; omega
theorem rp_q {i h r s : Nat} (hr : r < 30) (hs : s < 10) : rp i h r s / 300 = 2 * i + h % 2 := by unfold rp; omega
/-- the next height of node i, on both sides -/
theorem nxt (hN : NET E A B M N) (hBa : PBa E A B) (hSi : PSi E A B) (hi : i < eN E) (hg1 : 1 ≤ g) (h40 : g ≤ 40) (a2 : sN A i 0 2 = nI g) (b2 : sS B 2 i = nI g) : ∃ A1 B1, CR E 48 0 [some (.ref (aN E i 0)), none] A none A1 ∧ RR E 118 0 [some (.ref (aS E 0)), some (.int (nI i)), none] B none B1 ∧ NET E A1 B1 M N ∧ PBa E A1 B1 ∧ PSi E A1 B1 ∧
    (∀ j d l, d < 9 → ¬ (j = i ∧ (d = 1 ∨ d = 2 ∨ (d = 0 ∧ l = 2))) → sN A1 j d l = sN A j d l) ∧ sN A1 i 0 2 = nI (g + 1) ∧ sN A1 i 1 0 = 0 ∧ sN A1 i 1 1 = -1 ∧ sN A1 i 2 0 = 0 ∧ sN A1 i 2 1 = -1 ∧ (∀ v l, sK A1 v l = sK A v l) ∧
    (∀ v l, ¬ (17 ≤ v ∧ v ≤ 20) → ¬ ((2 ≤ v ∧ v ≤ 8 ∧ l = i) ∨ (v = 12 ∧ (l = 3 * i ∨ l = 3 * i + 1 ∨ l = 3 * i + 2))) → sS B1 v l = sS B v l) ∧ (∀ l, sW B1 l = sW B l) ∧
    sS B1 2 i = nI (g + 1) ∧ sS B1 3 i = 0 ∧ sS B1 4 i = 0 ∧ sS B1 5 i = 0 ∧ sS B1 6 i = -1 ∧ sS B1 7 i = 0 ∧ sS B1 8 i = -1 ∧ ∀ l, l < 3 → sS B1 12 (3 * i + l) = 0 := by
  have hn := hN.1.2.2.2
  obtain ⟨B1, r1, r17, r18, r19, r20, ro, rW, z2, z3, z4, z5, z6, z7, z8, zt⟩ := r_nx (E := E) (B := B) (by omega) h40 b2
  obtain ⟨p1, p2, p3, p4⟩ := hBa i hi
  obtain ⟨v1, v2⟩ := p4 g (by omega) b2
  obtain ⟨t, t1, t2, t3⟩ := v1.2.2.2
  -- class: reset
  generalize hAa : uN (uN (uN (uN (uN A i 0 2 (nI (g + 1))) i 1 0 0) i 1 1 (-1)) i 2 0 0) i 2 1 (-1) = Aa
  have ao : ∀ j d l, ¬ (j = i ∧ (d = 1 ∨ d = 2 ∨ (d = 0 ∧ l = 2))) → sN Aa j d l = sN A j d l := fun j d l z => by rw [← hAa, rNo _ (by omega), rNo _ (by omega), rNo _ (by omega), rNo _ (by omega), rNo _ (by omega)]
  have FAa : FNn A Aa := hAa ▸ ((((FNn.u _ _ _ _ _).tr (FNn.u _ _ _ _ _)).tr (FNn.u _ _ _ _ _)).tr (FNn.u _ _ _ _ _)).tr (FNn.u _ _ _ _ _)
  have y2 : sN Aa i 0 2 = nI (g + 1) := by rw [← hAa, rNo _ (by omega), rNo _ (by omega), rNo _ (by omega), rNo _ (by omega), rNs]
  have y10 : sN Aa i 1 0 = 0 := by rw [← hAa, rNo _ (by omega), rNo _ (by omega), rNo _ (by omega), rNs]
  have y11 : sN Aa i 1 1 = -1 := by rw [← hAa, rNo _ (by omega), rNo _ (by omega), rNs]
  have y20 : sN Aa i 2 0 = 0 := by rw [← hAa, rNo _ (by omega), rNs]
  have y21 : sN Aa i 2 1 = -1 := by rw [← hAa, rNs]
  have l0 : 16 < sR A i 0 := by rcases p1 with z | z <;> omega
  have l1 : 16 < sR A i 1 := by rcases p2 with z | z <;> omega
  -- clear the present ones
  obtain ⟨Ab, b1, b2', b3, b4, b5⟩ := c_clear (E := E) (A := Aa) (i := i) (c := sR A i 0) (z := eN E) (t := t) hi hn p1.b (by rw [ao _ _ _ (by omega)]; exact v1.1) p1.ln t1 (by rw [ao _ _ _ (by omega)]; exact t2) (fun r s k q1 q2 q3 q4 => by rw [ao _ _ _ (by omega)]; exact t3 r s k q1 q2 q3 q4)
  generalize hAc : uR (uR Ab i 0 (sR A i 1)) i 1 (sR A i 0) = Ac
  have cN : ∀ j d l, sN Ac j d l = sN Ab j d l := fun j d l => by rw [← hAc, fNR, fNR]
  have cR : ∀ a b, sR Ac a b = if a = i ∧ b = 1 then sR A i 0 else if a = i ∧ b = 0 then sR A i 1 else sR A a b := fun a b => by
    rw [← hAc]
    show (if a = i ∧ b = 1 then _ else if a = i ∧ b = 0 then _ else sR Ab a b) = _
    rw [b2'.2.1, FAa.2.1]
  have cK : ∀ v l, sK Ac v l = sK A v l := fun v l => by rw [← hAc, fKR, fKR, b2'.1, FAa.1]
  have cQ : ∀ j, sQ Ac j = sQ A j := fun v => by rw [← hAc, fQR, fQR, b2'.2.2.1, FAa.2.2.1]
  have cM : ∀ q l, sM Ac q l = sM A q l := fun v l => by rw [← hAc, fMR, fMR, b2'.2.2.2.1, FAa.2.2.2.1]
  have cU : sU Ac = sU A := by rw [← hAc, fUR, fUR, b2'.2.2.2.2, FAa.2.2.2.2]
  have bo : ∀ j d l, d < 17 → sN Ab j d l = sN Aa j d l := fun j d l z => b3 j d l (by omega)
  -- clear what is signed
  obtain ⟨s1, s2, s3, ts, ts1, ts2, ts3, _⟩ := hSi i hi
  obtain ⟨Ad, d1, d2, d3, d4, d5⟩ := c_clear (E := E) (A := Ac) (i := i) (c := 9) (z := 1) (t := ts) hi hn Bal.n9 (by rw [cN, bo _ _ _ (by omega), ao _ _ _ (by omega)]; exact s1) rfl ts1 (by rw [cN, bo _ _ _ (by omega), ao _ _ _ (by omega)]; exact ts2) (fun r s k q1 q2 q3 q4 => by
    rw [cN, bo _ _ _ (by omega), ao _ _ _ (by omega), show (r * 1 + s) * 3 + k = r * 3 + k by omega]
    exact ts3 r k q1 q2 q4)
  -- clear what was sent first
  obtain ⟨e1, e2, e3, e4, e5, te, te1, te2, te3⟩ := hN.2.2.2.2.2.1 i hi
  obtain ⟨Ae, f1, f2, f3, f4, f5⟩ := c_clear (E := E) (A := Ad) (i := i) (c := 13) (z := 1) (t := te) hi hn Bal.n13 (by rw [d3 _ _ _ (by omega), cN, bo _ _ _ (by omega), ao _ _ _ (by omega)]; exact e3) rfl te1 (by rw [d3 _ _ _ (by omega), cN, bo _ _ _ (by omega), ao _ _ _ (by omega)]; exact te2) (fun r s k q1 q2 q3 q4 => by
    rw [d3 _ _ _ (by omega), cN, bo _ _ _ (by omega), ao _ _ _ (by omega), show (r * 1 + s) * 3 + k = r * 3 + k by omega]
    exact te3 r k q1 q2 q4)
  have eo : ∀ j d l, d < 17 → ¬ (j = i ∧ (d = 11 ∨ d = 15 ∨ ((d = 9 ∨ d = 13) ∧ l = 3))) → sN Ae j d l = sN Aa j d l := fun j d l z1 z2 => by rw [f3 j d l (by omega), d3 j d l (by omega), cN, bo j d l z1]
  have eo2 : ∀ j d l, 16 < d → sN Ae j d l = sN Ab j d l := fun j d l z1 => by rw [f3 j d l (by omega), d3 j d l (by omega), cN]
  have eR : ∀ a b, sR Ae a b = if a = i ∧ b = 1 then sR A i 0 else if a = i ∧ b = 0 then sR A i 1 else sR A a b := fun a b => by rw [f2.2.1, d2.2.1, cR]
  have eK : ∀ v l, sK Ae v l = sK A v l := fun v l => by rw [f2.1, d2.1, cK]
  -- the run
  have crun : CR E 48 0 [some (.ref (aN E i 0)), none] A none Ae := by
    intro B0 K hK
    refine T48 hi ?_
    rw [mxN, a2, nI_1]
    rintro _ rfl _ rfl _ rfl _ rfl _ rfl
    refine ⟨p1, ?_⟩
    simp only [pN]
    rw [hAa]
    refine b1 B0 _ ⟨rfl, ?_, ?_⟩
    · rw [mxR, b2'.2.1, FAa.2.1]
      exact p2
    · have e10 : sR (mix Ab B0) i 1 = sR A i 1 := by rw [mxR, b2'.2.1, FAa.2.1]
      have e00 : sR (mix A B0) i 0 = sR A i 0 := mxR _ _ _ _
      rw [e10, e00]
      rintro _ rfl _ rfl
      rw [pR, pR, hAc]
      exact d1 B0 _ ⟨rfl, f1 B0 _ ⟨rfl, hK⟩⟩
  -- sent
  have hPS : PSe E Ae B1 := fun j hj => by
    by_cases e : j = i
    · subst e
      have k15 : ∀ r k, r < 30 → k < 3 → sN Ae j 15 (r * 3 + k) = -2 := fun r k q1 q2 => by
        have := f5 r 0 k q1 (by omega) q2
        rw [show (r * 1 + 0) * 3 + k = r * 3 + k by omega] at this
        exact this
      refine ⟨?_, ?_, ?_, fun h r k q1 q2 q3 q4 => ?_, fun h g2 r k q1 q2 q3 q4 q5 => ?_, 0, by omega, f4, fun r k _ q2 q3 => k15 r k q2 q3⟩
      · rw [eo _ _ _ (by omega) (by omega), ao _ _ _ (by omega), ro 16 j (by omega) (by omega)]
        exact e1
      · rw [eo _ _ _ (by omega) (by omega), ao _ _ _ (by omega), e2]
        refine wsum_cg _ (fun k _ => ?_)
        show (if sS B 39 (3690 * j + k) = 0 then (0 : Int32) else 1) = if sS B1 39 (3690 * j + k) = 0 then 0 else 1
        rw [ro 39 _ (by omega) (by omega)]
      · rw [eo _ _ _ (by omega) (by omega), ao _ _ _ (by omega)]
        exact e3
      · rw [z2, nI_eq (by omega) (by omega)] at q1
        subst q1
        have := e5 g (g + 1) r k b2 (by omega) q2 q3 q4
        rw [k15 r k q3 q4, ro 38 _ (by omega) (by omega), ro 39 _ (by omega) (by omega)]
        exact Or.inl ⟨rfl, this.1, this.2⟩
      · have hg2 : h = g + 1 := by
          rw [z2, nI_eq (by omega) (by omega)] at q1
          exact q1.symm
        have := e5 g g2 r k b2 (by omega) q3 q4 q5
        rw [ro 38 _ (by omega) (by omega), ro 39 _ (by omega) (by omega)]
        exact this
    · exact (hN.2.2.2.2.2.1 j hj).fr (fun c l _ _ => by rw [eo _ _ _ (by omega) (by omega), ao _ _ _ (by omega)]) (ro 16 j (by omega) (by omega)) (ro 2 j (by omega) (by omega)) (fun _ _ _ _ _ _ => ⟨ro 38 _ (by omega) (by omega), ro 39 _ (by omega) (by omega)⟩)
  refine ⟨Ae, B1, crun, r1, ?_, fun j hj => ?_, fun j hj => ?_, fun j d l q1 q2 => ?_, ?_, ?_, ?_, ?_, ?_, eK, ro, rW, z2, z3, z4, z5, z6, z7, z8, zt⟩
  · obtain ⟨g1, nt, ⟨d, R, ta, tb, tc⟩, ⟨u, m1, m2, m3, m4, m5⟩, ⟨tm, tm1, tm2⟩, _, nn⟩ := hN
    refine ⟨⟨by rw [ro 0 1 (by omega) (by omega)]; exact g1.1, by rw [eK]; exact g1.2.1, g1.2.2⟩, ?_, ⟨d, R, ta.fr (fun v k _ _ => eK v k), tb.fr (fun v k _ _ => ro v k (by omega) (by omega)) (ro 0 45 (by omega) (by omega)), tc⟩, ⟨u, m1.fr (eK 1 1) (fun j => by rw [f2.2.2.1, d2.2.2.1, cQ]) (fun q k => by rw [f2.2.2.2.1, d2.2.2.2.1, cM]) (by rw [f2.2.2.2.2, d2.2.2.2.2, cU]), m2.fr (ro 0 37 (by omega) (by omega)) (fun v k _ _ => ro v k (by omega) (by omega)), by rw [eK]; exact m3, by rw [ro 0 38 (by omega) (by omega)]; exact m4, m5⟩, ⟨tm, tm1, by rw [eK]; exact tm2⟩, hPS, fun j hj => by rw [eo _ _ _ (by omega) (by omega), ao _ _ _ (by omega)]; exact nn j hj⟩
    unfold NT at nt ⊢
    rw [ro 0 3 (by omega) (by omega), ro 0 39 (by omega) (by omega), ro 0 41 (by omega) (by omega), ro 0 46 (by omega) (by omega), ro 0 47 (by omega) (by omega), ro 0 48 (by omega) (by omega), eK, eK, eK, eK, eK, eK]
    exact nt
  · by_cases e : j = i
    · subst e
      have er0 : sR Ae j 0 = sR A j 1 := by rw [eR, if_neg (by omega), if_pos ⟨rfl, rfl⟩]
      have er1 : sR Ae j 1 = sR A j 0 := by rw [eR, if_pos ⟨rfl, rfl⟩]
      refine ⟨by rw [er0]; exact p2, by rw [er1]; exact p1, by rw [er0, er1]; exact fun q => p3 q.symm, fun h h41 hh => ?_⟩
      rw [z2, nI_eq (by omega) (by omega)] at hh
      subst hh
      rw [er0, er1]
      constructor
      · refine v2.fr (fun d l q1 q2 => ?_) (fun r s k q1 q2 q3 => ?_) (fun r s q1 q2 => ?_)
        · rw [eo2 _ _ _ (by omega), b3 j d l (by rcases p1 with y | y <;> rcases p2 with x | x <;> omega), ao _ _ _ (by omega)]
        · rw [r17, if_neg]
          rw [pl_q q1 (by omega) q3]
          omega
        · rw [r18, if_neg]
          rw [rp_q q1 (by omega)]
          omega
      · have hp17 : ∀ r s k, r < 30 → s < eN E → k < 3 → sS B1 17 (pl j (g + 1 + 1) r s k) = -1 := fun r s k q1 q2 q3 => by
          rw [r17, if_pos]
          rw [pl_q q1 (by omega) q3]
          omega
        refine ⟨?_, fun r s k q1 q2 q3 => ?_, fun r s q1 q2 => ⟨fun _ => ?_, fun q => ?_⟩, 0, by omega, ?_, fun r s k _ q2 q3 q4 => ?_⟩
        · rw [eo2 _ _ _ (by omega), b3 _ _ _ (by omega), ao _ _ _ (by omega)]
          exact v1.1
        · rw [eo2 _ _ _ (by omega), b5 r s k q1 q2 q3, hp17 r s k q1 q2 q3]
          exact Or.inl ⟨rfl, rfl⟩
        · rw [r18, if_pos]
          rw [rp_q q1 (by omega)]
          omega
        · rw [hp17 r s 0 q1 q2 (by omega)] at q
          exact absurd q (by decide)
        · rw [eo2 _ _ _ (by omega), b4]
          rfl
        · rw [eo2 _ _ _ (by omega), b5 r s k q2 q3 q4]
    · obtain ⟨j1, j2, j3, j4⟩ := hBa j hj
      have er0 : ∀ b, sR Ae j b = sR A j b := fun b => by rw [eR, if_neg (fun q => e q.1), if_neg (fun q => e q.1)]
      refine ⟨by rw [er0]; exact j1, by rw [er0]; exact j2, by rw [er0, er0]; exact j3, fun h h41 hh => ?_⟩
      rw [ro 2 j (by omega) (by omega)] at hh
      obtain ⟨w1, w2⟩ := j4 h h41 hh
      rw [er0, er0]
      have k0 : 16 < sR A j 0 := by rcases j1 with z | z <;> omega
      have k1 : 16 < sR A j 1 := by rcases j2 with z | z <;> omega
      have hA : ∀ d l, 16 < d → sN Ae j d l = sN A j d l := fun d l q => by rw [eo2 _ _ _ q, b3 j d l (by omega), ao _ _ _ (by omega)]
      exact ⟨w1.fr (fun d l q1 q2 => hA d l (by omega)) (fun r s k q1 q2 q3 => by rw [r17, if_neg (by rw [pl_q q1 (by omega) q3]; omega)]) (fun r s q1 q2 => by rw [r18, if_neg (by rw [rp_q q1 (by omega)]; omega)]), w2.fr (fun d l q1 q2 => hA d l (by omega)) (fun r s k q1 q2 q3 => by rw [r17, if_neg (by rw [pl_q q1 (by omega) q3]; omega)]) (fun r s q1 q2 => by rw [r18, if_neg (by rw [rp_q q1 (by omega)]; omega)])⟩
  · by_cases e : j = i
    · subst e
      have k11 : ∀ r k, r < 30 → k < 3 → sN Ae j 11 (r * 3 + k) = -2 := fun r k q1 q2 => by
        have := d5 r 0 k q1 (by omega) q2
        rw [show (r * 1 + 0) * 3 + k = r * 3 + k by omega] at this
        rw [f3 _ _ _ (by omega)]
        exact this
      have b19 : ∀ r k, r < 30 → k < 3 → sS B1 19 (90 * j + 3 * r + k) = -1 := fun r k q1 q2 => by rw [r19, if_pos (by omega)]
      refine ⟨?_, fun r k q1 q2 => ?_, fun r h q1 q2 q3 q4 => ?_, 0, by omega, ?_, fun r k _ q2 q3 => k11 r k q2 q3, fun _ => rfl⟩
      · rw [eo _ _ _ (by omega) (by omega), ao _ _ _ (by omega)]
        exact s1
      · rw [k11 r k q1 q2, b19 r k q1 q2]
        exact Or.inl ⟨rfl, rfl⟩
      · have := b19 r 0 q1 (by omega)
        rw [Nat.add_zero] at this
        rw [this] at q4
        exact absurd q4 (by decide)
      · rw [f3 _ _ _ (by omega), d4]
        rfl
    · have := hSi j hj
      have hA : ∀ d l, 9 ≤ d → d ≤ 11 → sN Ae j d l = sN A j d l := fun d l q1 q2 => by rw [eo _ _ _ (by omega) (by omega), ao _ _ _ (by omega)]
      obtain ⟨s1, s2, s3, ts, ts1, ts2, ts3, ts4⟩ := this
      have b19 : ∀ r k, r < 30 → k < 3 → sS B1 19 (90 * j + 3 * r + k) = sS B 19 (90 * j + 3 * r + k) := fun r k q1 q2 => by rw [r19, if_neg (by omega)]
      refine ⟨by rw [hA _ _ (by omega) (by omega)]; exact s1, fun r k q1 q2 => ?_, fun r h q1 q2 q3 q4 => ?_, ts, ts1, by rw [hA _ _ (by omega) (by omega)]; exact ts2, fun r k q1 q2 q3 => ?_, by rw [ro 2 j (by omega) (by omega)]; exact ts4⟩
      · rw [hA _ _ (by omega) (by omega), b19 r k q1 q2]
        exact s2 r k q1 q2
      · have b190 := b19 r 0 q1 (by omega)
        rw [Nat.add_zero] at b190
        rw [b190] at q4 ⊢
        rw [ro 2 j (by omega) (by omega)] at q3
        rw [r20, if_neg (by omega), hA _ _ (by omega) (by omega)]
        exact s3 r h q1 q2 q3 q4
      · rw [hA _ _ (by omega) (by omega)]
        exact ts3 r k q1 q2 q3
  · rw [eo _ _ _ (by omega) (by omega), ao _ _ _ q2]
  · rw [eo _ _ _ (by omega) (by omega), y2]
  · rw [eo _ _ _ (by omega) (by omega), y10]
  · rw [eo _ _ _ (by omega) (by omega), y11]
  · rw [eo _ _ _ (by omega) (by omega), y20]
  · rw [eo _ _ _ (by omega) (by omega), y21]
end Nxt
