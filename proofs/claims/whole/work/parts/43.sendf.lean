/-! ===== sending as a whole ===== -/
theorem NET.fr {E : mE} {A B A' B' : mS} {M N : List Mg} (h : NET E A B M N) (hF : FNn A A') (hA : ∀ j c l, (12 ≤ c ∧ c ≤ 15) ∨ (c = 0 ∧ l = 0) → sN A' j c l = sN A j c l) (hB : ∀ v l, v = 0 ∨ v = 2 ∨ v = 16 ∨ 25 ≤ v → sS B' v l = sS B v l) : NET E A' B' M N := by
  obtain ⟨h1, h2, ⟨d, R, a, b, c⟩, ⟨u, m1, m2, m3, m4, m5⟩, ⟨t, t1, t2⟩, h6, h7⟩ := h
  refine ⟨⟨by rw [hB _ _ (by omega)]; exact h1.1, by rw [hF.1]; exact h1.2.1, h1.2.2⟩, ?_, ⟨d, R, a.fr (fun v k _ _ => hF.1 v k), b.fr (fun v k _ _ => hB v k (by omega)) (hB _ _ (by omega)), c⟩, ⟨u, m1.fr (hF.1 _ _) hF.2.2.1 hF.2.2.2.1 hF.2.2.2.2, m2.fr (hB _ _ (by omega)) (fun v k _ _ => hB v k (by omega)), by rw [hF.1]; exact m3, by rw [hB _ _ (by omega)]; exact m4, m5⟩, ⟨t, t1, by rw [hF.1]; exact t2⟩, fun j hj => (h6 j hj).fr (fun c k _ _ => hA j c k (by omega)) (hB _ _ (by omega)) (hB _ _ (by omega)) (fun _ _ _ _ _ _ => ⟨hB _ _ (by omega), hB _ _ (by omega)⟩), fun j hj => by rw [hA j 0 0 (by omega)]; exact h7 j hj⟩
  unfold NT at h2 ⊢
  rw [hB 0 3 (by omega), hB 0 39 (by omega), hB 0 41 (by omega), hB 0 46 (by omega), hB 0 47 (by omega), hB 0 48 (by omega), hF.1, hF.1, hF.1, hF.1, hF.1, hF.1]
  exact h2
/-- what may come between signing and sending: a value that becomes valid -/
def Uf (u : Option (Int32 × Int32)) (i : Nat) (A : mS) : mS := match u with
  | none => A
  | some (x, y) => uN (uN A i 2 0 x) i 2 1 y
theorem Uf_o (u : Option (Int32 × Int32)) (i : Nat) (A : mS) (j c l : Nat) (h : ¬ (j = i ∧ c = 2)) : sN (Uf u i A) j c l = sN A j c l := by
  cases u with
  | none => rfl
  | some p =>
    obtain ⟨x, y⟩ := p
    show sN (uN (uN A i 2 0 x) i 2 1 y) j c l = _
    rw [rNo _ (by omega), rNo _ (by omega)]
theorem Uf_F (u : Option (Int32 × Int32)) (i : Nat) (A : mS) : FNn A (Uf u i A) := by
  cases u with
  | none => exact FNn.rf A
  | some p =>
    obtain ⟨x, y⟩ := p
    exact (FNn.u _ _ _ _ _).tr (FNn.u _ _ _ _ _)
theorem Uf_2 (u : Option (Int32 × Int32)) (i : Nat) (A A' : mS) (l : Nat) (h : ∀ l, sN A' i 2 l = sN A i 2 l) : sN (Uf u i A') i 2 l = sN (Uf u i A) i 2 l := by
  cases u with
  | none => exact h l
  | some p =>
    obtain ⟨x, y⟩ := p
    show sN (uN (uN A' i 2 0 x) i 2 1 y) i 2 l = sN (uN (uN A i 2 0 x) i 2 1 y) i 2 l
    rw [rN, rN, rN, rN, h]
def cOut (A : mS) (i g r k : Nat) (v q : Int32) : mS := uN (uN (uN (uN (uN (uN (uN A i 16 0 (nI i)) i 16 2 (nI g)) i 16 3 (nI r)) i 16 4 (nI k)) i 16 5 v) i 16 6 q) i 0 17 1
theorem cOut_o (A : mS) (i g r k : Nat) (v q : Int32) (j c l : Nat) (h : ¬ (j = i ∧ (c = 16 ∨ (c = 0 ∧ l = 17)))) : sN (cOut A i g r k v q) j c l = sN A j c l := by
  unfold cOut
  rw [rNo _ (by omega), rNo _ (by omega), rNo _ (by omega), rNo _ (by omega), rNo _ (by omega), rNo _ (by omega), rNo _ (by omega)]
theorem cOut_F (A : mS) (i g r k : Nat) (v q : Int32) : FNn A (cOut A i g r k v q) := ((((((FNn.u _ _ _ _ _).tr (FNn.u _ _ _ _ _)).tr (FNn.u _ _ _ _ _)).tr (FNn.u _ _ _ _ _)).tr (FNn.u _ _ _ _ _)).tr (FNn.u _ _ _ _ _)).tr (FNn.u _ _ _ _ _)
theorem cOut_v (A : mS) (i g r k : Nat) (v q : Int32) : OUT (cOut A i g r k v q) i g r k q ∧ sN (cOut A i g r k v q) i 16 5 = v ∧ sN (cOut A i g r k v q) i 0 17 = 1 := by
  unfold OUT cOut
  refine ⟨⟨?_, ?_, ?_, ?_, ?_⟩, ?_, ?_⟩
  · rw [rNo _ (by omega), rNo _ (by omega), rNo _ (by omega), rNo _ (by omega), rNo _ (by omega), rNo _ (by omega), rNs]
  · rw [rNo _ (by omega), rNo _ (by omega), rNo _ (by omega), rNo _ (by omega), rNo _ (by omega), rNs]
  · rw [rNo _ (by omega), rNo _ (by omega), rNo _ (by omega), rNo _ (by omega), rNs]
  · rw [rNo _ (by omega), rNo _ (by omega), rNo _ (by omega), rNs]
  · rw [rNo _ (by omega), rNs]
  · rw [rNo _ (by omega), rNo _ (by omega), rNs]
  · rw [rNs]
section SndF
variable {E : mE} {A B : mS} {M N : List Mg} {i g r k : Nat} {w qc qr v : Int32}
theorem c_out (hi : i < eN E) (hk : k < 3) (a0 : sN A i 0 0 = nI i) (a2 : sN A i 0 2 = nI g) (a3 : sN A i 0 3 = nI r) : CR E 40 142 [some (.ref (aN E i 0)), some (.int (nI k)), some (.int w), some (.int qc), some (.int v), some (.int qr)] A none (if k = 0 then cOut A i g r k v qr else uN (cOut A i g r k v qr) i 0 4 (nI k)) := by
  intro B K hK
  refine T40_142 hi ?_
  rintro _ rfl _ rfl _ rfl _ rfl _ rfl _ rfl _ rfl
  have e2 : ∀ S x, sN (uN S i 16 0 x) i 0 2 = sN S i 0 2 := fun S x => rNo _ (by omega)
  have e3 : ∀ S x y, sN (uN (uN S i 16 0 x) i 16 2 y) i 0 3 = sN S i 0 3 := fun S x y => by rw [rNo _ (by omega), rNo _ (by omega)]
  rw [e2, e3, mxN, mxN, mxN, a0, a2, a3]
  simp only [pN]
  unfold cOut at hK
  refine ⟨fun z => T40_224 hi ?_, fun z => ⟨fun z1 => ?_, fun z1 => ?_⟩⟩
  · rw [il0, nI_eq (by omega) (by omega)] at z
    rw [if_pos z] at hK
    exact hK
  · rintro _ rfl
    have k1 : k = 1 := by
      rw [il1, nI_eq (by omega) (by omega)] at z1
      exact z1
    subst k1
    rw [if_neg (by omega)] at hK
    refine T40_224 hi ?_
    exact hK
  · rintro _ rfl
    have k2 : k = 2 := by
      rw [il1, nI_eq (by omega) (by omega)] at z1
      rw [il0, nI_eq (by omega) (by omega)] at z
      omega
    subst k2
    rw [if_neg (by omega)] at hK
    refine T40_224 hi ?_
    exact hK
/-- what sending leaves of the reference's part -/
def FBS (B B' : mS) : Prop := (∀ v l, v < 25 ∨ v = 37 → v < 16 ∨ 20 < v → (v = 0 → l < 37 ∨ l = 40 ∨ 45 < l) → sS B' v l = sS B v l) ∧ ∀ l, sW B' l = sW B l
/-- node i signs, keeps and sends -/
theorem snd (u : Option (Int32 × Int32)) (hN : NET E A B M N) (hi : i < eN E) (hg : 1 ≤ g) (h40 : g ≤ 40) (hr : r < 30) (hk : k < 3) (a2 : sN A i 0 2 = nI g) (a3 : sN A i 0 3 = nI r) (b2 : sS B 2 i = nI g) (b3 : sS B 3 i = nI r) (hbe : sN A i 0 7 = sS B 11 i) (hB : PBa E A B) (hS : PSi E A B) (hw : gw E i g r k w qc qr) :
    ∃ A1 A2 B2 X, CR E 40 0 [some (.ref (aN E i 0)), some (.int (nI k)), some (.int w), some (.int qc), none, none] A none A1 ∧ CR E 72 0 [some (.ref (aK E 0)), some (.ref (aN E i 0)), none, none, none, none, none, none] (Uf u i A1) none A2 ∧
      RR E 101 0 [some (.ref (aS E 0)), some (.int (nI i)), some (.int (nI k)), some (.int w), some (.int qr), none, none, none, none, none, none, none] B none B2 ∧ NET E A2 B2 (M ++ X) (N ++ X) ∧ PBa E A2 B2 ∧ PSi E A2 B2 ∧ sN A2 i 0 17 = 0 ∧
      (∀ j d l, d < 9 → ¬ (j = i ∧ d = 0 ∧ (l = 4 ∨ l = 17)) → sN A2 j d l = sN (Uf u i A) j d l) ∧ sN A2 i 0 4 = (if k = 0 then sN A i 0 4 else nI k) ∧ (∀ a b, sR A2 a b = sR A a b) ∧ (∀ v l, 7 ≤ v → sK A2 v l = sK A v l) ∧ (∀ l, ¬ l = 6 → ¬ l = 8 → sK A2 0 l = sK A 0 l) ∧
      FBS B B2 ∧ (∀ m, m ∈ X → GM E m ∧ sK A 0 5 < m 7) ∧ (∀ l, sN A1 i 2 l = sN A i 2 l) ∧ ((∀ l, ¬ l = 4 → ¬ l = 17 → sN A1 i 0 l = sN A i 0 l) ∧ FNn A A1) := by
  have hn := hN.1.2.2.2
  have a0 := hN.2.2.2.2.2.2 i hi
  have hk0 : nI k = 0 ↔ k = 0 := by rw [il0, nI_eq (by omega) (by omega)]
  obtain ⟨Aa, Ba, v, qc', qr', s1, s2, s3, s4, s5, s6, s7, s8⟩ := sndS hi hn h40 hr hk a3 b2 b3 hbe hS hw
  have hNa : NET E Aa Ba M N := hN.fr s5 (fun j c l z => s6 j c l (by omega)) (fun v l z => s7 v l (by omega) (by omega))
  have hBa : PBa E Aa Ba := hB.fr s5.2.1 (fun l => s7 2 l (by omega) (by omega)) (fun j d l z => s6 j d l (by omega)) (fun p => s7 17 p (by omega) (by omega)) (fun p => s7 18 p (by omega) (by omega))
  have b2a : sS Ba 2 i = nI g := (s7 2 i (by omega) (by omega)).trans b2
  have bea : sS Ba 11 i = sS B 11 i := s7 11 i (by omega) (by omega)
  have hgv : k = 0 → qc' = qr' ∧ gv E i g r v ∧ (g + r) % eN E = i ∧ -1 ≤ qc' := fun e => by
    obtain ⟨w1, w2, w3, w4, w5, w6, w7⟩ := s4.2 e
    refine ⟨w1, ⟨w4, w5, ?_, w7⟩, w2, by rw [w1]; exact w3⟩
    rw [if_pos w2]
    exact w6
  -- keeping
  have keep : ∃ Ab Bb, (∀ B0 K, ES E 40 142 [some (.ref (aN E i 0)), some (.int (nI k)), some (.int w), some (.int qc), some (.int v), some (.int qc')] [] (mix Ab B0) K → ES E 40 103 [some (.ref (aN E i 0)), some (.int (nI k)), some (.int w), some (.int qc), some (.int v), some (.int qc')] [] (mix Aa B0) K) ∧
      RR E 102 0 [some (.ref (aS E 0)), some (.int (nI i)), some (.int (nI i)), some (.int (nI g)), some (.int (nI r)), some (.int (nI k)), some (.int v), some (.int qr'), some (.int 0), none, none] Ba none Bb ∧ PBa E Ab Bb ∧ FNn Aa Ab ∧ (∀ j d l, d < 17 → sN Ab j d l = sN Aa j d l) ∧ (∀ v l, ¬ v = 17 → ¬ v = 18 → sS Bb v l = sS Ba v l) ∧ ∀ l, sW Bb l = sW Ba l := by
    obtain ⟨p1, p2, p3, p4⟩ := hBa i hi
    obtain ⟨v1, v2⟩ := p4 g (by omega) b2a
    have hl : lnB (eN E) (sR Aa i 0) = 90 * eN E := by
      rcases p1 with z | z <;> rw [z] <;> rfl
    have l0 : 16 < sR Aa i 0 := by rcases p1 with z | z <;> omega
    have hb := ix_lt (z := eN E) hr hi hk
    have ex : ∀ B0, (sN (mix Aa B0) i 0 3 * sN (mix Aa B0) i (sR (mix Aa B0) i 0) 0 + sN (mix Aa B0) i 0 0) * 3 + nI k = nI ((r * eN E + i) * 3 + k) := fun B0 => by
      rw [mxN, mxN, mxN, mxR, s6 i 0 3 (by omega), s6 i 0 0 (by omega), a3, a0, v1.1]
      exact ix_b r (eN E) i k
    have m3 : ∀ B0, sN (mix Aa B0) i 0 3 = nI r := fun B0 => by rw [mxN, s6 i 0 3 (by omega), a3]
    have m0 : ∀ B0, sN (mix Aa B0) i 0 0 = nI i := fun B0 => by rw [mxN, s6 i 0 0 (by omega), a0]
    have gx : ∀ B0, ¬ (sN (mix Aa B0) i 0 3 * sN (mix Aa B0) i (sR (mix Aa B0) i 0) 0 + sN (mix Aa B0) i 0 0) * 3 + nI k < 0 ∧ ((sN (mix Aa B0) i 0 3 * sN (mix Aa B0) i (sR (mix Aa B0) i 0) 0 + sN (mix Aa B0) i 0 0) * 3 + nI k).toNatClampNeg < lnB (eN E) (sR (mix Aa B0) i 0) := fun B0 => in_n (ex B0) (by rw [mxR, hl]; exact hb) (by rw [mxR, hl]; omega)
    have cx : ∀ B0, sN (mix Aa B0) i (sR (mix Aa B0) i 0 + 2) ((sN (mix Aa B0) i 0 3 * sN (mix Aa B0) i (sR (mix Aa B0) i 0) 0 + sN (mix Aa B0) i 0 0) * 3 + nI k).toNatClampNeg = sN Aa i (sR Aa i 0 + 2) ((r * eN E + i) * 3 + k) := fun B0 => by
      rw [ex, nI_clamp (by omega)]
      rfl
    rcases (v1.2.1 r i k hr hi hk).c with ⟨x1, x2, x3, x4⟩ | ⟨x1, x2, x3, x4⟩
    · obtain ⟨Ab, q1, q2, q3, q4, q5, q6, q7⟩ := c_put (E := E) (A := Aa) (i := i) (c := sR Aa i 0) (z := eN E) (r := r) (s := i) (k := k) (v := v) (q := qc') hi hn p1.b v1.1 hl hr hi hk
      refine ⟨Ab, rK0 Ba i g r i k v qr', fun B0 K h => T40_103 hi ⟨p1, gx B0, ?_⟩, r_keep0 (by omega) (by omega) hr hk b2a (Or.inl rfl) h40 x4, ?_, q2, fun j d l z => q3 j d l (by omega), fun v l z1 z2 => ?_, fun l => ?_⟩
      · rw [cx, m3, m0]
        exact ⟨fun _ => q1 B0 _ ⟨rfl, h⟩, fun z => absurd x1 z⟩
      · refine hBa.put hn hi (by omega) b2a (Or.inl ⟨rfl, rfl⟩) q2.2.1 (fun l => ?_) (fun j d l z _ => q3 j d l z) hr hi hk q4 q5 (q6 0 (by omega)) q7 (fun p => ?_) (fun p => ?_) s4.1 hgv
        · unfold rK0
          rw [rSo _ (by omega), rSo _ (by omega)]
        · unfold rK0
          rw [rSo _ (by omega), rS]
          by_cases z : p = pl i g r i k
          · rw [if_pos ⟨rfl, z⟩, if_pos z]
          · rw [if_neg (fun y => z y.2), if_neg z]
        · unfold rK0
          rw [rS]
          by_cases z : p = rp i g r i
          · rw [if_pos ⟨rfl, z⟩]
            by_cases z0 : k = 0
            · rw [if_pos z0, if_pos ⟨z0, z⟩]
            · rw [if_neg z0, if_neg (fun y => z0 y.1), z]
          · rw [if_neg (fun y => z y.2), if_neg (fun y => z y.2), rSo _ (by omega)]
      · unfold rK0
        rw [rSo _ (by omega), rSo _ (by omega)]
      · unfold rK0
        rw [fWS, fWS]
    · refine ⟨Aa, Ba, fun B0 K h => T40_103 hi ⟨p1, gx B0, ?_⟩, r_keepN (by omega) (by omega) hr hk b2a (Or.inl rfl) h40 x2, hBa, FNn.rf Aa, fun _ _ _ _ => rfl, fun _ _ _ _ => rfl, fun _ => rfl⟩
      rw [cx]
      exact ⟨fun z => absurd z x3, fun _ => h⟩
  obtain ⟨Ab, Bb, k1, k2, k3, k4, k5, k6, k7⟩ := keep
  -- the message
  have o0 : sN Ab i 0 0 = nI i := by rw [k5 i 0 0 (by omega), s6 i 0 0 (by omega)]; exact a0
  have o2 : sN Ab i 0 2 = nI g := by rw [k5 i 0 2 (by omega), s6 i 0 2 (by omega)]; exact a2
  have o3 : sN Ab i 0 3 = nI r := by rw [k5 i 0 3 (by omega), s6 i 0 3 (by omega)]; exact a3
  have co := c_out (E := E) (w := w) (qc := qc) (v := v) (qr := qc') hi hk o0 o2 o3
  obtain ⟨ov1, ov2, ov3⟩ := cOut_v Ab i g r k v qc'
  generalize hA1 : (if k = 0 then cOut Ab i g r k v qc' else uN (cOut Ab i g r k v qc') i 0 4 (nI k)) = A1 at co
  have h1o : ∀ j c l, ¬ (j = i ∧ (c = 16 ∨ (c = 0 ∧ (l = 17 ∨ l = 4)))) → sN A1 j c l = sN Ab j c l := fun j c l z => by
    rw [← hA1]
    by_cases e : k = 0
    · rw [if_pos e, cOut_o _ _ _ _ _ _ _ _ _ _ (by omega)]
    · rw [if_neg e, rNo _ (by omega), cOut_o _ _ _ _ _ _ _ _ _ _ (by omega)]
  have h116 : ∀ l, sN A1 i 16 l = sN (cOut Ab i g r k v qc') i 16 l := fun l => by
    rw [← hA1]
    by_cases e : k = 0
    · rw [if_pos e]
    · rw [if_neg e, rNo _ (by omega)]
  have h117 : sN A1 i 0 17 = 1 := by
    rw [← hA1]
    by_cases e : k = 0
    · rw [if_pos e]; exact ov3
    · rw [if_neg e, rNo _ (by omega)]; exact ov3
  have h14 : sN A1 i 0 4 = if k = 0 then sN A i 0 4 else nI k := by
    rw [← hA1]
    by_cases e : k = 0
    · rw [if_pos e, if_pos e, cOut_o _ _ _ _ _ _ _ _ _ _ (by omega), k5 _ _ _ (by omega), s6 _ _ _ (by omega)]
    · rw [if_neg e, if_neg e, rNs]
  have h1F : FNn Ab A1 := by
    rw [← hA1]
    by_cases e : k = 0
    · rw [if_pos e]; exact cOut_F _ _ _ _ _ _ _
    · rw [if_neg e]; exact (cOut_F _ _ _ _ _ _ _).tr (FNn.u _ _ _ _ _)
  have hF1 : FNn A A1 := (s5.tr k4).tr h1F
  have hFU : FNn A (Uf u i A1) := hF1.tr (Uf_F u i A1)
  have hU : ∀ j c l, ¬ (j = i ∧ (c = 16 ∨ c = 2 ∨ (c = 0 ∧ (l = 17 ∨ l = 4)))) → c < 17 → c < 9 ∨ 11 < c → sN (Uf u i A1) j c l = sN A j c l := fun j c l z z2 z3 => by
    rw [Uf_o u i A1 j c l (by omega), h1o j c l (by omega), k5 j c l (by omega), s6 j c l (by omega)]
  have hNU : NET E (Uf u i A1) Bb M N := hN.fr hFU (fun j c l z => hU j c l (by omega) (by omega) (by omega)) (fun v l z => by rw [k6 v l (by omega) (by omega), s7 v l (by omega) (by omega)])
  have beb : sS Bb 11 i = sS B 11 i := by rw [k6 11 i (by omega) (by omega), bea]
  obtain ⟨A2, B2, X, d1, d2, d3, d4, d5, d6, d7, d8⟩ := disp (v := v) (qc := qc') (qr := qr') (v3 := w) (v4 := qr) (v9 := 90 * nI i + 3 * nI r + nI k) hNU hi hg h40 hr hk (by rw [hU i 0 7 (by omega) (by omega) (by omega), hbe, beb]) (by rw [k6 2 i (by omega) (by omega), b2a]) (by
      unfold OUT at ov1 ⊢
      rw [Uf_o u i A1 i 16 0 (by omega), Uf_o u i A1 i 16 2 (by omega), Uf_o u i A1 i 16 3 (by omega), Uf_o u i A1 i 16 4 (by omega), Uf_o u i A1 i 16 6 (by omega), h116, h116, h116, h116, h116]
      exact ov1) (by rw [Uf_o u i A1 i 16 5 (by omega), h116]; exact ov2) s4.1 (by rw [Uf_o u i A1 i 0 17 (by omega)]; exact h117) s4.2
  refine ⟨A1, A2, B2, X, fun B0 K hK => s1 B0 K (k1 B0 K (co B0 K hK)), d1, fun A0 K hK => s2 A0 K (T101_113 (k2 A0 _ ⟨rfl, in_n rfl (by omega) (by omega), ?_⟩)), d3, ?_, ?_, d5, fun j d l z1 z2 => ?_, ?_, fun a b => ?_, fun v l z => ?_, fun l z1 z2 => ?_, ⟨fun v l z1 z2 z3 => ?_, fun l => ?_⟩, fun m hm => ?_, fun l => ?_, ?_⟩
  · rw [nI_clamp (by omega), mxS]
    rcases d2 with ⟨z1, z2⟩ | ⟨z1, z2⟩
    · subst z2
      exact ⟨fun _ => hK, fun z => absurd z1 z⟩
    · exact ⟨fun z => absurd z z1, fun _ => z2 A0 K hK⟩
  · refine k3.fr (fun a b => ?_) (fun l => d7.1 2 l (by omega) (by omega) (by omega)) (fun j d l z => ?_) (fun p => d7.1 17 p (by omega) (by omega) (by omega)) (fun p => d7.1 18 p (by omega) (by omega) (by omega))
    · rw [d6.2.1, fRN, (Uf_F u i A1).2.1, h1F.2.1]
    · rw [d4 j d l (by omega) (by omega), Uf_o u i A1 j d l (by omega), h1o j d l (by omega)]
  · refine s3.fr (fun l => ?_) (fun j d l z1 z2 => ?_) (fun p => ?_) (fun p => ?_)
    · rw [d7.1 2 l (by omega) (by omega) (by omega), k6 2 l (by omega) (by omega)]
    · rw [d4 j d l (by omega) (by omega), Uf_o u i A1 j d l (by omega), h1o j d l (by omega), k5 j d l (by omega)]
    · rw [d7.1 19 p (by omega) (by omega) (by omega), k6 19 p (by omega) (by omega)]
    · rw [d7.1 20 p (by omega) (by omega) (by omega), k6 20 p (by omega) (by omega)]
  · rw [d4 j d l (by omega) (by omega)]
    have hA1l : ∀ l, sN A1 i 2 l = sN A i 2 l := fun l => by rw [h1o i 2 l (by omega), k5 i 2 l (by omega), s6 i 2 l (by omega)]
    by_cases e : j = i ∧ d = 2
    · obtain ⟨rfl, rfl⟩ := e
      exact Uf_2 u j A A1 l hA1l
    · rw [Uf_o u i A1 j d l e, Uf_o u i A j d l e, h1o j d l (by omega), k5 j d l (by omega), s6 j d l (by omega)]
  · rw [d4 i 0 4 (by omega) (by omega), Uf_o u i A1 i 0 4 (by omega)]
    exact h14
  · rw [d6.2.1, fRN, hFU.2.1]
  · rw [d6.2.2.1 v l z, fKN, hFU.1]
  · rw [d6.2.2.2 l z1 z2, fKN, hFU.1]
  · rw [d7.1 v l z1 (by omega) z3, k6 v l (by omega) (by omega), s7 v l (by omega) (by omega)]
  · rw [d7.2, k7, s8]
  · have := d8 m hm
    rw [hFU.1] at this
    exact this
  · rw [h1o i 2 l (by omega), k5 i 2 l (by omega), s6 i 2 l (by omega)]
  · exact ⟨fun l z1 z2 => by rw [h1o i 0 l (by omega), k5 i 0 l (by omega), s6 i 0 l (by omega)], hF1⟩
end SndF
