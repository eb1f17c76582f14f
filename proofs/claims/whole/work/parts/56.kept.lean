/-! ===== a copy that comes ===== -/
section Kept
variable {E : mE} {A B : mS} {M N : List Mg} {m : Mg} {q a b h r k g c : Nat} {qr : Int32}
/-- the class looks into ballots c -/
theorem c_58 (hS : Sim E A B M N) (hb : b < eN E) (hq : q < sU A) (n0 : sM A q 0 = nI a) (n2 : sM A q 2 = nI h) (n3 : sM A q 3 = nI r) (n4 : sM A q 4 = nI k) (ha : a < eN E) (hr : r < 30) (hk : k < 3) (hh : h ≤ 40) (a2 : sN A b 0 2 = nI g) (h41 : g ≤ 41) (hc : (c = sR A b 0 ∧ h = g) ∨ (c = sR A b 1 ∧ h = g + 1)) (hRB : RB c) (hz : sN A b c 0 = nI (eN E)) {B0 : mS} {K : Option Value → mS → Prop}
    (h0 : sN A b (c + 2) ((r * eN E + a) * 3 + k) = -2 → ES E 11 0 [some (.ref (aN E b c)), some (.int (nI r)), some (.int (nI a)), some (.int (nI k)), some (.int (sM A q 5)), some (.int (sM A q 6))] [] (mix A B0) (fun r S5 => r = none ∧ (K (some (.int 1)) S5)))
    (h1 : ¬ sN A b (c + 2) ((r * eN E + a) * 3 + k) = -2 → sN A b (c + 2) ((r * eN E + a) * 3 + k) = sM A q 5 → (k = 0 → sN A b (c + 1) r = sM A q 6) → K (some (.int 1)) (mix A B0))
    (h2 : ¬ sN A b (c + 2) ((r * eN E + a) * 3 + k) = -2 → ¬ (sN A b (c + 2) ((r * eN E + a) * 3 + k) = sM A q 5 ∧ (k = 0 → sN A b (c + 1) r = sM A q 6)) → K (some (.int 0)) (mix A B0)) : ES E 58 0 [some (.ref (aN E b 0)), some (.ref (aM E q)), none] [] (mix A B0) K := by
  have hn := hS.1.1.2.2.2
  have hqm : q < sU (mix A B0) := hq
  have m0 : sM (mix A B0) q 0 = nI a := n0
  have m2 : sM (mix A B0) q 2 = nI h := n2
  have m3 : sM (mix A B0) q 3 = nI r := n3
  have m4 : sM (mix A B0) q 4 = nI k := n4
  have m5 : sM (mix A B0) q 5 = sM A q 5 := mxM _ _ _ _
  have m6 : sM (mix A B0) q 6 = sM A q 6 := mxM _ _ _ _
  have mz : sN (mix A B0) b c 0 = nI (eN E) := hz
  have mh : sN (mix A B0) b 0 2 = nI g := a2
  have mx : ∀ d l, sN (mix A B0) b d l = sN A b d l := fun d l => mxN _ _ _ _ _
  have lx := ix_lt (k := k) hr ha hk
  have ix : (nI r * nI (eN E) + nI a) * 3 + nI k = nI ((r * eN E + a) * 3 + k) := ix_b _ _ _ _
  have cx : (nI ((r * eN E + a) * 3 + k)).toNatClampNeg = (r * eN E + a) * 3 + k := nI_clamp (by omega)
  have cr : (nI r).toNatClampNeg = r := nI_clamp (by omega)
  have k0 : nI k = 0 ↔ k = 0 := by rw [il0, nI_eq (by omega) (by omega)]
  have gb : ¬ nI ((r * eN E + a) * 3 + k) < 0 ∧ (r * eN E + a) * 3 + k < lnB (eN E) c := ⟨nI_pos (by omega), by rw [hRB.ln]; exact lx⟩
  have e118 : ¬ sN A b (c + 2) ((r * eN E + a) * 3 + k) = -2 → (k = 0 → sN A b (c + 1) r = sM A q 6) → ES E 58 118 [some (.ref (aN E b 0)), some (.ref (aM E q)), some (.ref (aN E b c))] [] (mix A B0) K := fun y1 y2 => by
    refine T58_118 hb hqm hRB ?_
    rw [m0, m3, m4, m5, mz, ix, cx, mx]
    exact ⟨gb, fun y => h1 y1 y y2, fun y => h2 y1 (fun z => y z.1)⟩
  have e26 : ES E 58 26 [some (.ref (aN E b 0)), some (.ref (aM E q)), none] [] (mix A B0) K := by
    refine T58_26 hb hqm ?_
    rw [m2, mh, nI_eq (by omega) (by omega)]
    have body : (¬ nI ((r * eN E + a) * 3 + k) < 0 ∧ (r * eN E + a) * 3 + k < lnB (eN E) c) ∧ ((sN A b (c + 2) ((r * eN E + a) * 3 + k) = (-2) → (ES E 11 0 [some (.ref (aN E b c)), some (.int (nI r)), some (.int (nI a)), some (.int (nI k)), some (.int (sM A q 5)), some (.int (sM A q 6))] [] (mix A B0) (fun r S5 => r = none ∧ (K (some (.int 1)) S5)))) ∧ (¬ sN A b (c + 2) ((r * eN E + a) * 3 + k) = (-2) → ((nI k = 0 → ((¬ nI r < 0 ∧ r < 30) ∧ ((sN A b (c + 1) r = (sM A q 6) → (ES E 58 118 [some (.ref (aN E b 0)), some (.ref (aM E q)), some (.ref (aN E b c))] [] (mix A B0) K)) ∧ (¬ sN A b (c + 1) r = (sM A q 6) → (K (some (.int 0)) (mix A B0)))))) ∧ (¬ nI k = 0 → (ES E 58 118 [some (.ref (aN E b 0)), some (.ref (aM E q)), some (.ref (aN E b c))] [] (mix A B0) K))))) := by
      refine ⟨gb, h0, fun y1 => ⟨fun y2 => ⟨⟨nI_pos (by omega), hr⟩, fun y3 => e118 y1 (fun _ => y3), fun y3 => h2 y1 (fun z => y3 (z.2 (k0.1 y2)))⟩, fun y2 => e118 y1 (fun z => absurd (k0.2 z) y2)⟩⟩
    rcases hc with ⟨c1, c2⟩ | ⟨c1, c2⟩
    · refine ⟨fun _ => ?_, fun z => absurd c2 z⟩
      have mR : sR (mix A B0) b 0 = c := c1.symm
      rw [mR, m0, m3, m4, m5, m6, mz, ix, cx, cr, mx, mx]
      exact ⟨hRB, body⟩
    · refine ⟨fun z => by omega, fun _ => ?_⟩
      have mR : sR (mix A B0) b 1 = c := c1.symm
      rw [mR, m0, m3, m4, m5, m6, mz, ix, cx, cr, mx, mx]
      exact ⟨hRB, body⟩
  refine T58 hb hqm ?_
  rw [m2, mh, nI_1, nI_eq (by omega) (by omega), nI_eq (by omega) (by omega)]
  rcases hc with ⟨c1, c2⟩ | ⟨c1, c2⟩
  · exact ⟨fun _ => e26, fun z => absurd c2 z⟩
  · exact ⟨fun _ => e26, fun _ => ⟨fun _ => e26, fun z => absurd c2 z⟩⟩
/-- the reference judges a second message -/
theorem r_102 {v : Int32} (hi : b < 10) (hs : a < 10) (hr : r < 30) (hk : k < 3) (b2 : sS B 2 b = nI g) (h41 : g ≤ 41) (hg : h = g ∨ h = g + 1) (h40 : h ≤ 40) (he : 0 ≤ sS B 17 (pl b h r a k)) {A0 : mS} {K : Option Value → mS → Prop}
    (h1 : sS B 17 (pl b h r a k) = v → (k = 0 → sS B 18 (rp b h r a) = qr) → K none (mix A0 B))
    (h2 : ¬ (sS B 17 (pl b h r a k) = v ∧ (k = 0 → sS B 18 (rp b h r a) = qr)) → ES E 103 0 [some (.ref (aS E 0)), some (.int (nI a)), some (.int (nI h)), some (.int (nI r)), some (.int (nI k)), some (.int (nI b)), none] [] (mix A0 B) (fun r S1 => r = none ∧ K none S1)) : ES E 102 0 [some (.ref (aS E 0)), some (.int (nI b)), some (.int (nI a)), some (.int (nI h)), some (.int (nI r)), some (.int (nI k)), some (.int v), some (.int qr), some (.int 1), none, none] [] (mix A0 B) K := by
  have ci : (nI b).toNatClampNeg = b := nI_clamp (by omega)
  have hp := pl_lt (i := b) (h := h) hi hr hs hk
  have hp2 := rp_lt (i := b) (h := h) hi hr hs
  have ep : (((((2 * nI b + (nI h - nI h / 2 * 2)) * 30 + nI r) * 10 + nI a) * 3) + nI k) = nI (pl b h r a k) := ix_p hi (by omega) hr hs hk
  have er := ix_r (i := b) (h := h) (r := r) (s := a) hi (by omega) hr hs
  have cp : (nI (pl b h r a k)).toNatClampNeg = pl b h r a k := nI_clamp (by omega)
  have cr : (nI (rp b h r a)).toNatClampNeg = rp b h r a := nI_clamp (by omega)
  have k0 : nI k = 0 ↔ k = 0 := by rw [il0, nI_eq (by omega) (by omega)]
  have m17 : sS (mix A0 B) 17 (pl b h r a k) = sS B 17 (pl b h r a k) := mxS _ _ _ _
  have m18 : sS (mix A0 B) 18 (rp b h r a) = sS B 18 (rp b h r a) := mxS _ _ _ _
  have bad : ∀ x9 x10, ¬ (sS B 17 (pl b h r a k) = v ∧ (k = 0 → sS B 18 (rp b h r a) = qr)) → ES E 102 133 [some (.ref (aS E 0)), some (.int (nI b)), some (.int (nI a)), some (.int (nI h)), some (.int (nI r)), some (.int (nI k)), some (.int v), some (.int qr), some (.int 1), some (.int x9), some (.int x10)] [] (mix A0 B) K := fun x9 x10 z => T102_133 (ES.mono (h2 z) (fun r S' y => ⟨y.1, T102_144 y.2⟩))
  have go : ES E 102 22 [some (.ref (aS E 0)), some (.int (nI b)), some (.int (nI a)), some (.int (nI h)), some (.int (nI r)), some (.int (nI k)), some (.int v), some (.int qr), some (.int 1), none, none] [] (mix A0 B) K := by
    refine T102_22 ⟨fun _ => ⟨by decide, ?_⟩, fun z => absurd (nI_le h40 (by omega)) z⟩
    rw [ep, er, cp, cr, m17, m18]
    refine ⟨⟨nI_pos (by omega), hp⟩, fun _ => ⟨fun z => absurd z one0, fun _ => ⟨fun y1 => ⟨fun y2 => ⟨⟨nI_pos (by omega), hp2⟩, fun y3 => T102_144 (h1 y1 (fun _ => y3)), fun y3 => bad _ _ (fun z => y3 (z.2 (k0.1 y2)))⟩, fun y2 => T102_144 (h1 y1 (fun z => absurd (k0.2 z) y2))⟩, fun y1 => bad _ _ (fun z => y1 z.1)⟩⟩, fun z => absurd he z⟩
  refine T102 ⟨in_n rfl hi (by omega), ?_⟩
  rw [ci, mxS, b2, nI_1, nI_eq (by omega) (by omega), nI_eq (by omega) (by omega)]
  exact ⟨fun _ => go, fun z => ⟨fun _ => go, fun z2 => absurd (hg.resolve_left z) z2⟩⟩
/-- what a copy that comes leaves -/
def KPT (A B A2 B2 : mS) : Prop := (∀ j, sQ A2 j = sQ A j) ∧ (∀ q k, sM A2 q k = sM A q k) ∧ sU A2 = sU A ∧ (∀ j l, sN A2 j 0 l = sN A j 0 l) ∧ (∀ l, sK A2 0 l = sK A 0 l) ∧ ∀ v j, 2 ≤ v → v < 16 → sS B2 v j = sS B v j
theorem kept (hS : Sim E A B M N) (hb : b < eN E) (hq : q < sU A) (n0 : sM A q 0 = nI a) (n1 : sM A q 1 = nI b) (n2 : sM A q 2 = nI h) (n3 : sM A q 3 = nI r) (n4 : sM A q 4 = nI k) (ha : a < eN E) (hr : r < 30) (hk : k < 3) (hh1 : 1 ≤ h) (hh : h ≤ 40) (hv : 0 ≤ sM A q 5) (hgv : k = 0 → sM A q 6 = qr ∧ gv E b h r (sM A q 5) ∧ (h + r) % eN E = a ∧ -1 ≤ sM A q 6) :
    ∃ A2 B2, (∀ (B0 : mS) (K : Option Value → mS → Prop), K none (mix A2 B0) → ES E 58 0 [some (.ref (aN E b 0)), some (.ref (aM E q)), none] [] (mix A B0) (fun r S5 => ∃ x6 : Int32, r = some (.int x6) ∧ ((x6 = 0 → (ES E 19 0 [some (.ref (aK E 7)), some (.ref (aM E q)), some (.int (sK S5 0 5)), none] [] S5 (fun r S8 => r = none ∧ (K none S8)))) ∧ (¬ x6 = 0 → (K none S5))))) ∧
      RR E 102 0 [some (.ref (aS E 0)), some (.int (nI b)), some (.int (nI a)), some (.int (nI h)), some (.int (nI r)), some (.int (nI k)), some (.int (sM A q 5)), some (.int qr), some (.int 1), none, none] B none B2 ∧ Sim E A2 B2 M N ∧ KPT A B A2 B2 := by
  have hn := hS.1.1.2.2.2
  obtain ⟨g, g1, g2, a2, b2⟩ := (hS.2.2.2.2 b hb).1.1
  have ci : (nI b).toNatClampNeg = b := nI_clamp (by omega)
  by_cases hg : h = g ∨ h = g + 1
  · obtain ⟨p1, p2, p3, p4⟩ := hS.2.1 b hb
    obtain ⟨v1, v2⟩ := p4 g (by omega) b2
    have hex : ∃ c, ((c = sR A b 0 ∧ h = g) ∨ (c = sR A b 1 ∧ h = g + 1)) ∧ RB c ∧ BV E A B b c h := by
      rcases hg with z | z
      · subst z
        exact ⟨_, Or.inl ⟨rfl, rfl⟩, p1, v1⟩
      · subst z
        exact ⟨_, Or.inr ⟨rfl, rfl⟩, p2, v2⟩
    obtain ⟨c, hc, hRB, hV⟩ := hex
    have l0 : 16 < c := by rcases hRB with z | z <;> omega
    rcases (hV.2.1 r a k hr ha hk).c with ⟨x1, x2, x3, x4⟩ | ⟨x1, x2, x3, x4⟩
    · -- the first of its kind
      obtain ⟨A2, w1, w2, w3, w4, w5, w6, w7⟩ := c_put (E := E) (A := A) (i := b) (c := c) (z := eN E) (r := r) (s := a) (k := k) (v := sM A q 5) (q := sM A q 6) hb hn hRB.b hV.1 hRB.ln hr ha hk
      obtain ⟨o1, o2, o3, o4⟩ := rK0_o B b h r a k (sM A q 5) qr
      refine ⟨A2, rK0 B b h r a k (sM A q 5) qr, fun B0 K hK => c_58 hS hb hq n0 n2 n3 n4 ha hr hk hh a2 g2 hc hRB hV.1 (fun _ => w1 B0 _ ⟨rfl, _, rfl, fun z => absurd z one0, fun _ => hK⟩) (fun z => absurd x1 z) (fun z => absurd x1 z), r_keep0 (by omega) (by omega) hr hk b2 hg hh x4, ?_, w2.2.2.1, w2.2.2.2.1, w2.2.2.2.2, fun j l => w3 _ _ _ (by omega), fun l => w2.1 0 l, fun v j _ _ => o1 v j (by omega) (by omega)⟩
      refine hS.bal ?_ w2 (fun j d l z => w3 _ _ _ (by omega)) o1 o4
      exact hS.2.1.put hn hb g2 b2 hc w2.2.1 (fun l => o1 2 l (by omega) (by omega)) (fun j d l z _ => w3 j d l z) hr ha hk w4 w5 (w6 0 (by omega)) w7 o2 o3 hv hgv
    · -- another came before
      by_cases ok : sN A b (c + 2) ((r * eN E + a) * 3 + k) = sM A q 5 ∧ (k = 0 → sN A b (c + 1) r = sM A q 6)
      · have ok2 : sS B 17 (pl b h r a k) = sM A q 5 ∧ (k = 0 → sS B 18 (rp b h r a) = qr) := by
          refine ⟨by rw [← x1]; exact ok.1, fun z => ?_⟩
          subst z
          rw [((hV.2.2.1 r a hr ha).2 x2).2.2.1, ok.2 rfl, (hgv rfl).1]
        refine ⟨A, B, fun B0 K hK => c_58 hS hb hq n0 n2 n3 n4 ha hr hk hh a2 g2 hc hRB hV.1 (fun z => absurd z x3) (fun _ _ _ => ⟨_, rfl, fun z => absurd z one0, fun _ => hK⟩) (fun _ z => absurd ok z), fun A0 K hK => r_102 (by omega) (by omega) hr hk b2 g2 hg hh x2 (fun _ _ => hK) (fun z => absurd ok2 z), hS, fun _ => rfl, fun _ _ => rfl, rfl, fun _ _ => rfl, fun _ => rfl, fun _ _ _ _ => rfl⟩
      · have ok2 : ¬ (sS B 17 (pl b h r a k) = sM A q 5 ∧ (k = 0 → sS B 18 (rp b h r a) = qr)) := fun y => ok (by
          refine ⟨by rw [x1]; exact y.1, fun z => ?_⟩
          subst z
          rw [← ((hV.2.2.1 r a hr ha).2 x2).2.2.1, y.2 rfl, (hgv rfl).1])
        obtain ⟨A2, B2, w1, w2, w3, w4, w5, w6, w7⟩ := acc (E := E) (t := sK A 0 5) hq n0 n1 n2 n3 n4 hS.2.2.2.1.2.1 hS.1.2.1.1
        refine ⟨A2, B2, fun B0 K hK => c_58 hS hb hq n0 n2 n3 n4 ha hr hk hh a2 g2 hc hRB hV.1 (fun z => absurd z x3) (fun _ y1 y2 => absurd ⟨y1, y2⟩ ok) (fun _ _ => ⟨_, rfl, fun _ => w1 B0 _ ⟨rfl, hK⟩, fun z => absurd rfl z⟩), fun A0 K hK => r_102 (by omega) (by omega) hr hk b2 g2 hg hh x2 (fun y1 y2 => absurd ⟨y1, y2⟩ ok2) (fun _ => w2 A0 _ ⟨rfl, hK⟩), hS.acc w3 w4 w5 w6 w7, w4.2.2.1, w4.2.2.2.1, w4.2.2.2.2, fun j l => w4.1 _ _ _, fun l => w5 0 l (by omega) (by omega), fun v j _ _ => w6 v j (by omega) (by omega)⟩
  · -- of another height
    refine ⟨A, B, fun B0 K hK => T58 hb (show q < sU (mix A B0) from hq) ?_, fun A0 K hK => T102 ⟨in_n rfl (by omega) (by omega), ?_⟩, hS, fun _ => rfl, fun _ _ => rfl, rfl, fun _ _ => rfl, fun _ => rfl, fun _ _ _ _ => rfl⟩
    · have m2 : sM (mix A B0) q 2 = nI h := n2
      have mh : sN (mix A B0) b 0 2 = nI g := a2
      rw [m2, mh, nI_1, nI_eq (by omega) (by omega), nI_eq (by omega) (by omega)]
      exact ⟨fun z => absurd (Or.inl z) hg, fun _ => ⟨fun z => absurd (Or.inr z) hg, fun _ => ⟨_, rfl, fun z => absurd z one0, fun _ => hK⟩⟩⟩
    · rw [ci, mxS, b2, nI_1, nI_eq (by omega) (by omega), nI_eq (by omega) (by omega)]
      exact ⟨fun z => absurd (Or.inl z) hg, fun _ => ⟨fun z => absurd (Or.inr z) hg, fun _ => T102_28 hK⟩⟩
end Kept
