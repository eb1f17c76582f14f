/-! ===== evidence; a copy that comes is kept, or is evidence ===== -/
/-- the class's parts that evidence leaves -/
def FKk (A A' : mS) : Prop := (∀ i c k, sN A' i c k = sN A i c k) ∧ (∀ i j, sR A' i j = sR A i j) ∧ (∀ j, sQ A' j = sQ A j) ∧ (∀ q k, sM A' q k = sM A q k) ∧ sU A' = sU A
theorem FKk.rf (A : mS) : FKk A A := ⟨fun _ _ _ => rfl, fun _ _ => rfl, fun _ => rfl, fun _ _ => rfl, rfl⟩
theorem FKk.u (A : mS) (v k : Nat) (x : Int32) : FKk A (uK A v k x) := ⟨fun _ _ _ => by rw [fNK], fun _ _ => by rw [fRK], fun _ => by rw [fQK], fun _ _ => by rw [fMK], by rw [fUK]⟩
theorem FKk.tr {A A1 A2 : mS} (h : FKk A A1) (g : FKk A1 A2) : FKk A A2 := ⟨fun v k l => (g.1 v k l).trans (h.1 v k l), fun i j => (g.2.1 i j).trans (h.2.1 i j), fun j => (g.2.2.1 j).trans (h.2.2.1 j), fun q k => (g.2.2.2.1 q k).trans (h.2.2.2.1 q k), g.2.2.2.2.trans h.2.2.2.2⟩
def kn (A : mS) (a h r k : Int32) (j : Nat) : Prop := sK A 8 (6 * j) = a ∧ sK A 8 (6 * j + 1) = h ∧ sK A 8 (6 * j + 2) = r ∧ sK A 8 (6 * j + 3) = k
section Hand
variable {E : mE} {A B A' B' : mS} {M N : List Mg} {i q e : Nat} {a h r k b t : Int32}
theorem sx (j c : Nat) : nI j * 6 + nI c = nI (6 * j + c) := by rw [il6, pk_mul, nI_add, Nat.mul_comm j 6]
theorem sy (j c : Nat) : 6 * nI j + nI c = nI (6 * j + c) := by rw [il6, pk_mul, nI_add]
theorem c_kn (hq : q < sU A) (m0 : sM A q 0 = a) (m2 : sM A q 2 = h) (m3 : sM A q 3 = r) (m4 : sM A q 4 = k) (he : sK A 7 1 = nI e) (h200 : e ≤ 200) {B0 : mS} {K : Option Value → mS → Prop} : ∀ d j, j + d = e → ((∀ j', j ≤ j' → j' < e → ¬ kn A a h r k j') → K (some (.int 0)) (mix A B0)) → ((∃ j', j ≤ j' ∧ j' < e ∧ kn A a h r k j') → K (some (.int 1)) (mix A B0)) → ES E 20 2 [some (.ref (aK E 7)), some (.ref (aM E q)), some (.int (nI j)), none] [] (mix A B0) K := by
  intro d
  have m7 : sK (mix A B0) 7 1 = nI e := he
  induction d with
  | zero =>
    intro j hj h0 h1
    refine T20_2 (show q < sU (mix A B0) from hq) ⟨fun _ => h0 (fun j' x y => by omega), fun z => absurd ?_ z⟩
    rw [m7, le_n (by omega) (by omega)]
    omega
  | succ d ih =>
    intro j hj h0 h1
    have nx : ¬ kn A a h r k j → ES E 20 2 [some (.ref (aK E 7)), some (.ref (aM E q)), some (.int (nI (j + 1))), none] [] (mix A B0) K := fun hno => ih (j + 1) (by omega) (fun z => h0 (fun j' x y => by
      by_cases e1 : j' = j
      · rw [e1]; exact hno
      · exact z j' (by omega) y)) (fun ⟨j', x, y, z⟩ => h1 ⟨j', by omega, y, z⟩)
    have e0 : nI j * 6 + 0 = nI (6 * j) := sx j 0
    have e1 : nI j * 6 + 1 = nI (6 * j + 1) := sx j 1
    have e2 : nI j * 6 + 2 = nI (6 * j + 2) := sx j 2
    have e3 : nI j * 6 + 3 = nI (6 * j + 3) := sx j 3
    have c0 : (nI (6 * j)).toNatClampNeg = 6 * j := nI_clamp (by omega)
    have c1 : (nI (6 * j + 1)).toNatClampNeg = 6 * j + 1 := nI_clamp (by omega)
    have c2 : (nI (6 * j + 2)).toNatClampNeg = 6 * j + 2 := nI_clamp (by omega)
    have c3 : (nI (6 * j + 3)).toNatClampNeg = 6 * j + 3 := nI_clamp (by omega)
    have n0 : sM (mix A B0) q 0 = a := m0
    have n2 : sM (mix A B0) q 2 = h := m2
    have n3 : sM (mix A B0) q 3 = r := m3
    have n4 : sM (mix A B0) q 4 = k := m4
    have n8 : ∀ l, sK (mix A B0) 8 l = sK A 8 l := fun l => mxK _ _ _ _
    refine T20_2 (show q < sU (mix A B0) from hq) ⟨fun z => ?_, fun _ => ?_⟩
    · rw [m7, le_n (by omega) (by omega)] at z
      omega
    · rw [e0, e1, e2, e3, c0, c1, c2, c3, n0, n2, n3, n4, n8, n8, n8, n8, nI_1]
      refine ⟨⟨nI_pos (by omega), by omega⟩, fun y0 => ⟨⟨nI_pos (by omega), by omega⟩, fun y1 => ⟨⟨nI_pos (by omega), by omega⟩, fun y2 => ⟨⟨nI_pos (by omega), by omega⟩, fun y3 => h1 ⟨j, Nat.le_refl _, by omega, y0, y1, y2, y3⟩, fun y3 => nx (fun z => y3 z.2.2.2)⟩, fun y2 => nx (fun z => y2 z.2.2.1)⟩, fun y1 => nx (fun z => y1 z.2.1)⟩, fun y0 => nx (fun z => y0 z.1)⟩
theorem r_kn (he : sS B 0 50 = nI e) (h200 : e ≤ 200) (hc : ∀ l, l < 6 * e → sS B 37 l = sK A 8 l) {A0 : mS} {K : Option Value → mS → Prop} : ∀ d j, j + d = e → ((∀ j', j ≤ j' → j' < e → ¬ kn A a h r k j') → ES E 103 3 [some (.ref (aS E 0)), some (.int a), some (.int h), some (.int r), some (.int k), some (.int b), some (.int (nI e))] [] (mix A0 B) K) → ((∃ j', j ≤ j' ∧ j' < e ∧ kn A a h r k j') → K none (mix A0 B)) → ES E 103 3 [some (.ref (aS E 0)), some (.int a), some (.int h), some (.int r), some (.int k), some (.int b), some (.int (nI j))] [] (mix A0 B) K := by
  intro d
  have m7 : sS (mix A0 B) 0 50 = nI e := he
  induction d with
  | zero =>
    intro j hj h0 h1
    have : j = e := by omega
    subst this
    exact h0 (fun j' x y => by omega)
  | succ d ih =>
    intro j hj h0 h1
    have nx : ¬ kn A a h r k j → ES E 103 3 [some (.ref (aS E 0)), some (.int a), some (.int h), some (.int r), some (.int k), some (.int b), some (.int (nI (j + 1)))] [] (mix A0 B) K := fun hno => ih (j + 1) (by omega) (fun z => h0 (fun j' x y => by
      by_cases e1 : j' = j
      · rw [e1]; exact hno
      · exact z j' (by omega) y)) (fun ⟨j', x, y, z⟩ => h1 ⟨j', by omega, y, z⟩)
    have e0 : 6 * nI j = nI (6 * j) := by rw [il6, pk_mul]
    have e1 : nI (6 * j) + 1 = nI (6 * j + 1) := nI_1 _
    have e2 : nI (6 * j) + 2 = nI (6 * j + 2) := by rw [il2, nI_add]
    have e3 : nI (6 * j) + 3 = nI (6 * j + 3) := by rw [il3, nI_add]
    have c0 : (nI (6 * j)).toNatClampNeg = 6 * j := nI_clamp (by omega)
    have c1 : (nI (6 * j + 1)).toNatClampNeg = 6 * j + 1 := nI_clamp (by omega)
    have c2 : (nI (6 * j + 2)).toNatClampNeg = 6 * j + 2 := nI_clamp (by omega)
    have c3 : (nI (6 * j + 3)).toNatClampNeg = 6 * j + 3 := nI_clamp (by omega)
    have n8 : ∀ l, l < 6 * e → sS (mix A0 B) 37 l = sK A 8 l := fun l hl => (mxS _ _ _ _).trans (hc l hl)
    refine T103_3 ⟨fun z => ?_, fun _ => ?_⟩
    · rw [m7, le_n (by omega) (by omega)] at z
      omega
    · rw [e0, e1, e2, e3, c0, c1, c2, c3, n8 (6 * j) (by omega), n8 (6 * j + 1) (by omega), n8 (6 * j + 2) (by omega), n8 (6 * j + 3) (by omega), nI_1]
      refine ⟨⟨nI_pos (by omega), by omega⟩, fun y0 => ⟨⟨nI_pos (by omega), by omega⟩, fun y1 => ⟨⟨nI_pos (by omega), by omega⟩, fun y2 => ⟨⟨nI_pos (by omega), by omega⟩, fun y3 => h1 ⟨j, Nat.le_refl _, by omega, y0, y1, y2, y3⟩, fun y3 => nx (fun z => y3 z.2.2.2)⟩, fun y2 => nx (fun z => y2 z.2.2.1)⟩, fun y1 => nx (fun z => y1 z.2.1)⟩, fun y0 => nx (fun z => y0 z.1)⟩
def cE (A : mS) (e : Nat) (a h r k b t : Int32) : mS := uK (uK (uK (uK (uK (uK (uK A 8 (6 * e) a) 8 (6 * e + 1) h) 8 (6 * e + 2) r) 8 (6 * e + 3) k) 8 (6 * e + 4) b) 8 (6 * e + 5) t) 7 1 (nI (e + 1))
def rE (B : mS) (e : Nat) (a h r k b t : Int32) : mS := uS (uS (uS (uS (uS (uS (uS B 37 (6 * e) a) 37 (6 * e + 1) h) 37 (6 * e + 2) r) 37 (6 * e + 3) k) 37 (6 * e + 4) b) 37 (6 * e + 5) t) 0 50 (nI (e + 1))
/-- evidence, on both sides -/
theorem acc (hq : q < sU A) (m0 : sM A q 0 = a) (m1 : sM A q 1 = b) (m2 : sM A q 2 = h) (m3 : sM A q 3 = r) (m4 : sM A q 4 = k) (hG : GE A B) (ht : sS B 0 3 = t) : ∃ A2 B2, CR E 19 0 [some (.ref (aK E 7)), some (.ref (aM E q)), some (.int t), none] A none A2 ∧ RR E 103 0 [some (.ref (aS E 0)), some (.int a), some (.int h), some (.int r), some (.int k), some (.int b), none] B none B2 ∧ GE A2 B2 ∧ FKk A A2 ∧ (∀ v l, ¬ v = 8 → ¬ (v = 7 ∧ l = 1) → sK A2 v l = sK A v l) ∧ (∀ v l, ¬ v = 37 → ¬ (v = 0 ∧ l = 50) → sS B2 v l = sS B v l) ∧ ∀ l, sW B2 l = sW B l := by
  obtain ⟨e, h200, he, hk, hc⟩ := hG
  have same : (∀ B0 K, K none (mix A B0) → ES E 19 0 [some (.ref (aK E 7)), some (.ref (aM E q)), some (.int t), none] [] (mix A B0) K) → (∀ A0 K, K none (mix A0 B) → ES E 103 0 [some (.ref (aS E 0)), some (.int a), some (.int h), some (.int r), some (.int k), some (.int b), none] [] (mix A0 B) K) → ∃ A2 B2, CR E 19 0 [some (.ref (aK E 7)), some (.ref (aM E q)), some (.int t), none] A none A2 ∧ RR E 103 0 [some (.ref (aS E 0)), some (.int a), some (.int h), some (.int r), some (.int k), some (.int b), none] B none B2 ∧ GE A2 B2 ∧ FKk A A2 ∧ (∀ v l, ¬ v = 8 → ¬ (v = 7 ∧ l = 1) → sK A2 v l = sK A v l) ∧ (∀ v l, ¬ v = 37 → ¬ (v = 0 ∧ l = 50) → sS B2 v l = sS B v l) ∧ ∀ l, sW B2 l = sW B l := fun h1 h2 =>
    ⟨A, B, h1, h2, ⟨e, h200, he, hk, hc⟩, FKk.rf A, fun _ _ _ _ => rfl, fun _ _ _ _ => rfl, fun _ => rfl⟩
  have l200 : (200 : Int32) ≤ nI e ↔ 200 ≤ e := by rw [show (200 : Int32) = nI 200 from rfl, le_n (by omega) (by omega)]
  have m7 : ∀ B0, sK (mix A B0) 7 1 = nI e := fun B0 => hk
  have m50 : ∀ A0, sS (mix A0 B) 0 50 = nI e := fun A0 => he
  by_cases full : 200 ≤ e
  · refine same (fun B0 K hK => T19 (show q < sU (mix A B0) from hq) ⟨fun _ => hK, fun z => absurd (by rw [m7, l200]; exact full) z⟩) (fun A0 K hK => T103 (r_kn he h200 hc e 0 (by omega) (fun _ => T103_3 ⟨fun _ => ⟨fun _ => hK, fun z => absurd (by rw [m50, l200]; exact full) z⟩, fun z => absurd (by rw [m50]; exact Int32.le_refl _) z⟩) (fun _ => hK)))
  · by_cases known : ∃ j', 0 ≤ j' ∧ j' < e ∧ kn A a h r k j'
    · refine same (fun B0 K hK => T19 (show q < sU (mix A B0) from hq) ⟨fun z => absurd (by rw [m7, l200] at z; exact z) full, fun _ => T20 (show q < sU (mix A B0) from hq) (c_kn hq m0 m2 m3 m4 hk h200 e 0 (by omega) (fun z => ?_) (fun _ => ⟨_, rfl, fun z => absurd z one0, fun _ => hK⟩))⟩) (fun A0 K hK => T103 (r_kn he h200 hc e 0 (by omega) (fun z => ?_) (fun _ => hK)))
      · obtain ⟨j', x, y, w⟩ := known
        exact absurd w (z j' x y)
      · obtain ⟨j', x, y, w⟩ := known
        exact absurd w (z j' x y)
    · refine ⟨cE A e a h r k b t, rE B e a h r k b t, fun B0 K hK => T19 (show q < sU (mix A B0) from hq) ⟨fun z => absurd (by rw [m7, l200] at z; exact z) full, fun _ => T20 (show q < sU (mix A B0) from hq) (c_kn hq m0 m2 m3 m4 hk h200 e 0 (by omega) (fun z => ⟨_, rfl, fun _ => ⟨show q < sU (mix A B0) from hq, ?_⟩, fun z => absurd rfl z⟩) (fun z => absurd z known))⟩, fun A0 K hK => T103 (r_kn he h200 hc e 0 (by omega) (fun _ => T103_3 ⟨fun _ => ⟨fun z => absurd (by rw [m50, l200] at z; exact z) full, fun _ => ?_⟩, fun z => absurd (by rw [m50]; exact Int32.le_refl _) z⟩) (fun z => absurd z known)), ⟨e + 1, by omega, ?_, ?_, fun l hl => ?_⟩, ?_, fun v l z1 z2 => ?_, fun v l z1 z2 => ?_, fun l => ?_⟩
      · have e0 : nI e * 6 + 0 = nI (6 * e) := sx e 0
        have e1 : nI e * 6 + 1 = nI (6 * e + 1) := sx e 1
        have e2 : nI e * 6 + 2 = nI (6 * e + 2) := sx e 2
        have e3 : nI e * 6 + 3 = nI (6 * e + 3) := sx e 3
        have e4 : nI e * 6 + 4 = nI (6 * e + 4) := sx e 4
        have e5 : nI e * 6 + 5 = nI (6 * e + 5) := sx e 5
        have c0 : (nI (6 * e)).toNatClampNeg = 6 * e := nI_clamp (by omega)
        have c1 : (nI (6 * e + 1)).toNatClampNeg = 6 * e + 1 := nI_clamp (by omega)
        have c2 : (nI (6 * e + 2)).toNatClampNeg = 6 * e + 2 := nI_clamp (by omega)
        have c3 : (nI (6 * e + 3)).toNatClampNeg = 6 * e + 3 := nI_clamp (by omega)
        have c4 : (nI (6 * e + 4)).toNatClampNeg = 6 * e + 4 := nI_clamp (by omega)
        have c5 : (nI (6 * e + 5)).toNatClampNeg = 6 * e + 5 := nI_clamp (by omega)
        have n0 : sM (mix A B0) q 0 = a := m0
        have n1 : sM (mix A B0) q 1 = b := m1
        have n2 : sM (mix A B0) q 2 = h := m2
        have n3 : sM (mix A B0) q 3 = r := m3
        have n4 : sM (mix A B0) q 4 = k := m4
        rw [m7, e0, e1, e2, e3, e4, e5, c0, c1, c2, c3, c4, c5, n0, n1, n2, n3, n4]
        refine ⟨⟨nI_pos (by omega), by omega⟩, ?_⟩
        rintro _ rfl
        refine ⟨⟨nI_pos (by omega), by omega⟩, ?_⟩
        rintro _ rfl
        refine ⟨⟨nI_pos (by omega), by omega⟩, ?_⟩
        rintro _ rfl
        refine ⟨⟨nI_pos (by omega), by omega⟩, ?_⟩
        rintro _ rfl
        refine ⟨⟨nI_pos (by omega), by omega⟩, ?_⟩
        rintro _ rfl
        refine ⟨⟨nI_pos (by omega), by omega⟩, ?_⟩
        rintro _ rfl
        rw [rKo _ (by omega), rKo _ (by omega), rKo _ (by omega), rKo _ (by omega), rKo _ (by omega), rKo _ (by omega), m7, nI_1]
        rintro _ rfl
        rw [pK, pK, pK, pK, pK, pK, pK]
        exact hK
      · have e0 : 6 * nI e = nI (6 * e) := by rw [il6, pk_mul]
        have e1 : nI (6 * e) + 1 = nI (6 * e + 1) := nI_1 _
        have e2 : nI (6 * e) + 2 = nI (6 * e + 2) := by rw [il2, nI_add]
        have e3 : nI (6 * e) + 3 = nI (6 * e + 3) := by rw [il3, nI_add]
        have e4 : nI (6 * e) + 4 = nI (6 * e + 4) := by rw [show (4 : Int32) = nI 4 from rfl, nI_add]
        have e5 : nI (6 * e) + 5 = nI (6 * e + 5) := by rw [show (5 : Int32) = nI 5 from rfl, nI_add]
        have c0 : (nI (6 * e)).toNatClampNeg = 6 * e := nI_clamp (by omega)
        have c1 : (nI (6 * e + 1)).toNatClampNeg = 6 * e + 1 := nI_clamp (by omega)
        have c2 : (nI (6 * e + 2)).toNatClampNeg = 6 * e + 2 := nI_clamp (by omega)
        have c3 : (nI (6 * e + 3)).toNatClampNeg = 6 * e + 3 := nI_clamp (by omega)
        have c4 : (nI (6 * e + 4)).toNatClampNeg = 6 * e + 4 := nI_clamp (by omega)
        have c5 : (nI (6 * e + 5)).toNatClampNeg = 6 * e + 5 := nI_clamp (by omega)
        rw [m50, e0, e1, e2, e3, e4, e5, c0, c1, c2, c3, c4, c5]
        refine ⟨⟨nI_pos (by omega), by omega⟩, ?_⟩
        rintro _ rfl
        refine ⟨⟨nI_pos (by omega), by omega⟩, ?_⟩
        rintro _ rfl
        refine ⟨⟨nI_pos (by omega), by omega⟩, ?_⟩
        rintro _ rfl
        refine ⟨⟨nI_pos (by omega), by omega⟩, ?_⟩
        rintro _ rfl
        refine ⟨⟨nI_pos (by omega), by omega⟩, ?_⟩
        rintro _ rfl
        refine ⟨⟨nI_pos (by omega), by omega⟩, ?_⟩
        have f3 : sS (uS (uS (uS (uS (uS (mix A0 B) 37 (6 * e) a) 37 (6 * e + 1) h) 37 (6 * e + 2) r) 37 (6 * e + 3) k) 37 (6 * e + 4) b) 0 3 = t := by rw [rSo _ (by omega), rSo _ (by omega), rSo _ (by omega), rSo _ (by omega), rSo _ (by omega), mxS, ht]
        rw [f3]
        rintro _ rfl
        rw [rSo _ (by omega), rSo _ (by omega), rSo _ (by omega), rSo _ (by omega), rSo _ (by omega), rSo _ (by omega), m50, nI_1]
        rintro _ rfl
        rw [pS, pS, pS, pS, pS, pS, pS]
        exact hK
      · unfold rE
        rw [rSs]
      · unfold cE
        rw [rKs]
      · unfold rE cE
        rw [rSo _ (by omega), rKo _ (by omega), rS, rS, rS, rS, rS, rS, rK, rK, rK, rK, rK, rK]
        by_cases h6 : l < 6 * e
        · rw [if_neg (by omega), if_neg (by omega), if_neg (by omega), if_neg (by omega), if_neg (by omega), if_neg (by omega), if_neg (by omega), if_neg (by omega), if_neg (by omega), if_neg (by omega), if_neg (by omega), if_neg (by omega)]
          exact hc l h6
        · have : l = 6 * e ∨ l = 6 * e + 1 ∨ l = 6 * e + 2 ∨ l = 6 * e + 3 ∨ l = 6 * e + 4 ∨ l = 6 * e + 5 := by omega
          rcases this with rfl | rfl | rfl | rfl | rfl | rfl <;> simp
      · unfold cE
        exact ((((((FKk.u _ _ _ _).tr (FKk.u _ _ _ _)).tr (FKk.u _ _ _ _)).tr (FKk.u _ _ _ _)).tr (FKk.u _ _ _ _)).tr (FKk.u _ _ _ _)).tr (FKk.u _ _ _ _)
      · unfold cE
        rw [rKo _ (by omega), rKo _ (by omega), rKo _ (by omega), rKo _ (by omega), rKo _ (by omega), rKo _ (by omega), rKo _ (by omega)]
      · unfold rE
        rw [rSo _ (by omega), rSo _ (by omega), rSo _ (by omega), rSo _ (by omega), rSo _ (by omega), rSo _ (by omega), rSo _ (by omega)]
      · unfold rE
        rw [fWS, fWS, fWS, fWS, fWS, fWS, fWS]
/-- small changes of what isn't a node's -/
theorem NET.fr2 (hN : NET E A B M N) (hF : FKk A A') (hK : ∀ v l, v < 7 ∨ v = 9 → ¬ (v = 0 ∧ l = 7) → sK A' v l = sK A v l) (hB : ∀ v l, v = 0 ∨ v = 2 ∨ v = 16 ∨ 25 ≤ v → ¬ v = 37 → ¬ (v = 0 ∧ (l = 40 ∨ l = 50)) → sS B' v l = sS B v l) : NET E A' B' M N := by
  obtain ⟨h1, h2, ⟨d, R, a, b, c⟩, ⟨u, m1, m2, m3, m4, m5⟩, ⟨t, t1, t2⟩, h6, h7⟩ := hN
  refine ⟨⟨by rw [hB _ _ (by omega) (by omega) (by omega)]; exact h1.1, by rw [hK _ _ (by omega) (by omega)]; exact h1.2.1, h1.2.2⟩, ?_, ⟨d, R, a.fr (fun v k _ _ => hK v k (by omega) (by omega)), b.fr (fun v k _ _ => hB v k (by omega) (by omega) (by omega)) (hB _ _ (by omega) (by omega) (by omega)), c⟩, ⟨u, m1.fr (hK _ _ (by omega) (by omega)) hF.2.2.1 hF.2.2.2.1 hF.2.2.2.2, m2.fr (hB _ _ (by omega) (by omega) (by omega)) (fun v k _ _ => hB v k (by omega) (by omega) (by omega)), by rw [hK _ _ (by omega) (by omega)]; exact m3, by rw [hB _ _ (by omega) (by omega) (by omega)]; exact m4, m5⟩, ⟨t, t1, by rw [hK _ _ (by omega) (by omega)]; exact t2⟩, fun j hj => (h6 j hj).fr (fun c k _ _ => hF.1 j c k) (hB _ _ (by omega) (by omega) (by omega)) (hB _ _ (by omega) (by omega) (by omega)) (fun _ _ _ _ _ _ => ⟨hB _ _ (by omega) (by omega) (by omega), hB _ _ (by omega) (by omega) (by omega)⟩), fun j hj => by rw [hF.1]; exact h7 j hj⟩
  unfold NT at h2 ⊢
  rw [hB 0 3 (by omega) (by omega) (by omega), hB 0 39 (by omega) (by omega) (by omega), hB 0 41 (by omega) (by omega) (by omega), hB 0 46 (by omega) (by omega) (by omega), hB 0 47 (by omega) (by omega) (by omega), hB 0 48 (by omega) (by omega) (by omega), hK 0 5 (by omega) (by omega), hK 0 6 (by omega) (by omega), hK 0 8 (by omega) (by omega), hK 0 9 (by omega) (by omega), hK 0 10 (by omega) (by omega), hK 0 11 (by omega) (by omega)]
  exact h2
theorem Sim.acc (hS : Sim E A B M N) (hG : GE A' B') (hF : FKk A A') (hK : ∀ v l, ¬ v = 8 → ¬ (v = 7 ∧ l = 1) → sK A' v l = sK A v l) (hB : ∀ v l, ¬ v = 37 → ¬ (v = 0 ∧ l = 50) → sS B' v l = sS B v l) (hW : ∀ l, sW B' l = sW B l) : Sim E A' B' M N := by
  obtain ⟨a, b, c, ⟨gw, ge, gc, gs⟩, rest⟩ := hS
  refine ⟨a.fr2 hF (fun v l z1 z2 => hK v l (by omega) (by omega)) (fun v l z1 z2 z3 => hB v l z2 (by omega)), b.fr hF.2.1 (fun l => hB 2 l (by omega) (by omega)) (fun j d l z => hF.1 _ _ _) (fun p => hB 17 p (by omega) (by omega)) (fun p => hB 18 p (by omega) (by omega)), c.fr (fun l => hB 2 l (by omega) (by omega)) (fun j d l z1 z2 => hF.1 _ _ _) (fun p => hB 19 p (by omega) (by omega)) (fun p => hB 20 p (by omega) (by omega)), ⟨fun h q1 q2 => ?_, hG, by rw [hB _ _ (by omega) (by omega), hK _ _ (by omega) (by omega)]; exact gc, by rw [hB _ _ (by omega) (by omega), hK _ _ (by omega) (by omega)]; exact gs⟩, fun j hj => ⟨(rest j hj).1.fr (hF.1 _ _ _) (hF.1 _ _ _) (hF.1 _ _ _) (fun d l _ => hF.1 _ _ _) (fun v l _ => hK v l (by omega) (by omega)) (fun v z => hB v j (by omega) (by omega)) (fun v h _ _ _ => hB v _ (by omega) (by omega)) (fun h _ => hW _), (rest j hj).2.fr (hF.1 _ _ _) (hF.1 _ _ _) (fun d l _ _ => hF.1 _ _ _) (fun v z => hB v j (by omega) (by omega)) (fun k hk => hB 12 _ (by omega) (by omega))⟩⟩
  obtain ⟨w1, w2⟩ := gw h q1 q2
  refine ⟨fun i hi => ?_, ?_⟩
  · rw [hB 1 _ (by omega) (by omega), hK (12 + h) i (by omega) (by omega)]
    exact w1 i hi
  · rw [hK 10 h (by omega) (by omega), w2]
    exact wsum_cg _ (fun k _ => (hK _ _ (by omega) (by omega)).symm)
/-- ballots change at node i -/
theorem Sim.bal (hS : Sim E A B M N) (hP : PBa E A' B') (hF : FNn A A') (hA : ∀ j d l, d < 17 → sN A' j d l = sN A j d l) (hB : ∀ v l, ¬ v = 17 → ¬ v = 18 → sS B' v l = sS B v l) (hW : ∀ l, sW B' l = sW B l) : Sim E A' B' M N := by
  obtain ⟨a, b, c, rg, rest⟩ := hS
  exact ⟨a.fr hF (fun j c l z => hA j c l (by omega)) (fun v l z => hB v l (by omega) (by omega)), hP, c.fr (fun l => hB 2 l (by omega) (by omega)) (fun j d l z1 z2 => hA _ _ _ (by omega)) (fun p => hB 19 p (by omega) (by omega)) (fun p => hB 20 p (by omega) (by omega)), rg.fr (fun v l _ => hF.1 v l) (hF.1 0 7) (fun l => hB 1 l (by omega) (by omega)) (fun l => hB 37 l (by omega) (by omega)) (fun l _ => hB 0 l (by omega) (by omega)), fun j hj => ⟨(rest j hj).1.fr (hA _ _ _ (by omega)) (hA _ _ _ (by omega)) (hA _ _ _ (by omega)) (fun d l _ => hA _ _ _ (by omega)) (fun v l _ => hF.1 v l) (fun v z => hB v j (by omega) (by omega)) (fun v h _ _ _ => hB v _ (by omega) (by omega)) (fun h _ => hW _), (rest j hj).2.fr (hA _ _ _ (by omega)) (hA _ _ _ (by omega)) (fun d l _ _ => hA _ _ _ (by omega)) (fun v z => hB v j (by omega) (by omega)) (fun k hk => hB 12 _ (by omega) (by omega))⟩⟩
theorem rK0_o (B : mS) (i h r s k : Nat) (v q : Int32) : (∀ w l, ¬ w = 17 → ¬ w = 18 → sS (rK0 B i h r s k v q) w l = sS B w l) ∧ (∀ p, sS (rK0 B i h r s k v q) 17 p = if p = pl i h r s k then v else sS B 17 p) ∧ (∀ p, sS (rK0 B i h r s k v q) 18 p = if k = 0 ∧ p = rp i h r s then q else sS B 18 p) ∧ ∀ l, sW (rK0 B i h r s k v q) l = sW B l := by
  unfold rK0
  refine ⟨fun w l z1 z2 => by rw [rSo _ (by omega), rSo _ (by omega)], fun p => ?_, fun p => ?_, fun l => by rw [fWS, fWS]⟩
  · rw [rSo _ (by omega), rS]
    by_cases z : p = pl i h r s k
    · rw [if_pos ⟨rfl, z⟩, if_pos z]
    · rw [if_neg (fun y => z y.2), if_neg z]
  · rw [rS]
    by_cases z : p = rp i h r s
    · rw [if_pos ⟨rfl, z⟩]
      by_cases z0 : k = 0
      · rw [if_pos z0, if_pos ⟨z0, z⟩]
      · rw [if_neg z0, if_neg (fun y => z0 y.1), z]
    · rw [if_neg (fun y => z y.2), if_neg (fun y => z y.2), rSo _ (by omega)]
end Hand
