/-! ===== rules C to G ===== -/
theorem cl1 : (1 : Int32).toNatClampNeg = 1 := by decide
theorem cl2 : (2 : Int32).toNatClampNeg = 2 := by decide
section Rules
variable {E : mE} {A B : mS} {M N : List Mg} {i g r k : Nat}
theorem ix_pc {n : Nat} (hg : g ≤ 41) (hr : r < 30) (hn1 : 1 ≤ n) (hn : n ≤ 10) : ((nI r * nI n) + ((nI g + nI r) - (nI g + nI r) / nI n * nI n)) * 3 + 0 = nI ((r * n + (g + r) % n) * 3 + 0) := by
  rw [nI_add, pk_rem (by omega) (by omega) (by omega), il0]
  exact ix_b _ _ _ _
theorem ix_pr {n : Nat} (hi : i < 10) (hg : g ≤ 41) (hr : r < 30) (hn1 : 1 ≤ n) (hn : n ≤ 10) : (((((2 * nI i + (nI g - nI g / 2 * 2)) * 30 + nI r) * 10 + ((nI g + nI r) - (nI g + nI r) / nI n * nI n)) * 3) + 0) = nI (pl i g r ((g + r) % n) 0) := by
  have := Nat.mod_lt (g + r) (show 0 < n by omega)
  rw [nI_add, pk_rem (by omega) (by omega) (by omega), il0]
  exact ix_p hi (by omega) hr (by omega) (by omega)
theorem ix_rr {n : Nat} (hi : i < 10) (hg : g ≤ 41) (hr : r < 30) (hn1 : 1 ≤ n) (hn : n ≤ 10) : ((((2 * nI i + (nI g - nI g / 2 * 2)) * 30 + nI r) * 10 + ((nI g + nI r) - (nI g + nI r) / nI n * nI n))) = nI (rp i g r ((g + r) % n)) := by
  have := Nat.mod_lt (g + r) (show 0 < n by omega)
  rw [nI_add, pk_rem (by omega) (by omega) (by omega)]
  exact ix_r hi (by omega) hr (by omega)
/-- the class counts those who said v; all who spoke -/
theorem c_mf {v kk : Int32} (hS : Sim E A B M N) (hi : i < eN E) (b2 : sS B 2 i = nI g) (h40 : g ≤ 40) (hr : r < 30) (hk : k < 3) (hkk : kk = nI k) (hv : 0 ≤ v) {B0 : mS} {K : Option Value → mS → Prop} (hK : K (some (.int (if MANY E B g (pF B i g r k v) = true then 1 else 0))) (mix A B0)) : ES E 12 0 [some (.ref (aN E i (sR A i 0))), some (.int (nI r)), some (.int kk), some (.int v), none, none] [] (mix A B0) (fun r S3 => ∃ x4 : Int32, r = some (.int x4) ∧ (ES E 46 0 [some (.ref (aN E i 0)), some (.int x4)] [] S3 K)) := by
  subst hkk
  obtain ⟨q1, a2, _⟩ := hS.at hi b2 h40
  refine c_vf (hS.2.1 i hi) hi hS.1.1.2.2.2 b2 h40 hr hk hv B0 _ ⟨_, rfl, c_many hS.2.2.2.1.1 hS.1.1 hi a2 q1 h40 B0 _ ?_⟩
  rw [MANY.cg (fun s hs => bt_vb hS.1.1.2.2.2 s hs)]
  exact hK
theorem c_mh {kk : Int32} (hS : Sim E A B M N) (hi : i < eN E) (b2 : sS B 2 i = nI g) (h40 : g ≤ 40) (hr : r < 30) (hk : k < 3) (hkk : kk = nI k) {B0 : mS} {K : Option Value → mS → Prop} (hK : K (some (.int (if MANY E B g (pH B i g r k) = true then 1 else 0))) (mix A B0)) : ES E 14 0 [some (.ref (aN E i (sR A i 0))), some (.int (nI r)), some (.int kk), none, none] [] (mix A B0) (fun r S3 => ∃ x4 : Int32, r = some (.int x4) ∧ (ES E 46 0 [some (.ref (aN E i 0)), some (.int x4)] [] S3 K)) := by
  subst hkk
  obtain ⟨q1, a2, _⟩ := hS.at hi b2 h40
  refine c_va (hS.2.1 i hi) hi hS.1.1.2.2.2 b2 h40 hr hk B0 _ ⟨_, rfl, c_many hS.2.2.2.1.1 hS.1.1 hi a2 q1 h40 B0 _ ?_⟩
  rw [MANY.cg (fun s hs => bt_vb hS.1.1.2.2.2 s hs)]
  exact hK
theorem r_mf {v kk : Int32} (hS : Sim E A B M N) (hi : i < eN E) (b2 : sS B 2 i = nI g) (h40 : g ≤ 40) (hr : r < 30) (hk : k < 3) (hkk : kk = nI k) (hv : 0 ≤ v) {A0 : mS} {K : Option Value → mS → Prop} (hK : K (some (.int (if MANY E B g (pF B i g r k v) = true then 1 else 0))) (mix A0 B)) : ES E 115 0 [some (.ref (aS E 0)), some (.int (nI i)), some (.int (nI r)), some (.int kk), some (.int v), none, none, none, none] [] (mix A0 B) (fun r S3 => ∃ x4 : Int64, r = some (.long x4) ∧ (ES E 116 0 [some (.ref (aS E 0)), some (.long x4), none, some (.int (sS S3 2 i))] [] S3 K)) := by
  subst hkk
  obtain ⟨q1, a2, _⟩ := hS.at hi b2 h40
  refine r_votes hS.2.2.2.1.1 hS.1.1 hi b2 q1 h40 hr hk _ (fun s _ => pF_p hv s) A0 _ ⟨_, rfl, ?_⟩
  rw [mxS, b2]
  exact r_many hS.2.2.2.1.1 hS.1.1 q1 h40 _ A0 _ hK
theorem r_mh {kk : Int32} (hS : Sim E A B M N) (hi : i < eN E) (b2 : sS B 2 i = nI g) (h40 : g ≤ 40) (hr : r < 30) (hk : k < 3) (hkk : kk = nI k) {A0 : mS} {K : Option Value → mS → Prop} (hK : K (some (.int (if MANY E B g (pH B i g r k) = true then 1 else 0))) (mix A0 B)) : ES E 115 0 [some (.ref (aS E 0)), some (.int (nI i)), some (.int (nI r)), some (.int kk), some (.int (-1)), none, none, none, none] [] (mix A0 B) (fun r S3 => ∃ x4 : Int64, r = some (.long x4) ∧ (ES E 116 0 [some (.ref (aS E 0)), some (.long x4), none, some (.int (sS S3 2 i))] [] S3 K)) := by
  subst hkk
  obtain ⟨q1, a2, _⟩ := hS.at hi b2 h40
  refine r_votes hS.2.2.2.1.1 hS.1.1 hi b2 q1 h40 hr hk _ (fun s _ => pH_p s) A0 _ ⟨_, rfl, ?_⟩
  rw [mxS, b2]
  exact r_many hS.2.2.2.1.1 hS.1.1 q1 h40 _ A0 _ hK
theorem one0 : ¬ (1 : Int32) = 0 := by decide
/-- rule E -/
theorem ruleE (hS : Sim E A B M N) (hI : Idle E A) (hi : i < eN E) (b2 : sS B 2 i = nI g) (h40 : g ≤ 40) : RUL E i 54 [some (.ref (aN E i 0))] 123 [some (.ref (aS E 0)), some (.int (nI i))] A B M N := by
  obtain ⟨q1, a2, r, s, hr, hs, a3, b3, a4, b4, o1, o2, o3, o4, o5, o6⟩ := hS.at hi b2 h40
  have hn := hS.1.1.2.2.2
  have ci : (nI i).toNatClampNeg = i := nI_clamp (by omega)
  have e1 : nI s = 1 ↔ s = 1 := by rw [il1, nI_eq (by omega) (by omega)]
  have P := hS.2.1 i hi
  have crun : ∀ B0 K, (¬ (s = 1 ∧ MANY E B g (pF B i g r 1 0) = true) → K (some (.int 0)) (mix A B0)) → (s = 1 ∧ MANY E B g (pF B i g r 1 0) = true → ES E 40 0 [some (.ref (aN E i 0)), some (.int 2), some (.int 0), some (.int (-1)), none, none] [] (mix A B0) (fun r S8 => r = none ∧ (K (some (.int 1)) S8))) → ES E 54 0 [some (.ref (aN E i 0))] [] (mix A B0) K := by
    intro B0 K h0 h1
    refine T54 hi ⟨fun z => ⟨P.1, ?_⟩, fun z => h0 (fun y => z (by rw [mxN, a4, e1]; exact y.1))⟩
    rw [mxN, a4, e1] at z
    rw [mxR, mxN, a3]
    refine c_mf hS hi b2 h40 hr (k := 1) (by omega) il1 (by decide) ⟨_, rfl, fun y => ?_, fun y => ?_⟩
    · exact h0 (fun x => by rw [if_pos x.2] at y; exact one0 y)
    · refine h1 ⟨z, ?_⟩
      by_cases m : MANY E B g (pF B i g r 1 0) = true
      · exact m
      · rw [if_neg m] at y
        exact absurd rfl y
  have rrun : ∀ A0 K, (¬ (s = 1 ∧ MANY E B g (pF B i g r 1 0) = true) → K (some (.int 0)) (mix A0 B)) → (s = 1 ∧ MANY E B g (pF B i g r 1 0) = true → ES E 101 0 [some (.ref (aS E 0)), some (.int (nI i)), some (.int 2), some (.int 0), some (.int (-9)), none, none, none, none, none, none, none] [] (mix A0 B) (fun r S8 => r = none ∧ (∀ S9, S9 = uS S8 4 i 2 → (K (some (.int 1)) S9)))) → ES E 123 0 [some (.ref (aS E 0)), some (.int (nI i))] [] (mix A0 B) K := by
    intro A0 K h0 h1
    refine T123 ⟨in_n rfl (by omega) (by omega), ?_⟩
    rw [ci]
    refine ⟨fun z => ?_, fun z => h0 (fun y => z (by rw [mxS, b4, e1]; exact y.1))⟩
    rw [mxS, b4, e1] at z
    rw [mxS, b3]
    refine r_mf hS hi b2 h40 hr (k := 1) (by omega) il1 (by decide) ⟨_, rfl, fun y => ?_, fun y => ?_⟩
    · exact h0 (fun x => by rw [if_pos x.2] at y; exact one0 y)
    · refine h1 ⟨z, ?_⟩
      by_cases m : MANY E B g (pF B i g r 1 0) = true
      · exact m
      · rw [if_neg m] at y
        exact absurd rfl y
  by_cases go : s = 1 ∧ MANY E B g (pF B i g r 1 0) = true
  · obtain ⟨A1, A2, B2, X, v1, v2, v3, v4, v5, v6, v7, v8, v9, v10, v11⟩ := vote (k := 2) (w := 0) none hS hI hi h40 b2 (Or.inr rfl) (by decide) (fun a b z => by cases z)
    refine Or.inr ⟨A1, A2, uS B2 4 i (nI 2), X, fun B0 K hK => crun B0 K (fun z => absurd go z) (fun _ => v1 B0 _ ⟨rfl, hK⟩), v2, fun A0 K hK => rrun A0 K (fun z => absurd go z) (fun _ => v3 A0 _ ⟨rfl, ?_⟩), v4, v5, v6, v7, ?_⟩
    · rintro _ rfl
      rw [pS]
      exact hK
    · exact mu_lt h40 hr hs (show 2 < 3 by omega) (by omega) b2 b3 b4 ((v11 2 (by omega) (by omega) (by omega)).trans b2) ((v11 3 (by omega) (by omega) (by omega)).trans b3) v10 (by rw [show sS (uS B2 4 i (nI 2)) 13 i = sS B 13 i from v11 13 (by omega) (by omega) (by omega)]; exact Nat.le_refl _) (v11 14 (by omega) (by omega) (by omega)) (v11 15 (by omega) (by omega) (by omega))
  · exact Or.inl ⟨fun B0 K hK => crun B0 K (fun _ => hK) (fun z => absurd z go), fun A0 K hK => rrun A0 K (fun _ => hK) (fun z => absurd z go)⟩
/-- a timer is set once -/
theorem tick {f : Nat} {x : Int32} (hf : f = 1 ∨ f = 2) (hS : Sim E A B M N) (hI : Idle E A) (hi : i < eN E) (b2 : sS B 2 i = nI g) (h40 : g ≤ 40) (h0 : sS B (13 + f) i = 0) : POST E i A B (uN (uN A i 4 f 1) i 3 f x) (uS (uS B (13 + f) i 1) 12 (3 * i + f) x) M N [] ∧ dsp E i (uN (uN A i 4 f 1) i 3 f x) (uN (uN A i 4 f 1) i 3 f x) := by
  obtain ⟨q1, a2, r, s, hr, hs, a3, b3, a4, b4, o1, o2, o3, o4, o5, o6⟩ := hS.at hi b2 h40
  generalize hA1 : uN (uN A i 4 f 1) i 3 f x = A1
  generalize hB1 : uS (uS B (13 + f) i 1) 12 (3 * i + f) x = B1
  have oa : ∀ j d l, ¬ (j = i ∧ (d = 3 ∨ d = 4) ∧ l = f) → sN A1 j d l = sN A j d l := fun j d l z => by rw [← hA1, rNo _ (by omega), rNo _ (by omega)]
  have oa4 : sN A1 i 4 f = 1 := by rw [← hA1, rNo _ (by omega), rNs]
  have oa3 : sN A1 i 3 f = x := by rw [← hA1, rNs]
  have ob : ∀ v l, ¬ (v = 13 + f ∧ l = i) → ¬ (v = 12 ∧ l = 3 * i + f) → sS B1 v l = sS B v l := fun v l z1 z2 => by rw [← hB1, rSo _ (by omega), rSo _ (by omega)]
  have ob4 : sS B1 (13 + f) i = 1 := by rw [← hB1, rSo _ (by omega), rSs]
  have ob3 : sS B1 12 (3 * i + f) = x := by rw [← hB1, rSs]
  have oF : FNn A A1 := hA1 ▸ (FNn.u _ _ _ _ _).tr (FNn.u _ _ _ _ _)
  have n41 : ¬ sS B1 2 i = nI 41 := by
    rw [ob 2 i (by omega) (by omega), b2, nI_eq (by omega) (by omega)]
    omega
  have id : Idle E A1 := fun j hj => by rw [oa _ _ _ (by omega)]; exact hI j hj
  refine ⟨⟨?_, id, ⟨fun l _ _ _ => oF.1 0 l, fun j => ⟨ob _ _ (by omega) (by omega), ob _ _ (by omega) (by omega)⟩, fun j e => ⟨ob _ _ (by omega) (by omega), ob _ _ (by omega) (by omega)⟩⟩, fun m hm => (by cases hm), ?_⟩, disp0 hi (id i hi)⟩
  · rw [List.append_nil, List.append_nil]
    refine hS.up (i := i) oF (fun j d l z => oa j d l (by omega)) (fun v l z1 z2 => ob v l (by omega) (by omega)) (fun l => by rw [← hB1, fWS, fWS]) ?_ ?_
    · have := (hS.2.2.2.2 i hi).1.2.2.2.1
      unfold PLk1 at this ⊢
      rw [oa _ _ _ (by omega), oa _ _ _ (by omega), ob 5 i (by omega) (by omega), ob 6 i (by omega) (by omega)]
      exact this
    · obtain ⟨x1, x2, x3, x4, x5⟩ := (hS.2.2.2.2 i hi).2
      refine ⟨⟨r, hr, by rw [oa _ _ _ (by omega)]; exact a3, by rw [ob 3 i (by omega) (by omega)]; exact b3⟩, ⟨⟨s, hs, by rw [oa _ _ _ (by omega)]; exact a4, by rw [ob 4 i (by omega) (by omega)]; exact b4⟩, fun z => absurd z n41⟩, fun r2 hr2 h3 => ?_, fun l hl => ⟨?_, fun z => absurd z n41⟩, fun _ => ?_⟩
      · rw [ob 3 i (by omega) (by omega)] at h3
        exact (x3 r2 hr2 h3).fr (Nat.le_refl _) (fun l => oa _ _ _ (by omega)) (fun v z => ob v i (by omega) (by omega))
      · by_cases e : l = f
        · subst e
          rw [oa3, ob3]
        · rw [oa _ _ _ (by omega), ob 12 _ (by omega) (by omega)]
          exact (x4 l hl).1
      · rcases hf with rfl | rfl
        · rw [oa4, ob4, oa _ _ _ (by omega), oa _ _ _ (by omega), ob 13 i (by omega) (by omega), ob 15 i (by omega) (by omega)]
          exact ⟨o1, rfl, o3, o4, Or.inr rfl, o6⟩
        · rw [oa4, ob4, oa _ _ _ (by omega), oa _ _ _ (by omega), ob 13 i (by omega) (by omega), ob 14 i (by omega) (by omega)]
          exact ⟨o1, o2, rfl, o4, o5, Or.inr rfl⟩
  · unfold mu
    rw [ob 2 i (by omega) (by omega), ob 3 i (by omega) (by omega), ob 4 i (by omega) (by omega), ob 13 i (by omega) (by omega)]
    have c0 : (0 : Int32).toNatClampNeg = 0 := by decide
    rcases hf with rfl | rfl
    · rw [ob4, h0, ob 15 i (by omega) (by omega), c0, cl1]
      omega
    · rw [ob4, h0, ob 14 i (by omega) (by omega), c0, cl1]
      omega
/-- rule F -/
theorem ruleF (hS : Sim E A B M N) (hI : Idle E A) (hi : i < eN E) (b2 : sS B 2 i = nI g) (h40 : g ≤ 40) : RUL E i 55 [some (.ref (aN E i 0)), some (.int (sK A 0 5))] 124 [some (.ref (aS E 0)), some (.int (nI i))] A B M N := by
  obtain ⟨q1, a2, r, s, hr, hs, a3, b3, a4, b4, o1, o2, o3, o4, o5, o6⟩ := hS.at hi b2 h40
  have hn := hS.1.1.2.2.2
  have ci : (nI i).toNatClampNeg = i := nI_clamp (by omega)
  have e1 : nI s = 1 ↔ s = 1 := by rw [il1, nI_eq (by omega) (by omega)]
  have P := hS.2.1 i hi
  have x31 : 3 * nI i + 1 = nI (3 * i + 1) := by rw [il3, il1, pk_mul, nI_add]
  have tB : sS B 0 3 = sK A 0 5 := hS.1.2.1.1
  generalize hgo : (sS B 14 i = 0 ∧ s = 1 ∧ MANY E B g (pH B i g r 1) = true) = go
  have crun : ∀ B0 K, (¬ go → K (some (.int 0)) (mix A B0)) → (go → K (some (.int 1)) (mix (uN (uN A i 4 1 1) i 3 1 (sK A 0 5 + 3 + nI r)) B0)) → ES E 55 0 [some (.ref (aN E i 0)), some (.int (sK A 0 5))] [] (mix A B0) K := by
    intro B0 K h0 h1
    subst hgo
    refine T55 hi ⟨by decide, ?_⟩
    rw [cl1]
    refine ⟨fun y1 => ⟨fun z => ⟨P.1, ?_⟩, fun z => h0 (fun y => z (by rw [mxN, a4, e1]; exact y.2.1))⟩, fun y1 => h0 (fun y => y1 (by rw [mxN, o2]; exact y.1))⟩
    rw [mxN, a4, e1] at z
    rw [mxN, o2] at y1
    rw [mxR, mxN, a3]
    refine c_mh hS hi b2 h40 hr (k := 1) (by omega) il1 ⟨_, rfl, fun y => ?_, fun y => ?_⟩
    · exact h0 (fun x => by rw [if_pos x.2.2] at y; exact one0 y)
    · rintro _ rfl
      have e3 : sN (uN (mix A B0) i 4 1 1) i 0 3 = nI r := by rw [rNo _ (by omega), mxN, a3]
      rw [e3]
      rintro _ rfl
      rw [pN, pN]
      refine h1 ⟨y1, z, ?_⟩
      by_cases m : MANY E B g (pH B i g r 1) = true
      · exact m
      · rw [if_neg m] at y
        exact absurd rfl y
  have rrun : ∀ A0 K, (¬ go → K (some (.int 0)) (mix A0 B)) → (go → K (some (.int 1)) (mix A0 (uS (uS B 14 i 1) 12 (3 * i + 1) (sK A 0 5 + 3 + nI r)))) → ES E 124 0 [some (.ref (aS E 0)), some (.int (nI i))] [] (mix A0 B) K := by
    intro A0 K h0 h1
    subst hgo
    refine T124 ⟨in_n rfl (by omega) (by omega), ?_⟩
    rw [ci]
    refine ⟨fun y1 => ⟨fun z => ?_, fun z => h0 (fun y => z (by rw [mxS, b4, e1]; exact y.2.1))⟩, fun y1 => h0 (fun y => y1 (by rw [mxS]; exact y.1))⟩
    rw [mxS, b4, e1] at z
    rw [mxS] at y1
    rw [mxS, b3]
    refine r_mh hS hi b2 h40 hr (k := 1) (by omega) il1 ⟨_, rfl, fun y => ?_, fun y => ?_⟩
    · exact h0 (fun x => by rw [if_pos x.2.2] at y; exact one0 y)
    · rintro _ rfl
      refine ⟨in_n x31 (by omega) (by omega), ?_⟩
      have e3 : sS (uS (mix A0 B) 14 i 1) 3 i = nI r := by rw [rSo _ (by omega), mxS, b3]
      have e4 : sS (uS (mix A0 B) 14 i 1) 0 3 = sK A 0 5 := by rw [rSo _ (by omega), mxS, tB]
      rw [e3, e4, x31, nI_clamp (by omega)]
      rintro _ rfl
      rw [pS, pS]
      refine h1 ⟨y1, z, ?_⟩
      by_cases m : MANY E B g (pH B i g r 1) = true
      · exact m
      · rw [if_neg m] at y
        exact absurd rfl y
  by_cases h : go
  · have hb : sS B 14 i = 0 := by rw [← hgo] at h; exact h.1
    obtain ⟨t1, t2⟩ := tick (x := sK A 0 5 + 3 + nI r) (Or.inl rfl) hS hI hi b2 h40 hb
    exact Or.inr ⟨_, _, _, [], fun B0 K hK => crun B0 K (fun z => absurd h z) (fun _ => hK), t2, fun A0 K hK => rrun A0 K (fun z => absurd h z) (fun _ => hK), t1⟩
  · exact Or.inl ⟨fun B0 K hK => crun B0 K (fun _ => hK) (fun z => absurd z h), fun A0 K hK => rrun A0 K (fun _ => hK) (fun z => absurd z h)⟩
/-- rule G -/
theorem ruleG (hS : Sim E A B M N) (hI : Idle E A) (hi : i < eN E) (b2 : sS B 2 i = nI g) (h40 : g ≤ 40) : RUL E i 56 [some (.ref (aN E i 0)), some (.int (sK A 0 5))] 125 [some (.ref (aS E 0)), some (.int (nI i))] A B M N := by
  obtain ⟨q1, a2, r, s, hr, hs, a3, b3, a4, b4, o1, o2, o3, o4, o5, o6⟩ := hS.at hi b2 h40
  have hn := hS.1.1.2.2.2
  have ci : (nI i).toNatClampNeg = i := nI_clamp (by omega)
  have P := hS.2.1 i hi
  have x32 : 3 * nI i + 2 = nI (3 * i + 2) := by rw [il3, il2, pk_mul, nI_add]
  have tB : sS B 0 3 = sK A 0 5 := hS.1.2.1.1
  generalize hgo : (sS B 15 i = 0 ∧ MANY E B g (pH B i g r 2) = true) = go
  have crun : ∀ B0 K, (¬ go → K (some (.int 0)) (mix A B0)) → (go → K (some (.int 1)) (mix (uN (uN A i 4 2 1) i 3 2 (sK A 0 5 + 3 + nI r)) B0)) → ES E 56 0 [some (.ref (aN E i 0)), some (.int (sK A 0 5))] [] (mix A B0) K := by
    intro B0 K h0 h1
    subst hgo
    refine T56 hi ⟨by decide, ?_⟩
    rw [cl2]
    refine ⟨fun y1 => ⟨P.1, ?_⟩, fun y1 => h0 (fun y => y1 (by rw [mxN, o3]; exact y.1))⟩
    rw [mxN, o3] at y1
    rw [mxR, mxN, a3]
    refine c_mh hS hi b2 h40 hr (k := 2) (by omega) il2 ⟨_, rfl, fun y => ?_, fun y => ?_⟩
    · exact h0 (fun x => by rw [if_pos x.2] at y; exact one0 y)
    · rintro _ rfl
      have e3 : sN (uN (mix A B0) i 4 2 1) i 0 3 = nI r := by rw [rNo _ (by omega), mxN, a3]
      rw [e3]
      rintro _ rfl
      rw [pN, pN]
      refine h1 ⟨y1, ?_⟩
      by_cases m : MANY E B g (pH B i g r 2) = true
      · exact m
      · rw [if_neg m] at y
        exact absurd rfl y
  have rrun : ∀ A0 K, (¬ go → K (some (.int 0)) (mix A0 B)) → (go → K (some (.int 1)) (mix A0 (uS (uS B 15 i 1) 12 (3 * i + 2) (sK A 0 5 + 3 + nI r)))) → ES E 125 0 [some (.ref (aS E 0)), some (.int (nI i))] [] (mix A0 B) K := by
    intro A0 K h0 h1
    subst hgo
    refine T125 ⟨in_n rfl (by omega) (by omega), ?_⟩
    rw [ci]
    refine ⟨fun y1 => ?_, fun y1 => h0 (fun y => y1 (by rw [mxS]; exact y.1))⟩
    rw [mxS] at y1
    rw [mxS, b3]
    refine r_mh hS hi b2 h40 hr (k := 2) (by omega) il2 ⟨_, rfl, fun y => ?_, fun y => ?_⟩
    · exact h0 (fun x => by rw [if_pos x.2] at y; exact one0 y)
    · rintro _ rfl
      refine ⟨in_n x32 (by omega) (by omega), ?_⟩
      have e3 : sS (uS (mix A0 B) 15 i 1) 3 i = nI r := by rw [rSo _ (by omega), mxS, b3]
      have e4 : sS (uS (mix A0 B) 15 i 1) 0 3 = sK A 0 5 := by rw [rSo _ (by omega), mxS, tB]
      rw [e3, e4, x32, nI_clamp (by omega)]
      rintro _ rfl
      rw [pS, pS]
      refine h1 ⟨y1, ?_⟩
      by_cases m : MANY E B g (pH B i g r 2) = true
      · exact m
      · rw [if_neg m] at y
        exact absurd rfl y
  by_cases h : go
  · have hb : sS B 15 i = 0 := by rw [← hgo] at h; exact h.1
    obtain ⟨t1, t2⟩ := tick (x := sK A 0 5 + 3 + nI r) (Or.inr rfl) hS hI hi b2 h40 hb
    exact Or.inr ⟨_, _, _, [], fun B0 K hK => crun B0 K (fun z => absurd h z) (fun _ => hK), t2, fun A0 K hK => rrun A0 K (fun z => absurd h z) (fun _ => hK), t1⟩
  · exact Or.inl ⟨fun B0 K hK => crun B0 K (fun _ => hK) (fun z => absurd z h), fun A0 K hK => rrun A0 K (fun _ => hK) (fun z => absurd z h)⟩
end Rules
