/-! ===== calls: behave, sides, cut, disturb ===== -/
section Small
variable {E : mE} {A B A' B' : mS} {L M N : List Mg} {T i : Nat}
theorem q0 (a : Int32) : lg_cmp a.toInt64 0 < 0 ↔ a < 0 := by
  rw [show (0 : Int64) = (0 : Int32).toInt64 from rfl]
  exact l64 a 0
theorem q1 (a : Int32) : lg_cmp a.toInt64 1 < 0 ↔ a < 1 := by
  rw [show (1 : Int64) = (1 : Int32).toInt64 from rfl]
  exact l64 a 1
theorem nge {x y : Int32} : ¬ x ≤ y ↔ y < x := by rw [Int32.le_iff_toInt_le, Int32.lt_iff_toInt_lt]; omega
theorem g2 (a : Int32) : 0 < lg_cmp a.toInt64 2 ↔ ¬ a ≤ 2 := by
  rw [show (2 : Int64) = (2 : Int32).toInt64 from rfl, l64' a 2, nge]
theorem g3 (a : Int32) : 0 < lg_cmp a.toInt64 3 ↔ ¬ a ≤ 3 := by
  rw [show (3 : Int64) = (3 : Int32).toInt64 from rfl, l64' a 3, nge]
theorem g5 (a : Int32) : 0 < lg_cmp a.toInt64 5 ↔ ¬ a ≤ 5 := by
  rw [show (5 : Int64) = (5 : Int32).toInt64 from rfl, l64' a 5, nge]
theorem g12 (a : Int32) : 0 < lg_cmp a.toInt64 12 ↔ ¬ a ≤ 12 := by
  rw [show (12 : Int64) = (12 : Int32).toInt64 from rfl, l64' a 12, nge]
theorem g20 (a : Int32) : 0 < lg_cmp a.toInt64 20 ↔ ¬ a ≤ 20 := by
  rw [show (20 : Int64) = (20 : Int32).toInt64 from rfl, l64' a 20, nge]
theorem g29 (a : Int32) : 0 < lg_cmp a.toInt64 29 ↔ 30 ≤ a := by
  rw [show (29 : Int64) = (29 : Int32).toInt64 from rfl, l64' a 29, Int32.lt_iff_toInt_lt, Int32.le_iff_toInt_le, show (29 : Int32).toInt = 29 from rfl, show (30 : Int32).toInt = 30 from rfl]
  omega
theorem g40 (a : Int32) : 0 < lg_cmp a.toInt64 40 ↔ 40 < a := by
  rw [show (40 : Int64) = (40 : Int32).toInt64 from rfl, l64' a 40]
theorem g50 (a : Int32) : 0 < lg_cmp a.toInt64 50 ↔ ¬ a ≤ 50 := by
  rw [show (50 : Int64) = (50 : Int32).toInt64 from rfl, l64' a 50, nge]
theorem g100 (a : Int32) : 0 < lg_cmp a.toInt64 100 ↔ ¬ a ≤ 100 := by
  rw [show (100 : Int64) = (100 : Int32).toInt64 from rfl, l64' a 100, nge]
theorem gmil (a : Int32) : 0 < lg_cmp a.toInt64 1000000 ↔ ¬ a ≤ 1000000 := by
  rw [show (1000000 : Int64) = (1000000 : Int32).toInt64 from rfl, l64' a 1000000, nge]
theorem gn (a : Int32) {n : Nat} (h1 : 1 ≤ n) (h : n < 2 ^ 31) : 0 < lg_cmp a.toInt64 ((nI n - 1).toInt64) ↔ nI n ≤ a := by
  rw [l64', il1, pk_sub h1, Int32.lt_iff_toInt_lt, Int32.le_iff_toInt_le, nI_toInt (by omega), nI_toInt h]
  omega
/-- an argument that is no node's number, or is one -/
theorem nodeC (a : Int32) (hn : eN E ≤ 10) : a < 0 ∨ (¬ a < 0 ∧ nI (eN E) ≤ a) ∨ ∃ i, i < eN E ∧ a = nI i := by
  by_cases h : a < 0
  · exact Or.inl h
  · rcases pk_ix a (show eN E < 2 ^ 31 by omega) with z | z | z
    · exact Or.inl z
    · exact Or.inr (Or.inl ⟨h, z⟩)
    · exact Or.inr (Or.inr z)
/-- an argument from lo to hi -/
theorem rangeC {a : Int32} {lo hi : Nat} (hl : lo < 2 ^ 31) (hh : hi < 2 ^ 31) (h1 : ¬ a < nI lo) (h2 : a ≤ nI hi) : ∃ k, lo ≤ k ∧ k ≤ hi ∧ a = nI k := by
  have h0 : ¬ a < 0 := fun z => by
    rw [Int32.lt_iff_toInt_lt, nI_toInt hl] at h1
    rw [Int32.lt_iff_toInt_lt, Int32.toInt_zero] at z
    omega
  obtain ⟨j, hj, rfl⟩ := nI_of h0
  rw [le_n hj hh] at h2
  rw [nI_ltI hj hl] at h1
  exact ⟨j, by omega, h2, rfl⟩
/-- what behaves otherwise -/
theorem R1.be (h : R1 E A B i) (h2 : sN A' i 0 2 = sN A i 0 2) (h8 : sN A' i 0 8 = sN A i 0 8) (hd : ∀ d l, d = 1 ∨ (6 ≤ d ∧ d ≤ 8) → sN A' i d l = sN A i d l) (hw : ∀ v l, 12 ≤ v → sK A' v l = sK A v l) (hB : ∀ v, v = 2 ∨ v = 5 ∨ v = 6 ∨ v = 9 ∨ v = 10 → sS B' v i = sS B v i) (hB2 : ∀ v h, 21 ≤ v → v ≤ 23 → h ≤ 40 → sS B' v (10 * h + i) = sS B v (10 * h + i)) (hW : ∀ h, h ≤ 40 → sW B' (10 * h + i) = sW B (10 * h + i)) (hc : PBe1 A' B' i) : R1 E A' B' i := by
  obtain ⟨a, _, c, d, e⟩ := h
  refine ⟨?_, hc, ?_, ?_, ?_⟩
  · unfold PHt1 at a ⊢
    rw [h2, hB 2 (by omega)]
    exact a
  · unfold PCu1 at c ⊢
    rw [h8, hB 10 (by omega), hB 9 (by omega)]
    exact c
  · unfold PLk1 at d ⊢
    rw [hd 1 0 (by omega), hd 1 1 (by omega), hB 5 (by omega), hB 6 (by omega)]
    exact d
  · intro h hh q1 q2 q3 q4
    rw [hB 2 (by omega)] at q4
    have := e h hh q1 q2 q3 q4
    rw [hd 6 h (by omega), hd 7 h (by omega), hd 8 h (by omega), hB2 21 h (by omega) (by omega) q2, hB2 22 h (by omega) (by omega) q2, hB2 23 h (by omega) (by omega) q2, hW h q2, wsum_cg (w := fun s => sK A' (12 + h) s) (w' := fun s => sK A (12 + h) s) _ (fun k _ => hw _ _ (by omega))]
    exact this
/-- a node's fields 7 and 8 change -/
theorem Sim.n78 (hS : Sim E A B M N) (hF : FNn A A') (hA : ∀ j d l, ¬ (j = i ∧ d = 0 ∧ (l = 7 ∨ l = 8)) → sN A' j d l = sN A j d l) (hB : ∀ v l, ¬ (l = i ∧ (v = 9 ∨ v = 10 ∨ v = 11)) → sS B' v l = sS B v l) (hW : ∀ l, sW B' l = sW B l) (hR : i < eN E → R1 E A B i → R1 E A' B' i) : Sim E A' B' M N := by
  obtain ⟨a, b, c, rg, rest⟩ := hS
  refine ⟨a.fr hF (fun j c l z => hA j c l (by omega)) (fun v l z => hB v l (by omega)), b.fr hF.2.1 (fun l => hB 2 l (by omega)) (fun j d l z => hA _ _ _ (by omega)) (fun p => hB 17 p (by omega)) (fun p => hB 18 p (by omega)), c.fr (fun l => hB 2 l (by omega)) (fun j d l z1 z2 => hA _ _ _ (by omega)) (fun p => hB 19 p (by omega)) (fun p => hB 20 p (by omega)), rg.fr (fun v l _ => hF.1 v l) (hF.1 0 7) (fun l => hB 1 l (by omega)) (fun l => hB 37 l (by omega)) (fun l _ => hB 0 l (by omega)), fun j hj => ⟨?_, (rest j hj).2.fr (hA _ _ _ (by omega)) (hA _ _ _ (by omega)) (fun d l _ _ => hA _ _ _ (by omega)) (fun v z => hB v j (by omega)) (fun k hk => hB 12 _ (by omega))⟩⟩
  by_cases e : j = i
  · subst e
    exact hR hj (rest j hj).1
  · exact (rest j hj).1.fr (hA _ _ _ (by omega)) (hA _ _ _ (by omega)) (hA _ _ _ (by omega)) (fun d l z => hA _ _ _ (by omega)) (fun v l _ => hF.1 v l) (fun v z => hB v j (by omega)) (fun v h _ _ _ => hB v _ (by omega)) (fun h _ => hW _)
theorem k_behave (h : CI E T A B L) (a1 a2 : Int32) : ANS E (T + 100) 65 [some (.ref (aK E 0)), some (.int a1), some (.int a2), none] 132 [some (.ref (aS E 0)), some (.int a1), some (.int a2), none] A B := by
  have h1 := h.thr
  generalize hB1 : uS B 0 0 0 = B1 at h1
  have hn := h.1.1.1.2.2.2
  have hn1 := h.1.1.1.2.2.1
  have m9 : ∀ B0, sK (mix A B0) 9 0 = nI (eN E) := fun B0 => h.1.1.1.2.1
  have m1 : ∀ A0, sS (mix A0 B1) 0 1 = nI (eN E) := fun A0 => h1.1.1.1.1
  have bad : (∀ B0 K, K (some (.int (-1))) (mix A B0) → ES E 65 0 [some (.ref (aK E 0)), some (.int a1), some (.int a2), none] [] (mix A B0) K) → (∀ A0 K, K (some (.int (-1))) (mix A0 B1) → ES E 132 0 [some (.ref (aS E 0)), some (.int a1), some (.int a2), none] [] (mix A0 B) K) → ANS E (T + 100) 65 [some (.ref (aK E 0)), some (.int a1), some (.int a2), none] 132 [some (.ref (aS E 0)), some (.int a1), some (.int a2), none] A B := fun c r => ⟨-1, A, B1, L, c, r, h1.mono (by omega)⟩
  rcases nodeC (E := E) a1 hn with z | ⟨z0, z⟩ | ⟨i, hi, rfl⟩
  · refine bad (fun B0 K hK => T65 ⟨fun _ => hK, fun y => absurd z y⟩) (fun A0 K hK => T132 ?_)
    rintro _ rfl
    rw [pS, hB1, q0]
    exact ⟨fun _ => hK, fun y => absurd z y⟩
  · refine bad (fun B0 K hK => T65 ⟨fun y => absurd y z0, fun _ => ⟨fun _ => hK, fun y => absurd (by rw [m9]; exact z) y⟩⟩) (fun A0 K hK => T132 ?_)
    rintro _ rfl
    rw [pS, hB1, q0, m1, gn a1 hn1 (by omega)]
    exact ⟨fun y => absurd y z0, fun _ => ⟨fun _ => hK, fun y => absurd z y⟩⟩
  · have z0 : ¬ nI i < 0 := nI_pos (by omega)
    have z1 : ¬ nI (eN E) ≤ nI i := by rw [le_n (by omega) (by omega)]; omega
    have ci : (nI i).toNatClampNeg = i := nI_clamp (by omega)
    by_cases y1 : a2 < 0
    · refine bad (fun B0 K hK => T65 ⟨fun y => absurd y z0, fun _ => ⟨fun y => absurd (by rw [m9] at y; exact y) z1, fun _ => ⟨fun _ => hK, fun y => absurd y1 y⟩⟩⟩) (fun A0 K hK => T132 ?_)
      rintro _ rfl
      rw [pS, hB1, q0, q0, m1, gn _ hn1 (by omega)]
      exact ⟨fun y => absurd y z0, fun _ => ⟨fun y => absurd y z1, fun _ => ⟨fun _ => hK, fun y => absurd y1 y⟩⟩⟩
    · by_cases y2 : a2 ≤ 5
      · generalize hA2 : uN A i 0 7 a2 = A2
        generalize hB2 : uS B1 11 i a2 = B2
        have oA : ∀ j d l, ¬ (j = i ∧ d = 0 ∧ l = 7) → sN A2 j d l = sN A j d l := fun j d l y => by rw [← hA2, rNo _ (by omega)]
        have oB : ∀ v l, ¬ (v = 11 ∧ l = i) → sS B2 v l = sS B1 v l := fun v l y => by rw [← hB2, rSo _ y]
        have oF : FNn A A2 := hA2 ▸ FNn.u _ _ _ _ _
        have hW : ∀ l, sW B2 l = sW B1 l := fun l => by rw [← hB2, fWS]
        have hS2 : Sim E A2 B2 L L := h1.1.n78 (i := i) oF (fun j d l y => oA j d l (by omega)) (fun v l y => oB v l (by omega)) hW (fun _ r1 => r1.be (oA _ _ _ (by omega)) (oA _ _ _ (by omega)) (fun d l _ => oA _ _ _ (by omega)) (fun v l _ => oF.1 v l) (fun v _ => oB v i (by omega)) (fun v h _ _ _ => oB v _ (by omega)) (fun h _ => hW _) (by
          show sN A2 i 0 7 = sS B2 11 i
          rw [← hA2, ← hB2, rNs, rSs]))
        have eq : sS B1 11 i = sN A i 0 7 := (h1.1.2.2.2.2 i hi).1.2.1.symm
        obtain ⟨c1, c2, c3, ⟨t, d1, d2⟩, e, f, l, g1, g2⟩ := h1
        refine ⟨sN A i 0 7, A2, B2, L, fun B0 K hK => T65 ⟨fun y => absurd y z0, fun _ => ⟨fun y => absurd (by rw [m9] at y; exact y) z1, fun _ => ⟨fun y => absurd y y1, fun _ => ⟨fun _ => ?_, fun y => absurd y2 y⟩⟩⟩⟩, fun A0 K hK => T132 ?_, ⟨hS2, fun j hj => by rw [oA _ _ _ (by omega)]; exact c2 j hj, by rw [oF.1]; exact c3, ⟨t, by omega, by rw [oF.1]; exact d2⟩, fun j hj => ?_, fun y j hj => ?_, l, by omega, by rw [oF.1]; exact g2⟩⟩
        · rw [ci]
          refine ⟨⟨z0, hi⟩, ?_⟩
          rintro _ rfl
          rw [pN, hA2, mxN]
          exact hK
        · rintro _ rfl
          rw [pS, hB1, q0, q0, m1, gn _ hn1 (by omega), g5, ci]
          refine ⟨fun y => absurd y z0, fun _ => ⟨fun y => absurd y z1, fun _ => ⟨fun y => absurd y y1, fun _ => ⟨fun y => absurd y2 y, fun _ => ⟨⟨z0, by omega⟩, ?_⟩⟩⟩⟩⟩
          rintro _ rfl
          rw [pS, hB2, mxS, eq]
          exact hK
        · rw [oB _ _ (by omega), oB _ _ (by omega), oF.1]
          rcases e j hj with y | ⟨x, x1, x2, x3⟩
          · exact Or.inl y
          · exact Or.inr ⟨x, by omega, x2, x3⟩
        · rw [oF.1] at y
          rw [oB _ _ (by omega), oB _ _ (by omega), oB _ _ (by omega)]
          exact f y j hj
      · refine bad (fun B0 K hK => T65 ⟨fun y => absurd y z0, fun _ => ⟨fun y => absurd (by rw [m9] at y; exact y) z1, fun _ => ⟨fun y => absurd y y1, fun _ => ⟨fun y => absurd y y2, fun _ => hK⟩⟩⟩⟩) (fun A0 K hK => T132 ?_)
        rintro _ rfl
        rw [pS, hB1, q0, q0, m1, gn _ hn1 (by omega), g5]
        exact ⟨fun y => absurd y z0, fun _ => ⟨fun y => absurd y z1, fun _ => ⟨fun y => absurd y y1, fun _ => ⟨fun _ => hK, fun y => absurd y2 y⟩⟩⟩⟩
theorem k_sides (h : CI E T A B L) (hT : T ≤ 50000) (a1 a2 : Int32) : ANS E (T + 100) 67 [some (.ref (aK E 0)), some (.int a1), some (.int a2)] 134 [some (.ref (aS E 0)), some (.int a1), some (.int a2)] A B := by
  have h1 := h.thr
  generalize hB1 : uS B 0 0 0 = B1 at h1
  by_cases y1 : a2 < 1
  · refine ⟨-1, A, B1, L, fun B0 K hK => T67 ⟨fun _ => hK, fun y => absurd y1 y⟩, fun A0 K hK => T134 ?_, h1.mono (by omega)⟩
    rintro _ rfl
    rw [pS, hB1, q1]
    exact ⟨fun _ => hK, fun y => absurd y1 y⟩
  · by_cases y2 : a2 ≤ 100
    · obtain ⟨n, n1, n2, rfl⟩ := rangeC (lo := 1) (hi := 100) (by omega) (by omega) y1 y2
      obtain ⟨c1, c2, c3, ⟨t, d1, d2⟩, e, f, l, g1, g2⟩ := h1
      obtain ⟨u, m1, m2, m3, m4, m5⟩ := c1.1.2.2.2.1
      obtain ⟨x1, x2, x3, x4, x5, x6⟩ := c1.1.2.1
      generalize hA2 : uK (uK (uK A 0 9 a1) 0 10 (nI (t + 1))) 0 11 (nI (t + n)) = A2
      generalize hB2 : uS (uS (uS B1 0 46 a1) 0 47 (nI (t + 1))) 0 48 (nI (t + n)) = B2
      have oK : ∀ v l, ¬ (v = 0 ∧ 9 ≤ l ∧ l ≤ 11) → sK A2 v l = sK A v l := fun v l y => by rw [← hA2, rKo _ (by omega), rKo _ (by omega), rKo _ (by omega)]
      have oB : ∀ v l, ¬ (v = 0 ∧ 46 ≤ l ∧ l ≤ 48) → sS B2 v l = sS B1 v l := fun v l y => by rw [← hB2, rSo _ (by omega), rSo _ (by omega), rSo _ (by omega)]
      have oF : FKk A A2 := hA2 ▸ ((FKk.u _ _ _ _).tr (FKk.u _ _ _ _)).tr (FKk.u _ _ _ _)
      have k9 : sK A2 0 9 = a1 := by rw [← hA2, rKo _ (by omega), rKo _ (by omega), rKs]
      have k10 : sK A2 0 10 = nI (t + 1) := by rw [← hA2, rKo _ (by omega), rKs]
      have k11 : sK A2 0 11 = nI (t + n) := by rw [← hA2, rKs]
      have s46 : sS B2 0 46 = a1 := by rw [← hB2, rSo _ (by omega), rSo _ (by omega), rSs]
      have s47 : sS B2 0 47 = nI (t + 1) := by rw [← hB2, rSo _ (by omega), rSs]
      have s48 : sS B2 0 48 = nI (t + n) := by rw [← hB2, rSs]
      have hS2 : Sim E A2 B2 L L := by
        refine c1.new oF.1 oF.2.1 (fun v l _ => oK v l (by omega)) (fun v l _ => oB v l (by omega)) (fun l => by rw [← hB2, fWS, fWS, fWS]) ?_ ⟨t, by omega, by rw [oK _ _ (by omega)]; exact d2⟩ ⟨u, m1.fr (oK _ _ (by omega)) oF.2.2.1 oF.2.2.2.1 oF.2.2.2.2, m2.fr (oB _ _ (by omega)) (fun v k _ _ => oB v k (by omega)), by rw [oK _ _ (by omega)]; exact m3, by rw [oB _ _ (by omega)]; exact m4, m5⟩ (by rw [oB _ _ (by omega), oK _ _ (by omega)]; exact c1.2.2.2.1.2.2.1)
        unfold NT
        rw [k9, k10, k11, s46, s47, s48, oK 0 5 (by omega), oK 0 6 (by omega), oK 0 8 (by omega), oB 0 3 (by omega), oB 0 39 (by omega), oB 0 41 (by omega)]
        exact ⟨x1, x2, x3, rfl, rfl, rfl⟩
      refine ⟨1, A2, B2, L, fun B0 K hK => T67 ⟨fun y => absurd y y1, fun _ => ⟨fun _ => ?_, fun y => absurd y2 y⟩⟩, fun A0 K hK => T134 ?_, ⟨hS2, fun j hj => by rw [oF.1]; exact c2 j hj, by rw [oK _ _ (by omega)]; exact c3, ⟨t, by omega, by rw [oK _ _ (by omega)]; exact d2⟩, fun j hj => ?_, fun y j hj => ?_, t + n, by omega, k11⟩⟩
      · rintro _ rfl
        have f5 : sK (uK (mix A B0) 0 9 a1) 0 5 = nI t := by rw [rKo _ (by omega), mxK, d2]
        rw [f5, nI_1]
        rintro _ rfl
        rw [rKo _ (by omega), f5, nI_add]
        rintro _ rfl
        rw [pK, pK, pK, hA2]
        exact hK
      · rintro _ rfl
        rw [pS, hB1, q1, g100]
        refine ⟨fun y => absurd y y1, fun _ => ⟨fun y => absurd y2 y, fun _ => ?_⟩⟩
        rintro _ rfl
        have f5 : sS (uS (mix A0 B1) 0 46 a1) 0 3 = nI t := by rw [rSo _ (by omega), mxS, x1, d2]
        rw [f5, nI_1]
        rintro _ rfl
        rw [rSo _ (by omega), f5, nI_add]
        rintro _ rfl
        rw [pS, pS, pS, hB2]
        exact hK
      · rw [oB _ _ (by omega), oB _ _ (by omega), oK _ _ (by omega)]
        rcases e j hj with y | ⟨x, x1, x2, x3⟩
        · exact Or.inl y
        · exact Or.inr ⟨x, by omega, x2, x3⟩
      · rw [oK _ _ (by omega)] at y
        rw [oB _ _ (by omega), oB _ _ (by omega), oB _ _ (by omega)]
        exact f y j hj
    · refine ⟨-1, A, B1, L, fun B0 K hK => T67 ⟨fun y => absurd y y1, fun _ => ⟨fun y => absurd y y2, fun _ => hK⟩⟩, fun A0 K hK => T134 ?_, h1.mono (by omega)⟩
      rintro _ rfl
      rw [pS, hB1, q1, g100]
      exact ⟨fun y => absurd y y1, fun _ => ⟨fun _ => hK, fun y => absurd y2 y⟩⟩
theorem k_cut (h : CI E T A B L) (hT : T ≤ 50000) (a1 a2 : Int32) : ANS E (T + 100) 68 [some (.ref (aK E 0)), some (.int a1), some (.int a2)] 135 [some (.ref (aS E 0)), some (.int a1), some (.int a2)] A B := by
  have h1 := h.thr
  generalize hB1 : uS B 0 0 0 = B1 at h1
  have hn := h.1.1.1.2.2.2
  have hn1 := h.1.1.1.2.2.1
  have m9 : ∀ B0, sK (mix A B0) 9 0 = nI (eN E) := fun B0 => h.1.1.1.2.1
  have m1 : ∀ A0, sS (mix A0 B1) 0 1 = nI (eN E) := fun A0 => h1.1.1.1.1
  have bad : ∀ x, (∀ B0 K, K (some (.int x)) (mix A B0) → ES E 68 0 [some (.ref (aK E 0)), some (.int a1), some (.int a2)] [] (mix A B0) K) → (∀ A0 K, K (some (.int x)) (mix A0 B1) → ES E 135 0 [some (.ref (aS E 0)), some (.int a1), some (.int a2)] [] (mix A0 B) K) → ANS E (T + 100) 68 [some (.ref (aK E 0)), some (.int a1), some (.int a2)] 135 [some (.ref (aS E 0)), some (.int a1), some (.int a2)] A B := fun x c r => ⟨x, A, B1, L, c, r, h1.mono (by omega)⟩
  rcases nodeC (E := E) a1 hn with z | ⟨z0, z⟩ | ⟨i, hi, rfl⟩
  · refine bad (-1) (fun B0 K hK => T68 ⟨fun _ => hK, fun y => absurd z y⟩) (fun A0 K hK => T135 ?_)
    rintro _ rfl
    rw [pS, hB1, q0]
    exact ⟨fun _ => hK, fun y => absurd z y⟩
  · refine bad (-1) (fun B0 K hK => T68 ⟨fun y => absurd y z0, fun _ => ⟨fun _ => hK, fun y => absurd (by rw [m9]; exact z) y⟩⟩) (fun A0 K hK => T135 ?_)
    rintro _ rfl
    rw [pS, hB1, q0, m1, gn a1 hn1 (by omega)]
    exact ⟨fun y => absurd y z0, fun _ => ⟨fun _ => hK, fun y => absurd z y⟩⟩
  · have z0 : ¬ nI i < 0 := nI_pos (by omega)
    have z1 : ¬ nI (eN E) ≤ nI i := by rw [le_n (by omega) (by omega)]; omega
    have ci : (nI i).toNatClampNeg = i := nI_clamp (by omega)
    by_cases y1 : a2 < 1
    · refine bad (-1) (fun B0 K hK => T68 ⟨fun y => absurd y z0, fun _ => ⟨fun y => absurd (by rw [m9] at y; exact y) z1, fun _ => ⟨fun _ => hK, fun y => absurd y1 y⟩⟩⟩) (fun A0 K hK => T135 ?_)
      rintro _ rfl
      rw [pS, hB1, q0, q1, m1, gn _ hn1 (by omega)]
      exact ⟨fun y => absurd y z0, fun _ => ⟨fun y => absurd y z1, fun _ => ⟨fun _ => hK, fun y => absurd y1 y⟩⟩⟩
    · by_cases y2 : a2 ≤ 50
      · have cr : ∀ B0 K, ((sK A 0 5 = 0 → K (some (.int (-2))) (mix A B0)) ∧ (¬ sK A 0 5 = 0 → ((sN A i 0 8 ≤ 0 → K (some (.int 1)) (mix (uN A i 0 8 (sK A 0 5 + a2)) B0)) ∧ (¬ sN A i 0 8 ≤ 0 → K (some (.int (-2))) (mix A B0))))) → ES E 68 0 [some (.ref (aK E 0)), some (.int (nI i)), some (.int a2)] [] (mix A B0) K := by
          intro B0 K hK
          refine T68 ⟨fun y => absurd y z0, fun _ => ⟨fun y => absurd (by rw [m9] at y; exact y) z1, fun _ => ⟨fun y => absurd y y1, fun _ => ⟨fun _ => ?_, fun y => absurd y2 y⟩⟩⟩⟩
          rw [ci, mxK, mxN]
          refine ⟨hK.1, fun y => ⟨⟨z0, hi⟩, fun w => ?_, fun w => (hK.2 y).2 w⟩⟩
          rintro _ rfl
          rw [pN]
          exact (hK.2 y).1 w
        have rr : ∀ A0 K, ((sS B1 10 i = 0 → ((sS B1 0 3 = 0 → K (some (.int (-2))) (mix A0 B1)) ∧ (¬ sS B1 0 3 = 0 → K (some (.int 1)) (mix A0 (uS (uS B1 10 i 1) 9 i (sS B1 0 3 + a2)))))) ∧ (¬ sS B1 10 i = 0 → K (some (.int (-2))) (mix A0 B1))) → ES E 135 0 [some (.ref (aS E 0)), some (.int (nI i)), some (.int a2)] [] (mix A0 B) K := by
          intro A0 K hK
          refine T135 ?_
          rintro _ rfl
          have e10 : sS (mix A0 B1) 10 i = sS B1 10 i := mxS _ _ _ _
          have e03 : sS (mix A0 B1) 0 3 = sS B1 0 3 := mxS _ _ _ _
          rw [pS, hB1, q0, q1, m1, gn _ hn1 (by omega), g50, ci, e10, e03]
          refine ⟨fun y => absurd y z0, fun _ => ⟨fun y => absurd y z1, fun _ => ⟨fun y => absurd y y1, fun _ => ⟨fun y => absurd y2 y, fun _ => ⟨⟨z0, by omega⟩, fun w => ⟨(hK.1 w).1, fun v => ?_⟩, hK.2⟩⟩⟩⟩⟩
          rintro _ rfl
          rw [rSo _ (by omega), e03]
          rintro _ rfl
          rw [pS, pS]
          exact (hK.1 w).2 v
        have h1' := h1
        obtain ⟨c1, c2, c3, ⟨t, d1, d2⟩, e, f, l, g1, g2⟩ := h1
        have tB : sS B1 0 3 = sK A 0 5 := c1.1.2.1.1
        by_cases t0 : sK A 0 5 = 0
        · refine bad (-2) (fun B0 K hK => cr B0 K ⟨fun _ => hK, fun y => absurd t0 y⟩) (fun A0 K hK => rr A0 K ⟨fun _ => ⟨fun _ => hK, fun y => absurd (tB.trans t0) y⟩, fun _ => hK⟩)
        · rcases (c1.2.2.2.2 i hi).1.2.2.1 with ⟨x1, x2, x3⟩ | ⟨x1, x2⟩
          · refine bad (-2) (fun B0 K hK => cr B0 K ⟨fun y => absurd y t0, fun _ => ⟨fun y => absurd x3 (nlt.2 y), fun _ => hK⟩⟩) (fun A0 K hK => rr A0 K ⟨fun y => absurd (x1.symm.trans y) one0, fun _ => hK⟩)
          · obtain ⟨n, n1, n2, rfl⟩ := rangeC (lo := 1) (hi := 50) (by omega) (by omega) y1 y2
            have tn : sK A 0 5 + nI n = nI (t + n) := by rw [d2, nI_add]
            generalize hA2 : uN A i 0 8 (sK A 0 5 + nI n) = A2 at cr
            generalize hB2 : uS (uS B1 10 i 1) 9 i (sS B1 0 3 + nI n) = B2 at rr
            have oA : ∀ j d l, ¬ (j = i ∧ d = 0 ∧ l = 8) → sN A2 j d l = sN A j d l := fun j d l y => by rw [← hA2, rNo _ (by omega)]
            have oB : ∀ v l, ¬ ((v = 9 ∨ v = 10) ∧ l = i) → sS B2 v l = sS B1 v l := fun v l y => by rw [← hB2, rSo _ (by omega), rSo _ (by omega)]
            have oF : FNn A A2 := hA2 ▸ FNn.u _ _ _ _ _
            have hW : ∀ l, sW B2 l = sW B1 l := fun l => by rw [← hB2, fWS, fWS]
            have a8 : sN A2 i 0 8 = nI (t + n) := by rw [← hA2, rNs, tn]
            have b9 : sS B2 9 i = nI (t + n) := by rw [← hB2, rSs, tB, tn]
            have b10 : sS B2 10 i = 1 := by rw [← hB2, rSo _ (by omega), rSs]
            have hS2 : Sim E A2 B2 L L := c1.n78 (i := i) oF (fun j d l y => oA j d l (by omega)) (fun v l y => oB v l (by omega)) hW (fun _ r1 => r1.cu (oA _ _ _ (by omega)) (oA _ _ _ (by omega)) (fun d l _ => oA _ _ _ (by omega)) (fun v l _ => oF.1 v l) (fun v _ => oB v i (by omega)) (fun v h _ _ _ => oB v _ (by omega)) (fun h _ => hW _) (Or.inl ⟨b10, by rw [a8, b9], by rw [a8, il0, nI_ltI (by omega) (by omega)]; omega⟩))
            refine ⟨1, A2, B2, L, fun B0 K hK => cr B0 K ⟨fun y => absurd y t0, fun _ => ⟨fun _ => hK, fun y => absurd (by rw [x2]; decide) y⟩⟩, fun A0 K hK => rr A0 K ⟨fun _ => ⟨fun y => absurd (tB.symm.trans y) t0, fun _ => hK⟩, fun y => absurd x1 y⟩, ⟨hS2, fun j hj => by rw [oA _ _ _ (by omega)]; exact c2 j hj, by rw [oF.1]; exact c3, ⟨t, by omega, by rw [oF.1]; exact d2⟩, fun j hj => ?_, fun y => absurd (by rw [oF.1] at y; exact y) t0, l, by omega, by rw [oF.1]; exact g2⟩⟩
            by_cases ej : j = i
            · subst ej
              exact Or.inr ⟨t + n, by omega, b9, by rw [oF.1, d2, le_n (by omega) (by omega)]; omega⟩
            · rw [oB _ _ (by omega), oB _ _ (by omega), oF.1]
              rcases e j hj with y | ⟨x, x1, x2, x3⟩
              · exact Or.inl y
              · exact Or.inr ⟨x, by omega, x2, x3⟩
      · refine bad (-1) (fun B0 K hK => T68 ⟨fun y => absurd y z0, fun _ => ⟨fun y => absurd (by rw [m9] at y; exact y) z1, fun _ => ⟨fun y => absurd y y1, fun _ => ⟨fun y => absurd y y2, fun _ => hK⟩⟩⟩⟩) (fun A0 K hK => T135 ?_)
        rintro _ rfl
        rw [pS, hB1, q0, q1, m1, gn _ hn1 (by omega), g50]
        exact ⟨fun y => absurd y z0, fun _ => ⟨fun y => absurd y z1, fun _ => ⟨fun y => absurd y y1, fun _ => ⟨fun _ => hK, fun y => absurd y2 y⟩⟩⟩⟩
end Small
