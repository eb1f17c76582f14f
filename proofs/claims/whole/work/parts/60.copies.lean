/-! ===== the copies of a turn; timers ===== -/
section Copies
variable {E : mE} {A B : mS} {M N M0 : List Mg} {i k : Nat} {t : Int32}
theorem mkN_end {M0 : List Mg} (h8 : ∀ m, m ∈ M0 → m 8 = 0 ∨ m 8 = 1) : mkN t 1 M0.length M0 = M0.map (fun m => if m 7 = t then dd m else m) := by
  refine List.ext_getElem? (fun j => ?_)
  rw [mkN_get, List.getElem?_map]
  cases hj : M0[j]? with
  | none => rfl
  | some m =>
    have hlt : j < M0.length := by
      rcases Nat.lt_or_ge j M0.length with z | z
      · exact z
      · rw [List.getElem?_eq_none z] at hj
        cases hj
    show some (if dlv t 1 M0.length j m then dd m else m) = some (if m 7 = t then dd m else m)
    by_cases e : m 7 = t
    · rw [if_pos e, if_pos]
      unfold dlv
      rw [decide_eq_true_iff]
      refine ⟨e, ?_⟩
      rcases h8 m (List.mem_of_getElem? hj) with z | z
      · exact Or.inl ⟨rfl, z⟩
      · exact Or.inr ⟨z, hlt⟩
    · rw [if_neg e, if_neg]
      unfold dlv
      rw [decide_eq_true_iff]
      exact fun z => e z.1
theorem live_map (h0 : 0 ≤ t) : ∀ M0 : List Mg, (∀ m, m ∈ M0 → t ≤ m 7) → liveL (M0.map (fun m => if m 7 = t then dd m else m)) = keepL t M0
  | [], _ => rfl
  | x :: l, h => by
    have ih := live_map h0 l (fun m hm => h m (List.mem_cons_of_mem _ hm))
    have hx := h x (List.mem_cons_self)
    unfold liveL keepL at ih ⊢
    rw [List.map_cons, List.filter_cons, List.filter_cons, ih]
    by_cases e : x 7 = t
    · rw [if_pos e, if_neg (by rw [dd7]; decide), if_neg (by
        rw [e, decide_eq_true_iff, Int32.lt_iff_toInt_lt]
        omega)]
    · rw [if_neg e, if_pos (by
        rw [decide_eq_true_iff]
        rw [Int32.le_iff_toInt_le] at h0 hx ⊢
        omega), if_pos (by
        rw [decide_eq_true_iff]
        have : ¬ (x 7).toInt = t.toInt := fun z => e (Int32.toInt_inj.1 z)
        rw [Int32.le_iff_toInt_le] at hx
        rw [Int32.lt_iff_toInt_lt]
        omega)]
theorem keep_all {Y : List Mg} (h : ∀ m, m ∈ Y → t < m 7) : keepL t Y = Y := List.filter_eq_self.2 (fun m hm => decide_eq_true (h m hm))
theorem live_all {Y : List Mg} (h : ∀ m, m ∈ Y → 0 ≤ m 7) : liveL Y = Y := List.filter_eq_self.2 (fun m hm => decide_eq_true (h m hm))
theorem GM.b {m : Mg} (h : GM E m) : m 8 = 0 ∨ m 8 = 1 := by
  obtain ⟨_, _, _, _, _, _, _, _, _, _, _, _, _, _, _, _, _, _, h8, _⟩ := h
  exact h8
theorem lt0 {x : Int32} (h0 : 0 ≤ t) (h : t < x) : 0 ≤ x := by
  rw [Int32.lt_iff_toInt_lt] at h
  rw [Int32.le_iff_toInt_le] at h0 ⊢
  omega
/-- all copies of the turn come -/
theorem copies (hS : Sim E A B M0 M0) (hI : Idle E A) (ht : sK A 0 5 = t) (h0 : 0 ≤ t) (hM0 : ∀ m, m ∈ M0 → GM E m ∧ t ≤ m 7) : ∃ A2 B1 B2 M2 N2, CR E 76 0 [some (.ref (aK E 0)), none, none, none, none] A none A2 ∧ RR E 127 0 [some (.ref (aS E 0)), some (.int 0), some (.int (sS B 0 37)), none, none] B none B1 ∧ RR E 127 0 [some (.ref (aS E 0)), some (.int 1), some (.int (sS B 0 37)), none, none] B1 none B2 ∧ Sim E A2 B2 M2 N2 ∧ Idle E A2 ∧ KC A B A2 B2 ∧ liveL N2 = M2 ∧ (∀ m, m ∈ M2 → GM E m ∧ t < m 7) ∧ ∀ m, m ∈ N2 → m 8 = 0 ∨ m 8 = 1 := by
  obtain ⟨u, m1, m2, m3, m4, m5, m6, m7, m8⟩ := hS.1.2.2.2.1
  have hlive : ∀ m, m ∈ M0 → 0 ≤ m 7 := fun m hm => by
    have := (hM0 m hm).2
    rw [Int32.le_iff_toInt_le] at h0 this ⊢
    omega
  have hlen : M0.length ≤ 6000 := by
    rw [lv_all hlive] at m8
    omega
  have h8 : ∀ m, m ∈ M0 → m 8 = 0 ∨ m 8 = 1 := fun m hm => (hM0 m hm).1.b
  obtain ⟨A1, B1, Y1, i1, k1, c1, r1⟩ := pass1 (p := 0) (by omega) hM0 h0 hlen M0.length 0 A B [] (by omega) ⟨by rw [mkN_0, List.append_nil]; exact hS, hI, fun m hm => (by cases hm), ht⟩
  have i1' : INV E t 1 0 M0 A1 B1 Y1 := by
    unfold INV at i1 ⊢
    rw [mkN_01 h8]
    exact i1
  obtain ⟨A2, B2, Y2, ⟨hS2, hI2, hY2, ht2⟩, k2, c2, r2⟩ := pass1 (p := 1) (by omega) hM0 h0 hlen M0.length 0 A1 B1 Y1 (by omega) i1'
  obtain ⟨u2, n1, n2, n3, n4, n5, n6, n7, n8⟩ := hS2.1.2.2.2.1
  obtain ⟨A3, d1, d2, d3, d4, d5⟩ := c_drop (E := E) (t := t) n1
  have s37 : sS B 0 37 = nI M0.length := m2.1
  have hL : liveL (mkN t 1 M0.length M0 ++ Y2) = keepL t (M0 ++ Y2) := by
    have e1 : liveL (mkN t 1 M0.length M0 ++ Y2) = liveL (mkN t 1 M0.length M0) ++ liveL Y2 := List.filter_append _ _
    have e2 : keepL t (M0 ++ Y2) = keepL t M0 ++ keepL t Y2 := List.filter_append _ _
    rw [e1, e2, mkN_end h8, live_map h0 M0 (fun m hm => (hM0 m hm).2), keep_all (fun m hm => (hY2 m hm).2), live_all (fun m hm => lt0 h0 (hY2 m hm).2)]
  have hlv : (keepL t (M0 ++ Y2)).length = u2 := by rw [← hL]; exact n8.symm
  refine ⟨A3, B1, B2, keepL t (M0 ++ Y2), mkN t 1 M0.length M0 ++ Y2, fun B0 K hK => T76 ?_, fun A0 K hK => T127 ?_, fun A0 K hK => T127 ?_, ?_, fun j hj => by rw [d3]; exact hI2 j hj, ?_, hL, fun m hm => ?_, fun m hm => ?_⟩
  · have e37 : sK (mix A B0) 1 1 = nI M0.length := m1.1
    rw [e37]
    refine T76_10 ⟨fun z => absurd z (by decide), fun _ => c1 B0 K (T76_10 ⟨fun z => absurd z (by decide), fun _ => c2 B0 K (T76_10 ⟨fun _ => ?_, fun z => absurd (by decide) z⟩)⟩)⟩
    rw [mxK, ht2]
    exact d1 B0 _ ⟨rfl, hK⟩
  · rw [s37]
    exact r1 A0 K hK
  · rw [s37]
    exact r2 A0 K hK
  · refine hS2.new d3 d4 (fun v l _ => d5 v l (by omega)) (fun _ _ _ => rfl) (fun _ => rfl) ?_ ?_ ⟨u2, d2, n2, by rw [d5 _ _ (by omega)]; exact n3, n4, n5, by omega, n7, n8⟩ (by rw [d5 _ _ (by omega)]; exact hS2.2.2.2.1.2.2.1)
    · have := hS2.1.2.1
      unfold NT at this ⊢
      rw [d5 0 5 (by omega), d5 0 6 (by omega), d5 0 8 (by omega), d5 0 9 (by omega), d5 0 10 (by omega), d5 0 11 (by omega)]
      exact this
    · obtain ⟨tt, t1, t2⟩ := hS2.1.2.2.2.2.1
      exact ⟨tt, t1, by rw [d5 _ _ (by omega)]; exact t2⟩
  · exact (k1.tr k2).tr ⟨fun l _ _ _ => d5 0 l (by omega), fun _ => ⟨rfl, rfl⟩⟩
  · obtain ⟨z1, z2⟩ := List.mem_filter.1 hm
    refine ⟨?_, of_decide_eq_true z2⟩
    rcases List.mem_append.1 z1 with z | z
    · exact (hM0 m z).1
    · exact (hY2 m z).1
  · rcases List.mem_append.1 hm with z | z
    · rw [mkN_end h8] at z
      obtain ⟨x, x1, x2⟩ := List.mem_map.1 z
      rw [← x2]
      split
      · rw [dd_o _ _ (by omega)]
        exact h8 x x1
      · exact h8 x x1
    · exact (hY2 m z).1.b
/-- a timer ends at node i -/
theorem timer (hS : Sim E A B M N) (hI : Idle E A) (hi : i < eN E) (hk : k < 3) (hc : sS B 10 i = 0) (h1 : 0 < sK A 0 5) (h12 : sS B 12 (3 * i + k) = sK A 0 5) : ∃ A1 A2 B2 X, CR E 59 0 [some (.ref (aN E i 0)), some (.int (nI k)), some (.int (sK A 0 5))] A none A1 ∧ CR E 71 0 [some (.ref (aK E 0)), some (.ref (aN E i 0)), none] A1 none A2 ∧ RR E 128 0 [some (.ref (aS E 0)), some (.int (nI i)), some (.int (nI k))] B none B2 ∧ SET E i A B A2 B2 M N X := by
  obtain ⟨g, g1, g2, a2, b2⟩ := (hS.2.2.2.2 i hi).1.1
  have h40 : g ≤ 40 := by
    rcases Nat.lt_or_ge g 41 with z | z
    · omega
    · have e : g = 41 := by omega
      subst e
      have := ((hS.2.2.2.2 i hi).2.2.2.2.1 k hk).2 b2
      rw [this] at h12
      rw [← h12] at h1
      exact absurd h1 (by decide)
  obtain ⟨q1, _, r, s, hr, hs, a3, b3, a4, b4, o1, o2, o3, o4, o5, o6⟩ := hS.at hi b2 h40
  have hn := hS.1.1.2.2.2
  have ci : (nI i).toNatClampNeg = i := nI_clamp (by omega)
  have ck : (nI k).toNatClampNeg = k := nI_clamp (by omega)
  have x3 : 3 * nI i + nI k = nI (3 * i + k) := by rw [il3, pk_mul, nI_add]
  have cx : (nI (3 * i + k)).toNatClampNeg = 3 * i + k := nI_clamp (by omega)
  have es0 : nI s = 0 ↔ s = 0 := by rw [il0, nI_eq (by omega) (by omega)]
  have es1 : nI s = 1 ↔ s = 1 := by rw [il1, nI_eq (by omega) (by omega)]
  have ek0 : nI k = 0 ↔ k = 0 := by rw [il0, nI_eq (by omega) (by omega)]
  have ek1 : nI k = 1 ↔ k = 1 := by rw [il1, nI_eq (by omega) (by omega)]
  have ek2 : nI k = 2 ↔ k = 2 := by rw [il2, nI_eq (by omega) (by omega)]
  have c8 : sN A i 0 8 = 0 := by
    rcases (hS.2.2.2.2 i hi).1.2.2.1 with z | z
    · rw [hc] at z
      exact absurd z.1.symm one0
    · exact z.2
  generalize hAc : uN A i 3 k 0 = Ac
  generalize hBc : uS B 12 (3 * i + k) 0 = Bc
  have oa : ∀ j d l, ¬ (j = i ∧ d = 3 ∧ l = k) → sN Ac j d l = sN A j d l := fun j d l z => by rw [← hAc, rNo _ (by omega)]
  have ob : ∀ v l, ¬ (v = 12 ∧ l = 3 * i + k) → sS Bc v l = sS B v l := fun v l z => by rw [← hBc, rSo _ z]
  have oF : FNn A Ac := hAc ▸ FNn.u _ _ _ _ _
  have hIc : Idle E Ac := fun j hj => by rw [oa _ _ _ (by omega)]; exact hI j hj
  have hSc : Sim E Ac Bc M N := by
    have n41 : ¬ sS Bc 2 i = nI 41 := by
      rw [ob 2 i (by omega), b2, nI_eq (by omega) (by omega)]
      omega
    refine hS.up (i := i) oF (fun j d l z => oa j d l (by omega)) (fun v l z1 z2 => ob v l (by omega)) (fun l => by rw [← hBc, fWS]) ?_ ?_
    · have := (hS.2.2.2.2 i hi).1.2.2.2.1
      unfold PLk1 at this ⊢
      rw [oa _ _ _ (by omega), oa _ _ _ (by omega), ob 5 i (by omega), ob 6 i (by omega)]
      exact this
    · obtain ⟨y1, y2, y3, y4, y5⟩ := (hS.2.2.2.2 i hi).2
      refine ⟨⟨r, hr, by rw [oa _ _ _ (by omega)]; exact a3, by rw [ob 3 i (by omega)]; exact b3⟩, ⟨⟨s, hs, by rw [oa _ _ _ (by omega)]; exact a4, by rw [ob 4 i (by omega)]; exact b4⟩, fun z => absurd z n41⟩, fun r2 hr2 h3 => ?_, fun l hl => ⟨?_, fun z => absurd z n41⟩, fun _ => ?_⟩
      · rw [ob 3 i (by omega)] at h3
        exact (y3 r2 hr2 h3).fr (Nat.le_refl _) (fun l => oa _ _ _ (by omega)) (fun v z => ob v i (by omega))
      · by_cases e : l = k
        · subst e
          rw [← hAc, ← hBc, rNs, rSs]
        · rw [oa _ _ _ (by omega), ob 12 _ (by omega)]
          exact (y4 l hl).1
      · rw [oa _ _ _ (by omega), oa _ _ _ (by omega), oa _ _ _ (by omega), ob 13 i (by omega), ob 14 i (by omega), ob 15 i (by omega)]
        exact ⟨o1, o2, o3, o4, o5, o6⟩
  have kc : KP i A B Ac Bc := ⟨fun l _ _ _ => oF.1 0 l, fun j => ⟨ob 9 j (by omega), ob 10 j (by omega)⟩, fun j _ => ⟨ob 2 j (by omega), ob 3 j (by omega)⟩⟩
  have crun : ∀ B0 K, (k = 0 → s = 0 → ES E 40 0 [some (.ref (aN E i 0)), some (.int 1), some (.int 0), some (.int (-1)), none, none] [] (mix Ac B0) (fun r S5 => r = none ∧ K none S5)) → (k = 1 → s = 1 → ES E 40 0 [some (.ref (aN E i 0)), some (.int 2), some (.int 0), some (.int (-1)), none, none] [] (mix Ac B0) (fun r S5 => r = none ∧ K none S5)) → (k = 2 → ES E 38 0 [some (.ref (aN E i 0)), some (.int (nI (r + 1))), some (.int (sK A 0 5)), none] [] (mix Ac B0) (fun r S5 => r = none ∧ K none S5)) → (¬ (k = 0 ∧ s = 0) → ¬ (k = 1 ∧ s = 1) → ¬ k = 2 → K none (mix Ac B0)) → ES E 59 0 [some (.ref (aN E i 0)), some (.int (nI k)), some (.int (sK A 0 5))] [] (mix A B0) K := by
    intro B0 K f0 f1 f2 f3
    have m4 : sN (mix Ac B0) i 0 4 = nI s := by rw [mxN, oa _ _ _ (by omega), a4]
    have m3 : sN (mix Ac B0) i 0 3 = nI r := by rw [mxN, oa _ _ _ (by omega), a3]
    have e51 : ¬ (k = 0 ∧ s = 0) → ¬ (k = 1 ∧ s = 1) → ES E 59 51 [some (.ref (aN E i 0)), some (.int (nI k)), some (.int (sK A 0 5))] [] (mix Ac B0) K := fun z1 z2 => by
      refine T59_51 hi ?_
      rw [m3, nI_1, ek2]
      exact ⟨fun y => ES.mono (f2 y) (fun r' S' w => ⟨w.1, T59_67 hi w.2⟩), fun y => T59_67 hi (f3 z1 z2 y)⟩
    have e28 : ¬ (k = 0 ∧ s = 0) → ES E 59 28 [some (.ref (aN E i 0)), some (.int (nI k)), some (.int (sK A 0 5))] [] (mix Ac B0) K := fun z1 => by
      refine T59_28 hi ?_
      rw [m4, ek1, es1]
      exact ⟨fun y1 => ⟨fun y2 => ES.mono (f1 y1 y2) (fun r' S' w => ⟨w.1, T59_67 hi w.2⟩), fun y2 => e51 z1 (fun w => y2 w.2)⟩, fun y1 => e51 z1 (fun w => y1 w.1)⟩
    refine T59 hi ?_
    rw [ck]
    refine ⟨⟨nI_pos (by omega), hk⟩, ?_⟩
    rintro _ rfl
    rw [pN, hAc, m4, ek0, es0]
    exact ⟨fun y1 => ⟨fun y2 => ES.mono (f0 y1 y2) (fun r' S' w => ⟨w.1, T59_67 hi w.2⟩), fun y2 => e28 (fun w => y2 w.2)⟩, fun y1 => e28 (fun w => y1 w.1)⟩
  have rrun : ∀ A0 K, (k = 0 → s = 0 → ES E 101 0 [some (.ref (aS E 0)), some (.int (nI i)), some (.int 1), some (.int 0), some (.int (-9)), none, none, none, none, none, none, none] [] (mix A0 Bc) (fun r S8 => r = none ∧ (∀ S9, S9 = uS S8 4 i 1 → (ES E 128 122 [some (.ref (aS E 0)), some (.int (nI i)), some (.int (nI k))] [] S9 K)))) → (k = 1 → s = 1 → ES E 101 0 [some (.ref (aS E 0)), some (.int (nI i)), some (.int 2), some (.int 0), some (.int (-9)), none, none, none, none, none, none, none] [] (mix A0 Bc) (fun r S8 => r = none ∧ (∀ S9, S9 = uS S8 4 i 2 → (ES E 128 122 [some (.ref (aS E 0)), some (.int (nI i)), some (.int (nI k))] [] S9 K)))) → (k = 2 → ES E 99 0 [some (.ref (aS E 0)), some (.int (nI i)), some (.int (nI (r + 1))), none] [] (mix A0 Bc) (fun r S3 => r = none ∧ (ES E 128 122 [some (.ref (aS E 0)), some (.int (nI i)), some (.int (nI k))] [] S3 K))) → (¬ (k = 0 ∧ s = 0) → ¬ (k = 1 ∧ s = 1) → ¬ k = 2 → ES E 128 122 [some (.ref (aS E 0)), some (.int (nI i)), some (.int (nI k))] [] (mix A0 Bc) K) → ES E 128 0 [some (.ref (aS E 0)), some (.int (nI i)), some (.int (nI k))] [] (mix A0 B) K := by
    intro A0 K f0 f1 f2 f3
    have m4 : sS (mix A0 Bc) 4 i = nI s := by rw [mxS, ob _ _ (by omega), b4]
    have m3 : sS (mix A0 Bc) 3 i = nI r := by rw [mxS, ob _ _ (by omega), b3]
    have e104 : ¬ (k = 0 ∧ s = 0) → ¬ (k = 1 ∧ s = 1) → ES E 128 104 [some (.ref (aS E 0)), some (.int (nI i)), some (.int (nI k))] [] (mix A0 Bc) K := fun z1 z2 => by
      refine T128_104 ?_
      rw [ci, m3, nI_1, ek2]
      exact ⟨fun y => ⟨⟨nI_pos (by omega), by omega⟩, f2 y⟩, fun y => f3 z1 z2 y⟩
    have e70 : ¬ (k = 0 ∧ s = 0) → ES E 128 70 [some (.ref (aS E 0)), some (.int (nI i)), some (.int (nI k))] [] (mix A0 Bc) K := fun z1 => by
      refine T128_70 ?_
      rw [ci, m4, ek1, es1]
      exact ⟨fun y1 => ⟨⟨nI_pos (by omega), by omega⟩, fun y2 => f1 y1 y2, fun y2 => e104 z1 (fun w => y2 w.2)⟩, fun y1 => e104 z1 (fun w => y1 w.1)⟩
    refine T128 ?_
    have m10 : sS (mix A0 B) 10 i = 0 := hc
    have m12 : sS (mix A0 B) 12 (3 * i + k) = sK A 0 5 := h12
    have m03 : sS (mix A0 B) 0 3 = sK A 0 5 := hS.1.2.1.1
    rw [ci, x3, cx, m10, m12, m03]
    refine ⟨⟨nI_pos (by omega), by omega⟩, fun _ => ⟨⟨nI_pos (by omega), by omega⟩, fun _ => ?_, fun z => absurd rfl z⟩, fun z => absurd rfl z⟩
    rintro _ rfl
    rw [pS, hBc, m4, ek0, es0]
    exact ⟨fun y1 => ⟨fun y2 => f0 y1 y2, fun y2 => e70 (fun w => y2 w.2)⟩, fun y1 => e70 (fun w => y1 w.1)⟩
  -- what follows
  have fin : ∀ (A1 A3 B1 : mS) (X : List Mg), CR E 59 0 [some (.ref (aN E i 0)), some (.int (nI k)), some (.int (sK A 0 5))] A none A1 → dsp E i A1 A3 → (∀ A0 K, ES E 128 122 [some (.ref (aS E 0)), some (.int (nI i)), some (.int (nI k))] [] (mix A0 B1) K → ES E 128 0 [some (.ref (aS E 0)), some (.int (nI i)), some (.int (nI k))] [] (mix A0 B) K) → Sim E A3 B1 (M ++ X) (N ++ X) → Idle E A3 → KP i Ac Bc A3 B1 → (∀ m, m ∈ X → GM E m ∧ sK Ac 0 5 < m 7) → sN A1 i 0 8 = sN Ac i 0 8 → ∃ A1 A2 B2 X, CR E 59 0 [some (.ref (aN E i 0)), some (.int (nI k)), some (.int (sK A 0 5))] A none A1 ∧ CR E 71 0 [some (.ref (aK E 0)), some (.ref (aN E i 0)), none] A1 none A2 ∧ RR E 128 0 [some (.ref (aS E 0)), some (.int (nI i)), some (.int (nI k))] B none B2 ∧ SET E i A B A2 B2 M N X := by
    intro A1 A3 B1 X w1 w2 w3 w4 w5 w6 w7 w8
    have kp := KP.trans kc w6
    obtain ⟨A4, B4, X4, s1, s2, s3, s4, s5, s6⟩ := settle w4 w5 hi (by rw [(kp.2.1 i).2]; exact hc) w2 (by rw [w8, oa _ _ _ (by omega)]; exact c8)
    refine ⟨A1, A4, B4, X ++ X4, w1, s1, fun A0 K hK => w3 A0 K (T128_122 (s2 A0 _ ⟨rfl, hK⟩)), by rw [← List.append_assoc, ← List.append_assoc]; exact s3, s4, KP.trans kp s5, fun m hm => ?_⟩
    rcases List.mem_append.1 hm with z | z
    · have := w7 m z
      rw [oF.1] at this
      exact this
    · have := s6 m z
      rw [kp.1 5 (by omega) (by omega) (by omega)] at this
      exact this
  have stay : ∀ A' B' : mS, A' = Ac → B' = Bc → KP i Ac Bc A' B' := fun A' B' y1 y2 => by
    subst y1 y2
    exact ⟨fun _ _ _ _ => rfl, fun _ => ⟨rfl, rfl⟩, fun _ _ => ⟨rfl, rfl⟩⟩
  have same : (∀ B0 K, K none (mix Ac B0) → ES E 59 0 [some (.ref (aN E i 0)), some (.int (nI k)), some (.int (sK A 0 5))] [] (mix A B0) K) → (∀ A0 K, ES E 128 122 [some (.ref (aS E 0)), some (.int (nI i)), some (.int (nI k))] [] (mix A0 Bc) K → ES E 128 0 [some (.ref (aS E 0)), some (.int (nI i)), some (.int (nI k))] [] (mix A0 B) K) → ∃ A1 A2 B2 X, CR E 59 0 [some (.ref (aN E i 0)), some (.int (nI k)), some (.int (sK A 0 5))] A none A1 ∧ CR E 71 0 [some (.ref (aK E 0)), some (.ref (aN E i 0)), none] A1 none A2 ∧ RR E 128 0 [some (.ref (aS E 0)), some (.int (nI i)), some (.int (nI k))] B none B2 ∧ SET E i A B A2 B2 M N X := fun y1 y2 =>
    fin Ac Ac Bc [] y1 (disp0 hi (hIc i hi)) y2 (by rw [List.append_nil, List.append_nil]; exact hSc) hIc (stay _ _ rfl rfl) (fun m hm => (by cases hm)) rfl
  have bc2 : sS Bc 2 i = nI g := by rw [ob 2 i (by omega), b2]
  rcases (by omega : (k = 0 ∧ s = 0) ∨ (k = 1 ∧ s = 1) ∨ k = 2 ∨ (¬ (k = 0 ∧ s = 0) ∧ ¬ (k = 1 ∧ s = 1) ∧ ¬ k = 2)) with ⟨z1, z2⟩ | ⟨z1, z2⟩ | z | ⟨z1, z2, z3⟩
  · obtain ⟨A1, A2, B2, X, v1, v2, v3, v4, v5, v6, v7, v8, v9, v10⟩ := vote (k := 1) (w := 0) none hSc hIc hi h40 bc2 (Or.inl rfl) (by decide) (fun a b z => by cases z)
    refine fin A1 A2 (uS B2 4 i (nI 1)) X (fun B0 K hK => crun B0 K (fun _ _ => v1 B0 _ ⟨rfl, hK⟩) (fun y _ => by omega) (fun y => by omega) (fun y => absurd ⟨z1, z2⟩ y)) v2 (fun A0 K hK => rrun A0 K (fun _ _ => v3 A0 _ ⟨rfl, ?_⟩) (fun y _ => by omega) (fun y => by omega) (fun y => absurd ⟨z1, z2⟩ y)) v4 v5 v6 v7 (v9.1 8 (by omega) (by omega))
    rintro _ rfl
    rw [pS]
    exact hK
  · obtain ⟨A1, A2, B2, X, v1, v2, v3, v4, v5, v6, v7, v8, v9, v10⟩ := vote (k := 2) (w := 0) none hSc hIc hi h40 bc2 (Or.inr rfl) (by decide) (fun a b z => by cases z)
    refine fin A1 A2 (uS B2 4 i (nI 2)) X (fun B0 K hK => crun B0 K (fun y _ => by omega) (fun _ _ => v1 B0 _ ⟨rfl, hK⟩) (fun y => by omega) (fun _ y => absurd ⟨z1, z2⟩ y)) v2 (fun A0 K hK => rrun A0 K (fun y _ => by omega) (fun _ _ => v3 A0 _ ⟨rfl, ?_⟩) (fun y => by omega) (fun _ y => absurd ⟨z1, z2⟩ y)) v4 v5 v6 v7 (v9.1 8 (by omega) (by omega))
    rintro _ rfl
    rw [pS]
    exact hK
  · by_cases h30 : r + 1 < 30
    · obtain ⟨A1, A2, B2, X, w1, w2, w3, w4, w5, w6, w7, w8, w9, w10, w11, w12, w13, w14, w15⟩ := bgn (r := r + 1) hSc.1 hSc.2.1 hSc.2.2.1 hIc (hSc.2.2.2.pre hi (fun r0 y1 y2 => by
        rw [ob 3 i (by omega), b3, nI_eq (by omega) (by omega)] at y2
        omega)) hi h30 bc2 h40
      rw [oF.1] at w1
      exact fin A1 A2 B2 X (fun B0 K hK => crun B0 K (fun y _ => by omega) (fun y _ => by omega) (fun _ => w1 B0 _ ⟨rfl, hK⟩) (fun _ _ y => absurd z y)) w2 (fun A0 K hK => rrun A0 K (fun y _ => by omega) (fun y _ => by omega) (fun _ => w3 A0 _ ⟨rfl, hK⟩) (fun _ _ y => absurd z y)) w4 w5 w6 w7 w14
    · have lx : ¬ nI (r + 1) < 30 := by
        rw [il30, nI_ltI (by omega) (by omega)]
        exact h30
      exact same (fun B0 K hK => crun B0 K (fun y _ => by omega) (fun y _ => by omega) (fun _ => c_bgn30 hi lx B0 _ ⟨rfl, hK⟩) (fun _ _ y => absurd z y)) (fun A0 K hK => rrun A0 K (fun y _ => by omega) (fun y _ => by omega) (fun _ => r_bgn30 lx A0 _ ⟨rfl, hK⟩) (fun _ _ y => absurd z y))
  · exact same (fun B0 K hK => crun B0 K (fun y1 y2 => absurd ⟨y1, y2⟩ z1) (fun y1 y2 => absurd ⟨y1, y2⟩ z2) (fun y => absurd y z3) (fun _ _ _ => hK)) (fun A0 K hK => rrun A0 K (fun y1 y2 => absurd ⟨y1, y2⟩ z1) (fun y1 y2 => absurd ⟨y1, y2⟩ z2) (fun y => absurd y z3) (fun _ _ _ => hK))
end Copies
