/-! ===== copies that come in a turn ===== -/
/-- a copy that came -/
def dd (m : Mg) : Mg := fun k => if k = 7 then -1 else m k
theorem dd7 (m : Mg) : dd m 7 = -1 := rfl
theorem dd_o (m : Mg) (k : Nat) (hk : ¬ k = 7) : dd m k = m k := if_neg hk
theorem lvn_cons (x : Mg) (l : List Mg) : lv (x :: l) = (if 0 ≤ x 7 then 1 else 0) + lv l := by
  unfold lv
  rw [List.filter_cons]
  by_cases h : 0 ≤ x 7
  · rw [if_pos (decide_eq_true h), if_pos h, List.length_cons]
    omega
  · rw [if_neg (by rw [decide_eq_false h]; decide), if_neg h]
    omega
theorem lvn_set {m : Mg} (h0 : 0 ≤ m 7) : ∀ (N : List Mg) (c : Nat), N[c]? = some m → lv (N.set c (dd m)) + 1 = lv N
  | [], c, h => by simp at h
  | x :: l, 0, h => by
    have e : x = m := by simpa using h
    subst e
    rw [List.set_cons_zero, lvn_cons, lvn_cons, if_pos h0, dd7, if_neg (by decide)]
    omega
  | x :: l, c + 1, h => by
    have h' : l[c]? = some m := by simpa using h
    rw [List.set_cons_succ, lvn_cons, lvn_cons, ← lvn_set h0 l c h']
    omega
section Deliver
variable {E : mE} {A B A' B' : mS} {M N M' N' : List Mg} {m : Mg} {c q : Nat}
theorem NET.new (hN : NET E A B M N) (hA : ∀ i c k, sN A' i c k = sN A i c k) (hK : ∀ v l, 3 ≤ v → sK A' v l = sK A v l) (hB : ∀ v l, v = 2 ∨ v = 16 ∨ 34 ≤ v ∨ (v = 0 ∧ (l = 1 ∨ l = 45)) → sS B' v l = sS B v l) (hNT : NT A' B') (hTM : TM A') (hML : ML A' B' M' N') : NET E A' B' M' N' := by
  obtain ⟨h1, h2, ⟨d, R, a, b, c⟩, _, _, h6, h7⟩ := hN
  exact ⟨⟨by rw [hB _ _ (by omega)]; exact h1.1, by rw [hK _ _ (by omega)]; exact h1.2.1, h1.2.2⟩, hNT, ⟨d, R, a.fr (fun v k _ _ => hK v k (by omega)), b.fr (fun v k _ _ => hB v k (by omega)) (hB _ _ (by omega)), c⟩, hML, hTM, fun j hj => (h6 j hj).fr (fun c k _ _ => hA j c k) (hB _ _ (by omega)) (hB _ _ (by omega)) (fun _ _ _ _ _ _ => ⟨hB _ _ (by omega), hB _ _ (by omega)⟩), fun j hj => by rw [hA]; exact h7 j hj⟩
theorem Sim.new (hS : Sim E A B M N) (hA : ∀ i c k, sN A' i c k = sN A i c k) (hR : ∀ i j, sR A' i j = sR A i j) (hK : ∀ v l, 3 ≤ v → sK A' v l = sK A v l) (hB : ∀ v l, (1 ≤ v ∧ v < 25) ∨ 34 ≤ v ∨ (v = 0 ∧ (l = 1 ∨ l = 2 ∨ l = 45 ∨ l = 50)) → sS B' v l = sS B v l) (hW : ∀ l, sW B' l = sW B l) (hNT : NT A' B') (hTM : TM A') (hML : ML A' B' M' N') (h7 : sS B' 0 40 = sK A' 0 7) : Sim E A' B' M' N' := by
  obtain ⟨a, b, c, ⟨gw, ⟨e, e1, e2, e3, e4⟩, gc, gs⟩, rest⟩ := hS
  refine ⟨a.new hA hK (fun v l z => hB v l (by omega)) hNT hTM hML, b.fr hR (fun l => hB 2 l (by omega)) (fun j d l z => hA _ _ _) (fun p => hB 17 p (by omega)) (fun p => hB 18 p (by omega)), c.fr (fun l => hB 2 l (by omega)) (fun j d l z1 z2 => hA _ _ _) (fun p => hB 19 p (by omega)) (fun p => hB 20 p (by omega)), ⟨fun h q1 q2 => ?_, ⟨e, e1, by rw [hB _ _ (by omega)]; exact e2, by rw [hK _ _ (by omega)]; exact e3, fun k hk => by rw [hB _ _ (by omega), hK _ _ (by omega)]; exact e4 k hk⟩, h7, by rw [hB _ _ (by omega), hK _ _ (by omega)]; exact gs⟩, fun j hj => ⟨(rest j hj).1.fr (hA _ _ _) (hA _ _ _) (hA _ _ _) (fun d l _ => hA _ _ _) (fun v l _ => hK v l (by omega)) (fun v z => hB v j (by omega)) (fun v h _ _ _ => hB v _ (by omega)) (fun h _ => hW _), (rest j hj).2.fr (hA _ _ _) (hA _ _ _) (fun d l _ _ => hA _ _ _) (fun v z => hB v j (by omega)) (fun k hk => hB 12 _ (by omega))⟩⟩
  obtain ⟨w1, w2⟩ := gw h q1 q2
  refine ⟨fun i hi => ?_, ?_⟩
  · rw [hB 1 _ (by omega), hK (12 + h) i (by omega)]
    exact w1 i hi
  · rw [hK 10 h (by omega), w2]
    exact wsum_cg _ (fun k _ => (hK _ _ (by omega)).symm)
/-- a copy is counted as come, or as lost -/
theorem Sim.cnt {f f' : Nat} (hf : (f = 7 ∧ f' = 40) ∨ (f = 8 ∧ f' = 41)) (hS : Sim E A B M N) (hc : N[c]? = some m) (hm : 0 ≤ m 7) (h1 : M.length + 1 ≤ lv N + 6000) (h2 : N.length + 1 ≤ lv N + 6000) : Sim E (uK (uK A 1 2 (sK A 1 2 - 1)) 0 f (sK A 0 f + 1)) (uS (uS (uS B 25 c (-1)) 0 38 (sS B 0 38 - 1)) 0 f' (sS B 0 f' + 1)) M (N.set c (dd m)) := by
  obtain ⟨t, t1, t2⟩ := hS.1.2.2.2.2.1
  obtain ⟨u, m1, m2, m3, m4, m5, m6, m7, m8⟩ := hS.1.2.2.2.1
  obtain ⟨n1, n2, n3, n4, n5, n6⟩ := hS.1.2.1
  have gc := hS.2.2.2.1.2.2.1
  have hl := lvn_set hm N c hc
  generalize hA1 : uK (uK A 1 2 (sK A 1 2 - 1)) 0 f (sK A 0 f + 1) = A1
  generalize hB1 : uS (uS (uS B 25 c (-1)) 0 38 (sS B 0 38 - 1)) 0 f' (sS B 0 f' + 1) = B1
  have oK : ∀ v l, ¬ (v = 1 ∧ l = 2) → ¬ (v = 0 ∧ l = f) → sK A1 v l = sK A v l := fun v l y1 y2 => by rw [← hA1, rKo _ y2, rKo _ y1]
  have oB : ∀ v l, ¬ (v = 25 ∧ l = c) → ¬ (v = 0 ∧ (l = 38 ∨ l = f')) → sS B1 v l = sS B v l := fun v l y1 y2 => by rw [← hB1, rSo _ (by omega), rSo _ (by omega), rSo _ y1]
  have oF : FKk A A1 := hA1 ▸ (FKk.u _ _ _ _).tr (FKk.u _ _ _ _)
  have k12 : sK A1 1 2 = nI (u - 1) := by rw [← hA1, rKo _ (by omega), rKs, m3, il1, pk_sub (by omega)]
  have s38 : sS B1 0 38 = nI (u - 1) := by rw [← hB1, rSo _ (by omega), rSs, m4, il1, pk_sub (by omega)]
  have kf : sK A1 0 f = sK A 0 f + 1 := by rw [← hA1, rKs]
  have sf : sS B1 0 f' = sS B 0 f' + 1 := by rw [← hB1, rSs]
  have s25 : sS B1 25 c = -1 := by rw [← hB1, rSo _ (by omega), rSo _ (by omega), rSs]
  refine hS.new oF.1 oF.2.1 (fun v l z => oK v l (by omega) (by omega)) (fun v l z => oB v l (by omega) (by omega)) (fun l => by rw [← hB1, fWS, fWS, fWS]) ?_ ⟨t, t1, by rw [oK _ _ (by omega) (by omega)]; exact t2⟩ ⟨u - 1, ?_, ⟨by rw [oB _ _ (by omega) (by omega), List.length_set]; exact m2.1, fun j x hj => ?_⟩, k12, s38, by omega, by omega, by rw [List.length_set]; omega, by omega⟩ ?_
  · unfold NT
    rw [oK 0 5 (by omega) (by omega), oK 0 6 (by omega) (by omega), oK 0 9 (by omega) (by omega), oK 0 10 (by omega) (by omega), oK 0 11 (by omega) (by omega), oB 0 3 (by omega) (by omega), oB 0 39 (by omega) (by omega), oB 0 46 (by omega) (by omega), oB 0 47 (by omega) (by omega), oB 0 48 (by omega) (by omega)]
    refine ⟨n1, n2, ?_, n4, n5, n6⟩
    rcases hf with ⟨rfl, rfl⟩ | ⟨rfl, rfl⟩
    · rw [oB 0 41 (by omega) (by omega), oK 0 8 (by omega) (by omega), n3]
    · rw [sf, kf, n3]
  · exact m1.fr (oK _ _ (by omega) (by omega)) oF.2.2.1 oF.2.2.2.1 oF.2.2.2.2
  · by_cases e : c = j
    · subst e
      have hlt : c < N.length := by
        rcases Nat.lt_or_ge c N.length with z | z
        · exact z
        · rw [List.getElem?_eq_none z] at hc
          cases hc
      rw [List.getElem?_set_self hlt] at hj
      cases hj
      intro k hk h6
      by_cases e7 : k = 7
      · subst e7
        rw [dd7]
        exact s25
      · rw [dd_o _ _ e7, oB _ _ (by have : fR k = 25 → k = 7 := by
                                      rcases (by omega : k = 0 ∨ k = 1 ∨ k = 2 ∨ k = 3 ∨ k = 4 ∨ k = 5 ∨ k = 6 ∨ k = 8) with rfl | rfl | rfl | rfl | rfl | rfl | rfl | rfl <;> simp [fR]
                                    omega) (by have := fR_b k; omega)]
        exact m2.2 c m hc k hk (fun z => by have := h6 z; rw [dd_o _ _ (by omega)] at this; exact this)
    · rw [List.getElem?_set_ne e] at hj
      intro k hk h6
      rw [oB _ _ (by omega) (by have := fR_b k; omega)]
      exact m2.2 j x hj k hk h6
  · rcases hf with ⟨rfl, rfl⟩ | ⟨rfl, rfl⟩
    · rw [sf, kf, gc]
    · rw [oB 0 40 (by omega) (by omega), oK 0 7 (by omega) (by omega), gc]
/-- a copy is handed over -/
theorem hand (hS : Sim E A B M N) (hI : Idle E A) (hq : q < sU A) (hmC : mgC A q m) (hG : GM E m) (hc : N[c]? = some m) (hm : 0 ≤ m 7) (h1 : M.length + 1 ≤ lv N + 6000) (h2 : N.length + 1 ≤ lv N + 6000) :
    ∃ b A2 B2, b < eN E ∧ m 1 = nI b ∧ CR E 77 0 [some (.ref (aK E 0)), some (.ref (aM E q)), none] A none A2 ∧ sU A2 = sU A ∧ sM A2 q 1 = nI b ∧ Sim E A2 B2 M (N.set c (dd m)) ∧ Idle E A2 ∧ KP b A B A2 B2 ∧
      ((sS B 10 b = 0 ∧ sN A2 b 0 8 = 0 ∧ RR E 102 0 [some (.ref (aS E 0)), some (.int (m 1)), some (.int (m 0)), some (.int (m 2)), some (.int (m 3)), some (.int (m 4)), some (.int (m 5)), some (.int (sS B 32 c)), some (.int 1), none, none] (uS (uS (uS B 25 c (-1)) 0 38 (sS B 0 38 - 1)) 0 40 (sS B 0 40 + 1)) none B2) ∨
       (¬ sS B 10 b = 0 ∧ 0 < sN A2 b 0 8 ∧ B2 = uS (uS (uS B 25 c (-1)) 0 38 (sS B 0 38 - 1)) 0 41 (sS B 0 41 + 1))) := by
  obtain ⟨a, b, h, r, k, ha, hb, hba, hh1, hh, hr, hk, e0, e1, e2, e3, e4, e5, e8, egv⟩ := hG
  have hn := hS.1.1.2.2.2
  have n0 : sM A q 0 = nI a := (hmC 0 (by omega) (by omega)).trans e0
  have n1 : sM A q 1 = nI b := (hmC 1 (by omega) (by omega)).trans e1
  have n2 : sM A q 2 = nI h := (hmC 2 (by omega) (by omega)).trans e2
  have n3 : sM A q 3 = nI r := (hmC 3 (by omega) (by omega)).trans e3
  have n4 : sM A q 4 = nI k := (hmC 4 (by omega) (by omega)).trans e4
  have n5 : sM A q 5 = m 5 := hmC 5 (by omega) (by omega)
  have cb : (nI b).toNatClampNeg = b := nI_clamp (by omega)
  have cut := (hS.2.2.2.2 b hb).1.2.2.1
  have m0 : ∀ B0, sM (mix A B0) q 1 = nI b := fun B0 => n1
  rcases cut with ⟨c1, c2, c3⟩ | ⟨c1, c2⟩
  · have hS1 := hS.cnt (f := 8) (f' := 41) (Or.inr ⟨rfl, rfl⟩) hc hm h1 h2
    refine ⟨b, uK (uK A 1 2 (sK A 1 2 - 1)) 0 8 (sK A 0 8 + 1), _, hb, e1, fun B0 K hK => T77 (show q < sU (mix A B0) from hq) ?_, by rw [fUK, fUK], by rw [fMK, fMK]; exact n1, hS1, fun j hj => by rw [fNK, fNK]; exact hI j hj, ⟨fun l y1 y2 y3 => by rw [rKo _ (by omega), rKo _ (by omega)], fun j => ⟨by rw [rSo _ (by omega), rSo _ (by omega), rSo _ (by omega)], by rw [rSo _ (by omega), rSo _ (by omega), rSo _ (by omega)]⟩, fun j e => ⟨by rw [rSo _ (by omega), rSo _ (by omega), rSo _ (by omega)], by rw [rSo _ (by omega), rSo _ (by omega), rSo _ (by omega)]⟩⟩, Or.inr ⟨by rw [c1]; exact one0, by rw [fNK, fNK]; exact c3, rfl⟩⟩
    rw [m0, cb, mxK]
    rintro _ rfl
    refine ⟨⟨nI_pos (by omega), hb⟩, fun z => absurd c3 (nlt.2 z), fun _ => ?_⟩
    rw [pK, mxK, rKo _ (by omega)]
    rintro _ rfl
    rw [pK]
    exact hK
  · have hS1 := hS.cnt (f := 7) (f' := 40) (Or.inl ⟨rfl, rfl⟩) hc hm h1 h2
    have oM : ∀ q l, sM (uK (uK A 1 2 (sK A 1 2 - 1)) 0 7 (sK A 0 7 + 1)) q l = sM A q l := fun q l => by rw [fMK, fMK]
    obtain ⟨A2, B2, w1, w2, w3, w4, w5, w6, w7, w8, w9⟩ := kept (q := q) (a := a) (b := b) (h := h) (r := r) (k := k) (qr := sS B 32 c) hS1 hb (by rw [fUK, fUK]; exact hq) (by rw [oM]; exact n0) (by rw [oM]; exact n1) (by rw [oM]; exact n2) (by rw [oM]; exact n3) (by rw [oM]; exact n4) ha hr hk hh1 hh (by rw [oM, n5]; exact e5) (fun z => by
      subst z
      have e6 : m 4 = 0 := e4
      have n6 : sM A q 6 = m 6 := hmC 6 (by omega) (fun _ => e6)
      obtain ⟨u, m1, m2, _⟩ := hS.1.2.2.2.1
      have s6 : sS B 32 c = m 6 := m2.2 c m hc 6 (by omega) (fun _ => e6)
      rw [oM, oM, n6, n5, s6]
      exact ⟨rfl, (egv rfl).1, (egv rfl).2.1, (egv rfl).2.2⟩)
    have o9 : ∀ v j, 2 ≤ v → v < 16 → sS B2 v j = sS B v j := fun v j y1 y2 => by rw [w9 v j y1 y2, rSo _ (by omega), rSo _ (by omega), rSo _ (by omega)]
    have oN : ∀ j l, sN A2 j 0 l = sN A j 0 l := fun j l => by rw [w7, fNK, fNK]
    refine ⟨b, A2, B2, hb, e1, fun B0 K hK => T77 (show q < sU (mix A B0) from hq) ?_, by rw [w6, fUK, fUK], by rw [w5, oM]; exact n1, w3, fun j hj => by rw [oN]; exact hI j hj, ⟨fun l y1 y2 y3 => by rw [w8, rKo _ (by omega), rKo _ (by omega)], fun j => ⟨o9 9 j (by omega) (by omega), o9 10 j (by omega) (by omega)⟩, fun j e => ⟨o9 2 j (by omega) (by omega), o9 3 j (by omega) (by omega)⟩⟩, Or.inl ⟨c1, by rw [oN]; exact c2, ?_⟩⟩
    · rw [m0, cb, mxK]
      rintro _ rfl
      refine ⟨⟨nI_pos (by omega), hb⟩, fun _ => ?_, fun z => absurd ?_ z⟩
      · rw [pK, mxK, rKo _ (by omega)]
        rintro _ rfl
        rw [pK]
        exact w1 B0 K hK
      · rw [mxN, c2]
        decide
    · rw [oM, n5] at w2
      rw [e0, e1, e2, e3, e4]
      exact w2
/-- what has come of M0 in pass p, before c -/
def dlv (t : Int32) (p c j : Nat) (m : Mg) : Bool := decide (m 7 = t ∧ ((p = 1 ∧ m 8 = 0) ∨ (m 8 = nI p ∧ j < c)))
def mkN (t : Int32) (p c : Nat) (M0 : List Mg) : List Mg := M0.mapIdx (fun j m => if dlv t p c j m then dd m else m)
theorem mkN_get (t : Int32) (p c : Nat) (M0 : List Mg) (j : Nat) : (mkN t p c M0)[j]? = (M0[j]?).map (fun m => if dlv t p c j m then dd m else m) := by
  unfold mkN
  rw [List.getElem?_mapIdx]
theorem mkN_len (t : Int32) (p c : Nat) (M0 : List Mg) : (mkN t p c M0).length = M0.length := by
  unfold mkN
  rw [List.length_mapIdx]
theorem mkN_0 (t : Int32) (M0 : List Mg) : mkN t 0 0 M0 = M0 := by
  refine List.ext_getElem? (fun j => ?_)
  rw [mkN_get]
  cases M0[j]? with
  | none => rfl
  | some m =>
    show some (if dlv t 0 0 j m then dd m else m) = some m
    rw [if_neg]
    unfold dlv
    rw [decide_eq_true_iff]
    rintro ⟨_, ⟨z, _⟩ | ⟨_, z⟩⟩ <;> omega
theorem mkN_01 {t : Int32} {M0 : List Mg} (h : ∀ m, m ∈ M0 → m 8 = 0 ∨ m 8 = 1) : mkN t 1 0 M0 = mkN t 0 M0.length M0 := by
  refine List.ext_getElem? (fun j => ?_)
  rw [mkN_get, mkN_get]
  cases hj : M0[j]? with
  | none => rfl
  | some m =>
    have hlt : j < M0.length := by
      rcases Nat.lt_or_ge j M0.length with z | z
      · exact z
      · rw [List.getElem?_eq_none z] at hj
        cases hj
    show some (if dlv t 1 0 j m then dd m else m) = some (if dlv t 0 M0.length j m then dd m else m)
    have : dlv t 1 0 j m = dlv t 0 M0.length j m := by
      unfold dlv
      rw [decide_eq_decide]
      constructor
      · rintro ⟨z1, ⟨_, z2⟩ | ⟨_, z2⟩⟩
        · exact ⟨z1, Or.inr ⟨z2, hlt⟩⟩
        · omega
      · rintro ⟨z1, ⟨z2, _⟩ | ⟨z2, _⟩⟩
        · omega
        · exact ⟨z1, Or.inl ⟨rfl, z2⟩⟩
    rw [this]
theorem mkN_set {t : Int32} {p : Nat} {M0 : List Mg} (hc : M0[c]? = some m) (h7 : m 7 = t) (h8 : m 8 = nI p) : mkN t p (c + 1) M0 = (mkN t p c M0).set c (dd m) := by
  refine List.ext_getElem? (fun j => ?_)
  have hlt : c < (mkN t p c M0).length := by
    rw [mkN_len]
    rcases Nat.lt_or_ge c M0.length with z | z
    · exact z
    · rw [List.getElem?_eq_none z] at hc
      cases hc
  by_cases e : c = j
  · subst e
    rw [List.getElem?_set_self hlt, mkN_get, hc]
    show some (if dlv t p (c + 1) c m then dd m else m) = _
    rw [if_pos]
    unfold dlv
    rw [decide_eq_true_iff]
    exact ⟨h7, Or.inr ⟨h8, by omega⟩⟩
  · rw [List.getElem?_set_ne e, mkN_get, mkN_get]
    cases M0[j]? with
    | none => rfl
    | some x =>
      show some (if dlv t p (c + 1) j x then dd x else x) = some (if dlv t p c j x then dd x else x)
      have : dlv t p (c + 1) j x = dlv t p c j x := by
        unfold dlv
        rw [decide_eq_decide]
        constructor
        · rintro ⟨z1, z2 | ⟨z2, z3⟩⟩
          · exact ⟨z1, Or.inl z2⟩
          · exact ⟨z1, Or.inr ⟨z2, by omega⟩⟩
        · rintro ⟨z1, z2 | ⟨z2, z3⟩⟩
          · exact ⟨z1, Or.inl z2⟩
          · exact ⟨z1, Or.inr ⟨z2, by omega⟩⟩
      rw [this]
theorem mkN_same {t : Int32} {p : Nat} {M0 : List Mg} (hc : M0[c]? = some m) (h7 : ¬ (m 7 = t ∧ m 8 = nI p)) : mkN t p (c + 1) M0 = mkN t p c M0 := by
  refine List.ext_getElem? (fun j => ?_)
  rw [mkN_get, mkN_get]
  cases hj : M0[j]? with
  | none => rfl
  | some x =>
    show some (if dlv t p (c + 1) j x then dd x else x) = some (if dlv t p c j x then dd x else x)
    have : dlv t p (c + 1) j x = dlv t p c j x := by
      unfold dlv
      rw [decide_eq_decide]
      constructor
      · rintro ⟨z1, z2 | ⟨z2, z3⟩⟩
        · exact ⟨z1, Or.inl z2⟩
        · refine ⟨z1, Or.inr ⟨z2, ?_⟩⟩
          by_cases e : j = c
          · subst e
            rw [hc] at hj
            cases hj
            exact absurd ⟨z1, z2⟩ h7
          · omega
      · rintro ⟨z1, z2 | ⟨z2, z3⟩⟩
        · exact ⟨z1, Or.inl z2⟩
        · exact ⟨z1, Or.inr ⟨z2, by omega⟩⟩
    rw [this]
end Deliver
