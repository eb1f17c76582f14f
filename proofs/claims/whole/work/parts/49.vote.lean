/-! ===== a vote goes; rules that answer what has come ===== -/
def Vf (u : Option (Int32 × Int32)) (i : Nat) (B : mS) : mS := match u with
  | none => B
  | some (x, y) => uS (uS B 7 i x) 8 i y
theorem Vf_o (u : Option (Int32 × Int32)) (i : Nat) (B : mS) (v l : Nat) (h : ¬ (l = i ∧ (v = 7 ∨ v = 8))) : sS (Vf u i B) v l = sS B v l := by
  cases u with
  | none => rfl
  | some p =>
    obtain ⟨x, y⟩ := p
    show sS (uS (uS B 7 i x) 8 i y) v l = _
    rw [rSo _ (by omega), rSo _ (by omega)]
theorem Vf_W (u : Option (Int32 × Int32)) (i : Nat) (B : mS) (l : Nat) : sW (Vf u i B) l = sW B l := by
  cases u with
  | none => rfl
  | some p =>
    obtain ⟨x, y⟩ := p
    show sW (uS (uS B 7 i x) 8 i y) l = _
    rw [fWS, fWS]
/-- how much is left to do for node i -/
def mu (B : mS) (i : Nat) : Nat := (41 - (sS B 2 i).toNatClampNeg) * 181 + (29 - (sS B 3 i).toNatClampNeg) * 6 + (2 - (sS B 4 i).toNatClampNeg) + (1 - (sS B 13 i).toNatClampNeg) + (1 - (sS B 14 i).toNatClampNeg) + (1 - (sS B 15 i).toNatClampNeg)
def POST (E : mE) (i : Nat) (A B A2 B2 : mS) (M N X : List Mg) : Prop := Sim E A2 B2 (M ++ X) (N ++ X) ∧ Idle E A2 ∧ KP i A B A2 B2 ∧ (∀ m, m ∈ X → GM E m ∧ sK A 0 5 < m 7) ∧ mu B2 i < mu B i
abbrev dsp (E : mE) (i : Nat) (A A' : mS) : Prop := CR E 72 0 [some (.ref (aK E 0)), some (.ref (aN E i 0)), none, none, none, none, none, none] A none A'
/-- a rule doesn't go on either side, or goes on both -/
def RUL (E : mE) (i m : Nat) (l : mL) (n : Nat) (lr : mL) (A B : mS) (M N : List Mg) : Prop := (CR E m 0 l A (some (.int 0)) A ∧ RR E n 0 lr B (some (.int 0)) B) ∨ ∃ A1 A2 B2 X, CR E m 0 l A (some (.int 1)) A1 ∧ dsp E i A1 A2 ∧ RR E n 0 lr B (some (.int 1)) B2 ∧ POST E i A B A2 B2 M N X
section Vote
variable {E : mE} {A B A' B' : mS} {M N : List Mg} {i g r k : Nat} {w : Int32}
theorem R1.lk (h : R1 E A B i) (h2 : sN A' i 0 2 = sN A i 0 2) (h7 : sN A' i 0 7 = sN A i 0 7) (h8 : sN A' i 0 8 = sN A i 0 8) (hd : ∀ d l, 6 ≤ d ∧ d ≤ 8 → sN A' i d l = sN A i d l) (hw : ∀ v l, 12 ≤ v → sK A' v l = sK A v l) (hB : ∀ v, v = 2 ∨ v = 9 ∨ v = 10 ∨ v = 11 → sS B' v i = sS B v i) (hB2 : ∀ v h, 21 ≤ v → v ≤ 23 → h ≤ 40 → sS B' v (10 * h + i) = sS B v (10 * h + i)) (hW : ∀ h, h ≤ 40 → sW B' (10 * h + i) = sW B (10 * h + i)) (hl : PLk1 A' B' i) : R1 E A' B' i := by
  obtain ⟨a, b, c, _, e⟩ := h
  refine ⟨?_, ?_, ?_, hl, ?_⟩
  · unfold PHt1 at a ⊢
    rw [h2, hB 2 (by omega)]
    exact a
  · unfold PBe1 at b ⊢
    rw [h7, hB 11 (by omega)]
    exact b
  · unfold PCu1 at c ⊢
    rw [h8, hB 10 (by omega), hB 9 (by omega)]
    exact c
  · intro h hh q1 q2 q3 q4
    rw [hB 2 (by omega)] at q4
    have := e h hh q1 q2 q3 q4
    rw [hd 6 h (by omega), hd 7 h (by omega), hd 8 h (by omega), hB2 21 h (by omega) (by omega) q2, hB2 22 h (by omega) (by omega) q2, hB2 23 h (by omega) (by omega) q2, hW h q2, wsum_cg (w := fun s => sK A' (12 + h) s) (w' := fun s => sK A (12 + h) s) _ (fun k _ => hw _ _ (by omega))]
    exact this
/-- small changes at node i -/
theorem Sim.up (h : Sim E A B M N) (hF : FNn A A') (hA : ∀ j d l, ¬ (j = i ∧ ((1 ≤ d ∧ d ≤ 4) ∨ (d = 0 ∧ (l = 3 ∨ l = 4)))) → sN A' j d l = sN A j d l) (hB : ∀ v l, ¬ (((3 ≤ v ∧ v ≤ 8) ∨ (13 ≤ v ∧ v ≤ 15)) ∧ l = i) → ¬ (v = 12 ∧ (l = 3 * i ∨ l = 3 * i + 1 ∨ l = 3 * i + 2)) → sS B' v l = sS B v l) (hW : ∀ l, sW B' l = sW B l) (hl : PLk1 A' B' i) (h2 : R2 E A' B' i) : Sim E A' B' M N := by
  obtain ⟨a, b, c, rg, rest⟩ := h
  refine ⟨a.fr hF (fun j c l z => hA j c l (by omega)) (fun v l z => hB v l (by omega) (by omega)), b.fr hF.2.1 (fun l => hB 2 l (by omega) (by omega)) (fun j d l z => hA j d l (by omega)) (fun p => hB 17 p (by omega) (by omega)) (fun p => hB 18 p (by omega) (by omega)), c.fr (fun l => hB 2 l (by omega) (by omega)) (fun j d l z1 z2 => hA j d l (by omega)) (fun p => hB 19 p (by omega) (by omega)) (fun p => hB 20 p (by omega) (by omega)), rg.fr (fun v l _ => hF.1 v l) (hF.1 0 7) (fun l => hB 1 l (by omega) (by omega)) (fun l => hB 37 l (by omega) (by omega)) (fun l _ => hB 0 l (by omega) (by omega)), fun j hj => ?_⟩
  by_cases e : j = i
  · subst e
    exact ⟨(rest j hj).1.lk (hA _ _ _ (by omega)) (hA _ _ _ (by omega)) (hA _ _ _ (by omega)) (fun d l z => hA _ _ _ (by omega)) (fun v l _ => hF.1 v l) (fun v z => hB v j (by omega) (by omega)) (fun v h _ _ _ => hB v _ (by omega) (by omega)) (fun h _ => hW _) hl, h2⟩
  · exact ⟨(rest j hj).1.fr (hA _ _ _ (by omega)) (hA _ _ _ (by omega)) (hA _ _ _ (by omega)) (fun d l z => hA _ _ _ (by omega)) (fun v l _ => hF.1 v l) (fun v z => hB v j (by omega) (by omega)) (fun v h _ _ _ => hB v _ (by omega) (by omega)) (fun h _ => hW _), (rest j hj).2.fr (hA _ _ _ (by omega)) (hA _ _ _ (by omega)) (fun d l _ _ => hA _ _ _ (by omega)) (fun v z => hB v j (by omega) (by omega)) (fun k hk => hB 12 _ (by omega) (by omega))⟩
/-- node i votes, on both sides -/
theorem vote (u : Option (Int32 × Int32)) (hS : Sim E A B M N) (hI : Idle E A) (hi : i < eN E) (h40 : g ≤ 40) (b2 : sS B 2 i = nI g) (hk : k = 1 ∨ k = 2) (hw : 0 ≤ w) (hu : ∀ a b, u = some (a, b) → ∃ r, r < 30 ∧ sS B 3 i = nI r ∧ b = nI r ∧ gv E i g r a) :
    ∃ A1 A2 B2 X, CR E 40 0 [some (.ref (aN E i 0)), some (.int (nI k)), some (.int w), some (.int (-1)), none, none] A none A1 ∧ dsp E i (Uf u i A1) A2 ∧ RR E 101 0 [some (.ref (aS E 0)), some (.int (nI i)), some (.int (nI k)), some (.int w), some (.int (-9)), none, none, none, none, none, none, none] B none B2 ∧
      Sim E A2 (Vf u i (uS B2 4 i (nI k))) (M ++ X) (N ++ X) ∧ Idle E A2 ∧ KP i A B A2 (Vf u i (uS B2 4 i (nI k))) ∧ (∀ m, m ∈ X → GM E m ∧ sK A 0 5 < m 7) ∧ FBS B B2 ∧ ((∀ l, ¬ l = 4 → ¬ l = 17 → sN A1 i 0 l = sN A i 0 l) ∧ FNn A A1) ∧ (sS (Vf u i (uS B2 4 i (nI k))) 4 i = nI k ∧ ∀ v, ¬ v = 4 → v < 7 ∨ v = 13 ∨ v = 14 ∨ v = 15 → ¬ v = 0 → sS (Vf u i (uS B2 4 i (nI k))) v i = sS B v i) := by
  obtain ⟨hN, hBa, hSi, hRG, hR⟩ := hS
  obtain ⟨⟨⟨h', q1, q2, q3, q4⟩, hbe, _⟩, ⟨r, hr, a3, b3⟩, _⟩ := hR i hi
  have eg : h' = g := by
    rw [b2, nI_eq (by omega) (by omega)] at q4
    exact q4.symm
  subst eg
  obtain ⟨A1, A2, B2, X, s1, s2, s3, s4, s5, s6, s7, s8, s9, s10, s11, s12, s13, s14, s15, s16⟩ := snd (w := w) (qc := -1) (qr := -9) u hN hi q1 h40 hr (show k < 3 by omega) q3 a3 b2 b3 hbe hBa hSi ⟨hw, fun z => by omega⟩
  generalize hB3 : Vf u i (uS B2 4 i (nI k)) = B3
  have o3 : ∀ v l, ¬ (l = i ∧ (v = 4 ∨ v = 7 ∨ v = 8)) → sS B3 v l = sS B2 v l := fun v l z => by rw [← hB3, Vf_o _ _ _ _ _ (by omega), rSo _ (by omega)]
  have o4 : sS B3 4 i = nI k := by rw [← hB3, Vf_o _ _ _ _ _ (by omega), rSs]
  have oW : ∀ l, sW B3 l = sW B l := fun l => by rw [← hB3, Vf_W, fWS, s13.2]
  have ob : ∀ v l, v < 25 ∨ v = 37 → v < 16 ∨ 20 < v → (v = 0 → l < 37 ∨ l = 40 ∨ 45 < l) → ¬ (l = i ∧ (v = 4 ∨ v = 7 ∨ v = 8)) → sS B3 v l = sS B v l := fun v l z1 z2 z3 z4 => by rw [o3 v l z4, s13.1 v l z1 z2 z3]
  have oa : ∀ j d l, d < 9 → ¬ d = 2 → ¬ (j = i ∧ d = 0 ∧ (l = 4 ∨ l = 17)) → sN A2 j d l = sN A j d l := fun j d l z1 z2 z3 => by rw [s8 j d l z1 z3, Uf_o _ _ _ _ _ _ (by omega)]
  have n41 : ¬ sS B3 2 i = nI 41 := by
    rw [ob 2 i (by omega) (by omega) (by omega) (by omega), b2, nI_eq (by omega) (by omega)]
    omega
  refine ⟨A1, A2, B2, X, s1, s2, s3, ?_⟩
  rw [hB3]
  refine ⟨⟨?_, ?_, ?_, ?_, fun j hj => ⟨?_, ?_⟩⟩, fun j hj => ?_, ⟨fun l y1 _ y3 => s12 l y1 y3, fun j => ⟨ob _ _ (by omega) (by omega) (by omega) (by omega), ob _ _ (by omega) (by omega) (by omega) (by omega)⟩, fun j e => ⟨ob _ _ (by omega) (by omega) (by omega) (by omega), ob _ _ (by omega) (by omega) (by omega) (by omega)⟩⟩, s14, s13, s16, o4, fun v z1 z2 z3 => ob v i (by omega) (by omega) (by omega) (by omega)⟩
  · exact s4.fr (FNn.rf A2) (fun _ _ _ _ => rfl) (fun v l z => o3 v l (by omega))
  · exact s5.fr (fun _ _ => rfl) (fun l => o3 2 l (by omega)) (fun _ _ _ _ => rfl) (fun p => o3 17 p (by omega)) (fun p => o3 18 p (by omega))
  · exact s6.fr (fun l => o3 2 l (by omega)) (fun _ _ _ _ _ => rfl) (fun p => o3 19 p (by omega)) (fun p => o3 20 p (by omega))
  · exact hRG.fr s11 (s12 7 (by omega) (by omega)) (fun l => ob 1 l (by omega) (by omega) (by omega) (by omega)) (fun l => ob 37 l (by omega) (by omega) (by omega) (by omega)) (fun l z => ob 0 l (by omega) (by omega) (by omega) (by omega))
  · exact (hR j hj).1.fr (oa _ _ _ (by omega) (by omega) (by omega)) (oa _ _ _ (by omega) (by omega) (by omega)) (oa _ _ _ (by omega) (by omega) (by omega)) (fun d l z => oa _ _ _ (by omega) (by omega) (by omega)) (fun v l z => s11 v l (by omega)) (fun v z => ob v j (by omega) (by omega) (by omega) (by omega)) (fun v h _ _ _ => ob v _ (by omega) (by omega) (by omega) (by omega)) (fun h _ => oW _)
  · by_cases e : j = i
    · subst e
      obtain ⟨x1, x2, x3, x4, x5⟩ := (hR j hj).2
      refine ⟨⟨r, hr, by rw [oa _ _ _ (by omega) (by omega) (by omega)]; exact a3, by rw [ob 3 j (by omega) (by omega) (by omega) (by omega)]; exact b3⟩, ⟨⟨k, by omega, by rw [s9, if_neg (by omega)], o4⟩, fun z => absurd z n41⟩, fun r2 hr2 h3 => ?_, fun l hl => ⟨?_, fun z => absurd z n41⟩, fun _ => ?_⟩
      · rw [ob 3 j (by omega) (by omega) (by omega) (by omega)] at h3
        have x3' := x3 r2 hr2 h3
        cases u with
        | none =>
          have e7 : ∀ v, sS B3 v j = sS (uS B2 4 j (nI k)) v j := fun v => by rw [← hB3]; rfl
          refine x3'.fr (Nat.le_refl _) (fun l => by rw [s8 j 2 l (by omega) (by omega)]; rfl) (fun v z => by rw [e7, rSo _ (by omega), s13.1 v j (by omega) (by omega) (by omega)])
        | some p =>
          obtain ⟨x, y⟩ := p
          obtain ⟨r', y1, y2, y3, y4⟩ := hu x y rfl
          have er : r' = r2 := by
            rw [y2, nI_eq (by omega) (by omega)] at h3
            exact h3
          subst er
          have e7 : ∀ v, sS B3 v j = sS (uS (uS (uS B2 4 j (nI k)) 7 j x) 8 j y) v j := fun v => by rw [← hB3]; rfl
          have f0 : sN A2 j 2 0 = x := by
            rw [s8 j 2 0 (by omega) (by omega)]
            show sN (uN (uN A j 2 0 x) j 2 1 y) j 2 0 = x
            rw [rNo _ (by omega), rNs]
          have f1 : sN A2 j 2 1 = y := by
            rw [s8 j 2 1 (by omega) (by omega)]
            show sN (uN (uN A j 2 0 x) j 2 1 y) j 2 1 = y
            rw [rNs]
          have g7 : sS B3 7 j = x := by rw [e7, rSo _ (by omega), rSs]
          have g8 : sS B3 8 j = y := by rw [e7, rSs]
          refine ⟨by rw [f0, g7], by rw [f1, g8], Or.inr ⟨r', h', Nat.le_refl _, by omega, by rw [g8, y3], by rw [ob 2 j (by omega) (by omega) (by omega) (by omega)]; exact b2, by rw [g7]; exact y4⟩⟩
      · rw [oa _ _ _ (by omega) (by omega) (by omega), ob 12 _ (by omega) (by omega) (by omega) (by omega)]
        exact (x4 l hl).1
      · rw [oa _ _ _ (by omega) (by omega) (by omega), oa _ _ _ (by omega) (by omega) (by omega), oa _ _ _ (by omega) (by omega) (by omega), ob 13 j (by omega) (by omega) (by omega) (by omega), ob 14 j (by omega) (by omega) (by omega) (by omega), ob 15 j (by omega) (by omega) (by omega) (by omega)]
        exact x5 (by rw [b2, nI_eq (by omega) (by omega)]; omega)
    · refine (hR j hj).2.fr (oa _ _ _ (by omega) (by omega) (by omega)) (oa _ _ _ (by omega) (by omega) (by omega)) (fun d l z1 z2 => ?_) (fun v z => ob v j (by omega) (by omega) (by omega) (by omega)) (fun k hk => ob 12 _ (by omega) (by omega) (by omega) (by omega))
      rw [s8 j d l (by omega) (by omega), Uf_o _ _ _ _ _ _ (by omega)]
  · by_cases e : j = i
    · subst e
      exact s7
    · rw [oa _ _ _ (by omega) (by omega) (by omega)]
      exact hI j hj
/-- what holds of node i: its height, round and step -/
theorem Sim.at (hS : Sim E A B M N) (hi : i < eN E) (b2 : sS B 2 i = nI g) (h40 : g ≤ 40) : 1 ≤ g ∧ sN A i 0 2 = nI g ∧ ∃ r s, r < 30 ∧ s < 3 ∧ sN A i 0 3 = nI r ∧ sS B 3 i = nI r ∧ sN A i 0 4 = nI s ∧ sS B 4 i = nI s ∧ sN A i 4 0 = sS B 13 i ∧ sN A i 4 1 = sS B 14 i ∧ sN A i 4 2 = sS B 15 i ∧ (sS B 13 i = 0 ∨ sS B 13 i = 1) ∧ (sS B 14 i = 0 ∨ sS B 14 i = 1) ∧ (sS B 15 i = 0 ∨ sS B 15 i = 1) := by
  obtain ⟨hN, hBa, hSi, hRG, hR⟩ := hS
  obtain ⟨⟨⟨h', q1, q2, q3, q4⟩, _⟩, ⟨r, hr, a3, b3⟩, ⟨⟨s, s1, s2, s3⟩, _⟩, _, _, on⟩ := hR i hi
  have eg : h' = g := by
    rw [b2, nI_eq (by omega) (by omega)] at q4
    exact q4.symm
  subst eg
  obtain ⟨o1, o2, o3, o4, o5, o6⟩ := on (by rw [b2, nI_eq (by omega) (by omega)]; omega)
  exact ⟨q1, q3, r, s, hr, s1, a3, b3, s2, s3, o1, o2, o3, o4, o5, o6⟩
theorem mu_lt {g r s s2 : Nat} (hg : g ≤ 40) (hr : r < 30) (hs : s < 3) (hs2 : s2 < 3) (hss : s < s2) (h2 : sS B 2 i = nI g) (h3 : sS B 3 i = nI r) (h4 : sS B 4 i = nI s) (h2' : sS B' 2 i = nI g) (h3' : sS B' 3 i = nI r) (h4' : sS B' 4 i = nI s2) (hd : (sS B 13 i).toNatClampNeg ≤ (sS B' 13 i).toNatClampNeg) (hf : sS B' 14 i = sS B 14 i) (he : sS B' 15 i = sS B 15 i) : mu B' i < mu B i := by
  unfold mu
  rw [h2, h3, h4, h2', h3', h4', hf, he, nI_clamp (by omega), nI_clamp (by omega), nI_clamp (by omega), nI_clamp (by omega)]
  omega
end Vote
