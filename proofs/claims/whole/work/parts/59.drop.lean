/-! ===== what came is dropped ===== -/
def keepL (t : Int32) (M : List Mg) : List Mg := M.filter (fun m => decide (t < m 7))
def liveL (N : List Mg) : List Mg := N.filter (fun m => decide (0 ≤ m 7))
section Drop
variable {E : mE} {A B : mS} {M N : List Mg} {t : Int32}
theorem filt_s (f : Mg → Bool) (M : List Mg) (k : Nat) (m : Mg) (h : M[k]? = some m) : (M.take (k + 1)).filter f = (M.take k).filter f ++ (if f m then [m] else []) := by
  rw [List.take_succ, h, List.filter_append]
  show _ = _
  by_cases e : f m = true
  · rw [if_pos e]
    simp [e]
  · rw [if_neg e]
    simp [e]
theorem filt_l (f : Mg → Bool) (M : List Mg) (k : Nat) : ((M.take k).filter f).length ≤ k := by
  have h1 := List.length_filter_le f (M.take k)
  have h2 := List.length_take_le k M
  omega
/-- slots while dropping: left are kept in front, from k on as before -/
def DRP (A A' : mS) (M : List Mg) (t : Int32) (k : Nat) : Prop := (∀ i c l, sN A' i c l = sN A i c l) ∧ (∀ i j, sR A' i j = sR A i j) ∧ (∀ v l, sK A' v l = sK A v l) ∧ (∀ q l, sM A' q l = sM A q l) ∧ sU A' = sU A ∧
  (∀ j, j < sU A → ∃ q, q < sU A ∧ sQ A' j = some q) ∧ (∀ j, sU A ≤ j → sQ A' j = none) ∧ (∀ a b q, sQ A' a = some q → sQ A' b = some q → a = b) ∧ (∀ j m, (keepL t (M.take k))[j]? = some m → ∃ q, sQ A' j = some q ∧ mgC A q m) ∧ ∀ j m, k ≤ j → M[j]? = some m → ∃ q, sQ A' j = some q ∧ mgC A q m
theorem uQ_r (S : mS) (j : Nat) (x : Option Nat) (i : Nat) : sQ (uQ S j x) i = if i = j then x else sQ S i := Eq.trans rfl rfl
theorem c_drop1 (hM : MC A M) : ∀ d k A', k + d = M.length → DRP A A' M t k → ∃ A2, DRP A A2 M t M.length ∧ ∀ (B0 : mS) (K : Option Value → mS → Prop), K none (mix (uK A2 1 1 (nI (keepL t M).length)) B0) → ES E 33 4 [some (.ref (aK E 1)), some (.int t), some (.int (nI (keepL t (M.take k)).length)), some (.int (nI k)), none] [] (mix A' B0) K := by
  intro d
  induction d with
  | zero =>
    intro k A' hk hD
    have e : k = M.length := by omega
    subst e
    refine ⟨A', hD, fun B0 K hK => T33_4 ⟨fun _ => ?_, fun z => absurd ?_ z⟩⟩
    · rw [List.take_length]
      rintro _ rfl
      rw [pK]
      exact hK
    · rw [mxK, hD.2.2.1, hM.1]
      exact Int32.le_refl _
  | succ d ih =>
    intro k A' hk hD
    obtain ⟨d1, d2, d3, d4, d5, d6, d7, d8, d9, d10⟩ := hD
    have hl := hM.2.1
    have hu := hM.2.2.1
    obtain ⟨m, hm⟩ : ∃ m, M[k]? = some m := ⟨M[k]'(by omega), List.getElem?_eq_getElem _⟩
    obtain ⟨q, q1, q2⟩ := d10 k m (Nat.le_refl _) hm
    have ck : (nI k).toNatClampNeg = k := nI_clamp (by omega)
    have lk := filt_l (fun m => decide (t < m 7)) M k
    have hlk : (keepL t (M.take k)).length ≤ k := lk
    have cl : (nI (keepL t (M.take k)).length).toNatClampNeg = (keepL t (M.take k)).length := nI_clamp (by omega)
    have fs : keepL t (M.take (k + 1)) = keepL t (M.take k) ++ (if decide (t < m 7) then [m] else []) := filt_s (fun m => decide (t < m 7)) M k m hm
    have m7 : sM A' q 7 = m 7 := (d4 q 7).trans (q2 7 (by omega) (by omega))
    have klt : ∀ B0, ¬ sK (mix A' B0) 1 1 ≤ nI k := fun B0 => by
      rw [mxK, d3, hM.1, le_n (by omega) (by omega)]
      omega
    by_cases e : t < m 7
    · -- it stays
      obtain ⟨q9, y1, y2⟩ := d6 (keepL t (M.take k)).length (by omega)
      generalize hA1 : uQ (uQ A' k (some q9)) (keepL t (M.take k)).length (some q) = A1
      have oQ : ∀ j, sQ A1 j = if j = (keepL t (M.take k)).length then some q else if j = k then some q9 else sQ A' j := fun j => by rw [← hA1, uQ_r, uQ_r]
      have hD1 : DRP A A1 M t (k + 1) := by
        refine ⟨fun i c l => by rw [← hA1, fNQ, fNQ, d1], fun i j => by rw [← hA1, fRQ, fRQ, d2], fun v l => by rw [← hA1, fKQ, fKQ, d3], fun q l => by rw [← hA1, fMQ, fMQ, d4], by rw [← hA1, fUQ, fUQ, d5], fun j hj => ?_, fun j hj => ?_, fun a b x ha hb => ?_, fun j x hj => ?_, fun j x h1 h2 => ?_⟩
        · rw [oQ]
          by_cases z1 : j = (keepL t (M.take k)).length
          · rw [if_pos z1]
            obtain ⟨q', z2, z3⟩ := d6 k (by omega)
            rw [q1] at z3
            cases z3
            exact ⟨q, z2, rfl⟩
          · rw [if_neg z1]
            by_cases z2 : j = k
            · rw [if_pos z2]
              exact ⟨q9, y1, rfl⟩
            · rw [if_neg z2]
              exact d6 j hj
        · rw [oQ, if_neg (by omega), if_neg (by omega)]
          exact d7 j hj
        · rw [oQ] at ha hb
          by_cases a1 : a = (keepL t (M.take k)).length <;> by_cases b1 : b = (keepL t (M.take k)).length
          · omega
          · rw [if_pos a1] at ha
            rw [if_neg b1] at hb
            cases ha
            by_cases b2 : b = k
            · rw [if_pos b2] at hb
              cases hb
              have := d8 _ _ _ q1 y2
              omega
            · rw [if_neg b2] at hb
              have := d8 _ _ _ q1 hb
              omega
          · rw [if_neg a1] at ha
            rw [if_pos b1] at hb
            cases hb
            by_cases a2 : a = k
            · rw [if_pos a2] at ha
              cases ha
              have := d8 _ _ _ q1 y2
              omega
            · rw [if_neg a2] at ha
              have := d8 _ _ _ q1 ha
              omega
          · rw [if_neg a1] at ha
            rw [if_neg b1] at hb
            by_cases a2 : a = k <;> by_cases b2 : b = k
            · omega
            · rw [if_pos a2] at ha
              rw [if_neg b2] at hb
              cases ha
              have := d8 _ _ _ y2 hb
              omega
            · rw [if_neg a2] at ha
              rw [if_pos b2] at hb
              cases hb
              have := d8 _ _ _ y2 ha
              omega
            · rw [if_neg a2] at ha
              rw [if_neg b2] at hb
              exact d8 a b x ha hb
        · rw [fs, if_pos (decide_eq_true e)] at hj
          rw [oQ]
          by_cases z1 : j < (keepL t (M.take k)).length
          · rw [List.getElem?_append_left z1] at hj
            rw [if_neg (by omega), if_neg (by omega)]
            exact d9 j x hj
          · rw [List.getElem?_append_right (by omega)] at hj
            have z2 : j - (keepL t (M.take k)).length = 0 := by
              rcases Nat.eq_zero_or_pos (j - (keepL t (M.take k)).length) with z | z
              · exact z
              · rw [List.getElem?_eq_none (by simp; omega)] at hj
                cases hj
            rw [z2] at hj
            have z3 : m = x := by simpa using hj
            subst z3
            rw [if_pos (by omega)]
            exact ⟨q, rfl, q2⟩
        · rw [oQ, if_neg (by omega), if_neg (by omega)]
          exact d10 j x (by omega) h2
      obtain ⟨A2, z1, z2⟩ := ih (k + 1) A1 (by omega) hD1
      refine ⟨A2, z1, fun B0 K hK => T33_4 ⟨fun z => absurd z (klt B0), fun _ => ?_⟩⟩
      rw [ck, cl, nI_1, nI_1]
      refine ⟨⟨nI_pos (by omega), by omega⟩, q, q1, fun z => ?_, fun _ => ⟨⟨nI_pos (by omega), by omega⟩, q9, y2, ?_⟩⟩
      · rw [mxM, m7] at z
        exact absurd e (nlt.2 z)
      · rintro _ rfl _ rfl
        rw [pQ, pQ, hA1]
        have := z2 B0 K hK
        rw [fs, if_pos (decide_eq_true e), List.length_append] at this
        exact this
    · -- it goes
      have fs2 : keepL t (M.take (k + 1)) = keepL t (M.take k) := by rw [fs, if_neg (by rw [decide_eq_false e]; decide), List.append_nil]
      obtain ⟨A2, z1, z2⟩ := ih (k + 1) A' (by omega) ⟨d1, d2, d3, d4, d5, d6, d7, d8, by rw [fs2]; exact d9, fun j x h1 h2 => d10 j x (by omega) h2⟩
      refine ⟨A2, z1, fun B0 K hK => T33_4 ⟨fun z => absurd z (klt B0), fun _ => ?_⟩⟩
      rw [ck, cl, nI_1]
      refine ⟨⟨nI_pos (by omega), by omega⟩, q, q1, fun _ => ?_, fun z => ?_⟩
      · have := z2 B0 K hK
        rw [fs2] at this
        exact this
      · refine absurd ?_ z
        rw [mxM, m7]
        exact nlt.1 e
theorem c_drop (hM : MC A M) : ∃ A2, CR E 33 0 [some (.ref (aK E 1)), some (.int t), none, none, none] A none A2 ∧ MC A2 (keepL t M) ∧ (∀ i c l, sN A2 i c l = sN A i c l) ∧ (∀ i j, sR A2 i j = sR A i j) ∧ ∀ v l, ¬ (v = 1 ∧ l = 1) → sK A2 v l = sK A v l := by
  have hl := hM.2.1
  have hu := hM.2.2.1
  obtain ⟨A2, ⟨d1, d2, d3, d4, d5, d6, d7, d8, d9, d10⟩, z2⟩ := c_drop1 (E := E) (t := t) hM M.length 0 A (by omega) ⟨fun _ _ _ => rfl, fun _ _ => rfl, fun _ _ => rfl, fun _ _ => rfl, rfl, hM.2.2.2.1, hM.2.2.2.2.1, hM.2.2.2.2.2.1, fun j m h => by simp [keepL] at h, fun j m _ h => hM.2.2.2.2.2.2 j m h⟩
  have hlen : (keepL t M).length ≤ M.length := List.length_filter_le _ _
  rw [List.take_length] at d9
  refine ⟨uK A2 1 1 (nI (keepL t M).length), fun B0 K hK => T33 (z2 B0 K hK), ⟨by rw [rKs], by rw [fUK, d5]; omega, by rw [fUK, d5]; exact hu, fun j hj => ?_, fun j hj => ?_, fun a b q ha hb => ?_, fun j m hj => ?_⟩, fun i c l => by rw [fNK, d1], fun i j => by rw [fRK, d2], fun v l h => by rw [rKo _ h, d3]⟩
  · rw [fUK, d5] at hj ⊢
    rw [fQK]
    exact d6 j hj
  · rw [fUK, d5] at hj
    rw [fQK]
    exact d7 j hj
  · rw [fQK] at ha hb
    exact d8 a b q ha hb
  · obtain ⟨q, q1, q2⟩ := d9 j m hj
    refine ⟨q, by rw [fQK]; exact q1, fun k hk h6 => ?_⟩
    rw [fMK, d4]
    exact q2 k hk h6
/-- the reference moves a copy -/
def rT (B : mS) (s c : Nat) : mS := uS (uS (uS (uS (uS (uS (uS (uS (uS B 25 s (sS B 25 c)) 26 s (sS B 26 c)) 27 s (sS B 27 c)) 28 s (sS B 28 c)) 29 s (sS B 29 c)) 30 s (sS B 30 c)) 31 s (sS B 31 c)) 32 s (sS B 32 c)) 33 s (sS B 33 c)
theorem rT_s (B : mS) (s c k : Nat) (hk : k < 9) : sS (rT B s c) (fR k) s = sS B (fR k) c := by
  unfold rT
  rcases (by omega : k = 0 ∨ k = 1 ∨ k = 2 ∨ k = 3 ∨ k = 4 ∨ k = 5 ∨ k = 6 ∨ k = 7 ∨ k = 8) with rfl | rfl | rfl | rfl | rfl | rfl | rfl | rfl | rfl <;> simp [fR, rS]
theorem rT_o (B : mS) (s c v l : Nat) (h : ¬ (25 ≤ v ∧ v ≤ 33 ∧ l = s)) : sS (rT B s c) v l = sS B v l := by
  unfold rT
  rw [rSo _ (by omega), rSo _ (by omega), rSo _ (by omega), rSo _ (by omega), rSo _ (by omega), rSo _ (by omega), rSo _ (by omega), rSo _ (by omega), rSo _ (by omega)]
theorem rT_W (B : mS) (s c l : Nat) : sW (rT B s c) l = sW B l := by
  unfold rT
  rw [fWS, fWS, fWS, fWS, fWS, fWS, fWS, fWS, fWS]
def TDY (B B' : mS) (N : List Mg) (c : Nat) : Prop := (∀ v l, v < 25 ∨ 33 < v → sS B' v l = sS B v l) ∧ (∀ l, sW B' l = sW B l) ∧ (∀ j m, (liveL (N.take c))[j]? = some m → mgR B' j m) ∧ ∀ j m, c ≤ j → N[j]? = some m → mgR B' j m
theorem r_tidy1 (hN : MR B N) (hl : N.length ≤ 20000) (h8 : ∀ m, m ∈ N → m 8 = 0 ∨ m 8 = 1) : ∀ d c B', c + d = N.length → TDY B B' N c → ∃ B2, TDY B B2 N N.length ∧ ∀ (A0 : mS) (K : Option Value → mS → Prop), K none (mix A0 (uS B2 0 37 (nI (liveL N).length))) → ES E 129 4 [some (.ref (aS E 0)), some (.int (nI (liveL (N.take c)).length)), some (.int (nI c))] [] (mix A0 B') K := by
  intro d
  induction d with
  | zero =>
    intro c B' hc hD
    have e : c = N.length := by omega
    subst e
    refine ⟨B', hD, fun A0 K hK => T129_4 ⟨fun _ => ?_, fun z => absurd ?_ z⟩⟩
    · rw [List.take_length]
      rintro _ rfl
      rw [pS]
      exact hK
    · rw [mxS, hD.1 0 37 (by omega), hN.1]
      exact Int32.le_refl _
  | succ d ih =>
    intro c B' hc hD
    obtain ⟨d1, d2, d3, d4⟩ := hD
    obtain ⟨m, hm⟩ : ∃ m, N[c]? = some m := ⟨N[c]'(by omega), List.getElem?_eq_getElem _⟩
    have hmg := d4 c m (Nat.le_refl _) hm
    have cc : (nI c).toNatClampNeg = c := nI_clamp (by omega)
    have hlc : (liveL (N.take c)).length ≤ c := filt_l (fun m => decide (0 ≤ m 7)) N c
    have cl : (nI (liveL (N.take c)).length).toNatClampNeg = (liveL (N.take c)).length := nI_clamp (by omega)
    have fs : liveL (N.take (c + 1)) = liveL (N.take c) ++ (if decide (0 ≤ m 7) then [m] else []) := filt_s (fun m => decide (0 ≤ m 7)) N c m hm
    have m7 : ∀ A0, sS (mix A0 B') 25 c = m 7 := fun A0 => hmg 7 (by omega) (by omega)
    have m8 : sS B' 33 c = m 8 := hmg 8 (by omega) (by omega)
    have klt : ∀ A0, ¬ sS (mix A0 B') 0 37 ≤ nI c := fun A0 => by
      rw [mxS, d1 0 37 (by omega), hN.1, le_n (by omega) (by omega)]
      omega
    by_cases e : 0 ≤ m 7
    · generalize hs : (liveL (N.take c)).length = s at *
      have hD1 : TDY B (rT B' s c) N (c + 1) := by
        refine ⟨fun v l z => by rw [rT_o _ _ _ _ _ (by omega), d1 v l z], fun l => by rw [rT_W, d2], fun j x hj => ?_, fun j x h1 h2 => ?_⟩
        · rw [fs, if_pos (decide_eq_true e)] at hj
          by_cases z1 : j < s
          · rw [List.getElem?_append_left (by omega)] at hj
            intro k hk h6
            rw [rT_o _ _ _ _ _ (by omega)]
            exact d3 j x hj k hk h6
          · rw [List.getElem?_append_right (by omega)] at hj
            have z2 : j - (liveL (N.take c)).length = 0 := by
              rcases Nat.eq_zero_or_pos (j - (liveL (N.take c)).length) with z | z
              · exact z
              · rw [List.getElem?_eq_none (by simp; omega)] at hj
                cases hj
            rw [z2] at hj
            have z3 : m = x := by simpa using hj
            subst z3
            have z4 : j = s := by omega
            subst z4
            intro k hk h6
            rw [rT_s _ _ _ _ hk]
            exact hmg k hk h6
        · intro k hk h6
          rw [rT_o _ _ _ _ _ (by omega)]
          exact d4 j x (by omega) h2 k hk h6
      obtain ⟨B2, z1, z2⟩ := ih (c + 1) (rT B' s c) (by omega) hD1
      refine ⟨B2, z1, fun A0 K hK => T129_4 ⟨fun z => absurd z (klt A0), fun _ => ?_⟩⟩
      rw [cc, cl, nI_1, nI_1, m7]
      refine ⟨⟨nI_pos (by omega), by omega⟩, fun z => absurd z (m2_n e).2.2.1, fun _ => ⟨⟨nI_pos (by omega), by omega⟩, ?_⟩⟩
      have go := z2 A0 K hK
      rw [fs, if_pos (decide_eq_true e), List.length_append, hs, show [m].length = 1 from rfl] at go
      rintro _ rfl
      rw [← m7 A0]
      rw [rSo _ (by omega)]
      rintro _ rfl
      rw [rSo _ (by omega), rSo _ (by omega)]
      rintro _ rfl
      rw [rSo _ (by omega), rSo _ (by omega), rSo _ (by omega)]
      rintro _ rfl
      rw [rSo _ (by omega), rSo _ (by omega), rSo _ (by omega), rSo _ (by omega)]
      rintro _ rfl
      rw [rSo _ (by omega), rSo _ (by omega), rSo _ (by omega), rSo _ (by omega), rSo _ (by omega)]
      rintro _ rfl
      rw [rSo _ (by omega), rSo _ (by omega), rSo _ (by omega), rSo _ (by omega), rSo _ (by omega), rSo _ (by omega)]
      rintro _ rfl
      rw [rSo _ (by omega), rSo _ (by omega), rSo _ (by omega), rSo _ (by omega), rSo _ (by omega), rSo _ (by omega), rSo _ (by omega)]
      rintro _ rfl
      rw [rSo _ (by omega), rSo _ (by omega), rSo _ (by omega), rSo _ (by omega), rSo _ (by omega), rSo _ (by omega), rSo _ (by omega), rSo _ (by omega)]
      refine ⟨by rw [mxS, m8]; exact h8 m (List.mem_of_getElem? hm), ?_⟩
      rintro _ rfl
      rw [pS, pS, pS, pS, pS, pS, pS, pS, pS]
      exact go
    · have fs2 : liveL (N.take (c + 1)) = liveL (N.take c) := by rw [fs, if_neg (by rw [decide_eq_false e]; decide), List.append_nil]
      obtain ⟨B2, z1, z2⟩ := ih (c + 1) B' (by omega) ⟨d1, d2, by rw [fs2]; exact d3, fun j x h1 h2 => d4 j x (by omega) h2⟩
      refine ⟨B2, z1, fun A0 K hK => T129_4 ⟨fun z => absurd z (klt A0), fun _ => ?_⟩⟩
      rw [cc, cl, nI_1, m7]
      refine ⟨⟨nI_pos (by omega), by omega⟩, fun _ => ?_, fun z => absurd ?_ z⟩
      · have := z2 A0 K hK
        rw [fs2] at this
        exact this
      · rw [Int32.le_iff_toInt_le, Int32.toInt_zero] at e
        rw [Int32.lt_iff_toInt_lt, Int32.toInt_zero]
        omega
theorem r_tidy (hN : MR B N) (hl : N.length ≤ 20000) (h8 : ∀ m, m ∈ N → m 8 = 0 ∨ m 8 = 1) : ∃ B2, RR E 129 0 [some (.ref (aS E 0)), none, none] B none B2 ∧ MR B2 (liveL N) ∧ (∀ v l, v < 25 ∨ 33 < v → ¬ (v = 0 ∧ l = 37) → sS B2 v l = sS B v l) ∧ ∀ l, sW B2 l = sW B l := by
  obtain ⟨B2, ⟨d1, d2, d3, d4⟩, z2⟩ := r_tidy1 (E := E) hN hl h8 N.length 0 B (by omega) ⟨fun _ _ _ => rfl, fun _ => rfl, fun j m h => by simp [liveL] at h, fun j m _ h => hN.2 j m h⟩
  rw [List.take_length] at d3
  refine ⟨uS B2 0 37 (nI (liveL N).length), fun A0 K hK => T129 (z2 A0 K hK), ⟨by rw [rSs], fun j m hj k hk h6 => ?_⟩, fun v l h1 h2 => by rw [rSo _ h2, d1 v l h1], fun l => by rw [fWS, d2]⟩
  rw [rSo _ (by have := fR_b k; omega)]
  exact d3 j m hj k hk h6
end Drop
