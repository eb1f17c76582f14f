/-! ===== the mail of both sides, as lists of messages ===== -/
/-- a message: sender, receiver, height, round, kind, value, since, due, second -/
abbrev Mg : Type := Nat → Int32
/-- message q is m; of votes the since doesn't count -/
def mgC (A : mS) (q : Nat) (m : Mg) : Prop := ∀ k, k < 9 → (k = 6 → m 4 = 0) → sM A q k = m k
def MC (A : mS) (M : List Mg) : Prop := sK A 1 1 = nI M.length ∧ M.length ≤ sU A ∧ sU A ≤ 12000 ∧ (∀ j, j < sU A → ∃ q, q < sU A ∧ sQ A j = some q) ∧ (∀ j, sU A ≤ j → sQ A j = none) ∧ (∀ a b q, sQ A a = some q → sQ A b = some q → a = b) ∧ ∀ j m, M[j]? = some m → ∃ q, sQ A j = some q ∧ mgC A q m
/-- the reference's row of a message's part -/
def fR (k : Nat) : Nat := match k with
  | 0 => 26
  | 1 => 27
  | 2 => 28
  | 3 => 29
  | 4 => 30
  | 5 => 31
  | 6 => 32
  | 7 => 25
  | _ => 33
def mgR (B : mS) (j : Nat) (m : Mg) : Prop := ∀ k, k < 9 → (k = 6 → m 4 = 0) → sS B (fR k) j = m k
def MR (B : mS) (N : List Mg) : Prop := sS B 0 37 = nI N.length ∧ ∀ j m, N[j]? = some m → mgR B j m
section Post
variable {E : mE} {A B : mS} {M N : List Mg} {i u : Nat} {due sec : Int32}
/-- the message that node i sends now -/
def mkM (A : mS) (i : Nat) (due sec : Int32) : Mg := fun k => if k = 7 then due else if 8 ≤ k then sec else sN A i 16 k
def cP (A : mS) (i q : Nat) (due sec : Int32) : mS := uK (uK (uM (uM (uM (uM (uM (uM (uM (uM (uM A q 0 (sN A i 16 0)) q 1 (sN A i 16 1)) q 2 (sN A i 16 2)) q 3 (sN A i 16 3)) q 4 (sN A i 16 4)) q 5 (sN A i 16 5)) q 6 (sN A i 16 6)) q 7 due) q 8 sec) 1 1 (sK A 1 1 + 1)) 1 2 (sK A 1 2 + 1)
theorem cP_q (A : mS) (i q : Nat) (due sec : Int32) (k : Nat) (hk : k < 9) : sM (cP A i q due sec) q k = mkM A i due sec k := by
  unfold cP
  rw [fMK, fMK]
  have : k = 0 ∨ k = 1 ∨ k = 2 ∨ k = 3 ∨ k = 4 ∨ k = 5 ∨ k = 6 ∨ k = 7 ∨ k = 8 := by omega
  rcases this with rfl | rfl | rfl | rfl | rfl | rfl | rfl | rfl | rfl <;> simp [rM, mkM]
theorem cP_o (A : mS) (i q : Nat) (due sec : Int32) (p k : Nat) (hp : ¬ p = q) : sM (cP A i q due sec) p k = sM A p k := by
  unfold cP
  rw [fMK, fMK]
  simp [rM, hp]
theorem cP_K (A : mS) (i q : Nat) (due sec : Int32) (v k : Nat) (hv : ¬ v = 1) : sK (cP A i q due sec) v k = sK A v k := by
  unfold cP
  rw [rKo _ (fun z => hv z.1), rKo _ (fun z => hv z.1)]
  simp only [fNK, fRK, fQK, fMK, fUK, fSK, fWK, fKN, fRN, fQN, fMN, fUN, fSN, fWN, fKR, fNR, fQR, fMR, fUR, fSR, fWR, fKQ, fNQ, fRQ, fMQ, fUQ, fSQ, fWQ, fKM, fNM, fRM, fQM, fUM, fSM, fWM, fKA, fNA, fRA, fQA, fSA, fWA, fKS, fNS, fRS, fQS, fMS, fUS, fWS, fKW, fNW, fRW, fQW, fMW, fUW, fSW]
theorem cP_1 (A : mS) (i q : Nat) (due sec : Int32) : sK (cP A i q due sec) 1 1 = sK A 1 1 + 1 := by
  unfold cP
  rw [rKo _ (by omega), rKs]
theorem cP_2 (A : mS) (i q : Nat) (due sec : Int32) : sK (cP A i q due sec) 1 2 = sK A 1 2 + 1 := by
  unfold cP
  rw [rKs]
theorem cP_f (A : mS) (i q : Nat) (due sec : Int32) : (∀ i2 c k, sN (cP A i q due sec) i2 c k = sN A i2 c k) ∧ (∀ i2 j, sR (cP A i q due sec) i2 j = sR A i2 j) ∧ (∀ j, sQ (cP A i q due sec) j = sQ A j) ∧ sU (cP A i q due sec) = sU A := by
  unfold cP
  simp only [fNK, fRK, fQK, fMK, fUK, fSK, fWK, fKN, fRN, fQN, fMN, fUN, fSN, fWN, fKR, fNR, fQR, fMR, fUR, fSR, fWR, fKQ, fNQ, fRQ, fMQ, fUQ, fSQ, fWQ, fKM, fNM, fRM, fQM, fUM, fSM, fWM, fKA, fNA, fRA, fQA, fSA, fWA, fKS, fNS, fRS, fQS, fMS, fUS, fWS, fKW, fNW, fRW, fQW, fMW, fUW, fSW]
  exact ⟨fun _ _ _ => trivial, fun _ _ => trivial, fun _ => trivial, trivial⟩
theorem c_post52 {q : Nat} (hi : i < eN E) (hz : sK A 1 1 = nI M.length) (hl : M.length < 12000) (hq : sQ A M.length = some q) (hs : sec = 0 ∨ sec = 1) : CR E 32 52 [some (.ref (aK E 1)), some (.ref (aN E i 16)), some (.int due), some (.int sec), none] A (some (.int 1)) (cP A i q due sec) := by
  intro B K hK
  have c : (sK (mix A B) 1 1).toNatClampNeg = M.length := cl_n hz (by omega)
  refine T32_52 hi ⟨in_n hz (by omega) (by omega), q, by rw [c]; exact hq, ?_⟩
  rintro _ rfl _ rfl _ rfl _ rfl _ rfl _ rfl _ rfl _ rfl
  refine ⟨hs, ?_⟩
  rintro _ rfl _ rfl _ rfl
  unfold cP at hK
  simp only [pK, pN, pR, pQ, pM, pA, pS, pW, mxK, mxN, mxR, mxQ, mxM, mxU, mxS, mxW, fNK, fRK, fQK, fMK, fUK, fSK, fWK, fKN, fRN, fQN, fMN, fUN, fSN, fWN, fKR, fNR, fQR, fMR, fUR, fSR, fWR, fKQ, fNQ, fRQ, fMQ, fUQ, fSQ, fWQ, fKM, fNM, fRM, fQM, fUM, fSM, fWM, fKA, fNA, fRA, fQA, fSA, fWA, fKS, fNS, fRS, fQS, fMS, fUS, fWS, fKW, fNW, fRW, fQW, fMW, fUW, fSW]
  exact hK
theorem mc_put {q : Nat} (h : MC A M) (hl : M.length < sU A) (hq : sQ A M.length = some q) : MC (cP A i q due sec) (M ++ [mkM A i due sec]) := by
  obtain ⟨h1, h2, h3, h4, h5, h6, h7⟩ := h
  obtain ⟨f1, f2, f3, f4⟩ := cP_f A i q due sec
  refine ⟨?_, ?_, by rw [f4]; exact h3, fun j hj => by rw [f4, f3]; rw [f4] at hj; exact h4 j hj, fun j hj => by rw [f3]; rw [f4] at hj; exact h5 j hj, fun a b p ha hb => by rw [f3] at ha hb; exact h6 a b p ha hb, fun j m hj => ?_⟩
  · rw [cP_1, h1, nI_1, List.length_append]
    rfl
  · rw [List.length_append, f4]
    exact hl
  · by_cases hj2 : j < M.length
    · rw [List.getElem?_append_left hj2] at hj
      obtain ⟨p, hp, hm⟩ := h7 j m hj
      refine ⟨p, by rw [f3]; exact hp, fun k hk h6' => ?_⟩
      rw [cP_o _ _ _ _ _ _ _ (fun e => by
        subst e
        have := h6 j M.length p hp hq
        omega)]
      exact hm k hk h6'
    · rw [List.getElem?_append_right (by omega)] at hj
      have e : j = M.length := by
        by_cases e : j = M.length
        · exact e
        · rw [List.getElem?_eq_none (by simp; omega)] at hj
          cases hj
      subst e
      rw [Nat.sub_self] at hj
      have e2 : mkM A i due sec = m := Option.some.inj hj
      subst e2
      exact ⟨q, by rw [f3]; exact hq, fun k hk _ => cP_q _ _ _ _ _ k hk⟩
/-- a slot more -/
theorem mc_new (h : MC A M) (hl : M.length < 12000) (hq : sQ A M.length = none) : MC (uQ (uA A) M.length (some (sU A))) M ∧ sU A = M.length := by
  obtain ⟨h1, h2, h3, h4, h5, h6, h7⟩ := h
  have e : sU A = M.length := by
    rcases Nat.lt_or_ge M.length (sU A) with q | q
    · obtain ⟨p, _, hp⟩ := h4 _ q
      rw [hq] at hp
      cases hp
    · omega
  have g : ∀ j, sQ (uQ (uA A) M.length (some (sU A))) j = if j = M.length then some (sU A) else sQ A j := fun _ => rfl
  have g2 : ∀ p k, ¬ p = sU A → sM (uQ (uA A) M.length (some (sU A))) p k = sM A p k := fun p k hp => by
    show (if p = sU A then (fun _ => 0) else sM A p) k = _
    rw [if_neg hp]
  have hlt : ∀ j p, sQ A j = some p → p < sU A ∧ j < sU A := fun j p hp => by
    rcases Nat.lt_or_ge j (sU A) with q | q
    · obtain ⟨p', hp', hp2⟩ := h4 _ q
      rw [hp] at hp2
      cases hp2
      exact ⟨hp', q⟩
    · rw [h5 j q] at hp
      cases hp
  refine ⟨⟨h1, ?_, ?_, fun j hj => ?_, fun j hj => ?_, fun a b p ha hb => ?_, fun j m hj => ?_⟩, e⟩
  · show M.length ≤ sU A + 1
    omega
  · show sU A + 1 ≤ 12000
    omega
  · have hj2 : j < sU A + 1 := hj
    show ∃ q, q < sU A + 1 ∧ _
    rw [g]
    by_cases q : j = M.length
    · rw [if_pos q]
      exact ⟨_, Nat.lt_succ_self _, rfl⟩
    · rw [if_neg q]
      obtain ⟨p, hp, hp2⟩ := h4 j (by omega)
      exact ⟨p, by omega, hp2⟩
  · have hj2 : sU A + 1 ≤ j := hj
    rw [g, if_neg (by omega)]
    exact h5 j (by omega)
  · rw [g] at ha hb
    by_cases q : a = M.length <;> by_cases q2 : b = M.length
    · omega
    · rw [if_pos q] at ha
      rw [if_neg q2] at hb
      cases ha
      have := (hlt _ _ hb).1
      omega
    · rw [if_neg q] at ha
      rw [if_pos q2] at hb
      cases hb
      have := (hlt _ _ ha).1
      omega
    · rw [if_neg q] at ha
      rw [if_neg q2] at hb
      exact h6 _ _ _ ha hb
  · obtain ⟨p, hp, hm⟩ := h7 j m hj
    have hj2 : j < M.length := by
      rcases Nat.lt_or_ge j M.length with q | q
      · exact q
      · rw [List.getElem?_eq_none q] at hj
        cases hj
    refine ⟨p, by rw [g, if_neg (by omega)]; exact hp, fun k hk h6' => ?_⟩
    rw [g2 p k (by have := (hlt _ _ hp).1; omega)]
    exact hm k hk h6'
/-- what posting leaves of the class's part -/
def FP (A A' : mS) : Prop := (∀ i c k, sN A' i c k = sN A i c k) ∧ (∀ i j, sR A' i j = sR A i j) ∧ ∀ v k, ¬ v = 1 → sK A' v k = sK A v k
/-- the class posts a copy -/
theorem c_post (hi : i < eN E) (h : MC A M) (hl : M.length < 12000) (hu : sK A 1 2 = nI u) (h6 : u < 6000) (hs : sec = 0 ∨ sec = 1) : ∃ A', CR E 32 0 [some (.ref (aK E 1)), some (.ref (aN E i 16)), some (.int due), some (.int sec), none] A (some (.int 1)) A' ∧ MC A' (M ++ [mkM A i due sec]) ∧ sK A' 1 2 = nI (u + 1) ∧ FP A A' := by
  have hz := h.1
  have n6 : ¬ (6000 : Int32) ≤ nI u := by
    rw [show (6000 : Int32) = nI 6000 from rfl, le_n (by omega) (by omega)]
    omega
  cases hq : sQ A M.length with
  | none =>
    obtain ⟨hM, hU⟩ := mc_new h hl hq
    have hq2 : sQ (uQ (uA A) M.length (some (sU A))) M.length = some (sU A) := if_pos rfl
    refine ⟨cP (uQ (uA A) M.length (some (sU A))) i (sU A) due sec, fun B K hK => ?_, mc_put hM (by show M.length < sU A + 1; omega) hq2, ?_, (cP_f _ _ _ _ _).1, (cP_f _ _ _ _ _).2.1, fun v k hv => ?_⟩
    · have c : (sK (mix A B) 1 1).toNatClampNeg = M.length := cl_n hz (by omega)
      refine T32 hi ⟨fun q => absurd (hu ▸ q) n6, fun _ => ⟨fun _ => ⟨in_n hz (by omega) (by omega), fun _ => ?_, fun q4 _ hq4 => ?_⟩, fun q => absurd ?_ q⟩⟩
      · rw [c]
        rintro _ rfl _ rfl
        exact c_post52 (A := uQ (uA A) M.length (some (sU A))) hi hz hl hq2 hs B K hK
      · rw [c, mxQ, hq] at hq4
        cases hq4
      · rw [mxK, hz]
        exact nI_lt hl (by omega)
    · rw [cP_2, fKQ, fKA, hu, nI_1]
    · exact cP_K _ _ _ _ _ v k hv
  | some q =>
    have hU : M.length < sU A := by
      rcases Nat.lt_or_ge M.length (sU A) with p | p
      · exact p
      · rw [h.2.2.2.2.1 _ p] at hq
        cases hq
    refine ⟨cP A i q due sec, fun B K hK => ?_, mc_put h hU hq, ?_, (cP_f _ _ _ _ _).1, (cP_f _ _ _ _ _).2.1, fun v k hv => ?_⟩
    · have c : (sK (mix A B) 1 1).toNatClampNeg = M.length := cl_n hz (by omega)
      refine T32 hi ⟨fun q => absurd (hu ▸ q) n6, fun _ => ⟨fun _ => ⟨in_n hz (by omega) (by omega), fun hn => ?_, fun q4 _ hq4 => ?_⟩, fun q => absurd ?_ q⟩⟩
      · rw [c, mxQ, hq] at hn
        cases hn
      · exact c_post52 hi hz hl hq hs B K hK
      · rw [mxK, hz]
        exact nI_lt hl (by omega)
    · rw [cP_2, hu, nI_1]
    · exact cP_K _ _ _ _ _ v k hv
/-- too many are under way -/
theorem c_full (hi : i < eN E) (hu : sK A 1 2 = nI 6000) : CR E 32 0 [some (.ref (aK E 1)), some (.ref (aN E i 16)), some (.int due), some (.int sec), none] A (some (.int 0)) A := fun B K hK => T32 hi ⟨fun _ => hK, fun q => absurd (by rw [mxK, hu]; decide) q⟩
/-- the reference puts a copy -/
def rP (B : mS) (c : Nat) (m : Mg) : mS := uS (uS (uS (uS (uS (uS (uS (uS (uS (uS (uS B 25 c (m 7)) 26 c (m 0)) 27 c (m 1)) 28 c (m 2)) 29 c (m 3)) 30 c (m 4)) 31 c (m 5)) 32 c (m 6)) 33 c (m 8)) 0 37 (sS B 0 37 + 1)) 0 38 (sS B 0 38 + 1)
theorem rP_c (B : mS) (c : Nat) (m : Mg) (k : Nat) (hk : k < 9) : sS (rP B c m) (fR k) c = m k := by
  have : k = 0 ∨ k = 1 ∨ k = 2 ∨ k = 3 ∨ k = 4 ∨ k = 5 ∨ k = 6 ∨ k = 7 ∨ k = 8 := by omega
  rcases this with rfl | rfl | rfl | rfl | rfl | rfl | rfl | rfl | rfl <;> simp [rS, rP, fR]
theorem rP_o (B : mS) (c : Nat) (m : Mg) (v k : Nat) (h : ¬ (v = 0 ∧ (k = 37 ∨ k = 38))) (h2 : v < 25 ∨ 33 < v ∨ ¬ k = c) : sS (rP B c m) v k = sS B v k := by
  unfold rP
  rw [rSo _ (by omega), rSo _ (by omega), rSo _ (by omega), rSo _ (by omega), rSo _ (by omega), rSo _ (by omega), rSo _ (by omega), rSo _ (by omega), rSo _ (by omega), rSo _ (by omega), rSo _ (by omega)]
theorem fR_b (k : Nat) : 25 ≤ fR k ∧ fR k ≤ 33 := by
  unfold fR
  split <;> omega
theorem mr_put {m : Mg} (h : MR B N) : MR (rP B N.length m) (N ++ [m]) := by
  obtain ⟨h1, h2⟩ := h
  refine ⟨?_, fun j m' hj => ?_⟩
  · unfold rP
    rw [rSo _ (by omega), rSs, h1, nI_1, List.length_append]
    rfl
  · by_cases hj2 : j < N.length
    · rw [List.getElem?_append_left hj2] at hj
      intro k hk h6
      have := fR_b k
      rw [rP_o _ _ _ _ _ (by omega) (by omega)]
      exact h2 j m' hj k hk h6
    · rw [List.getElem?_append_right (by omega)] at hj
      have e : j = N.length := by
        by_cases e : j = N.length
        · exact e
        · rw [List.getElem?_eq_none (by simp; omega)] at hj
          cases hj
      subst e
      rw [Nat.sub_self] at hj
      have e2 : m = m' := Option.some.inj hj
      subst e2
      exact fun k hk _ => rP_c _ _ _ k hk
theorem r_put {m : Mg} (h : MR B N) (hl : N.length < 20000) (hs : m 8 = 0 ∨ m 8 = 1) : RR E 109 0 [some (.ref (aS E 0)), some (.int (m 0)), some (.int (m 1)), some (.int (m 2)), some (.int (m 3)), some (.int (m 4)), some (.int (m 5)), some (.int (m 6)), some (.int (m 7)), some (.int (m 8)), none] B none (rP B N.length m) := by
  intro A K hK
  refine T109 ⟨in_n h.1 hl (by omega), ?_⟩
  have c : (sS (mix A B) 0 37).toNatClampNeg = N.length := cl_n h.1 (by omega)
  rw [c]
  rintro _ rfl _ rfl _ rfl _ rfl _ rfl _ rfl _ rfl _ rfl
  refine ⟨hs, ?_⟩
  rintro _ rfl _ rfl _ rfl
  unfold rP at hK
  have e1 : ∀ S : mS, sS (uS (uS (uS (uS (uS (uS (uS (uS (uS S 25 N.length (m 7)) 26 N.length (m 0)) 27 N.length (m 1)) 28 N.length (m 2)) 29 N.length (m 3)) 30 N.length (m 4)) 31 N.length (m 5)) 32 N.length (m 6)) 33 N.length (m 8)) 0 37 = sS S 0 37 := fun S => by simp [rS]
  have e2 : ∀ (S : mS) (x : Int32), sS (uS (uS (uS (uS (uS (uS (uS (uS (uS (uS S 25 N.length (m 7)) 26 N.length (m 0)) 27 N.length (m 1)) 28 N.length (m 2)) 29 N.length (m 3)) 30 N.length (m 4)) 31 N.length (m 5)) 32 N.length (m 6)) 33 N.length (m 8)) 0 37 x) 0 38 = sS S 0 38 := fun S x => by simp [rS]
  rw [e1, e2]
  simp only [pK, pN, pR, pQ, pM, pA, pS, pW, mxS]
  exact hK
end Post
