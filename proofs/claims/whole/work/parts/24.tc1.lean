/-! ===== what the runs need, over states ===== -/
-- Ballots.put(IIIII)V, from 0
set_option maxRecDepth 8000 in
theorem T11 {E : mE} {i : Nat} {c : Nat} {a1 : Int32} {a2 : Int32} {a3 : Int32} {a4 : Int32} {a5 : Int32} {S : mS} {K : Option Value → mS → Prop} (hi : i < eN E) (hc : Bal c) (H : (¬ ((((a1 * (sN S i c 0)) + a2) * 3) + a3) < 0 ∧ (((((a1 * (sN S i c 0)) + a2) * 3) + a3).toNatClampNeg) < lnB (eN E) c) ∧ (∀ S2, S2 = uN S i (c + 2) (((((a1 * (sN S i c 0)) + a2) * 3) + a3).toNatClampNeg) a4 → ((a3 = 0 → ((¬ a1 < 0 ∧ (a1.toNatClampNeg) < 30) ∧ (∀ S5, S5 = uN S2 i (c + 1) (a1.toNatClampNeg) a5 → ((a1 ≤ (sN S5 i c 3) → (K none S5)) ∧ (¬ a1 ≤ (sN S5 i c 3) → (∀ S7, S7 = uN S5 i c 3 a1 → (K none S7))))))) ∧ (¬ a3 = 0 → ((a1 ≤ (sN S2 i c 3) → (K none S2)) ∧ (¬ a1 ≤ (sN S2 i c 3) → (∀ S9, S9 = uN S2 i c 3 a1 → (K none S9)))))))) : ES E 11 0 [some (.ref (aN E i c)), some (.int a1), some (.int a2), some (.int a3), some (.int a4), some (.int a5)] [] S K := by
  have c1 := H.1
  replace H := H.2
  refine e_al x11_0 rfl (e_PBv x11_1 hi hc (e_il x11_4 rfl (e_al x11_5 rfl (e_gN x11_6 hi (Bal.l hc) (Bal.t hc) (e_ii (v := (a1 * (sN S i c 0))) x11_9 rfl (e_il x11_10 rfl (e_ii (v := ((a1 * (sN S i c 0)) + a2)) x11_11 rfl (e_ic x11_12 (e_ii (v := (((a1 * (sN S i c 0)) + a2) * 3)) x11_13 rfl (e_il x11_14 rfl (e_ii (v := ((((a1 * (sN S i c 0)) + a2) * 3) + a3)) x11_15 rfl (e_il x11_16 rfl (e_waBv x11_18 hi hc c1 ?_)))))))))))))
  let S2 : mS := uN S i (c + 2) (((((a1 * (sN S i c 0)) + a2) * 3) + a3).toNatClampNeg) a4
  replace H := H S2 rfl
  show ES _ _ _ _ _ S2 _
  refine e_il x11_19 rfl (e_ne0 x11_20 (fun c3 => ?_) (fun c3 => ?_))
  · replace H := H.1 c3
    have c4 := H.1
    replace H := H.2
    refine e_al x11_23 rfl (e_PBs x11_24 hi hc (e_il x11_27 rfl (e_il x11_28 rfl (e_waBs x11_30 hi hc c4 ?_))))
    let S5 : mS := uN S2 i (c + 1) (a1.toNatClampNeg) a5
    replace H := H S5 rfl
    show ES _ _ _ _ _ S5 _
    refine e_il x11_31 rfl (e_al x11_32 rfl (e_gN x11_33 hi (Bal.l hc) (Bal.t hc) (e_le x11_36 (fun c6 => ?_) (fun c6 => ?_))))
    · replace H := H.1 c6
      exact e_rv x11_44 H
    · replace H := H.2 c6
      refine e_al x11_39 rfl (e_il x11_40 rfl (e_pN x11_41 hi (Bal.l hc) (Bal.t hc) ?_))
      let S7 : mS := uN S5 i c 3 a1
      replace H := H S7 rfl
      show ES _ _ _ _ _ S7 _
      exact e_rv x11_44 H
  · replace H := H.2 c3
    refine e_il x11_31 rfl (e_al x11_32 rfl (e_gN x11_33 hi (Bal.l hc) (Bal.t hc) (e_le x11_36 (fun c8 => ?_) (fun c8 => ?_))))
    · replace H := H.1 c8
      exact e_rv x11_44 H
    · replace H := H.2 c8
      refine e_al x11_39 rfl (e_il x11_40 rfl (e_pN x11_41 hi (Bal.l hc) (Bal.t hc) ?_))
      let S9 : mS := uN S2 i c 3 a1
      replace H := H S9 rfl
      show ES _ _ _ _ _ S9 _
      exact e_rv x11_44 H

-- Ballots.votersFor(III)I, from 0
set_option maxRecDepth 8000 in
theorem T12 {E : mE} {i : Nat} {c : Nat} {a1 : Int32} {a2 : Int32} {a3 : Int32} {S : mS} {K : Option Value → mS → Prop} (hi : i < eN E) (hc : Bal c) (H : ES E 12 6 [some (.ref (aN E i c)), some (.int a1), some (.int a2), some (.int a3), some (.int 0), some (.int 0)] [] S K) : ES E 12 0 [some (.ref (aN E i c)), some (.int a1), some (.int a2), some (.int a3), none, none] [] S K := by
  exact e_ic x12_0 (e_ist (l' := [some (.ref (aN E i c)), some (.int a1), some (.int a2), some (.int a3), some (.int 0), none]) x12_1 rfl rfl (e_ic x12_3 (e_ist (l' := [some (.ref (aN E i c)), some (.int a1), some (.int a2), some (.int a3), some (.int 0), some (.int 0)]) x12_4 rfl rfl (H))))

-- Ballots.votersFor(III)I, from 6
set_option maxRecDepth 8000 in
theorem T12_6 {E : mE} {i : Nat} {c : Nat} {v1 : Int32} {v2 : Int32} {v3 : Int32} {v4 : Int32} {v5 : Int32} {S : mS} {K : Option Value → mS → Prop} (hi : i < eN E) (hc : Bal c) (H : ((sN S i c 0) ≤ v5 → (K (some (.int v4)) S)) ∧ (¬ (sN S i c 0) ≤ v5 → ((¬ ((((v1 * (sN S i c 0)) + v5) * 3) + v2) < 0 ∧ (((((v1 * (sN S i c 0)) + v5) * 3) + v2).toNatClampNeg) < lnB (eN E) c) ∧ (((sN S i (c + 2) (((((v1 * (sN S i c 0)) + v5) * 3) + v2).toNatClampNeg)) = v3 → (ES E 12 6 [some (.ref (aN E i c)), some (.int v1), some (.int v2), some (.int v3), some (.int (v4 ||| ((1 : Int32) <<< (v5 &&& 31)))), some (.int (v5 + 1))] [] S K)) ∧ (¬ (sN S i (c + 2) (((((v1 * (sN S i c 0)) + v5) * 3) + v2).toNatClampNeg)) = v3 → (ES E 12 6 [some (.ref (aN E i c)), some (.int v1), some (.int v2), some (.int v3), some (.int v4), some (.int (v5 + 1))] [] S K)))))) : ES E 12 6 [some (.ref (aN E i c)), some (.int v1), some (.int v2), some (.int v3), some (.int v4), some (.int v5)] [] S K := by
  refine e_il x12_6 rfl (e_al x12_8 rfl (e_gN x12_9 hi (Bal.l hc) (Bal.t hc) (e_ge x12_12 (fun c1 => ?_) (fun c1 => ?_))))
  · replace H := H.1 c1
    exact e_il x12_42 rfl (e_ri x12_44 H)
  · replace H := H.2 c1
    have c2 := H.1
    replace H := H.2
    refine e_al x12_15 rfl (e_il x12_16 rfl (e_il x12_17 rfl (e_il x12_19 rfl (e_cV (l0 := [some (.ref (aN E i c)), some (.int v1), some (.int v5), some (.int v2)]) x12_20 rfl rfl rfl rfl rfl (fun h hh => (hh.tN hi (Bal.l hc)).trans (Bal.t hc)) (e_al x9_0 rfl (e_PBv x9_1 hi hc (e_il x9_4 rfl (e_al x9_5 rfl (e_gN x9_6 hi (Bal.l hc) (Bal.t hc) (e_ii (v := (v1 * (sN S i c 0))) x9_9 rfl (e_il x9_10 rfl (e_ii (v := ((v1 * (sN S i c 0)) + v5)) x9_11 rfl (e_ic x9_12 (e_ii (v := (((v1 * (sN S i c 0)) + v5) * 3)) x9_13 rfl (e_il x9_14 rfl (e_ii (v := ((((v1 * (sN S i c 0)) + v5) * 3) + v2)) x9_15 rfl (e_iaBv x9_16 hi hc c2 (e_ri x9_17 (e_il x12_23 rfl (e_ne x12_24 (fun c3 => ?_) (fun c3 => ?_)))))))))))))))))))))
    · replace H := H.1 c3
      exact e_il x12_27 rfl (e_ic x12_29 (e_il x12_30 rfl (e_ii (v := ((1 : Int32) <<< (v5 &&& 31))) x12_32 rfl (e_ii (v := (v4 ||| ((1 : Int32) <<< (v5 &&& 31)))) x12_33 rfl (e_ist (l' := [some (.ref (aN E i c)), some (.int v1), some (.int v2), some (.int v3), some (.int (v4 ||| ((1 : Int32) <<< (v5 &&& 31)))), some (.int v5)]) x12_34 rfl rfl (e_inc (l' := [some (.ref (aN E i c)), some (.int v1), some (.int v2), some (.int v3), some (.int (v4 ||| ((1 : Int32) <<< (v5 &&& 31)))), some (.int (v5 + 1))]) x12_36 rfl rfl rfl (e_back (l' := [some (.ref (aN E i c)), some (.int v1), some (.int v2), some (.int v3), some (.int (v4 ||| ((1 : Int32) <<< (v5 &&& 31)))), some (.int (v5 + 1))]) x12_39 rfl (H))))))))
    · replace H := H.2 c3
      exact e_inc (l' := [some (.ref (aN E i c)), some (.int v1), some (.int v2), some (.int v3), some (.int v4), some (.int (v5 + 1))]) x12_36 rfl rfl rfl (e_back (l' := [some (.ref (aN E i c)), some (.int v1), some (.int v2), some (.int v3), some (.int v4), some (.int (v5 + 1))]) x12_39 rfl (H))

-- Ballots.clear()V, from 0
set_option maxRecDepth 8000 in
theorem T13 {E : mE} {i : Nat} {c : Nat} {S : mS} {K : Option Value → mS → Prop} (hi : i < eN E) (hc : Bal c) (H : ES E 13 16 [some (.ref (aN E i c)), some (.int ((((sN S i c 3) + 1) * (sN S i c 0)) * 3)), some (.int 0)] [] S K) : ES E 13 0 [some (.ref (aN E i c)), none, none] [] S K := by
  exact e_al x13_0 rfl (e_gN x13_1 hi (Bal.l hc) (Bal.t hc) (e_ic x13_4 (e_ii (v := ((sN S i c 3) + 1)) x13_5 rfl (e_al x13_6 rfl (e_gN x13_7 hi (Bal.l hc) (Bal.t hc) (e_ii (v := (((sN S i c 3) + 1) * (sN S i c 0))) x13_10 rfl (e_ic x13_11 (e_ii (v := ((((sN S i c 3) + 1) * (sN S i c 0)) * 3)) x13_12 rfl (e_ist (l' := [some (.ref (aN E i c)), some (.int ((((sN S i c 3) + 1) * (sN S i c 0)) * 3)), none]) x13_13 rfl rfl (e_ic x13_14 (e_ist (l' := [some (.ref (aN E i c)), some (.int ((((sN S i c 3) + 1) * (sN S i c 0)) * 3)), some (.int 0)]) x13_15 rfl rfl (H))))))))))))

-- Ballots.clear()V, from 16
set_option maxRecDepth 8000 in
theorem T13_16 {E : mE} {i : Nat} {c : Nat} {v1 : Int32} {v2 : Int32} {S : mS} {K : Option Value → mS → Prop} (hi : i < eN E) (hc : Bal c) (H : (v1 ≤ v2 → (∀ S2, S2 = uN S i c 3 (-1) → (K none S2))) ∧ (¬ v1 ≤ v2 → ((¬ v2 < 0 ∧ (v2.toNatClampNeg) < lnB (eN E) c) ∧ (∀ S4, S4 = uN S i (c + 2) (v2.toNatClampNeg) (-2) → (ES E 13 16 [some (.ref (aN E i c)), some (.int v1), some (.int (v2 + 1))] [] S4 K))))) : ES E 13 16 [some (.ref (aN E i c)), some (.int v1), some (.int v2)] [] S K := by
  refine e_il x13_16 rfl (e_il x13_17 rfl (e_ge x13_18 (fun c1 => ?_) (fun c1 => ?_)))
  · replace H := H.1 c1
    refine e_al x13_35 rfl (e_ic x13_36 (e_pN x13_37 hi (Bal.l hc) (Bal.t hc) ?_))
    let S2 : mS := uN S i c 3 (-1)
    replace H := H S2 rfl
    show ES _ _ _ _ _ S2 _
    exact e_rv x13_40 H
  · replace H := H.2 c1
    have c3 := H.1
    replace H := H.2
    refine e_al x13_21 rfl (e_PBv x13_22 hi hc (e_il x13_25 rfl (e_ic x13_26 (e_waBv x13_28 hi hc c3 ?_))))
    let S4 : mS := uN S i (c + 2) (v2.toNatClampNeg) (-2)
    replace H := H S4 rfl
    show ES _ _ _ _ _ S4 _
    exact e_inc (l' := [some (.ref (aN E i c)), some (.int v1), some (.int (v2 + 1))]) x13_29 rfl rfl rfl (e_back (l' := [some (.ref (aN E i c)), some (.int v1), some (.int (v2 + 1))]) x13_32 rfl (H))

-- Ballots.voters(II)I, from 0
set_option maxRecDepth 8000 in
theorem T14 {E : mE} {i : Nat} {c : Nat} {a1 : Int32} {a2 : Int32} {S : mS} {K : Option Value → mS → Prop} (hi : i < eN E) (hc : Bal c) (H : ES E 14 5 [some (.ref (aN E i c)), some (.int a1), some (.int a2), some (.int 0), some (.int 0)] [] S K) : ES E 14 0 [some (.ref (aN E i c)), some (.int a1), some (.int a2), none, none] [] S K := by
  exact e_ic x14_0 (e_ist (l' := [some (.ref (aN E i c)), some (.int a1), some (.int a2), some (.int 0), none]) x14_1 rfl rfl (e_ic x14_2 (e_ist (l' := [some (.ref (aN E i c)), some (.int a1), some (.int a2), some (.int 0), some (.int 0)]) x14_3 rfl rfl (H))))

-- Ballots.voters(II)I, from 5
set_option maxRecDepth 8000 in
theorem T14_5 {E : mE} {i : Nat} {c : Nat} {v1 : Int32} {v2 : Int32} {v3 : Int32} {v4 : Int32} {S : mS} {K : Option Value → mS → Prop} (hi : i < eN E) (hc : Bal c) (H : ((sN S i c 0) ≤ v4 → (K (some (.int v3)) S)) ∧ (¬ (sN S i c 0) ≤ v4 → ((¬ ((((v1 * (sN S i c 0)) + v4) * 3) + v2) < 0 ∧ (((((v1 * (sN S i c 0)) + v4) * 3) + v2).toNatClampNeg) < lnB (eN E) c) ∧ (((sN S i (c + 2) (((((v1 * (sN S i c 0)) + v4) * 3) + v2).toNatClampNeg)) = (-2) → (ES E 14 5 [some (.ref (aN E i c)), some (.int v1), some (.int v2), some (.int v3), some (.int (v4 + 1))] [] S K)) ∧ (¬ (sN S i (c + 2) (((((v1 * (sN S i c 0)) + v4) * 3) + v2).toNatClampNeg)) = (-2) → (ES E 14 5 [some (.ref (aN E i c)), some (.int v1), some (.int v2), some (.int (v3 ||| ((1 : Int32) <<< (v4 &&& 31)))), some (.int (v4 + 1))] [] S K)))))) : ES E 14 5 [some (.ref (aN E i c)), some (.int v1), some (.int v2), some (.int v3), some (.int v4)] [] S K := by
  refine e_il x14_5 rfl (e_al x14_7 rfl (e_gN x14_8 hi (Bal.l hc) (Bal.t hc) (e_ge x14_11 (fun c1 => ?_) (fun c1 => ?_))))
  · replace H := H.1 c1
    exact e_il x14_38 rfl (e_ri x14_39 H)
  · replace H := H.2 c1
    have c2 := H.1
    replace H := H.2
    refine e_al x14_14 rfl (e_il x14_15 rfl (e_il x14_16 rfl (e_il x14_18 rfl (e_cV (l0 := [some (.ref (aN E i c)), some (.int v1), some (.int v4), some (.int v2)]) x14_19 rfl rfl rfl rfl rfl (fun h hh => (hh.tN hi (Bal.l hc)).trans (Bal.t hc)) (e_al x8_0 rfl (e_PBv x8_1 hi hc (e_il x8_4 rfl (e_al x8_5 rfl (e_gN x8_6 hi (Bal.l hc) (Bal.t hc) (e_ii (v := (v1 * (sN S i c 0))) x8_9 rfl (e_il x8_10 rfl (e_ii (v := ((v1 * (sN S i c 0)) + v4)) x8_11 rfl (e_ic x8_12 (e_ii (v := (((v1 * (sN S i c 0)) + v4) * 3)) x8_13 rfl (e_il x8_14 rfl (e_ii (v := ((((v1 * (sN S i c 0)) + v4) * 3) + v2)) x8_15 rfl (e_iaBv x8_16 hi hc c2 (e_ic x8_17 (e_eq x8_19 (fun c3 => ?_) (fun c3 => ?_))))))))))))))))))))
    · replace H := H.1 c3
      refine e_ic x8_26 (e_rz x8_27 (by decide) (e_eq0 x14_22 (fun _ => ?_) (fun z9 => absurd (by decide) z9)))
      exact e_inc (l' := [some (.ref (aN E i c)), some (.int v1), some (.int v2), some (.int v3), some (.int (v4 + 1))]) x14_32 rfl rfl rfl (e_back (l' := [some (.ref (aN E i c)), some (.int v1), some (.int v2), some (.int v3), some (.int (v4 + 1))]) x14_35 rfl (H))
    · replace H := H.2 c3
      refine e_ic x8_22 (e_goto x8_23 (e_rz x8_27 (by decide) (e_eq0 x14_22 (fun z9 => absurd z9 (by decide)) (fun _ => ?_))))
      exact e_il x14_25 rfl (e_ic x14_26 (e_il x14_27 rfl (e_ii (v := ((1 : Int32) <<< (v4 &&& 31))) x14_29 rfl (e_ii (v := (v3 ||| ((1 : Int32) <<< (v4 &&& 31)))) x14_30 rfl (e_ist (l' := [some (.ref (aN E i c)), some (.int v1), some (.int v2), some (.int (v3 ||| ((1 : Int32) <<< (v4 &&& 31)))), some (.int v4)]) x14_31 rfl rfl (e_inc (l' := [some (.ref (aN E i c)), some (.int v1), some (.int v2), some (.int (v3 ||| ((1 : Int32) <<< (v4 &&& 31)))), some (.int (v4 + 1))]) x14_32 rfl rfl rfl (e_back (l' := [some (.ref (aN E i c)), some (.int v1), some (.int v2), some (.int (v3 ||| ((1 : Int32) <<< (v4 &&& 31)))), some (.int (v4 + 1))]) x14_35 rfl (H))))))))

-- Faults.add(LRoundVotes$Message;I)V, from 0
set_option maxRecDepth 8000 in
theorem T19 {E : mE} {q : Nat} {a2 : Int32} {S : mS} {K : Option Value → mS → Prop} (hq : q < sU S) (H : ((200 : Int32) ≤ (sK S 7 1) → (K none S)) ∧ (¬ (200 : Int32) ≤ (sK S 7 1) → (ES E 20 0 [some (.ref (aK E 7)), some (.ref (aM E q)), none, none] [] S (fun r S2 => ∃ x3 : Int32, r = some (.int x3) ∧ ((x3 = 0 → ((q < sU S2) ∧ ((¬ (((sK S2 7 1) * 6) + 0) < 0 ∧ ((((sK S2 7 1) * 6) + 0).toNatClampNeg) < 1200) ∧ (∀ S7, S7 = uK S2 8 ((((sK S2 7 1) * 6) + 0).toNatClampNeg) (sM S2 q 0) → ((¬ (((sK S2 7 1) * 6) + 1) < 0 ∧ ((((sK S2 7 1) * 6) + 1).toNatClampNeg) < 1200) ∧ (∀ S9, S9 = uK S7 8 ((((sK S2 7 1) * 6) + 1).toNatClampNeg) (sM S2 q 2) → ((¬ (((sK S2 7 1) * 6) + 2) < 0 ∧ ((((sK S2 7 1) * 6) + 2).toNatClampNeg) < 1200) ∧ (∀ S11, S11 = uK S9 8 ((((sK S2 7 1) * 6) + 2).toNatClampNeg) (sM S2 q 3) → ((¬ (((sK S2 7 1) * 6) + 3) < 0 ∧ ((((sK S2 7 1) * 6) + 3).toNatClampNeg) < 1200) ∧ (∀ S13, S13 = uK S11 8 ((((sK S2 7 1) * 6) + 3).toNatClampNeg) (sM S2 q 4) → ((¬ (((sK S2 7 1) * 6) + 4) < 0 ∧ ((((sK S2 7 1) * 6) + 4).toNatClampNeg) < 1200) ∧ (∀ S15, S15 = uK S13 8 ((((sK S2 7 1) * 6) + 4).toNatClampNeg) (sM S2 q 1) → ((¬ (((sK S2 7 1) * 6) + 5) < 0 ∧ ((((sK S2 7 1) * 6) + 5).toNatClampNeg) < 1200) ∧ (∀ S17, S17 = uK S15 8 ((((sK S2 7 1) * 6) + 5).toNatClampNeg) a2 → (∀ S18, S18 = uK S17 7 1 ((sK S17 7 1) + 1) → (K none S18)))))))))))))))) ∧ (¬ x3 = 0 → (K none S2))))))) : ES E 19 0 [some (.ref (aK E 7)), some (.ref (aM E q)), some (.int a2), none] [] S K := by
  refine e_al x19_0 rfl (e_gK x19_1 (by decide) rfl (e_ic x19_4 (e_ge x19_7 (fun c1 => ?_) (fun c1 => ?_))))
  · replace H := H.1 c1
    exact e_rv x19_18 H
  · replace H := H.2 c1
    refine e_al x19_10 rfl (e_al x19_11 rfl (e_cV (l0 := [some (.ref (aK E 7)), some (.ref (aM E q)), none, none]) x19_12 rfl rfl rfl rfl rfl (fun h hh => hh.tK (by decide)) (ES.mono H ?_)))
    rintro _ S2 ⟨x3, rfl, H⟩
    refine e_eq0 x19_15 (fun c4 => ?_) (fun c4 => ?_)
    · replace H := H.1 c4
      have c5 := H.1
      have c6 := H.2.1
      replace H := H.2.2
      refine e_al x19_19 rfl (e_gK x19_20 (by decide) rfl (e_ic x19_23 (e_ii (v := ((sK S2 7 1) * 6)) x19_25 rfl (e_ist (l' := [some (.ref (aK E 7)), some (.ref (aM E q)), some (.int a2), some (.int ((sK S2 7 1) * 6))]) x19_26 rfl rfl (e_al x19_27 rfl (e_PK x19_28 (by decide) rfl rfl (e_il x19_31 rfl (e_ic x19_32 (e_ii (v := (((sK S2 7 1) * 6) + 0)) x19_33 rfl (e_al x19_34 rfl (e_gM x19_35 c5 (e_waK x19_38 (by decide) rfl c6 ?_))))))))))))
      let S7 : mS := uK S2 8 ((((sK S2 7 1) * 6) + 0).toNatClampNeg) (sM S2 q 0)
      replace H := H S7 rfl
      show ES _ _ _ _ _ S7 _
      have c8 := H.1
      replace H := H.2
      refine e_al x19_39 rfl (e_PK x19_40 (by decide) rfl rfl (e_il x19_43 rfl (e_ic x19_44 (e_ii (v := (((sK S2 7 1) * 6) + 1)) x19_45 rfl (e_al x19_46 rfl (e_gM x19_47 c5 (e_waK x19_50 (by decide) rfl c8 ?_)))))))
      let S9 : mS := uK S7 8 ((((sK S2 7 1) * 6) + 1).toNatClampNeg) (sM S2 q 2)
      replace H := H S9 rfl
      show ES _ _ _ _ _ S9 _
      have c10 := H.1
      replace H := H.2
      refine e_al x19_51 rfl (e_PK x19_52 (by decide) rfl rfl (e_il x19_55 rfl (e_ic x19_56 (e_ii (v := (((sK S2 7 1) * 6) + 2)) x19_57 rfl (e_al x19_58 rfl (e_gM x19_59 c5 (e_waK x19_62 (by decide) rfl c10 ?_)))))))
      let S11 : mS := uK S9 8 ((((sK S2 7 1) * 6) + 2).toNatClampNeg) (sM S2 q 3)
      replace H := H S11 rfl
      show ES _ _ _ _ _ S11 _
      have c12 := H.1
      replace H := H.2
      refine e_al x19_63 rfl (e_PK x19_64 (by decide) rfl rfl (e_il x19_67 rfl (e_ic x19_68 (e_ii (v := (((sK S2 7 1) * 6) + 3)) x19_69 rfl (e_al x19_70 rfl (e_gM x19_71 c5 (e_waK x19_74 (by decide) rfl c12 ?_)))))))
      let S13 : mS := uK S11 8 ((((sK S2 7 1) * 6) + 3).toNatClampNeg) (sM S2 q 4)
      replace H := H S13 rfl
      show ES _ _ _ _ _ S13 _
      have c14 := H.1
      replace H := H.2
      refine e_al x19_75 rfl (e_PK x19_76 (by decide) rfl rfl (e_il x19_79 rfl (e_ic x19_80 (e_ii (v := (((sK S2 7 1) * 6) + 4)) x19_81 rfl (e_al x19_82 rfl (e_gM x19_83 c5 (e_waK x19_86 (by decide) rfl c14 ?_)))))))
      let S15 : mS := uK S13 8 ((((sK S2 7 1) * 6) + 4).toNatClampNeg) (sM S2 q 1)
      replace H := H S15 rfl
      show ES _ _ _ _ _ S15 _
      have c16 := H.1
      replace H := H.2
      refine e_al x19_87 rfl (e_PK x19_88 (by decide) rfl rfl (e_il x19_91 rfl (e_ic x19_92 (e_ii (v := (((sK S2 7 1) * 6) + 5)) x19_93 rfl (e_il x19_94 rfl (e_waK x19_95 (by decide) rfl c16 ?_))))))
      let S17 : mS := uK S15 8 ((((sK S2 7 1) * 6) + 5).toNatClampNeg) a2
      replace H := H S17 rfl
      show ES _ _ _ _ _ S17 _
      refine e_al x19_96 rfl (e_dupr x19_97 (e_gK x19_98 (by decide) rfl (e_ic x19_101 (e_ii (v := ((sK S17 7 1) + 1)) x19_102 rfl (e_pK x19_103 (by decide) rfl ?_)))))
      let S18 : mS := uK S17 7 1 ((sK S17 7 1) + 1)
      replace H := H S18 rfl
      show ES _ _ _ _ _ S18 _
      exact e_rv x19_106 H
    · replace H := H.2 c4
      exact e_rv x19_18 H

-- Faults.isKnown(LRoundVotes$Message;)Z, from 0
set_option maxRecDepth 8000 in
theorem T20 {E : mE} {q : Nat} {S : mS} {K : Option Value → mS → Prop} (hq : q < sU S) (H : ES E 20 2 [some (.ref (aK E 7)), some (.ref (aM E q)), some (.int 0), none] [] S K) : ES E 20 0 [some (.ref (aK E 7)), some (.ref (aM E q)), none, none] [] S K := by
  exact e_ic x20_0 (e_ist (l' := [some (.ref (aK E 7)), some (.ref (aM E q)), some (.int 0), none]) x20_1 rfl rfl (H))

-- Faults.isKnown(LRoundVotes$Message;)Z, from 2
set_option maxRecDepth 8000 in
theorem T20_2 {E : mE} {q1 : Nat} {v2 : Int32} {S : mS} {K : Option Value → mS → Prop} (hq1 : q1 < sU S) (H : ((sK S 7 1) ≤ v2 → (K (some (.int 0)) S)) ∧ (¬ (sK S 7 1) ≤ v2 → ((¬ ((v2 * 6) + 0) < 0 ∧ (((v2 * 6) + 0).toNatClampNeg) < 1200) ∧ (((sK S 8 (((v2 * 6) + 0).toNatClampNeg)) = (sM S q1 0) → ((¬ ((v2 * 6) + 1) < 0 ∧ (((v2 * 6) + 1).toNatClampNeg) < 1200) ∧ (((sK S 8 (((v2 * 6) + 1).toNatClampNeg)) = (sM S q1 2) → ((¬ ((v2 * 6) + 2) < 0 ∧ (((v2 * 6) + 2).toNatClampNeg) < 1200) ∧ (((sK S 8 (((v2 * 6) + 2).toNatClampNeg)) = (sM S q1 3) → ((¬ ((v2 * 6) + 3) < 0 ∧ (((v2 * 6) + 3).toNatClampNeg) < 1200) ∧ (((sK S 8 (((v2 * 6) + 3).toNatClampNeg)) = (sM S q1 4) → (K (some (.int 1)) S)) ∧ (¬ (sK S 8 (((v2 * 6) + 3).toNatClampNeg)) = (sM S q1 4) → (ES E 20 2 [some (.ref (aK E 7)), some (.ref (aM E q1)), some (.int (v2 + 1)), none] [] S K))))) ∧ (¬ (sK S 8 (((v2 * 6) + 2).toNatClampNeg)) = (sM S q1 3) → (ES E 20 2 [some (.ref (aK E 7)), some (.ref (aM E q1)), some (.int (v2 + 1)), none] [] S K))))) ∧ (¬ (sK S 8 (((v2 * 6) + 1).toNatClampNeg)) = (sM S q1 2) → (ES E 20 2 [some (.ref (aK E 7)), some (.ref (aM E q1)), some (.int (v2 + 1)), none] [] S K))))) ∧ (¬ (sK S 8 (((v2 * 6) + 0).toNatClampNeg)) = (sM S q1 0) → (ES E 20 2 [some (.ref (aK E 7)), some (.ref (aM E q1)), some (.int (v2 + 1)), none] [] S K)))))) : ES E 20 2 [some (.ref (aK E 7)), some (.ref (aM E q1)), some (.int v2), none] [] S K := by
  refine e_il x20_2 rfl (e_al x20_3 rfl (e_gK x20_4 (by decide) rfl (e_ge x20_7 (fun c1 => ?_) (fun c1 => ?_))))
  · replace H := H.1 c1
    exact e_ic x20_80 (e_rz x20_81 (by decide) H)
  · replace H := H.2 c1
    have c2 := H.1
    replace H := H.2
    refine e_al x20_10 rfl (e_il x20_11 rfl (e_ic x20_12 (e_cV (l0 := [some (.ref (aK E 7)), some (.int v2), some (.int 0)]) x20_13 rfl rfl rfl rfl rfl (fun h hh => hh.tK (by decide)) (e_al x21_0 rfl (e_PK x21_1 (by decide) rfl rfl (e_il x21_4 rfl (e_ic x21_5 (e_ii (v := (v2 * 6)) x21_7 rfl (e_il x21_8 rfl (e_ii (v := ((v2 * 6) + 0)) x21_9 rfl (e_iaK x21_10 (by decide) rfl c2 (e_ri x21_11 (e_al x20_16 rfl (e_gM x20_17 hq1 (e_ne x20_20 (fun c3 => ?_) (fun c3 => ?_))))))))))))))))
    · replace H := H.1 c3
      have c4 := H.1
      replace H := H.2
      refine e_al x20_23 rfl (e_il x20_24 rfl (e_ic x20_25 (e_cV (l0 := [some (.ref (aK E 7)), some (.int v2), some (.int 1)]) x20_26 rfl rfl rfl rfl rfl (fun h hh => hh.tK (by decide)) (e_al x21_0 rfl (e_PK x21_1 (by decide) rfl rfl (e_il x21_4 rfl (e_ic x21_5 (e_ii (v := (v2 * 6)) x21_7 rfl (e_il x21_8 rfl (e_ii (v := ((v2 * 6) + 1)) x21_9 rfl (e_iaK x21_10 (by decide) rfl c4 (e_ri x21_11 (e_al x20_29 rfl (e_gM x20_30 hq1 (e_ne x20_33 (fun c5 => ?_) (fun c5 => ?_))))))))))))))))
      · replace H := H.1 c5
        refine e_ic x20_36 (e_goto x20_37 (e_ist (l' := [some (.ref (aK E 7)), some (.ref (aM E q1)), some (.int v2), some (.int 1)]) x20_41 rfl rfl (e_il x20_42 rfl (e_eq0 x20_43 (fun z9 => absurd z9 (by decide)) (fun _ => ?_)))))
        have c6 := H.1
        replace H := H.2
        refine e_al x20_46 rfl (e_il x20_47 rfl (e_ic x20_48 (e_cV (l0 := [some (.ref (aK E 7)), some (.int v2), some (.int 2)]) x20_49 rfl rfl rfl rfl rfl (fun h hh => hh.tK (by decide)) (e_al x21_0 rfl (e_PK x21_1 (by decide) rfl rfl (e_il x21_4 rfl (e_ic x21_5 (e_ii (v := (v2 * 6)) x21_7 rfl (e_il x21_8 rfl (e_ii (v := ((v2 * 6) + 2)) x21_9 rfl (e_iaK x21_10 (by decide) rfl c6 (e_ri x21_11 (e_al x20_52 rfl (e_gM x20_53 hq1 (e_ne x20_56 (fun c7 => ?_) (fun c7 => ?_))))))))))))))))
        · replace H := H.1 c7
          have c8 := H.1
          replace H := H.2
          refine e_al x20_59 rfl (e_il x20_60 rfl (e_ic x20_61 (e_cV (l0 := [some (.ref (aK E 7)), some (.int v2), some (.int 3)]) x20_62 rfl rfl rfl rfl rfl (fun h hh => hh.tK (by decide)) (e_al x21_0 rfl (e_PK x21_1 (by decide) rfl rfl (e_il x21_4 rfl (e_ic x21_5 (e_ii (v := (v2 * 6)) x21_7 rfl (e_il x21_8 rfl (e_ii (v := ((v2 * 6) + 3)) x21_9 rfl (e_iaK x21_10 (by decide) rfl c8 (e_ri x21_11 (e_al x20_65 rfl (e_gM x20_66 hq1 (e_ne x20_69 (fun c9 => ?_) (fun c9 => ?_))))))))))))))))
          · replace H := H.1 c9
            exact e_ic x20_72 (e_rz x20_73 (by decide) H)
          · replace H := H.2 c9
            exact e_inc (l' := [some (.ref (aK E 7)), some (.ref (aM E q1)), some (.int (v2 + 1)), some (.int 1)]) x20_74 rfl rfl rfl (e_back (l' := [some (.ref (aK E 7)), some (.ref (aM E q1)), some (.int (v2 + 1)), none]) x20_77 rfl (H))
        · replace H := H.2 c7
          exact e_inc (l' := [some (.ref (aK E 7)), some (.ref (aM E q1)), some (.int (v2 + 1)), some (.int 1)]) x20_74 rfl rfl rfl (e_back (l' := [some (.ref (aK E 7)), some (.ref (aM E q1)), some (.int (v2 + 1)), none]) x20_77 rfl (H))
      · replace H := H.2 c5
        refine e_ic x20_40 (e_ist (l' := [some (.ref (aK E 7)), some (.ref (aM E q1)), some (.int v2), some (.int 0)]) x20_41 rfl rfl (e_il x20_42 rfl (e_eq0 x20_43 (fun _ => ?_) (fun z9 => absurd (by decide) z9))))
        exact e_inc (l' := [some (.ref (aK E 7)), some (.ref (aM E q1)), some (.int (v2 + 1)), some (.int 0)]) x20_74 rfl rfl rfl (e_back (l' := [some (.ref (aK E 7)), some (.ref (aM E q1)), some (.int (v2 + 1)), none]) x20_77 rfl (H))
    · replace H := H.2 c3
      refine e_ic x20_40 (e_ist (l' := [some (.ref (aK E 7)), some (.ref (aM E q1)), some (.int v2), some (.int 0)]) x20_41 rfl rfl (e_il x20_42 rfl (e_eq0 x20_43 (fun _ => ?_) (fun z9 => absurd (by decide) z9))))
      exact e_inc (l' := [some (.ref (aK E 7)), some (.ref (aM E q1)), some (.int (v2 + 1)), some (.int 0)]) x20_74 rfl rfl rfl (e_back (l' := [some (.ref (aK E 7)), some (.ref (aM E q1)), some (.int (v2 + 1)), none]) x20_77 rfl (H))

-- Told.find(I)I, from 0
set_option maxRecDepth 8000 in
theorem T23 {E : mE} {a1 : Int32} {S : mS} {K : Option Value → mS → Prop}  (H : ES E 23 2 [some (.ref (aK E 3)), some (.int a1), some (.int 0)] [] S K) : ES E 23 0 [some (.ref (aK E 3)), some (.int a1), none] [] S K := by
  exact e_ic x23_0 (e_ist (l' := [some (.ref (aK E 3)), some (.int a1), some (.int 0)]) x23_1 rfl rfl (H))

-- Told.find(I)I, from 2
set_option maxRecDepth 8000 in
theorem T23_2 {E : mE} {v1 : Int32} {v2 : Int32} {S : mS} {K : Option Value → mS → Prop}  (H : ((sK S 3 3) ≤ v2 → (K (some (.int (-1))) S)) ∧ (¬ (sK S 3 3) ≤ v2 → ((¬ v2 < 0 ∧ (v2.toNatClampNeg) < 60) ∧ (((sK S 4 (v2.toNatClampNeg)) = v1 → (K (some (.int v2)) S)) ∧ (¬ (sK S 4 (v2.toNatClampNeg)) = v1 → (ES E 23 2 [some (.ref (aK E 3)), some (.int v1), some (.int (v2 + 1))] [] S K)))))) : ES E 23 2 [some (.ref (aK E 3)), some (.int v1), some (.int v2)] [] S K := by
  refine e_il x23_2 rfl (e_al x23_3 rfl (e_gK x23_4 (by decide) rfl (e_ge x23_7 (fun c1 => ?_) (fun c1 => ?_))))
  · replace H := H.1 c1
    exact e_ic x23_28 (e_ri x23_29 H)
  · replace H := H.2 c1
    have c2 := H.1
    replace H := H.2
    refine e_al x23_10 rfl (e_PK x23_11 (by decide) rfl rfl (e_il x23_14 rfl (e_iaK x23_15 (by decide) rfl c2 (e_il x23_16 rfl (e_ne x23_17 (fun c3 => ?_) (fun c3 => ?_))))))
    · replace H := H.1 c3
      exact e_il x23_20 rfl (e_ri x23_21 H)
    · replace H := H.2 c3
      exact e_inc (l' := [some (.ref (aK E 3)), some (.int v1), some (.int (v2 + 1))]) x23_22 rfl rfl rfl (e_back (l' := [some (.ref (aK E 3)), some (.int v1), some (.int (v2 + 1))]) x23_25 rfl (H))

-- Told.add(III)Z, from 0
set_option maxRecDepth 8000 in
theorem T24 {E : mE} {a1 : Int32} {a2 : Int32} {a3 : Int32} {S : mS} {K : Option Value → mS → Prop}  (H : ((sK S 3 3) < 60 → ((¬ (sK S 3 3) < 0 ∧ ((sK S 3 3).toNatClampNeg) < 60) ∧ (∀ S3, S3 = uK S 4 ((sK S 3 3).toNatClampNeg) a1 → ((¬ (sK S3 3 3) < 0 ∧ ((sK S3 3 3).toNatClampNeg) < 60) ∧ (∀ S5, S5 = uK S3 5 ((sK S3 3 3).toNatClampNeg) a2 → ((¬ (sK S5 3 3) < 0 ∧ ((sK S5 3 3).toNatClampNeg) < 60) ∧ (∀ S7, S7 = uK S5 6 ((sK S5 3 3).toNatClampNeg) a3 → (∀ S8, S8 = uK S7 3 3 ((sK S7 3 3) + 1) → (K (some (.int 1)) S8))))))))) ∧ (¬ (sK S 3 3) < 60 → (K (some (.int 0)) S))) : ES E 24 0 [some (.ref (aK E 3)), some (.int a1), some (.int a2), some (.int a3)] [] S K := by
  refine e_al x24_0 rfl (e_gK x24_1 (by decide) rfl (e_ic x24_4 (e_lt x24_6 (fun c1 => ?_) (fun c1 => ?_))))
  · replace H := H.1 c1
    have c2 := H.1
    replace H := H.2
    refine e_al x24_11 rfl (e_PK x24_12 (by decide) rfl rfl (e_al x24_15 rfl (e_gK x24_16 (by decide) rfl (e_il x24_19 rfl (e_waK x24_20 (by decide) rfl c2 ?_)))))
    let S3 : mS := uK S 4 ((sK S 3 3).toNatClampNeg) a1
    replace H := H S3 rfl
    show ES _ _ _ _ _ S3 _
    have c4 := H.1
    replace H := H.2
    refine e_al x24_21 rfl (e_PK x24_22 (by decide) rfl rfl (e_al x24_25 rfl (e_gK x24_26 (by decide) rfl (e_il x24_29 rfl (e_waK x24_30 (by decide) rfl c4 ?_)))))
    let S5 : mS := uK S3 5 ((sK S3 3 3).toNatClampNeg) a2
    replace H := H S5 rfl
    show ES _ _ _ _ _ S5 _
    have c6 := H.1
    replace H := H.2
    refine e_al x24_31 rfl (e_PK x24_32 (by decide) rfl rfl (e_al x24_35 rfl (e_gK x24_36 (by decide) rfl (e_il x24_39 rfl (e_waK x24_40 (by decide) rfl c6 ?_)))))
    let S7 : mS := uK S5 6 ((sK S5 3 3).toNatClampNeg) a3
    replace H := H S7 rfl
    show ES _ _ _ _ _ S7 _
    refine e_al x24_41 rfl (e_dupr x24_42 (e_gK x24_43 (by decide) rfl (e_ic x24_46 (e_ii (v := ((sK S7 3 3) + 1)) x24_47 rfl (e_pK x24_48 (by decide) rfl ?_)))))
    let S8 : mS := uK S7 3 3 ((sK S7 3 3) + 1)
    replace H := H S8 rfl
    show ES _ _ _ _ _ S8 _
    exact e_ic x24_51 (e_rz x24_52 (by decide) H)
  · replace H := H.2 c1
    exact e_ic x24_9 (e_rz x24_10 (by decide) H)

-- Told.remove(I)V, from 0
set_option maxRecDepth 8000 in
theorem T25 {E : mE} {a1 : Int32} {S : mS} {K : Option Value → mS → Prop}  (H : (a1 < 0 → (K none S)) ∧ (¬ a1 < 0 → ((a1 < (sK S 3 3) → (∀ S3, S3 = uK S 3 3 ((sK S 3 3) - 1) → ((¬ (sK S3 3 3) < 0 ∧ ((sK S3 3 3).toNatClampNeg) < 60) ∧ ((¬ a1 < 0 ∧ (a1.toNatClampNeg) < 60) ∧ (∀ S6, S6 = uK S3 4 (a1.toNatClampNeg) (sK S3 4 ((sK S3 3 3).toNatClampNeg)) → ((¬ (sK S6 3 3) < 0 ∧ ((sK S6 3 3).toNatClampNeg) < 60) ∧ (∀ S8, S8 = uK S6 5 (a1.toNatClampNeg) (sK S6 5 ((sK S6 3 3).toNatClampNeg)) → ((¬ (sK S8 3 3) < 0 ∧ ((sK S8 3 3).toNatClampNeg) < 60) ∧ (∀ S10, S10 = uK S8 6 (a1.toNatClampNeg) (sK S8 6 ((sK S8 3 3).toNatClampNeg)) → (K none S10)))))))))) ∧ (¬ a1 < (sK S 3 3) → (K none S))))) : ES E 25 0 [some (.ref (aK E 3)), some (.int a1)] [] S K := by
  refine e_il x25_0 rfl (e_lt0 x25_1 (fun c1 => ?_) (fun c1 => ?_))
  · replace H := H.1 c1
    exact e_rv x25_12 H
  · replace H := H.2 c1
    refine e_il x25_4 rfl (e_al x25_5 rfl (e_gK x25_6 (by decide) rfl (e_lt x25_9 (fun c2 => ?_) (fun c2 => ?_))))
    · replace H := H.1 c2
      refine e_al x25_13 rfl (e_dupr x25_14 (e_gK x25_15 (by decide) rfl (e_ic x25_18 (e_ii (v := ((sK S 3 3) - 1)) x25_19 rfl (e_pK x25_20 (by decide) rfl ?_)))))
      let S3 : mS := uK S 3 3 ((sK S 3 3) - 1)
      replace H := H S3 rfl
      show ES _ _ _ _ _ S3 _
      have c4 := H.1
      have c5 := H.2.1
      replace H := H.2.2
      refine e_al x25_23 rfl (e_PK x25_24 (by decide) rfl rfl (e_il x25_27 rfl (e_al x25_28 rfl (e_PK x25_29 (by decide) rfl rfl (e_al x25_32 rfl (e_gK x25_33 (by decide) rfl (e_iaK x25_36 (by decide) rfl c4 (e_waK x25_37 (by decide) rfl c5 ?_))))))))
      let S6 : mS := uK S3 4 (a1.toNatClampNeg) (sK S3 4 ((sK S3 3 3).toNatClampNeg))
      replace H := H S6 rfl
      show ES _ _ _ _ _ S6 _
      have c7 := H.1
      replace H := H.2
      refine e_al x25_38 rfl (e_PK x25_39 (by decide) rfl rfl (e_il x25_42 rfl (e_al x25_43 rfl (e_PK x25_44 (by decide) rfl rfl (e_al x25_47 rfl (e_gK x25_48 (by decide) rfl (e_iaK x25_51 (by decide) rfl c7 (e_waK x25_52 (by decide) rfl c5 ?_))))))))
      let S8 : mS := uK S6 5 (a1.toNatClampNeg) (sK S6 5 ((sK S6 3 3).toNatClampNeg))
      replace H := H S8 rfl
      show ES _ _ _ _ _ S8 _
      have c9 := H.1
      replace H := H.2
      refine e_al x25_53 rfl (e_PK x25_54 (by decide) rfl rfl (e_il x25_57 rfl (e_al x25_58 rfl (e_PK x25_59 (by decide) rfl rfl (e_al x25_62 rfl (e_gK x25_63 (by decide) rfl (e_iaK x25_66 (by decide) rfl c9 (e_waK x25_67 (by decide) rfl c5 ?_))))))))
      let S10 : mS := uK S8 6 (a1.toNatClampNeg) (sK S8 6 ((sK S8 3 3).toNatClampNeg))
      replace H := H S10 rfl
      show ES _ _ _ _ _ S10 _
      exact e_rv x25_68 H
    · replace H := H.2 c2
      exact e_rv x25_12 H

-- Setup.changeWeight(III)V, from 0
set_option maxRecDepth 8000 in
theorem T27 {E : mE} {a1 : Int32} {a2 : Int32} {a3 : Int32} {S : mS} {K : Option Value → mS → Prop}  (H : ES E 27 3 [some (.ref (aK E 9)), some (.int a1), some (.int a2), some (.int a3), some (.int a3)] [] S K) : ES E 27 0 [some (.ref (aK E 9)), some (.int a1), some (.int a2), some (.int a3), none] [] S K := by
  exact e_il x27_0 rfl (e_ist (l' := [some (.ref (aK E 9)), some (.int a1), some (.int a2), some (.int a3), some (.int a3)]) x27_1 rfl rfl (H))

-- Setup.changeWeight(III)V, from 3
set_option maxRecDepth 8000 in
theorem T27_3 {E : mE} {v1 : Int32} {v2 : Int32} {v3 : Int32} {v4 : Int32} {S : mS} {K : Option Value → mS → Prop}  (H : ((40 : Int32) < v4 → (K none S)) ∧ (¬ (40 : Int32) < v4 → ((¬ v4 < 0 ∧ (v4.toNatClampNeg) < 41) ∧ ((¬ v1 < 0 ∧ (v1.toNatClampNeg) < eN E) ∧ (∀ S4, S4 = uK S 10 (v4.toNatClampNeg) ((sK S 10 (v4.toNatClampNeg)) + (v2 - (sK S (12 + (v4.toNatClampNeg)) (v1.toNatClampNeg)))) → (∀ S5, S5 = uK S4 (12 + (v4.toNatClampNeg)) (v1.toNatClampNeg) v2 → (ES E 27 3 [some (.ref (aK E 9)), some (.int v1), some (.int v2), some (.int v3), some (.int (v4 + 1))] [] S5 K))))))) : ES E 27 3 [some (.ref (aK E 9)), some (.int v1), some (.int v2), some (.int v3), some (.int v4)] [] S K := by
  refine e_il x27_3 rfl (e_ic x27_5 (e_gt x27_7 (fun c1 => ?_) (fun c1 => ?_)))
  · replace H := H.1 c1
    exact e_rv x27_47 H
  · replace H := H.2 c1
    have c2 := H.1
    have c3 := H.2.1
    replace H := H.2.2
    refine e_al x27_10 rfl (e_PK x27_11 (by decide) rfl rfl (e_il x27_14 rfl (e_dup2 x27_16 (e_iaK x27_17 (by decide) rfl c2 (e_il x27_18 rfl (e_al x27_19 rfl (e_PK x27_20 (by decide) rfl rfl (e_il x27_23 rfl (e_aaW x27_25 c2 (e_il x27_26 rfl (e_iaR x27_27 c2.2 c3 (e_ii (v := (v2 - (sK S (12 + (v4.toNatClampNeg)) (v1.toNatClampNeg)))) x27_28 rfl (e_ii (v := ((sK S 10 (v4.toNatClampNeg)) + (v2 - (sK S (12 + (v4.toNatClampNeg)) (v1.toNatClampNeg))))) x27_29 rfl (e_waK x27_30 (by decide) rfl c2 ?_))))))))))))))
    let S4 : mS := uK S 10 (v4.toNatClampNeg) ((sK S 10 (v4.toNatClampNeg)) + (v2 - (sK S (12 + (v4.toNatClampNeg)) (v1.toNatClampNeg))))
    replace H := H S4 rfl
    show ES _ _ _ _ _ S4 _
    refine e_al x27_31 rfl (e_PK x27_32 (by decide) rfl rfl (e_il x27_35 rfl (e_aaW x27_37 c2 (e_il x27_38 rfl (e_il x27_39 rfl (e_waR x27_40 c2.2 c3 ?_))))))
    let S5 : mS := uK S4 (12 + (v4.toNatClampNeg)) (v1.toNatClampNeg) v2
    replace H := H S5 rfl
    show ES _ _ _ _ _ S5 _
    exact e_inc (l' := [some (.ref (aK E 9)), some (.int v1), some (.int v2), some (.int v3), some (.int (v4 + 1))]) x27_41 rfl rfl rfl (e_back (l' := [some (.ref (aK E 9)), some (.int v1), some (.int v2), some (.int v3), some (.int (v4 + 1))]) x27_44 rfl (H))

-- Setup.weightOfAll(II)I, from 0
set_option maxRecDepth 8000 in
theorem T30 {E : mE} {a1 : Int32} {a2 : Int32} {S : mS} {K : Option Value → mS → Prop}  (H : ES E 30 5 [some (.ref (aK E 9)), some (.int a1), some (.int a2), some (.int 0), some (.int 0)] [] S K) : ES E 30 0 [some (.ref (aK E 9)), some (.int a1), some (.int a2), none, none] [] S K := by
  exact e_ic x30_0 (e_ist (l' := [some (.ref (aK E 9)), some (.int a1), some (.int a2), some (.int 0), none]) x30_1 rfl rfl (e_ic x30_2 (e_ist (l' := [some (.ref (aK E 9)), some (.int a1), some (.int a2), some (.int 0), some (.int 0)]) x30_3 rfl rfl (H))))

-- Setup.weightOfAll(II)I, from 5
set_option maxRecDepth 8000 in
theorem T30_5 {E : mE} {v1 : Int32} {v2 : Int32} {v3 : Int32} {v4 : Int32} {S : mS} {K : Option Value → mS → Prop}  (H : ((sK S 9 0) ≤ v4 → (K (some (.int v3)) S)) ∧ (¬ (sK S 9 0) ≤ v4 → ((((v1 >>> (v4 &&& 31)) &&& 1) = 1 → ((¬ v2 < 0 ∧ (v2.toNatClampNeg) < 41) ∧ ((¬ v4 < 0 ∧ (v4.toNatClampNeg) < eN E) ∧ (ES E 30 5 [some (.ref (aK E 9)), some (.int v1), some (.int v2), some (.int (v3 + (sK S (12 + (v2.toNatClampNeg)) (v4.toNatClampNeg)))), some (.int (v4 + 1))] [] S K)))) ∧ (¬ ((v1 >>> (v4 &&& 31)) &&& 1) = 1 → (ES E 30 5 [some (.ref (aK E 9)), some (.int v1), some (.int v2), some (.int v3), some (.int (v4 + 1))] [] S K))))) : ES E 30 5 [some (.ref (aK E 9)), some (.int v1), some (.int v2), some (.int v3), some (.int v4)] [] S K := by
  refine e_il x30_5 rfl (e_al x30_7 rfl (e_gK x30_8 (by decide) rfl (e_ge x30_11 (fun c1 => ?_) (fun c1 => ?_))))
  · replace H := H.1 c1
    exact e_il x30_42 rfl (e_ri x30_43 H)
  · replace H := H.2 c1
    refine e_il x30_14 rfl (e_il x30_15 rfl (e_ii (v := (v1 >>> (v4 &&& 31))) x30_17 rfl (e_ic x30_18 (e_ii (v := ((v1 >>> (v4 &&& 31)) &&& 1)) x30_19 rfl (e_ic x30_20 (e_ne x30_21 (fun c2 => ?_) (fun c2 => ?_)))))))
    · replace H := H.1 c2
      have c3 := H.1
      have c4 := H.2.1
      replace H := H.2.2
      exact e_il x30_24 rfl (e_al x30_25 rfl (e_PK x30_26 (by decide) rfl rfl (e_il x30_29 rfl (e_aaW x30_30 c3 (e_il x30_31 rfl (e_iaR x30_33 c3.2 c4 (e_ii (v := (v3 + (sK S (12 + (v2.toNatClampNeg)) (v4.toNatClampNeg)))) x30_34 rfl (e_ist (l' := [some (.ref (aK E 9)), some (.int v1), some (.int v2), some (.int (v3 + (sK S (12 + (v2.toNatClampNeg)) (v4.toNatClampNeg)))), some (.int v4)]) x30_35 rfl rfl (e_inc (l' := [some (.ref (aK E 9)), some (.int v1), some (.int v2), some (.int (v3 + (sK S (12 + (v2.toNatClampNeg)) (v4.toNatClampNeg)))), some (.int (v4 + 1))]) x30_36 rfl rfl rfl (e_back (l' := [some (.ref (aK E 9)), some (.int v1), some (.int v2), some (.int (v3 + (sK S (12 + (v2.toNatClampNeg)) (v4.toNatClampNeg)))), some (.int (v4 + 1))]) x30_39 rfl (H)))))))))))
    · replace H := H.2 c2
      exact e_inc (l' := [some (.ref (aK E 9)), some (.int v1), some (.int v2), some (.int v3), some (.int (v4 + 1))]) x30_36 rfl rfl rfl (e_back (l' := [some (.ref (aK E 9)), some (.int v1), some (.int v2), some (.int v3), some (.int (v4 + 1))]) x30_39 rfl (H))

-- Mail.post(LRoundVotes$Message;IZ)Z, from 0
set_option maxRecDepth 8000 in
theorem T32 {E : mE} {i : Nat} {a2 : Int32} {a3 : Int32} {S : mS} {K : Option Value → mS → Prop} (hi : i < eN E) (H : ((6000 : Int32) ≤ (sK S 1 2) → (K (some (.int 0)) S)) ∧ (¬ (6000 : Int32) ≤ (sK S 1 2) → (((sK S 1 1) < (nI 12000) → ((¬ (sK S 1 1) < 0 ∧ ((sK S 1 1).toNatClampNeg) < 12000) ∧ ((sQ S ((sK S 1 1).toNatClampNeg) = none → (∀ S7, S7 = uA S → (∀ S8, S8 = uQ S7 ((sK S 1 1).toNatClampNeg) (some (sU S)) → (ES E 32 52 [some (.ref (aK E 1)), some (.ref (aN E i 16)), some (.int a2), some (.int a3), none] [] S8 K)))) ∧ (∀ q4, q4 < sU S → sQ S ((sK S 1 1).toNatClampNeg) = some q4 → (ES E 32 52 [some (.ref (aK E 1)), some (.ref (aN E i 16)), some (.int a2), some (.int a3), none] [] S K))))) ∧ (¬ (sK S 1 1) < (nI 12000) → (K (some (.int 0)) S))))) : ES E 32 0 [some (.ref (aK E 1)), some (.ref (aN E i 16)), some (.int a2), some (.int a3), none] [] S K := by
  refine e_al x32_0 rfl (e_gK x32_1 (by decide) rfl (e_ic x32_4 (e_ge x32_7 (fun c1 => ?_) (fun c1 => ?_))))
  · replace H := H.1 c1
    exact e_ic x32_22 (e_rz x32_23 (by decide) H)
  · replace H := H.2 c1
    refine e_al x32_10 rfl (e_gK x32_11 (by decide) rfl (e_al x32_14 rfl (e_PK x32_15 (by decide) rfl rfl (e_alQ x32_18 (e_lt x32_19 (fun c2 => ?_) (fun c2 => ?_))))))
    · replace H := H.1 c2
      have c3 := H.1
      replace H := H.2
      refine e_al x32_24 rfl (e_PK x32_25 (by decide) rfl rfl (e_al x32_28 rfl (e_gK x32_29 (by decide) rfl (e_aaQ x32_32 c3 (fun c6 => ?_) (fun q4 c5 c6 => ?_)))))
      · replace H := H.1 c6
        refine e_nnulN x32_33 (e_al x32_36 rfl (e_PK x32_37 (by decide) rfl rfl (e_al x32_40 rfl (e_gK x32_41 (by decide) rfl (e_new x32_44 ?_)))))
        let S7 : mS := uA S
        replace H := H S7 rfl
        show ES _ _ _ _ _ S7 _
        refine e_dupr x32_47 (e_cI (l0 := [some (.ref (aM E (sU S)))]) x32_48 rfl rfl rfl rfl rfl (e_al x4_0 rfl (e_obj x4_1 rfl (e_rv x4_4 (e_waQ x32_51 c3 (Nat.lt_succ_self _) ?_)))))
        let S8 : mS := uQ S7 ((sK S 1 1).toNatClampNeg) (some (sU S))
        replace H := H S8 rfl
        show ES _ _ _ _ _ S8 _
        exact H
      · replace H := H.2 q4 c5 c6
        exact e_nnulR x32_33 (H)
    · replace H := H.2 c2
      exact e_ic x32_22 (e_rz x32_23 (by decide) H)

-- Mail.post(LRoundVotes$Message;IZ)Z, from 52
set_option maxRecDepth 8000 in
theorem T32_52 {E : mE} {i : Nat} {v2 : Int32} {v3 : Int32} {S : mS} {K : Option Value → mS → Prop} (hi : i < eN E) (H : (¬ (sK S 1 1) < 0 ∧ ((sK S 1 1).toNatClampNeg) < 12000) ∧ (∃ q2, sQ S ((sK S 1 1).toNatClampNeg) = some q2 ∧ (∀ S5, S5 = uM S q2 0 (sN S i 16 0) → (∀ S6, S6 = uM S5 q2 1 (sN S i 16 1) → (∀ S7, S7 = uM S6 q2 2 (sN S i 16 2) → (∀ S8, S8 = uM S7 q2 3 (sN S i 16 3) → (∀ S9, S9 = uM S8 q2 4 (sN S i 16 4) → (∀ S10, S10 = uM S9 q2 5 (sN S i 16 5) → (∀ S11, S11 = uM S10 q2 6 (sN S i 16 6) → (∀ S12, S12 = uM S11 q2 7 v2 → ((v3 = 0 ∨ v3 = 1) ∧ (∀ S14, S14 = uM S12 q2 8 v3 → (∀ S15, S15 = uK S14 1 1 ((sK S 1 1) + 1) → (∀ S16, S16 = uK S15 1 2 ((sK S15 1 2) + 1) → (K (some (.int 1)) S16))))))))))))))) : ES E 32 52 [some (.ref (aK E 1)), some (.ref (aN E i 16)), some (.int v2), some (.int v3), none] [] S K := by
  have c1 := H.1
  replace H := H.2
  refine e_al x32_52 rfl (e_PK x32_53 (by decide) rfl rfl (e_al x32_56 rfl (e_gK x32_57 (by decide) rfl ?_)))
  obtain ⟨q2, c4, H⟩ := H
  refine e_aaQ x32_60 c1 (fun z9 => absurd (z9.symm.trans c4) (by intro z8; cases z8)) (fun z7 c3 z9 => ?_)
  obtain rfl : q2 = z7 := Option.some.inj (c4.symm.trans z9)
  refine e_ast (l' := [some (.ref (aK E 1)), some (.ref (aN E i 16)), some (.int v2), some (.int v3), some (.ref (aM E q2))]) x32_61 rfl rfl (e_al x32_63 rfl (e_al x32_65 rfl (e_cV (l0 := [some (.ref (aM E q2)), some (.ref (aN E i 16))]) x32_66 rfl rfl rfl rfl rfl (fun h hh => hh.tM c3) (e_al x6_0 rfl (e_al x6_1 rfl (e_gN x6_2 hi (by decide) rfl (e_pM x6_5 c3 ?_)))))))
  let S5 : mS := uM S q2 0 (sN S i 16 0)
  replace H := H S5 rfl
  show ES _ _ _ _ _ S5 _
  refine e_al x6_8 rfl (e_al x6_9 rfl (e_gN x6_10 hi (by decide) rfl (e_pM x6_13 c3 ?_)))
  let S6 : mS := uM S5 q2 1 (sN S i 16 1)
  replace H := H S6 rfl
  show ES _ _ _ _ _ S6 _
  refine e_al x6_16 rfl (e_al x6_17 rfl (e_gN x6_18 hi (by decide) rfl (e_pM x6_21 c3 ?_)))
  let S7 : mS := uM S6 q2 2 (sN S i 16 2)
  replace H := H S7 rfl
  show ES _ _ _ _ _ S7 _
  refine e_al x6_24 rfl (e_al x6_25 rfl (e_gN x6_26 hi (by decide) rfl (e_pM x6_29 c3 ?_)))
  let S8 : mS := uM S7 q2 3 (sN S i 16 3)
  replace H := H S8 rfl
  show ES _ _ _ _ _ S8 _
  refine e_al x6_32 rfl (e_al x6_33 rfl (e_gN x6_34 hi (by decide) rfl (e_pM x6_37 c3 ?_)))
  let S9 : mS := uM S8 q2 4 (sN S i 16 4)
  replace H := H S9 rfl
  show ES _ _ _ _ _ S9 _
  refine e_al x6_40 rfl (e_al x6_41 rfl (e_gN x6_42 hi (by decide) rfl (e_pM x6_45 c3 ?_)))
  let S10 : mS := uM S9 q2 5 (sN S i 16 5)
  replace H := H S10 rfl
  show ES _ _ _ _ _ S10 _
  refine e_al x6_48 rfl (e_al x6_49 rfl (e_gN x6_50 hi (by decide) rfl (e_pM x6_53 c3 ?_)))
  let S11 : mS := uM S10 q2 6 (sN S i 16 6)
  replace H := H S11 rfl
  show ES _ _ _ _ _ S11 _
  refine e_rv x6_56 (e_al x32_69 rfl (e_il x32_71 rfl (e_pM x32_72 c3 ?_)))
  let S12 : mS := uM S11 q2 7 v2
  replace H := H S12 rfl
  show ES _ _ _ _ _ S12 _
  have c13 := H.1
  replace H := H.2
  refine e_al x32_75 rfl (e_il x32_77 rfl (e_zM x32_78 c3 c13 ?_))
  let S14 : mS := uM S12 q2 8 v3
  replace H := H S14 rfl
  show ES _ _ _ _ _ S14 _
  refine e_al x32_81 rfl (e_dupr x32_82 (e_gK x32_83 (by decide) rfl (e_ic x32_86 (e_ii (v := ((sK S 1 1) + 1)) x32_87 rfl (e_pK x32_88 (by decide) rfl ?_)))))
  let S15 : mS := uK S14 1 1 ((sK S 1 1) + 1)
  replace H := H S15 rfl
  show ES _ _ _ _ _ S15 _
  refine e_al x32_91 rfl (e_dupr x32_92 (e_gK x32_93 (by decide) rfl (e_ic x32_96 (e_ii (v := ((sK S15 1 2) + 1)) x32_97 rfl (e_pK x32_98 (by decide) rfl ?_)))))
  let S16 : mS := uK S15 1 2 ((sK S15 1 2) + 1)
  replace H := H S16 rfl
  show ES _ _ _ _ _ S16 _
  exact e_ic x32_101 (e_rz x32_102 (by decide) H)

-- Mail.dropUpTo(I)V, from 0
set_option maxRecDepth 8000 in
theorem T33 {E : mE} {a1 : Int32} {S : mS} {K : Option Value → mS → Prop}  (H : ES E 33 4 [some (.ref (aK E 1)), some (.int a1), some (.int 0), some (.int 0), none] [] S K) : ES E 33 0 [some (.ref (aK E 1)), some (.int a1), none, none, none] [] S K := by
  exact e_ic x33_0 (e_ist (l' := [some (.ref (aK E 1)), some (.int a1), some (.int 0), none, none]) x33_1 rfl rfl (e_ic x33_2 (e_ist (l' := [some (.ref (aK E 1)), some (.int a1), some (.int 0), some (.int 0), none]) x33_3 rfl rfl (H))))

-- Mail.dropUpTo(I)V, from 4
set_option maxRecDepth 8000 in
theorem T33_4 {E : mE} {v1 : Int32} {v2 : Int32} {v3 : Int32} {S : mS} {K : Option Value → mS → Prop}  (H : ((sK S 1 1) ≤ v3 → (∀ S2, S2 = uK S 1 1 v2 → (K none S2))) ∧ (¬ (sK S 1 1) ≤ v3 → ((¬ v3 < 0 ∧ (v3.toNatClampNeg) < 12000) ∧ (∃ q4, sQ S (v3.toNatClampNeg) = some q4 ∧ (((sM S q4 7) ≤ v1 → (ES E 33 4 [some (.ref (aK E 1)), some (.int v1), some (.int v2), some (.int (v3 + 1)), none] [] S K)) ∧ (¬ (sM S q4 7) ≤ v1 → ((¬ v2 < 0 ∧ (v2.toNatClampNeg) < 12000) ∧ (∃ q9, sQ S (v2.toNatClampNeg) = some q9 ∧ (∀ S12, S12 = uQ S (v3.toNatClampNeg) (some q9) → (∀ S13, S13 = uQ S12 (v2.toNatClampNeg) (some q4) → (ES E 33 4 [some (.ref (aK E 1)), some (.int v1), some (.int (v2 + 1)), some (.int (v3 + 1)), none] [] S13 K))))))))))) : ES E 33 4 [some (.ref (aK E 1)), some (.int v1), some (.int v2), some (.int v3), none] [] S K := by
  refine e_il x33_4 rfl (e_al x33_5 rfl (e_gK x33_6 (by decide) rfl (e_ge x33_9 (fun c1 => ?_) (fun c1 => ?_))))
  · replace H := H.1 c1
    refine e_al x33_63 rfl (e_il x33_64 rfl (e_pK x33_65 (by decide) rfl ?_))
    let S2 : mS := uK S 1 1 v2
    replace H := H S2 rfl
    show ES _ _ _ _ _ S2 _
    exact e_rv x33_68 H
  · replace H := H.2 c1
    have c3 := H.1
    replace H := H.2
    refine e_al x33_12 rfl (e_PK x33_13 (by decide) rfl rfl (e_il x33_16 rfl ?_))
    obtain ⟨q4, c6, H⟩ := H
    refine e_aaQ x33_17 c3 (fun z9 => absurd (z9.symm.trans c6) (by intro z8; cases z8)) (fun z7 c5 z9 => ?_)
    obtain rfl : q4 = z7 := Option.some.inj (c6.symm.trans z9)
    refine e_ast (l' := [some (.ref (aK E 1)), some (.int v1), some (.int v2), some (.int v3), some (.ref (aM E q4))]) x33_18 rfl rfl (e_al x33_20 rfl (e_nulR x33_22 (e_al x33_25 rfl (e_gM x33_27 c5 (e_il x33_30 rfl (e_le x33_31 (fun c7 => ?_) (fun c7 => ?_)))))))
    · replace H := H.1 c7
      exact e_inc (l' := [some (.ref (aK E 1)), some (.int v1), some (.int v2), some (.int (v3 + 1)), some (.ref (aM E q4))]) x33_57 rfl rfl rfl (e_back (l' := [some (.ref (aK E 1)), some (.int v1), some (.int v2), some (.int (v3 + 1)), none]) x33_60 rfl (H))
    · replace H := H.2 c7
      have c8 := H.1
      replace H := H.2
      refine e_al x33_34 rfl (e_PK x33_35 (by decide) rfl rfl (e_il x33_38 rfl (e_al x33_39 rfl (e_PK x33_40 (by decide) rfl rfl (e_il x33_43 rfl ?_)))))
      obtain ⟨q9, c11, H⟩ := H
      refine e_aaQ x33_44 c8 (fun z9 => absurd (z9.symm.trans c11) (by intro z8; cases z8)) (fun z7 c10 z9 => ?_)
      obtain rfl : q9 = z7 := Option.some.inj (c11.symm.trans z9)
      refine e_waQ x33_45 c3 c10 ?_
      let S12 : mS := uQ S (v3.toNatClampNeg) (some q9)
      replace H := H S12 rfl
      show ES _ _ _ _ _ S12 _
      refine e_al x33_46 rfl (e_PK x33_47 (by decide) rfl rfl (e_il x33_50 rfl (e_al x33_51 rfl (e_waQ x33_53 c8 c5 ?_))))
      let S13 : mS := uQ S12 (v2.toNatClampNeg) (some q4)
      replace H := H S13 rfl
      show ES _ _ _ _ _ S13 _
      exact e_inc (l' := [some (.ref (aK E 1)), some (.int v1), some (.int (v2 + 1)), some (.int v3), some (.ref (aM E q4))]) x33_54 rfl rfl rfl (e_inc (l' := [some (.ref (aK E 1)), some (.int v1), some (.int (v2 + 1)), some (.int (v3 + 1)), some (.ref (aM E q4))]) x33_57 rfl rfl rfl (e_back (l' := [some (.ref (aK E 1)), some (.int v1), some (.int (v2 + 1)), some (.int (v3 + 1)), none]) x33_60 rfl (H)))

-- Sendings.add(LRoundVotes$Message;)V, from 0
set_option maxRecDepth 8000 in
theorem T35 {E : mE} {i : Nat} {S : mS} {K : Option Value → mS → Prop} (hi : i < eN E) (H : ∀ S1, S1 = uN S i 12 0 ((sN S i 12 0) + 1) → ((¬ (((((sN S1 i 16 3) * (sN S1 i 13 0)) + 0) * 3) + (sN S1 i 16 4)) < 0 ∧ ((((((sN S1 i 16 3) * (sN S1 i 13 0)) + 0) * 3) + (sN S1 i 16 4)).toNatClampNeg) < lnB (eN E) 13) ∧ (((sN S1 i (13 + 2) ((((((sN S1 i 16 3) * (sN S1 i 13 0)) + 0) * 3) + (sN S1 i 16 4)).toNatClampNeg)) = (-2) → (ES E 11 0 [some (.ref (aN E i 13)), some (.int (sN S1 i 16 3)), some (.int 0), some (.int (sN S1 i 16 4)), some (.int (sN S1 i 16 5)), some (.int (sN S1 i 16 6))] [] S1 (fun r S4 => r = none ∧ (K none S4)))) ∧ (¬ (sN S1 i (13 + 2) ((((((sN S1 i 16 3) * (sN S1 i 13 0)) + 0) * 3) + (sN S1 i 16 4)).toNatClampNeg)) = (-2) → (((sN S1 i (13 + 2) ((((((sN S1 i 16 3) * (sN S1 i 13 0)) + 0) * 3) + (sN S1 i 16 4)).toNatClampNeg)) = (-3) → (K none S1)) ∧ (¬ (sN S1 i (13 + 2) ((((((sN S1 i 16 3) * (sN S1 i 13 0)) + 0) * 3) + (sN S1 i 16 4)).toNatClampNeg)) = (-3) → (((sN S1 i (13 + 2) ((((((sN S1 i 16 3) * (sN S1 i 13 0)) + 0) * 3) + (sN S1 i 16 4)).toNatClampNeg)) = (sN S1 i 16 5) → (K none S1)) ∧ (¬ (sN S1 i (13 + 2) ((((((sN S1 i 16 3) * (sN S1 i 13 0)) + 0) * 3) + (sN S1 i 16 4)).toNatClampNeg)) = (sN S1 i 16 5) → (ES E 11 0 [some (.ref (aN E i 13)), some (.int (sN S1 i 16 3)), some (.int 0), some (.int (sN S1 i 16 4)), some (.int (-3)), some (.int (sN S1 i 16 6))] [] S1 (fun r S7 => r = none ∧ (∀ S8, S8 = uN S7 i 12 1 ((sN S7 i 12 1) + 1) → (K none S8)))))))))))) : ES E 35 0 [some (.ref (aN E i 12)), some (.ref (aN E i 16)), none] [] S K := by
  refine e_al x35_0 rfl (e_dupr x35_1 (e_gN x35_2 hi (by decide) rfl (e_ic x35_5 (e_ii (v := ((sN S i 12 0) + 1)) x35_6 rfl (e_pN x35_7 hi (by decide) rfl ?_)))))
  let S1 : mS := uN S i 12 0 ((sN S i 12 0) + 1)
  replace H := H S1 rfl
  show ES _ _ _ _ _ S1 _
  have c2 := H.1
  replace H := H.2
  refine e_al x35_10 rfl (e_PN x35_11 hi (by decide) rfl rfl (e_al x35_14 rfl (e_gN x35_15 hi (by decide) rfl (e_ic x35_18 (e_al x35_19 rfl (e_gN x35_20 hi (by decide) rfl (e_cV (l0 := [some (.ref (aN E i 13)), some (.int (sN S1 i 16 3)), some (.int 0), some (.int (sN S1 i 16 4))]) x35_23 rfl rfl rfl rfl rfl (fun h hh => (hh.tN hi (Bal.l Bal.n13)).trans (Bal.t Bal.n13)) (e_al x9_0 rfl (e_PBv x9_1 hi Bal.n13 (e_il x9_4 rfl (e_al x9_5 rfl (e_gN x9_6 hi (Bal.l Bal.n13) (Bal.t Bal.n13) (e_ii (v := ((sN S1 i 16 3) * (sN S1 i 13 0))) x9_9 rfl (e_il x9_10 rfl (e_ii (v := (((sN S1 i 16 3) * (sN S1 i 13 0)) + 0)) x9_11 rfl (e_ic x9_12 (e_ii (v := ((((sN S1 i 16 3) * (sN S1 i 13 0)) + 0) * 3)) x9_13 rfl (e_il x9_14 rfl (e_ii (v := (((((sN S1 i 16 3) * (sN S1 i 13 0)) + 0) * 3) + (sN S1 i 16 4))) x9_15 rfl (e_iaBv x9_16 hi Bal.n13 c2 (e_ri x9_17 (e_ist (l' := [some (.ref (aN E i 12)), some (.ref (aN E i 16)), some (.int (sN S1 i (13 + 2) ((((((sN S1 i 16 3) * (sN S1 i 13 0)) + 0) * 3) + (sN S1 i 16 4)).toNatClampNeg)))]) x35_26 rfl rfl (e_il x35_27 rfl (e_ic x35_28 (e_ne x35_30 (fun c3 => ?_) (fun c3 => ?_))))))))))))))))))))))))))
  · replace H := H.1 c3
    refine e_al x35_33 rfl (e_PN x35_34 hi (by decide) rfl rfl (e_al x35_37 rfl (e_gN x35_38 hi (by decide) rfl (e_ic x35_41 (e_al x35_42 rfl (e_gN x35_43 hi (by decide) rfl (e_al x35_46 rfl (e_gN x35_47 hi (by decide) rfl (e_al x35_50 rfl (e_gN x35_51 hi (by decide) rfl (e_cV (l0 := [some (.ref (aN E i 13)), some (.int (sN S1 i 16 3)), some (.int 0), some (.int (sN S1 i 16 4)), some (.int (sN S1 i 16 5)), some (.int (sN S1 i 16 6))]) x35_54 rfl rfl rfl rfl rfl (fun h hh => (hh.tN hi (Bal.l Bal.n13)).trans (Bal.t Bal.n13)) (ES.mono H ?_))))))))))))
    rintro _ S4 ⟨rfl, H⟩
    exact e_goto x35_57 (e_rv x35_106 H)
  · replace H := H.2 c3
    refine e_il x35_60 rfl (e_ic x35_61 (e_eq x35_63 (fun c5 => ?_) (fun c5 => ?_)))
    · replace H := H.1 c5
      exact e_rv x35_106 H
    · replace H := H.2 c5
      refine e_il x35_66 rfl (e_al x35_67 rfl (e_gN x35_68 hi (by decide) rfl (e_eq x35_71 (fun c6 => ?_) (fun c6 => ?_))))
      · replace H := H.1 c6
        exact e_rv x35_106 H
      · replace H := H.2 c6
        refine e_al x35_74 rfl (e_PN x35_75 hi (by decide) rfl rfl (e_al x35_78 rfl (e_gN x35_79 hi (by decide) rfl (e_ic x35_82 (e_al x35_83 rfl (e_gN x35_84 hi (by decide) rfl (e_ic x35_87 (e_al x35_89 rfl (e_gN x35_90 hi (by decide) rfl (e_cV (l0 := [some (.ref (aN E i 13)), some (.int (sN S1 i 16 3)), some (.int 0), some (.int (sN S1 i 16 4)), some (.int (-3)), some (.int (sN S1 i 16 6))]) x35_93 rfl rfl rfl rfl rfl (fun h hh => (hh.tN hi (Bal.l Bal.n13)).trans (Bal.t Bal.n13)) (ES.mono H ?_)))))))))))
        rintro _ S7 ⟨rfl, H⟩
        refine e_al x35_96 rfl (e_dupr x35_97 (e_gN x35_98 hi (by decide) rfl (e_ic x35_101 (e_ii (v := ((sN S7 i 12 1) + 1)) x35_102 rfl (e_pN x35_103 hi (by decide) rfl ?_)))))
        let S8 : mS := uN S7 i 12 1 ((sN S7 i 12 1) + 1)
        replace H := H S8 rfl
        show ES _ _ _ _ _ S8 _
        exact e_rv x35_106 H

