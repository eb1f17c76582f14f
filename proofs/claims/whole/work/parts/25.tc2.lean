/-! ===== what the runs need, over states ===== -/
-- Node.begin(II)V, from 0
set_option maxRecDepth 8000 in
theorem T38 {E : mE} {i : Nat} {a1 : Int32} {a2 : Int32} {S : mS} {K : Option Value → mS → Prop} (hi : i < eN E) (H : (a1 < 30 → (∀ S2, S2 = uN S i 0 3 a1 → (∀ S3, S3 = uN S2 i 0 4 0 → (ES E 38 19 [some (.ref (aN E i 0)), some (.int a1), some (.int a2), some (.int 0)] [] S3 K)))) ∧ (¬ a1 < 30 → (K none S))) : ES E 38 0 [some (.ref (aN E i 0)), some (.int a1), some (.int a2), none] [] S K := by
  refine e_il x38_0 rfl (e_ic x38_1 (e_lt x38_3 (fun c1 => ?_) (fun c1 => ?_)))
  · replace H := H.1 c1
    refine e_al x38_7 rfl (e_il x38_8 rfl (e_pN x38_9 hi (by decide) rfl ?_))
    let S2 : mS := uN S i 0 3 a1
    replace H := H S2 rfl
    show ES _ _ _ _ _ S2 _
    refine e_al x38_12 rfl (e_ic x38_13 (e_pN x38_14 hi (by decide) rfl ?_))
    let S3 : mS := uN S2 i 0 4 0
    replace H := H S3 rfl
    show ES _ _ _ _ _ S3 _
    exact e_ic x38_17 (e_ist (l' := [some (.ref (aN E i 0)), some (.int a1), some (.int a2), some (.int 0)]) x38_18 rfl rfl (H))
  · replace H := H.2 c1
    exact e_rv x38_6 H

-- Node.begin(II)V, from 19
set_option maxRecDepth 8000 in
theorem T38_19 {E : mE} {i : Nat} {v1 : Int32} {v2 : Int32} {v3 : Int32} {S : mS} {K : Option Value → mS → Prop} (hi : i < eN E) (H : ((3 : Int32) ≤ v3 → (ES E 38 39 [some (.ref (aN E i 0)), some (.int v1), some (.int v2), some (.int 0)] [] S K)) ∧ (¬ (3 : Int32) ≤ v3 → ((¬ v3 < 0 ∧ (v3.toNatClampNeg) < 3) ∧ (∀ S3, S3 = uN S i 3 (v3.toNatClampNeg) 0 → (ES E 38 19 [some (.ref (aN E i 0)), some (.int v1), some (.int v2), some (.int (v3 + 1))] [] S3 K))))) : ES E 38 19 [some (.ref (aN E i 0)), some (.int v1), some (.int v2), some (.int v3)] [] S K := by
  refine e_il x38_19 rfl (e_ic x38_20 (e_ge x38_21 (fun c1 => ?_) (fun c1 => ?_)))
  · replace H := H.1 c1
    exact e_ic x38_37 (e_ist (l' := [some (.ref (aN E i 0)), some (.int v1), some (.int v2), some (.int 0)]) x38_38 rfl rfl (H))
  · replace H := H.2 c1
    have c2 := H.1
    replace H := H.2
    refine e_al x38_24 rfl (e_PN x38_25 hi (by decide) rfl rfl (e_il x38_28 rfl (e_ic x38_29 (e_waN x38_30 hi (by decide) rfl c2 ?_))))
    let S3 : mS := uN S i 3 (v3.toNatClampNeg) 0
    replace H := H S3 rfl
    show ES _ _ _ _ _ S3 _
    exact e_inc (l' := [some (.ref (aN E i 0)), some (.int v1), some (.int v2), some (.int (v3 + 1))]) x38_31 rfl rfl rfl (e_back (l' := [some (.ref (aN E i 0)), some (.int v1), some (.int v2), some (.int (v3 + 1))]) x38_34 rfl (H))

-- Node.begin(II)V, from 39
set_option maxRecDepth 8000 in
theorem T38_39 {E : mE} {i : Nat} {v1 : Int32} {v2 : Int32} {v3 : Int32} {S : mS} {K : Option Value → mS → Prop} (hi : i < eN E) (H : ((3 : Int32) ≤ v3 → (((sN S i 0 2) ≤ 40 → ((¬ (0 : Int32) < 0 ∧ ((0 : Int32).toNatClampNeg) < 3) ∧ (∀ S4, S4 = uN S i 3 ((0 : Int32).toNatClampNeg) ((v2 + 4) + (sN S i 0 3)) → ((¬ (sK S 9 0) = 0) ∧ (((((sN S4 i 0 2) + (sN S4 i 0 3)) - ((sN S4 i 0 2) + (sN S4 i 0 3)) / (sK S 9 0) * (sK S 9 0)) = (sN S4 i 0 0) → (((sN S4 i 2 0) = 0 → (ES E 40 0 [some (.ref (aN E i 0)), some (.int 0), some (.int (2 + (2 * (((((sK S 9 1) ^^^ (7919 * (sN S4 i 0 0))) ^^^ (104729 * (sN S4 i 0 2))) ^^^ (1299709 * (sN S4 i 0 3))) &&& 1048575)))), some (.int (-1)), none, none] [] S4 (fun r S8 => r = none ∧ (K none S8)))) ∧ (¬ (sN S4 i 2 0) = 0 → (ES E 40 0 [some (.ref (aN E i 0)), some (.int 0), some (.int (sN S4 i 2 0)), some (.int (sN S4 i 2 1)), none, none] [] S4 (fun r S9 => r = none ∧ (K none S9)))))) ∧ (¬ (((sN S4 i 0 2) + (sN S4 i 0 3)) - ((sN S4 i 0 2) + (sN S4 i 0 3)) / (sK S 9 0) * (sK S 9 0)) = (sN S4 i 0 0) → (K none S4))))))) ∧ (¬ (sN S i 0 2) ≤ 40 → (K none S)))) ∧ (¬ (3 : Int32) ≤ v3 → ((¬ v3 < 0 ∧ (v3.toNatClampNeg) < 3) ∧ (∀ S11, S11 = uN S i 4 (v3.toNatClampNeg) 0 → (ES E 38 39 [some (.ref (aN E i 0)), some (.int v1), some (.int v2), some (.int (v3 + 1))] [] S11 K))))) : ES E 38 39 [some (.ref (aN E i 0)), some (.int v1), some (.int v2), some (.int v3)] [] S K := by
  refine e_il x38_39 rfl (e_ic x38_40 (e_ge x38_41 (fun c1 => ?_) (fun c1 => ?_)))
  · replace H := H.1 c1
    refine e_al x38_57 rfl (e_cV (l0 := [some (.ref (aN E i 0))]) x38_58 rfl rfl rfl rfl rfl (fun h hh => hh.tN hi (by decide)) (e_al x39_0 rfl (e_gN x39_1 hi (by decide) rfl (e_ic x39_4 (e_le x39_6 (fun c2 => ?_) (fun c2 => ?_))))))
    · replace H := H.1 c2
      refine e_ic x39_13 (e_rz x39_14 (by decide) (e_eq0 x38_61 (fun _ => ?_) (fun z9 => absurd (by decide) z9)))
      have c3 := H.1
      replace H := H.2
      refine e_al x38_65 rfl (e_PN x38_66 hi (by decide) rfl rfl (e_ic x38_69 (e_il x38_70 rfl (e_ic x38_71 (e_ii (v := (v2 + 4)) x38_72 rfl (e_al x38_73 rfl (e_gN x38_74 hi (by decide) rfl (e_ii (v := ((v2 + 4) + (sN S i 0 3))) x38_77 rfl (e_waN x38_78 hi (by decide) rfl c3 ?_)))))))))
      let S4 : mS := uN S i 3 ((0 : Int32).toNatClampNeg) ((v2 + 4) + (sN S i 0 3))
      replace H := H S4 rfl
      show ES _ _ _ _ _ S4 _
      have c5 := H.1
      replace H := H.2
      refine e_al x38_79 rfl (e_PNs x38_80 hi (e_al x38_83 rfl (e_gN x38_84 hi (by decide) rfl (e_al x38_87 rfl (e_gN x38_88 hi (by decide) rfl (e_cV (l0 := [some (.ref (aK E 9)), some (.int (sN S4 i 0 2)), some (.int (sN S4 i 0 3))]) x38_91 rfl rfl rfl rfl rfl (fun h hh => hh.tK (by decide)) (e_il x28_0 rfl (e_il x28_1 rfl (e_ii (v := ((sN S4 i 0 2) + (sN S4 i 0 3))) x28_2 rfl (e_al x28_3 rfl (e_gK x28_4 (by decide) rfl (e_rem x28_7 c5 (e_ri x28_8 (e_al x38_94 rfl (e_gN x38_95 hi (by decide) rfl (e_eq x38_98 (fun c6 => ?_) (fun c6 => ?_)))))))))))))))))
      · replace H := H.1 c6
        refine e_al x38_102 rfl (e_PN x38_103 hi (by decide) rfl rfl (e_cV (l0 := [some (.ref (aN E i 2))]) x38_106 rfl rfl rfl rfl rfl (fun h hh => hh.tN hi (by decide)) (e_al x2_0 rfl (e_gN x2_1 hi (by decide) rfl (e_ne0 x2_4 (fun c7 => ?_) (fun c7 => ?_))))))
        · replace H := H.1 c7
          refine e_ic x2_7 (e_goto x2_8 (e_rz x2_12 (by decide) (e_eq0 x38_109 (fun z9 => absurd z9 (by decide)) (fun _ => ?_))))
          refine e_al x38_112 rfl (e_ic x38_113 (e_al x38_114 rfl (e_PNs x38_115 hi (e_al x38_118 rfl (e_gN x38_119 hi (by decide) rfl (e_al x38_122 rfl (e_gN x38_123 hi (by decide) rfl (e_al x38_126 rfl (e_gN x38_127 hi (by decide) rfl (e_cV (l0 := [some (.ref (aK E 9)), some (.int (sN S4 i 0 0)), some (.int (sN S4 i 0 2)), some (.int (sN S4 i 0 3)), none]) x38_130 rfl rfl rfl rfl rfl (fun h hh => hh.tK (by decide)) (e_al x29_0 rfl (e_gK x29_1 (by decide) rfl (e_ic x29_4 (e_il x29_7 rfl (e_ii (v := (7919 * (sN S4 i 0 0))) x29_8 rfl (e_ii (v := ((sK S 9 1) ^^^ (7919 * (sN S4 i 0 0)))) x29_9 rfl (e_ic x29_10 (e_il x29_12 rfl (e_ii (v := (104729 * (sN S4 i 0 2))) x29_13 rfl (e_ii (v := (((sK S 9 1) ^^^ (7919 * (sN S4 i 0 0))) ^^^ (104729 * (sN S4 i 0 2)))) x29_14 rfl (e_ic x29_15 (e_il x29_17 rfl (e_ii (v := (1299709 * (sN S4 i 0 3))) x29_18 rfl (e_ii (v := ((((sK S 9 1) ^^^ (7919 * (sN S4 i 0 0))) ^^^ (104729 * (sN S4 i 0 2))) ^^^ (1299709 * (sN S4 i 0 3)))) x29_19 rfl (e_ist (l' := [some (.ref (aK E 9)), some (.int (sN S4 i 0 0)), some (.int (sN S4 i 0 2)), some (.int (sN S4 i 0 3)), some (.int ((((sK S 9 1) ^^^ (7919 * (sN S4 i 0 0))) ^^^ (104729 * (sN S4 i 0 2))) ^^^ (1299709 * (sN S4 i 0 3))))]) x29_20 rfl rfl (e_ic x29_22 (e_ic x29_23 (e_il x29_24 rfl (e_ic x29_26 (e_ii (v := (((((sK S 9 1) ^^^ (7919 * (sN S4 i 0 0))) ^^^ (104729 * (sN S4 i 0 2))) ^^^ (1299709 * (sN S4 i 0 3))) &&& 1048575)) x29_28 rfl (e_ii (v := (2 * (((((sK S 9 1) ^^^ (7919 * (sN S4 i 0 0))) ^^^ (104729 * (sN S4 i 0 2))) ^^^ (1299709 * (sN S4 i 0 3))) &&& 1048575))) x29_29 rfl (e_ii (v := (2 + (2 * (((((sK S 9 1) ^^^ (7919 * (sN S4 i 0 0))) ^^^ (104729 * (sN S4 i 0 2))) ^^^ (1299709 * (sN S4 i 0 3))) &&& 1048575)))) x29_30 rfl (e_ri x29_31 (e_ic x38_133 (e_cV (l0 := [some (.ref (aN E i 0)), some (.int 0), some (.int (2 + (2 * (((((sK S 9 1) ^^^ (7919 * (sN S4 i 0 0))) ^^^ (104729 * (sN S4 i 0 2))) ^^^ (1299709 * (sN S4 i 0 3))) &&& 1048575)))), some (.int (-1)), none, none]) x38_134 rfl rfl rfl rfl rfl (fun h hh => hh.tN hi (by decide)) (ES.mono H ?_))))))))))))))))))))))))))))))))))))
          rintro _ S8 ⟨rfl, H⟩
          exact e_goto x38_137 (e_rv x38_159 H)
        · replace H := H.2 c7
          refine e_ic x2_11 (e_rz x2_12 (by decide) (e_eq0 x38_109 (fun _ => ?_) (fun z9 => absurd (by decide) z9)))
          refine e_al x38_140 rfl (e_ic x38_141 (e_al x38_142 rfl (e_PN x38_143 hi (by decide) rfl rfl (e_gN x38_146 hi (by decide) rfl (e_al x38_149 rfl (e_PN x38_150 hi (by decide) rfl rfl (e_gN x38_153 hi (by decide) rfl (e_cV (l0 := [some (.ref (aN E i 0)), some (.int 0), some (.int (sN S4 i 2 0)), some (.int (sN S4 i 2 1)), none, none]) x38_156 rfl rfl rfl rfl rfl (fun h hh => hh.tN hi (by decide)) (ES.mono H ?_)))))))))
          rintro _ S9 ⟨rfl, H⟩
          exact e_rv x38_159 H
      · replace H := H.2 c6
        exact e_rv x38_101 H
    · replace H := H.2 c2
      refine e_ic x39_9 (e_goto x39_10 (e_rz x39_14 (by decide) (e_eq0 x38_61 (fun z9 => absurd z9 (by decide)) (fun _ => ?_))))
      exact e_rv x38_64 H
  · replace H := H.2 c1
    have c10 := H.1
    replace H := H.2
    refine e_al x38_44 rfl (e_PN x38_45 hi (by decide) rfl rfl (e_il x38_48 rfl (e_ic x38_49 (e_wzN x38_50 hi (by decide) rfl (by decide) c10 ?_))))
    let S11 : mS := uN S i 4 (v3.toNatClampNeg) 0
    replace H := H S11 rfl
    show ES _ _ _ _ _ S11 _
    exact e_inc (l' := [some (.ref (aN E i 0)), some (.int v1), some (.int v2), some (.int (v3 + 1))]) x38_51 rfl rfl rfl (e_back (l' := [some (.ref (aN E i 0)), some (.int v1), some (.int v2), some (.int (v3 + 1))]) x38_54 rfl (H))

-- Node.send(III)V, from 0
set_option maxRecDepth 8000 in
theorem T40 {E : mE} {i : Nat} {a1 : Int32} {a2 : Int32} {a3 : Int32} {S : mS} {K : Option Value → mS → Prop} (hi : i < eN E) (H : ((sN S i 0 7) = 5 → ((a1 = 0 → (((sN S i 0 7) = 4 → (ES E 40 103 [some (.ref (aN E i 0)), some (.int a1), some (.int a2), some (.int a3), some (.int a2), some (.int a3)] [] S K)) ∧ (¬ (sN S i 0 7) = 4 → ((¬ (((((sN S i 0 3) * (sN S i 9 0)) + 0) * 3) + a1) < 0 ∧ ((((((sN S i 0 3) * (sN S i 9 0)) + 0) * 3) + a1).toNatClampNeg) < lnB (eN E) 9) ∧ (((sN S i (9 + 2) ((((((sN S i 0 3) * (sN S i 9 0)) + 0) * 3) + a1).toNatClampNeg)) = (-2) → (ES E 11 0 [some (.ref (aN E i 9)), some (.int (sN S i 0 3)), some (.int 0), some (.int a1), some (.int a2), some (.int a3)] [] S (fun r S6 => r = none ∧ (ES E 40 103 [some (.ref (aN E i 0)), some (.int a1), some (.int a2), some (.int a3), some (.int a2), some (.int a3)] [] S6 K)))) ∧ (¬ (sN S i (9 + 2) ((((((sN S i 0 3) * (sN S i 9 0)) + 0) * 3) + a1).toNatClampNeg)) = (-2) → ((¬ (sN S i 0 3) < 0 ∧ ((sN S i 0 3).toNatClampNeg) < 30) ∧ (ES E 40 103 [some (.ref (aN E i 0)), some (.int a1), some (.int a2), some (.int a3), some (.int (sN S i (9 + 2) ((((((sN S i 0 3) * (sN S i 9 0)) + 0) * 3) + a1).toNatClampNeg))), some (.int (sN S i (9 + 1) ((sN S i 0 3).toNatClampNeg)))] [] S K)))))))) ∧ (¬ a1 = 0 → (((sN S i 0 7) = 4 → (ES E 40 103 [some (.ref (aN E i 0)), some (.int a1), some (.int a2), some (.int a3), some (.int 0), some (.int a3)] [] S K)) ∧ (¬ (sN S i 0 7) = 4 → ((¬ (((((sN S i 0 3) * (sN S i 9 0)) + 0) * 3) + a1) < 0 ∧ ((((((sN S i 0 3) * (sN S i 9 0)) + 0) * 3) + a1).toNatClampNeg) < lnB (eN E) 9) ∧ (((sN S i (9 + 2) ((((((sN S i 0 3) * (sN S i 9 0)) + 0) * 3) + a1).toNatClampNeg)) = (-2) → (ES E 11 0 [some (.ref (aN E i 9)), some (.int (sN S i 0 3)), some (.int 0), some (.int a1), some (.int 0), some (.int a3)] [] S (fun r S11 => r = none ∧ (ES E 40 103 [some (.ref (aN E i 0)), some (.int a1), some (.int a2), some (.int a3), some (.int 0), some (.int a3)] [] S11 K)))) ∧ (¬ (sN S i (9 + 2) ((((((sN S i 0 3) * (sN S i 9 0)) + 0) * 3) + a1).toNatClampNeg)) = (-2) → (ES E 40 103 [some (.ref (aN E i 0)), some (.int a1), some (.int a2), some (.int a3), some (.int (sN S i (9 + 2) ((((((sN S i 0 3) * (sN S i 9 0)) + 0) * 3) + a1).toNatClampNeg))), some (.int a3)] [] S K))))))))) ∧ (¬ (sN S i 0 7) = 5 → (((sN S i 0 7) = 4 → (ES E 40 103 [some (.ref (aN E i 0)), some (.int a1), some (.int a2), some (.int a3), some (.int a2), some (.int a3)] [] S K)) ∧ (¬ (sN S i 0 7) = 4 → ((¬ (((((sN S i 0 3) * (sN S i 9 0)) + 0) * 3) + a1) < 0 ∧ ((((((sN S i 0 3) * (sN S i 9 0)) + 0) * 3) + a1).toNatClampNeg) < lnB (eN E) 9) ∧ (((sN S i (9 + 2) ((((((sN S i 0 3) * (sN S i 9 0)) + 0) * 3) + a1).toNatClampNeg)) = (-2) → (ES E 11 0 [some (.ref (aN E i 9)), some (.int (sN S i 0 3)), some (.int 0), some (.int a1), some (.int a2), some (.int a3)] [] S (fun r S15 => r = none ∧ (ES E 40 103 [some (.ref (aN E i 0)), some (.int a1), some (.int a2), some (.int a3), some (.int a2), some (.int a3)] [] S15 K)))) ∧ (¬ (sN S i (9 + 2) ((((((sN S i 0 3) * (sN S i 9 0)) + 0) * 3) + a1).toNatClampNeg)) = (-2) → ((a1 = 0 → ((¬ (sN S i 0 3) < 0 ∧ ((sN S i 0 3).toNatClampNeg) < 30) ∧ (ES E 40 103 [some (.ref (aN E i 0)), some (.int a1), some (.int a2), some (.int a3), some (.int (sN S i (9 + 2) ((((((sN S i 0 3) * (sN S i 9 0)) + 0) * 3) + a1).toNatClampNeg))), some (.int (sN S i (9 + 1) ((sN S i 0 3).toNatClampNeg)))] [] S K))) ∧ (¬ a1 = 0 → (ES E 40 103 [some (.ref (aN E i 0)), some (.int a1), some (.int a2), some (.int a3), some (.int (sN S i (9 + 2) ((((((sN S i 0 3) * (sN S i 9 0)) + 0) * 3) + a1).toNatClampNeg))), some (.int a3)] [] S K)))))))))) : ES E 40 0 [some (.ref (aN E i 0)), some (.int a1), some (.int a2), some (.int a3), none, none] [] S K := by
  refine e_al x40_0 rfl (e_gN x40_1 hi (by decide) rfl (e_ic x40_4 (e_ne x40_5 (fun c1 => ?_) (fun c1 => ?_))))
  · replace H := H.1 c1
    refine e_il x40_8 rfl (e_eq0 x40_9 (fun c2 => ?_) (fun c2 => ?_))
    · replace H := H.1 c2
      refine e_il x40_16 rfl (e_ist (l' := [some (.ref (aN E i 0)), some (.int a1), some (.int a2), some (.int a3), some (.int a2), none]) x40_17 rfl rfl (e_il x40_19 rfl (e_ist (l' := [some (.ref (aN E i 0)), some (.int a1), some (.int a2), some (.int a3), some (.int a2), some (.int a3)]) x40_20 rfl rfl (e_al x40_22 rfl (e_gN x40_23 hi (by decide) rfl (e_ic x40_26 (e_eq x40_27 (fun c3 => ?_) (fun c3 => ?_))))))))
      · replace H := H.1 c3
        exact H
      · replace H := H.2 c3
        have c4 := H.1
        replace H := H.2
        refine e_al x40_30 rfl (e_PN x40_31 hi (by decide) rfl rfl (e_al x40_34 rfl (e_gN x40_35 hi (by decide) rfl (e_ic x40_38 (e_il x40_39 rfl (e_cV (l0 := [some (.ref (aN E i 9)), some (.int (sN S i 0 3)), some (.int 0), some (.int a1)]) x40_40 rfl rfl rfl rfl rfl (fun h hh => (hh.tN hi (Bal.l Bal.n9)).trans (Bal.t Bal.n9)) (e_al x8_0 rfl (e_PBv x8_1 hi Bal.n9 (e_il x8_4 rfl (e_al x8_5 rfl (e_gN x8_6 hi (Bal.l Bal.n9) (Bal.t Bal.n9) (e_ii (v := ((sN S i 0 3) * (sN S i 9 0))) x8_9 rfl (e_il x8_10 rfl (e_ii (v := (((sN S i 0 3) * (sN S i 9 0)) + 0)) x8_11 rfl (e_ic x8_12 (e_ii (v := ((((sN S i 0 3) * (sN S i 9 0)) + 0) * 3)) x8_13 rfl (e_il x8_14 rfl (e_ii (v := (((((sN S i 0 3) * (sN S i 9 0)) + 0) * 3) + a1)) x8_15 rfl (e_iaBv x8_16 hi Bal.n9 c4 (e_ic x8_17 (e_eq x8_19 (fun c5 => ?_) (fun c5 => ?_))))))))))))))))))))))
        · replace H := H.1 c5
          refine e_ic x8_26 (e_rz x8_27 (by decide) (e_eq0 x40_43 (fun _ => ?_) (fun z9 => absurd (by decide) z9)))
          refine e_al x40_86 rfl (e_PN x40_87 hi (by decide) rfl rfl (e_al x40_90 rfl (e_gN x40_91 hi (by decide) rfl (e_ic x40_94 (e_il x40_95 rfl (e_il x40_96 rfl (e_il x40_98 rfl (e_cV (l0 := [some (.ref (aN E i 9)), some (.int (sN S i 0 3)), some (.int 0), some (.int a1), some (.int a2), some (.int a3)]) x40_100 rfl rfl rfl rfl rfl (fun h hh => (hh.tN hi (Bal.l Bal.n9)).trans (Bal.t Bal.n9)) (ES.mono H ?_)))))))))
          rintro _ S6 ⟨rfl, H⟩
          exact H
        · replace H := H.2 c5
          refine e_ic x8_22 (e_goto x8_23 (e_rz x8_27 (by decide) (e_eq0 x40_43 (fun z9 => absurd z9 (by decide)) (fun _ => ?_))))
          refine e_al x40_46 rfl (e_PN x40_47 hi (by decide) rfl rfl (e_al x40_50 rfl (e_gN x40_51 hi (by decide) rfl (e_ic x40_54 (e_il x40_55 rfl (e_cV (l0 := [some (.ref (aN E i 9)), some (.int (sN S i 0 3)), some (.int 0), some (.int a1)]) x40_56 rfl rfl rfl rfl rfl (fun h hh => (hh.tN hi (Bal.l Bal.n9)).trans (Bal.t Bal.n9)) (e_al x9_0 rfl (e_PBv x9_1 hi Bal.n9 (e_il x9_4 rfl (e_al x9_5 rfl (e_gN x9_6 hi (Bal.l Bal.n9) (Bal.t Bal.n9) (e_ii (v := ((sN S i 0 3) * (sN S i 9 0))) x9_9 rfl (e_il x9_10 rfl (e_ii (v := (((sN S i 0 3) * (sN S i 9 0)) + 0)) x9_11 rfl (e_ic x9_12 (e_ii (v := ((((sN S i 0 3) * (sN S i 9 0)) + 0) * 3)) x9_13 rfl (e_il x9_14 rfl (e_ii (v := (((((sN S i 0 3) * (sN S i 9 0)) + 0) * 3) + a1)) x9_15 rfl (e_iaBv x9_16 hi Bal.n9 c4 (e_ri x9_17 (e_ist (l' := [some (.ref (aN E i 0)), some (.int a1), some (.int a2), some (.int a3), some (.int (sN S i (9 + 2) ((((((sN S i 0 3) * (sN S i 9 0)) + 0) * 3) + a1).toNatClampNeg))), some (.int a3)]) x40_59 rfl rfl (e_il x40_61 rfl (e_ne0 x40_62 (fun _ => ?_) (fun z9 => absurd c2 z9))))))))))))))))))))))))
          have c7 := H.1
          replace H := H.2
          exact e_al x40_65 rfl (e_PN x40_66 hi (by decide) rfl rfl (e_al x40_69 rfl (e_gN x40_70 hi (by decide) rfl (e_cV (l0 := [some (.ref (aN E i 9)), some (.int (sN S i 0 3))]) x40_73 rfl rfl rfl rfl rfl (fun h hh => (hh.tN hi (Bal.l Bal.n9)).trans (Bal.t Bal.n9)) (e_al x10_0 rfl (e_PBs x10_1 hi Bal.n9 (e_il x10_4 rfl (e_iaBs x10_5 hi Bal.n9 c7 (e_ri x10_6 (e_goto x40_76 (e_ist (l' := [some (.ref (aN E i 0)), some (.int a1), some (.int a2), some (.int a3), some (.int (sN S i (9 + 2) ((((((sN S i 0 3) * (sN S i 9 0)) + 0) * 3) + a1).toNatClampNeg))), some (.int (sN S i (9 + 1) ((sN S i 0 3).toNatClampNeg)))]) x40_81 rfl rfl (e_goto x40_83 (H)))))))))))))
    · replace H := H.2 c2
      refine e_ic x40_12 (e_goto x40_13 (e_ist (l' := [some (.ref (aN E i 0)), some (.int a1), some (.int a2), some (.int a3), some (.int 0), none]) x40_17 rfl rfl (e_il x40_19 rfl (e_ist (l' := [some (.ref (aN E i 0)), some (.int a1), some (.int a2), some (.int a3), some (.int 0), some (.int a3)]) x40_20 rfl rfl (e_al x40_22 rfl (e_gN x40_23 hi (by decide) rfl (e_ic x40_26 (e_eq x40_27 (fun c8 => ?_) (fun c8 => ?_)))))))))
      · replace H := H.1 c8
        exact H
      · replace H := H.2 c8
        have c9 := H.1
        replace H := H.2
        refine e_al x40_30 rfl (e_PN x40_31 hi (by decide) rfl rfl (e_al x40_34 rfl (e_gN x40_35 hi (by decide) rfl (e_ic x40_38 (e_il x40_39 rfl (e_cV (l0 := [some (.ref (aN E i 9)), some (.int (sN S i 0 3)), some (.int 0), some (.int a1)]) x40_40 rfl rfl rfl rfl rfl (fun h hh => (hh.tN hi (Bal.l Bal.n9)).trans (Bal.t Bal.n9)) (e_al x8_0 rfl (e_PBv x8_1 hi Bal.n9 (e_il x8_4 rfl (e_al x8_5 rfl (e_gN x8_6 hi (Bal.l Bal.n9) (Bal.t Bal.n9) (e_ii (v := ((sN S i 0 3) * (sN S i 9 0))) x8_9 rfl (e_il x8_10 rfl (e_ii (v := (((sN S i 0 3) * (sN S i 9 0)) + 0)) x8_11 rfl (e_ic x8_12 (e_ii (v := ((((sN S i 0 3) * (sN S i 9 0)) + 0) * 3)) x8_13 rfl (e_il x8_14 rfl (e_ii (v := (((((sN S i 0 3) * (sN S i 9 0)) + 0) * 3) + a1)) x8_15 rfl (e_iaBv x8_16 hi Bal.n9 c9 (e_ic x8_17 (e_eq x8_19 (fun c10 => ?_) (fun c10 => ?_))))))))))))))))))))))
        · replace H := H.1 c10
          refine e_ic x8_26 (e_rz x8_27 (by decide) (e_eq0 x40_43 (fun _ => ?_) (fun z9 => absurd (by decide) z9)))
          refine e_al x40_86 rfl (e_PN x40_87 hi (by decide) rfl rfl (e_al x40_90 rfl (e_gN x40_91 hi (by decide) rfl (e_ic x40_94 (e_il x40_95 rfl (e_il x40_96 rfl (e_il x40_98 rfl (e_cV (l0 := [some (.ref (aN E i 9)), some (.int (sN S i 0 3)), some (.int 0), some (.int a1), some (.int 0), some (.int a3)]) x40_100 rfl rfl rfl rfl rfl (fun h hh => (hh.tN hi (Bal.l Bal.n9)).trans (Bal.t Bal.n9)) (ES.mono H ?_)))))))))
          rintro _ S11 ⟨rfl, H⟩
          exact H
        · replace H := H.2 c10
          refine e_ic x8_22 (e_goto x8_23 (e_rz x8_27 (by decide) (e_eq0 x40_43 (fun z9 => absurd z9 (by decide)) (fun _ => ?_))))
          refine e_al x40_46 rfl (e_PN x40_47 hi (by decide) rfl rfl (e_al x40_50 rfl (e_gN x40_51 hi (by decide) rfl (e_ic x40_54 (e_il x40_55 rfl (e_cV (l0 := [some (.ref (aN E i 9)), some (.int (sN S i 0 3)), some (.int 0), some (.int a1)]) x40_56 rfl rfl rfl rfl rfl (fun h hh => (hh.tN hi (Bal.l Bal.n9)).trans (Bal.t Bal.n9)) (e_al x9_0 rfl (e_PBv x9_1 hi Bal.n9 (e_il x9_4 rfl (e_al x9_5 rfl (e_gN x9_6 hi (Bal.l Bal.n9) (Bal.t Bal.n9) (e_ii (v := ((sN S i 0 3) * (sN S i 9 0))) x9_9 rfl (e_il x9_10 rfl (e_ii (v := (((sN S i 0 3) * (sN S i 9 0)) + 0)) x9_11 rfl (e_ic x9_12 (e_ii (v := ((((sN S i 0 3) * (sN S i 9 0)) + 0) * 3)) x9_13 rfl (e_il x9_14 rfl (e_ii (v := (((((sN S i 0 3) * (sN S i 9 0)) + 0) * 3) + a1)) x9_15 rfl (e_iaBv x9_16 hi Bal.n9 c9 (e_ri x9_17 (e_ist (l' := [some (.ref (aN E i 0)), some (.int a1), some (.int a2), some (.int a3), some (.int (sN S i (9 + 2) ((((((sN S i 0 3) * (sN S i 9 0)) + 0) * 3) + a1).toNatClampNeg))), some (.int a3)]) x40_59 rfl rfl (e_il x40_61 rfl (e_ne0 x40_62 (fun z9 => absurd z9 c2) (fun _ => ?_))))))))))))))))))))))))
          exact e_il x40_79 rfl (e_ist (l' := [some (.ref (aN E i 0)), some (.int a1), some (.int a2), some (.int a3), some (.int (sN S i (9 + 2) ((((((sN S i 0 3) * (sN S i 9 0)) + 0) * 3) + a1).toNatClampNeg))), some (.int a3)]) x40_81 rfl rfl (e_goto x40_83 (H)))
  · replace H := H.2 c1
    refine e_il x40_16 rfl (e_ist (l' := [some (.ref (aN E i 0)), some (.int a1), some (.int a2), some (.int a3), some (.int a2), none]) x40_17 rfl rfl (e_il x40_19 rfl (e_ist (l' := [some (.ref (aN E i 0)), some (.int a1), some (.int a2), some (.int a3), some (.int a2), some (.int a3)]) x40_20 rfl rfl (e_al x40_22 rfl (e_gN x40_23 hi (by decide) rfl (e_ic x40_26 (e_eq x40_27 (fun c12 => ?_) (fun c12 => ?_))))))))
    · replace H := H.1 c12
      exact H
    · replace H := H.2 c12
      have c13 := H.1
      replace H := H.2
      refine e_al x40_30 rfl (e_PN x40_31 hi (by decide) rfl rfl (e_al x40_34 rfl (e_gN x40_35 hi (by decide) rfl (e_ic x40_38 (e_il x40_39 rfl (e_cV (l0 := [some (.ref (aN E i 9)), some (.int (sN S i 0 3)), some (.int 0), some (.int a1)]) x40_40 rfl rfl rfl rfl rfl (fun h hh => (hh.tN hi (Bal.l Bal.n9)).trans (Bal.t Bal.n9)) (e_al x8_0 rfl (e_PBv x8_1 hi Bal.n9 (e_il x8_4 rfl (e_al x8_5 rfl (e_gN x8_6 hi (Bal.l Bal.n9) (Bal.t Bal.n9) (e_ii (v := ((sN S i 0 3) * (sN S i 9 0))) x8_9 rfl (e_il x8_10 rfl (e_ii (v := (((sN S i 0 3) * (sN S i 9 0)) + 0)) x8_11 rfl (e_ic x8_12 (e_ii (v := ((((sN S i 0 3) * (sN S i 9 0)) + 0) * 3)) x8_13 rfl (e_il x8_14 rfl (e_ii (v := (((((sN S i 0 3) * (sN S i 9 0)) + 0) * 3) + a1)) x8_15 rfl (e_iaBv x8_16 hi Bal.n9 c13 (e_ic x8_17 (e_eq x8_19 (fun c14 => ?_) (fun c14 => ?_))))))))))))))))))))))
      · replace H := H.1 c14
        refine e_ic x8_26 (e_rz x8_27 (by decide) (e_eq0 x40_43 (fun _ => ?_) (fun z9 => absurd (by decide) z9)))
        refine e_al x40_86 rfl (e_PN x40_87 hi (by decide) rfl rfl (e_al x40_90 rfl (e_gN x40_91 hi (by decide) rfl (e_ic x40_94 (e_il x40_95 rfl (e_il x40_96 rfl (e_il x40_98 rfl (e_cV (l0 := [some (.ref (aN E i 9)), some (.int (sN S i 0 3)), some (.int 0), some (.int a1), some (.int a2), some (.int a3)]) x40_100 rfl rfl rfl rfl rfl (fun h hh => (hh.tN hi (Bal.l Bal.n9)).trans (Bal.t Bal.n9)) (ES.mono H ?_)))))))))
        rintro _ S15 ⟨rfl, H⟩
        exact H
      · replace H := H.2 c14
        refine e_ic x8_22 (e_goto x8_23 (e_rz x8_27 (by decide) (e_eq0 x40_43 (fun z9 => absurd z9 (by decide)) (fun _ => ?_))))
        refine e_al x40_46 rfl (e_PN x40_47 hi (by decide) rfl rfl (e_al x40_50 rfl (e_gN x40_51 hi (by decide) rfl (e_ic x40_54 (e_il x40_55 rfl (e_cV (l0 := [some (.ref (aN E i 9)), some (.int (sN S i 0 3)), some (.int 0), some (.int a1)]) x40_56 rfl rfl rfl rfl rfl (fun h hh => (hh.tN hi (Bal.l Bal.n9)).trans (Bal.t Bal.n9)) (e_al x9_0 rfl (e_PBv x9_1 hi Bal.n9 (e_il x9_4 rfl (e_al x9_5 rfl (e_gN x9_6 hi (Bal.l Bal.n9) (Bal.t Bal.n9) (e_ii (v := ((sN S i 0 3) * (sN S i 9 0))) x9_9 rfl (e_il x9_10 rfl (e_ii (v := (((sN S i 0 3) * (sN S i 9 0)) + 0)) x9_11 rfl (e_ic x9_12 (e_ii (v := ((((sN S i 0 3) * (sN S i 9 0)) + 0) * 3)) x9_13 rfl (e_il x9_14 rfl (e_ii (v := (((((sN S i 0 3) * (sN S i 9 0)) + 0) * 3) + a1)) x9_15 rfl (e_iaBv x9_16 hi Bal.n9 c13 (e_ri x9_17 (e_ist (l' := [some (.ref (aN E i 0)), some (.int a1), some (.int a2), some (.int a3), some (.int (sN S i (9 + 2) ((((((sN S i 0 3) * (sN S i 9 0)) + 0) * 3) + a1).toNatClampNeg))), some (.int a3)]) x40_59 rfl rfl (e_il x40_61 rfl (e_ne0 x40_62 (fun c16 => ?_) (fun c16 => ?_))))))))))))))))))))))))
        · replace H := H.1 c16
          have c17 := H.1
          replace H := H.2
          exact e_al x40_65 rfl (e_PN x40_66 hi (by decide) rfl rfl (e_al x40_69 rfl (e_gN x40_70 hi (by decide) rfl (e_cV (l0 := [some (.ref (aN E i 9)), some (.int (sN S i 0 3))]) x40_73 rfl rfl rfl rfl rfl (fun h hh => (hh.tN hi (Bal.l Bal.n9)).trans (Bal.t Bal.n9)) (e_al x10_0 rfl (e_PBs x10_1 hi Bal.n9 (e_il x10_4 rfl (e_iaBs x10_5 hi Bal.n9 c17 (e_ri x10_6 (e_goto x40_76 (e_ist (l' := [some (.ref (aN E i 0)), some (.int a1), some (.int a2), some (.int a3), some (.int (sN S i (9 + 2) ((((((sN S i 0 3) * (sN S i 9 0)) + 0) * 3) + a1).toNatClampNeg))), some (.int (sN S i (9 + 1) ((sN S i 0 3).toNatClampNeg)))]) x40_81 rfl rfl (e_goto x40_83 (H)))))))))))))
        · replace H := H.2 c16
          exact e_il x40_79 rfl (e_ist (l' := [some (.ref (aN E i 0)), some (.int a1), some (.int a2), some (.int a3), some (.int (sN S i (9 + 2) ((((((sN S i 0 3) * (sN S i 9 0)) + 0) * 3) + a1).toNatClampNeg))), some (.int a3)]) x40_81 rfl rfl (e_goto x40_83 (H)))

-- Node.send(III)V, from 103
set_option maxRecDepth 8000 in
theorem T40_103 {E : mE} {i : Nat} {v1 : Int32} {v2 : Int32} {v3 : Int32} {v4 : Int32} {v5 : Int32} {S : mS} {K : Option Value → mS → Prop} (hi : i < eN E) (H : (RB (sR S i 0)) ∧ ((¬ (((((sN S i 0 3) * (sN S i (sR S i 0) 0)) + (sN S i 0 0)) * 3) + v1) < 0 ∧ ((((((sN S i 0 3) * (sN S i (sR S i 0) 0)) + (sN S i 0 0)) * 3) + v1).toNatClampNeg) < lnB (eN E) (sR S i 0)) ∧ (((sN S i ((sR S i 0) + 2) ((((((sN S i 0 3) * (sN S i (sR S i 0) 0)) + (sN S i 0 0)) * 3) + v1).toNatClampNeg)) = (-2) → (ES E 11 0 [some (.ref (aN E i (sR S i 0))), some (.int (sN S i 0 3)), some (.int (sN S i 0 0)), some (.int v1), some (.int v4), some (.int v5)] [] S (fun r S4 => r = none ∧ (ES E 40 142 [some (.ref (aN E i 0)), some (.int v1), some (.int v2), some (.int v3), some (.int v4), some (.int v5)] [] S4 K)))) ∧ (¬ (sN S i ((sR S i 0) + 2) ((((((sN S i 0 3) * (sN S i (sR S i 0) 0)) + (sN S i 0 0)) * 3) + v1).toNatClampNeg)) = (-2) → (ES E 40 142 [some (.ref (aN E i 0)), some (.int v1), some (.int v2), some (.int v3), some (.int v4), some (.int v5)] [] S K))))) : ES E 40 103 [some (.ref (aN E i 0)), some (.int v1), some (.int v2), some (.int v3), some (.int v4), some (.int v5)] [] S K := by
  have c1 := H.1
  have c2 := H.2.1
  replace H := H.2.2
  refine e_al x40_103 rfl (e_PNp x40_104 hi (e_al x40_107 rfl (e_gN x40_108 hi (by decide) rfl (e_al x40_111 rfl (e_gN x40_112 hi (by decide) rfl (e_il x40_115 rfl (e_cV (l0 := [some (.ref (aN E i (sR S i 0))), some (.int (sN S i 0 3)), some (.int (sN S i 0 0)), some (.int v1)]) x40_116 rfl rfl rfl rfl rfl (fun h hh => (hh.tN hi (Bal.l (RB.b c1))).trans (Bal.t (RB.b c1))) (e_al x8_0 rfl (e_PBv x8_1 hi (RB.b c1) (e_il x8_4 rfl (e_al x8_5 rfl (e_gN x8_6 hi (Bal.l (RB.b c1)) (Bal.t (RB.b c1)) (e_ii (v := ((sN S i 0 3) * (sN S i (sR S i 0) 0))) x8_9 rfl (e_il x8_10 rfl (e_ii (v := (((sN S i 0 3) * (sN S i (sR S i 0) 0)) + (sN S i 0 0))) x8_11 rfl (e_ic x8_12 (e_ii (v := ((((sN S i 0 3) * (sN S i (sR S i 0) 0)) + (sN S i 0 0)) * 3)) x8_13 rfl (e_il x8_14 rfl (e_ii (v := (((((sN S i 0 3) * (sN S i (sR S i 0) 0)) + (sN S i 0 0)) * 3) + v1)) x8_15 rfl (e_iaBv x8_16 hi (RB.b c1) c2 (e_ic x8_17 (e_eq x8_19 (fun c3 => ?_) (fun c3 => ?_)))))))))))))))))))))))
  · replace H := H.1 c3
    refine e_ic x8_26 (e_rz x8_27 (by decide) (e_ne0 x40_119 (fun _ => ?_) (fun z9 => absurd (by decide) z9)))
    refine e_al x40_122 rfl (e_PNp x40_123 hi (e_al x40_126 rfl (e_gN x40_127 hi (by decide) rfl (e_al x40_130 rfl (e_gN x40_131 hi (by decide) rfl (e_il x40_134 rfl (e_il x40_135 rfl (e_il x40_137 rfl (e_cV (l0 := [some (.ref (aN E i (sR S i 0))), some (.int (sN S i 0 3)), some (.int (sN S i 0 0)), some (.int v1), some (.int v4), some (.int v5)]) x40_139 rfl rfl rfl rfl rfl (fun h hh => (hh.tN hi (Bal.l (RB.b c1))).trans (Bal.t (RB.b c1))) (ES.mono H ?_))))))))))
    rintro _ S4 ⟨rfl, H⟩
    exact H
  · replace H := H.2 c3
    refine e_ic x8_22 (e_goto x8_23 (e_rz x8_27 (by decide) (e_ne0 x40_119 (fun z9 => absurd z9 (by decide)) (fun _ => ?_))))
    exact H

-- Node.send(III)V, from 142
set_option maxRecDepth 8000 in
theorem T40_142 {E : mE} {i : Nat} {v1 : Int32} {v2 : Int32} {v3 : Int32} {v4 : Int32} {v5 : Int32} {S : mS} {K : Option Value → mS → Prop} (hi : i < eN E) (H : ∀ S1, S1 = uN S i 16 0 (sN S i 0 0) → (∀ S2, S2 = uN S1 i 16 2 (sN S1 i 0 2) → (∀ S3, S3 = uN S2 i 16 3 (sN S2 i 0 3) → (∀ S4, S4 = uN S3 i 16 4 v1 → (∀ S5, S5 = uN S4 i 16 5 v4 → (∀ S6, S6 = uN S5 i 16 6 v5 → (∀ S7, S7 = uN S6 i 0 17 1 → ((v1 = 0 → (ES E 40 224 [some (.ref (aN E i 0)), some (.int v1), some (.int v2), some (.int v3), some (.int v4), some (.int v5)] [] S7 K)) ∧ (¬ v1 = 0 → ((v1 = 1 → (∀ S10, S10 = uN S7 i 0 4 1 → (ES E 40 224 [some (.ref (aN E i 0)), some (.int v1), some (.int v2), some (.int v3), some (.int v4), some (.int v5)] [] S10 K))) ∧ (¬ v1 = 1 → (∀ S11, S11 = uN S7 i 0 4 2 → (ES E 40 224 [some (.ref (aN E i 0)), some (.int v1), some (.int v2), some (.int v3), some (.int v4), some (.int v5)] [] S11 K))))))))))))) : ES E 40 142 [some (.ref (aN E i 0)), some (.int v1), some (.int v2), some (.int v3), some (.int v4), some (.int v5)] [] S K := by
  refine e_al x40_142 rfl (e_PN x40_143 hi (by decide) rfl rfl (e_al x40_146 rfl (e_gN x40_147 hi (by decide) rfl (e_pN x40_150 hi (by decide) rfl ?_))))
  let S1 : mS := uN S i 16 0 (sN S i 0 0)
  replace H := H S1 rfl
  show ES _ _ _ _ _ S1 _
  refine e_al x40_153 rfl (e_PN x40_154 hi (by decide) rfl rfl (e_al x40_157 rfl (e_gN x40_158 hi (by decide) rfl (e_pN x40_161 hi (by decide) rfl ?_))))
  let S2 : mS := uN S1 i 16 2 (sN S1 i 0 2)
  replace H := H S2 rfl
  show ES _ _ _ _ _ S2 _
  refine e_al x40_164 rfl (e_PN x40_165 hi (by decide) rfl rfl (e_al x40_168 rfl (e_gN x40_169 hi (by decide) rfl (e_pN x40_172 hi (by decide) rfl ?_))))
  let S3 : mS := uN S2 i 16 3 (sN S2 i 0 3)
  replace H := H S3 rfl
  show ES _ _ _ _ _ S3 _
  refine e_al x40_175 rfl (e_PN x40_176 hi (by decide) rfl rfl (e_il x40_179 rfl (e_pN x40_180 hi (by decide) rfl ?_)))
  let S4 : mS := uN S3 i 16 4 v1
  replace H := H S4 rfl
  show ES _ _ _ _ _ S4 _
  refine e_al x40_183 rfl (e_PN x40_184 hi (by decide) rfl rfl (e_il x40_187 rfl (e_pN x40_189 hi (by decide) rfl ?_)))
  let S5 : mS := uN S4 i 16 5 v4
  replace H := H S5 rfl
  show ES _ _ _ _ _ S5 _
  refine e_al x40_192 rfl (e_PN x40_193 hi (by decide) rfl rfl (e_il x40_196 rfl (e_pN x40_198 hi (by decide) rfl ?_)))
  let S6 : mS := uN S5 i 16 6 v5
  replace H := H S6 rfl
  show ES _ _ _ _ _ S6 _
  refine e_al x40_201 rfl (e_ic x40_202 (e_zN x40_203 hi (by decide) rfl (by decide) ?_))
  let S7 : mS := uN S6 i 0 17 1
  replace H := H S7 rfl
  show ES _ _ _ _ _ S7 _
  refine e_il x40_206 rfl (e_eq0 x40_207 (fun c8 => ?_) (fun c8 => ?_))
  · replace H := H.1 c8
    exact H
  · replace H := H.2 c8
    refine e_al x40_210 rfl (e_il x40_211 rfl (e_ic x40_212 (e_ne x40_213 (fun c9 => ?_) (fun c9 => ?_))))
    · replace H := H.1 c9
      refine e_ic x40_216 (e_goto x40_217 (e_pN x40_221 hi (by decide) rfl ?_))
      let S10 : mS := uN S7 i 0 4 1
      replace H := H S10 rfl
      show ES _ _ _ _ _ S10 _
      exact H
    · replace H := H.2 c9
      refine e_ic x40_220 (e_pN x40_221 hi (by decide) rfl ?_)
      let S11 : mS := uN S7 i 0 4 2
      replace H := H S11 rfl
      show ES _ _ _ _ _ S11 _
      exact H

-- Node.send(III)V, from 224
set_option maxRecDepth 8000 in
theorem T40_224 {E : mE} {i : Nat} {v1 : Int32} {v2 : Int32} {v3 : Int32} {v4 : Int32} {v5 : Int32} {S : mS} {K : Option Value → mS → Prop} (hi : i < eN E) (H : K none S) : ES E 40 224 [some (.ref (aN E i 0)), some (.int v1), some (.int v2), some (.int v3), some (.int v4), some (.int v5)] [] S K := by
  exact e_rv x40_224 H

-- Node.followsRule(I)Z, from 0
set_option maxRecDepth 8000 in
theorem T43 {E : mE} {i : Nat} {a1 : Int32} {S : mS} {K : Option Value → mS → Prop} (hi : i < eN E) (H : ((sN S i 0 2) ≤ 40 → (ES E 44 0 [some (.ref (aN E i 0)), none, none, none] [] S (fun r S2 => ∃ x3 : Int32, r = some (.int x3) ∧ ((x3 = (-1) → (ES E 49 0 [some (.ref (aN E i 0)), none, none] [] S2 (fun r S5 => ∃ x6 : Int32, r = some (.int x6) ∧ ((x6 = (-1) → (ES E 51 0 [some (.ref (aN E i 0)), none, none] [] S5 (fun r S8 => ∃ x9 : Int32, r = some (.int x9) ∧ ((x9 = 0 → (ES E 53 0 [some (.ref (aN E i 0)), none] [] S8 (fun r S11 => ∃ x12 : Int32, r = some (.int x12) ∧ ((x12 = 0 → (ES E 54 0 [some (.ref (aN E i 0))] [] S11 (fun r S14 => ∃ x15 : Int32, r = some (.int x15) ∧ ((x15 = 0 → (ES E 55 0 [some (.ref (aN E i 0)), some (.int a1)] [] S14 (fun r S17 => ∃ x18 : Int32, r = some (.int x18) ∧ ((x18 = 0 → (ES E 56 0 [some (.ref (aN E i 0)), some (.int a1)] [] S17 (fun r S20 => ∃ x21 : Int32, r = some (.int x21) ∧ ((x21 = 0 → (K (some (.int 0)) S20)) ∧ (¬ x21 = 0 → (K (some (.int 1)) S20)))))) ∧ (¬ x18 = 0 → (K (some (.int 1)) S17)))))) ∧ (¬ x15 = 0 → (K (some (.int 1)) S14)))))) ∧ (¬ x12 = 0 → (K (some (.int 1)) S11)))))) ∧ (¬ x9 = 0 → (K (some (.int 1)) S8)))))) ∧ (¬ x6 = (-1) → (ES E 38 0 [some (.ref (aN E i 0)), some (.int x6), some (.int a1), none] [] S5 (fun r S23 => r = none ∧ (K (some (.int 1)) S23)))))))) ∧ (¬ x3 = (-1) → (ES E 47 0 [some (.ref (aN E i 0)), some (.int x3), none] [] S2 (fun r S24 => r = none ∧ (ES E 38 0 [some (.ref (aN E i 0)), some (.int 0), some (.int a1), none] [] S24 (fun r S25 => r = none ∧ (K (some (.int 1)) S25)))))))))) ∧ (¬ (sN S i 0 2) ≤ 40 → (K (some (.int 0)) S))) : ES E 43 0 [some (.ref (aN E i 0)), some (.int a1), none, none] [] S K := by
  refine e_al x43_0 rfl (e_cV (l0 := [some (.ref (aN E i 0))]) x43_1 rfl rfl rfl rfl rfl (fun h hh => hh.tN hi (by decide)) (e_al x39_0 rfl (e_gN x39_1 hi (by decide) rfl (e_ic x39_4 (e_le x39_6 (fun c1 => ?_) (fun c1 => ?_))))))
  · replace H := H.1 c1
    refine e_ic x39_13 (e_rz x39_14 (by decide) (e_eq0 x43_4 (fun _ => ?_) (fun z9 => absurd (by decide) z9)))
    refine e_al x43_9 rfl (e_cV (l0 := [some (.ref (aN E i 0)), none, none, none]) x43_10 rfl rfl rfl rfl rfl (fun h hh => hh.tN hi (by decide)) (ES.mono H ?_))
    rintro _ S2 ⟨x3, rfl, H⟩
    refine e_ist (l' := [some (.ref (aN E i 0)), some (.int a1), some (.int x3), none]) x43_13 rfl rfl (e_il x43_14 rfl (e_ic x43_15 (e_eq x43_16 (fun c4 => ?_) (fun c4 => ?_))))
    · replace H := H.1 c4
      refine e_al x43_32 rfl (e_cV (l0 := [some (.ref (aN E i 0)), none, none]) x43_33 rfl rfl rfl rfl rfl (fun h hh => hh.tN hi (by decide)) (ES.mono H ?_))
      rintro _ S5 ⟨x6, rfl, H⟩
      refine e_ist (l' := [some (.ref (aN E i 0)), some (.int a1), some (.int x3), some (.int x6)]) x43_36 rfl rfl (e_il x43_37 rfl (e_ic x43_38 (e_eq x43_39 (fun c7 => ?_) (fun c7 => ?_))))
      · replace H := H.1 c7
        refine e_al x43_50 rfl (e_cV (l0 := [some (.ref (aN E i 0)), none, none]) x43_51 rfl rfl rfl rfl rfl (fun h hh => hh.tN hi (by decide)) (ES.mono H ?_))
        rintro _ S8 ⟨x9, rfl, H⟩
        refine e_ne0 x43_54 (fun c10 => ?_) (fun c10 => ?_)
        · replace H := H.1 c10
          refine e_al x43_57 rfl (e_cV (l0 := [some (.ref (aN E i 0)), none]) x43_58 rfl rfl rfl rfl rfl (fun h hh => hh.tN hi (by decide)) (ES.mono H ?_))
          rintro _ S11 ⟨x12, rfl, H⟩
          refine e_ne0 x43_61 (fun c13 => ?_) (fun c13 => ?_)
          · replace H := H.1 c13
            refine e_al x43_64 rfl (e_cV (l0 := [some (.ref (aN E i 0))]) x43_65 rfl rfl rfl rfl rfl (fun h hh => hh.tN hi (by decide)) (ES.mono H ?_))
            rintro _ S14 ⟨x15, rfl, H⟩
            refine e_ne0 x43_68 (fun c16 => ?_) (fun c16 => ?_)
            · replace H := H.1 c16
              refine e_al x43_71 rfl (e_il x43_72 rfl (e_cV (l0 := [some (.ref (aN E i 0)), some (.int a1)]) x43_73 rfl rfl rfl rfl rfl (fun h hh => hh.tN hi (by decide)) (ES.mono H ?_)))
              rintro _ S17 ⟨x18, rfl, H⟩
              refine e_ne0 x43_76 (fun c19 => ?_) (fun c19 => ?_)
              · replace H := H.1 c19
                refine e_al x43_79 rfl (e_il x43_80 rfl (e_cV (l0 := [some (.ref (aN E i 0)), some (.int a1)]) x43_81 rfl rfl rfl rfl rfl (fun h hh => hh.tN hi (by decide)) (ES.mono H ?_)))
                rintro _ S20 ⟨x21, rfl, H⟩
                refine e_eq0 x43_84 (fun c22 => ?_) (fun c22 => ?_)
                · replace H := H.1 c22
                  exact e_ic x43_91 (e_rz x43_92 (by decide) H)
                · replace H := H.2 c22
                  exact e_ic x43_87 (e_goto x43_88 (e_rz x43_92 (by decide) H))
              · replace H := H.2 c19
                exact e_ic x43_87 (e_goto x43_88 (e_rz x43_92 (by decide) H))
            · replace H := H.2 c16
              exact e_ic x43_87 (e_goto x43_88 (e_rz x43_92 (by decide) H))
          · replace H := H.2 c13
            exact e_ic x43_87 (e_goto x43_88 (e_rz x43_92 (by decide) H))
        · replace H := H.2 c10
          exact e_ic x43_87 (e_goto x43_88 (e_rz x43_92 (by decide) H))
      · replace H := H.2 c7
        refine e_al x43_42 rfl (e_il x43_43 rfl (e_il x43_44 rfl (e_cV (l0 := [some (.ref (aN E i 0)), some (.int x6), some (.int a1), none]) x43_45 rfl rfl rfl rfl rfl (fun h hh => hh.tN hi (by decide)) (ES.mono H ?_))))
        rintro _ S23 ⟨rfl, H⟩
        exact e_ic x43_48 (e_rz x43_49 (by decide) H)
    · replace H := H.2 c4
      refine e_al x43_19 rfl (e_il x43_20 rfl (e_cV (l0 := [some (.ref (aN E i 0)), some (.int x3), none]) x43_21 rfl rfl rfl rfl rfl (fun h hh => hh.tN hi (by decide)) (ES.mono H ?_)))
      rintro _ S24 ⟨rfl, H⟩
      refine e_al x43_24 rfl (e_ic x43_25 (e_il x43_26 rfl (e_cV (l0 := [some (.ref (aN E i 0)), some (.int 0), some (.int a1), none]) x43_27 rfl rfl rfl rfl rfl (fun h hh => hh.tN hi (by decide)) (ES.mono H ?_))))
      rintro _ S25 ⟨rfl, H⟩
      exact e_ic x43_30 (e_rz x43_31 (by decide) H)
  · replace H := H.2 c1
    refine e_ic x39_9 (e_goto x39_10 (e_rz x39_14 (by decide) (e_eq0 x43_4 (fun z9 => absurd z9 (by decide)) (fun _ => ?_))))
    exact e_ic x43_7 (e_rz x43_8 (by decide) H)

-- Node.roundToDecide()I, from 0
set_option maxRecDepth 8000 in
theorem T44 {E : mE} {i : Nat} {S : mS} {K : Option Value → mS → Prop} (hi : i < eN E) (H : (RB (sR S i 0)) ∧ (ES E 44 10 [some (.ref (aN E i 0)), some (.int (sN S i (sR S i 0) 3)), some (.int 0), none] [] S K)) : ES E 44 0 [some (.ref (aN E i 0)), none, none, none] [] S K := by
  have c1 := H.1
  replace H := H.2
  exact e_al x44_0 rfl (e_PNp x44_1 hi (e_gN x44_4 hi (Bal.l (RB.b c1)) (Bal.t (RB.b c1)) (e_ist (l' := [some (.ref (aN E i 0)), some (.int (sN S i (sR S i 0) 3)), none, none]) x44_7 rfl rfl (e_ic x44_8 (e_ist (l' := [some (.ref (aN E i 0)), some (.int (sN S i (sR S i 0) 3)), some (.int 0), none]) x44_9 rfl rfl (H))))))

-- Node.roundToDecide()I, from 10
set_option maxRecDepth 8000 in
theorem T44_10 {E : mE} {i : Nat} {v1 : Int32} {v2 : Int32} {S : mS} {K : Option Value → mS → Prop} (hi : i < eN E) (H : (v1 < v2 → (K (some (.int (-1))) S)) ∧ (¬ v1 < v2 → ((RB (sR S i 0)) ∧ ((¬ (sK S 9 0) = 0) ∧ ((¬ ((((v2 * (sN S i (sR S i 0) 0)) + (((sN S i 0 2) + v2) - ((sN S i 0 2) + v2) / (sK S 9 0) * (sK S 9 0))) * 3) + 0) < 0 ∧ (((((v2 * (sN S i (sR S i 0) 0)) + (((sN S i 0 2) + v2) - ((sN S i 0 2) + v2) / (sK S 9 0) * (sK S 9 0))) * 3) + 0).toNatClampNeg) < lnB (eN E) (sR S i 0)) ∧ (((sN S i ((sR S i 0) + 2) (((((v2 * (sN S i (sR S i 0) 0)) + (((sN S i 0 2) + v2) - ((sN S i 0 2) + v2) / (sK S 9 0) * (sK S 9 0))) * 3) + 0).toNatClampNeg)) = (-2) → (ES E 44 10 [some (.ref (aN E i 0)), some (.int v1), some (.int (v2 + 1)), none] [] S K)) ∧ (¬ (sN S i ((sR S i 0) + 2) (((((v2 * (sN S i (sR S i 0) 0)) + (((sN S i 0 2) + v2) - ((sN S i 0 2) + v2) / (sK S 9 0) * (sK S 9 0))) * 3) + 0).toNatClampNeg)) = (-2) → (ES E 12 0 [some (.ref (aN E i (sR S i 0))), some (.int v2), some (.int 2), some (.int (sN S i ((sR S i 0) + 2) (((((v2 * (sN S i (sR S i 0) 0)) + (((sN S i 0 2) + v2) - ((sN S i 0 2) + v2) / (sK S 9 0) * (sK S 9 0))) * 3) + 0).toNatClampNeg))), none, none] [] S (fun r S6 => ∃ x7 : Int32, r = some (.int x7) ∧ (ES E 46 0 [some (.ref (aN E i 0)), some (.int x7)] [] S6 (fun r S8 => ∃ x9 : Int32, r = some (.int x9) ∧ ((x9 = 0 → (ES E 44 10 [some (.ref (aN E i 0)), some (.int v1), some (.int (v2 + 1)), none] [] S8 K)) ∧ (¬ x9 = 0 → (K (some (.int v2)) S8)))))))))))))) : ES E 44 10 [some (.ref (aN E i 0)), some (.int v1), some (.int v2), none] [] S K := by
  refine e_il x44_10 rfl (e_il x44_11 rfl (e_gt x44_12 (fun c1 => ?_) (fun c1 => ?_)))
  · replace H := H.1 c1
    exact e_ic x44_52 (e_ri x44_53 H)
  · replace H := H.2 c1
    have c2 := H.1
    have c3 := H.2.1
    have c4 := H.2.2.1
    replace H := H.2.2.2
    refine e_al x44_15 rfl (e_il x44_16 rfl (e_cV (l0 := [some (.ref (aN E i 0)), some (.int v2)]) x44_17 rfl rfl rfl rfl rfl (fun h hh => hh.tN hi (by decide)) (e_al x45_0 rfl (e_PNp x45_1 hi (e_il x45_4 rfl (e_al x45_5 rfl (e_PNs x45_6 hi (e_al x45_9 rfl (e_gN x45_10 hi (by decide) rfl (e_il x45_13 rfl (e_cV (l0 := [some (.ref (aK E 9)), some (.int (sN S i 0 2)), some (.int v2)]) x45_14 rfl rfl rfl rfl rfl (fun h hh => hh.tK (by decide)) (e_il x28_0 rfl (e_il x28_1 rfl (e_ii (v := ((sN S i 0 2) + v2)) x28_2 rfl (e_al x28_3 rfl (e_gK x28_4 (by decide) rfl (e_rem x28_7 c3 (e_ri x28_8 (e_ic x45_17 (e_cV (l0 := [some (.ref (aN E i (sR S i 0))), some (.int v2), some (.int (((sN S i 0 2) + v2) - ((sN S i 0 2) + v2) / (sK S 9 0) * (sK S 9 0))), some (.int 0)]) x45_18 rfl rfl rfl rfl rfl (fun h hh => (hh.tN hi (Bal.l (RB.b c2))).trans (Bal.t (RB.b c2))) (e_al x9_0 rfl (e_PBv x9_1 hi (RB.b c2) (e_il x9_4 rfl (e_al x9_5 rfl (e_gN x9_6 hi (Bal.l (RB.b c2)) (Bal.t (RB.b c2)) (e_ii (v := (v2 * (sN S i (sR S i 0) 0))) x9_9 rfl (e_il x9_10 rfl (e_ii (v := ((v2 * (sN S i (sR S i 0) 0)) + (((sN S i 0 2) + v2) - ((sN S i 0 2) + v2) / (sK S 9 0) * (sK S 9 0)))) x9_11 rfl (e_ic x9_12 (e_ii (v := (((v2 * (sN S i (sR S i 0) 0)) + (((sN S i 0 2) + v2) - ((sN S i 0 2) + v2) / (sK S 9 0) * (sK S 9 0))) * 3)) x9_13 rfl (e_il x9_14 rfl (e_ii (v := ((((v2 * (sN S i (sR S i 0) 0)) + (((sN S i 0 2) + v2) - ((sN S i 0 2) + v2) / (sK S 9 0) * (sK S 9 0))) * 3) + 0)) x9_15 rfl (e_iaBv x9_16 hi (RB.b c2) c4 (e_ri x9_17 (e_ri x45_21 (e_ist (l' := [some (.ref (aN E i 0)), some (.int v1), some (.int v2), some (.int (sN S i ((sR S i 0) + 2) (((((v2 * (sN S i (sR S i 0) 0)) + (((sN S i 0 2) + v2) - ((sN S i 0 2) + v2) / (sK S 9 0) * (sK S 9 0))) * 3) + 0).toNatClampNeg)))]) x44_20 rfl rfl (e_il x44_21 rfl (e_ic x44_22 (e_eq x44_24 (fun c5 => ?_) (fun c5 => ?_))))))))))))))))))))))))))))))))))))))))
    · replace H := H.1 c5
      exact e_inc (l' := [some (.ref (aN E i 0)), some (.int v1), some (.int (v2 + 1)), some (.int (sN S i ((sR S i 0) + 2) (((((v2 * (sN S i (sR S i 0) 0)) + (((sN S i 0 2) + v2) - ((sN S i 0 2) + v2) / (sK S 9 0) * (sK S 9 0))) * 3) + 0).toNatClampNeg)))]) x44_46 rfl rfl rfl (e_back (l' := [some (.ref (aN E i 0)), some (.int v1), some (.int (v2 + 1)), none]) x44_49 rfl (H))
    · replace H := H.2 c5
      refine e_al x44_27 rfl (e_al x44_28 rfl (e_PNp x44_29 hi (e_il x44_32 rfl (e_ic x44_33 (e_il x44_34 rfl (e_cV (l0 := [some (.ref (aN E i (sR S i 0))), some (.int v2), some (.int 2), some (.int (sN S i ((sR S i 0) + 2) (((((v2 * (sN S i (sR S i 0) 0)) + (((sN S i 0 2) + v2) - ((sN S i 0 2) + v2) / (sK S 9 0) * (sK S 9 0))) * 3) + 0).toNatClampNeg))), none, none]) x44_35 rfl rfl rfl rfl rfl (fun h hh => (hh.tN hi (Bal.l (RB.b c2))).trans (Bal.t (RB.b c2))) (ES.mono H ?_)))))))
      rintro _ S6 ⟨x7, rfl, H⟩
      refine e_cV (l0 := [some (.ref (aN E i 0)), some (.int x7)]) x44_38 rfl rfl rfl rfl rfl (fun h hh => hh.tN hi (by decide)) (ES.mono H ?_)
      rintro _ S8 ⟨x9, rfl, H⟩
      refine e_eq0 x44_41 (fun c10 => ?_) (fun c10 => ?_)
      · replace H := H.1 c10
        exact e_inc (l' := [some (.ref (aN E i 0)), some (.int v1), some (.int (v2 + 1)), some (.int (sN S i ((sR S i 0) + 2) (((((v2 * (sN S i (sR S i 0) 0)) + (((sN S i 0 2) + v2) - ((sN S i 0 2) + v2) / (sK S 9 0) * (sK S 9 0))) * 3) + 0).toNatClampNeg)))]) x44_46 rfl rfl rfl (e_back (l' := [some (.ref (aN E i 0)), some (.int v1), some (.int (v2 + 1)), none]) x44_49 rfl (H))
      · replace H := H.2 c10
        exact e_il x44_44 rfl (e_ri x44_45 H)

-- Node.areMany(I)Z, from 0
set_option maxRecDepth 8000 in
theorem T46 {E : mE} {i : Nat} {a1 : Int32} {S : mS} {K : Option Value → mS → Prop} (hi : i < eN E) (H : ES E 30 0 [some (.ref (aK E 9)), some (.int a1), some (.int (sN S i 0 2)), none, none] [] S (fun r S1 => ∃ x2 : Int32, r = some (.int x2) ∧ ((¬ (sN S1 i 0 2) < 0 ∧ ((sN S1 i 0 2).toNatClampNeg) < 41) ∧ (((3 * x2) ≤ (2 * (sK S1 10 ((sN S1 i 0 2).toNatClampNeg))) → (K (some (.int 0)) S1)) ∧ (¬ (3 * x2) ≤ (2 * (sK S1 10 ((sN S1 i 0 2).toNatClampNeg))) → (K (some (.int 1)) S1)))))) : ES E 46 0 [some (.ref (aN E i 0)), some (.int a1)] [] S K := by
  refine e_ic x46_0 (e_al x46_1 rfl (e_PNs x46_2 hi (e_il x46_5 rfl (e_al x46_6 rfl (e_gN x46_7 hi (by decide) rfl (e_cV (l0 := [some (.ref (aK E 9)), some (.int a1), some (.int (sN S i 0 2)), none, none]) x46_10 rfl rfl rfl rfl rfl (fun h hh => hh.tK (by decide)) (ES.mono H ?_)))))))
  rintro _ S1 ⟨x2, rfl, H⟩
  have c3 := H.1
  replace H := H.2
  refine e_ii (v := (3 * x2)) x46_13 rfl (e_ic x46_14 (e_al x46_15 rfl (e_PNs x46_16 hi (e_PK x46_19 (by decide) rfl rfl (e_al x46_22 rfl (e_gN x46_23 hi (by decide) rfl (e_iaK x46_26 (by decide) rfl c3 (e_ii (v := (2 * (sK S1 10 ((sN S1 i 0 2).toNatClampNeg)))) x46_27 rfl (e_le x46_28 (fun c4 => ?_) (fun c4 => ?_))))))))))
  · replace H := H.1 c4
    exact e_ic x46_35 (e_rz x46_36 (by decide) H)
  · replace H := H.2 c4
    exact e_ic x46_31 (e_goto x46_32 (e_rz x46_36 (by decide) H))

-- Node.decide(I)V, from 0
set_option maxRecDepth 8000 in
theorem T47 {E : mE} {i : Nat} {a1 : Int32} {S : mS} {K : Option Value → mS → Prop} (hi : i < eN E) (H : (RB (sR S i 0)) ∧ ((¬ (sK S 9 0) = 0) ∧ ((¬ ((((a1 * (sN S i (sR S i 0) 0)) + (((sN S i 0 2) + a1) - ((sN S i 0 2) + a1) / (sK S 9 0) * (sK S 9 0))) * 3) + 0) < 0 ∧ (((((a1 * (sN S i (sR S i 0) 0)) + (((sN S i 0 2) + a1) - ((sN S i 0 2) + a1) / (sK S 9 0) * (sK S 9 0))) * 3) + 0).toNatClampNeg) < lnB (eN E) (sR S i 0)) ∧ (ES E 12 0 [some (.ref (aN E i (sR S i 0))), some (.int a1), some (.int 2), some (.int (sN S i ((sR S i 0) + 2) (((((a1 * (sN S i (sR S i 0) 0)) + (((sN S i 0 2) + a1) - ((sN S i 0 2) + a1) / (sK S 9 0) * (sK S 9 0))) * 3) + 0).toNatClampNeg))), none, none] [] S (fun r S4 => ∃ x5 : Int32, r = some (.int x5) ∧ ((¬ (sN S i 0 2) < 0 ∧ ((sN S i 0 2).toNatClampNeg) < 41) ∧ (∀ S7, S7 = uN S4 i 6 ((sN S i 0 2).toNatClampNeg) (sN S i ((sR S i 0) + 2) (((((a1 * (sN S i (sR S i 0) 0)) + (((sN S i 0 2) + a1) - ((sN S i 0 2) + a1) / (sK S 9 0) * (sK S 9 0))) * 3) + 0).toNatClampNeg)) → (∀ S8, S8 = uN S7 i 7 ((sN S i 0 2).toNatClampNeg) a1 → (∀ S9, S9 = uN S8 i 8 ((sN S i 0 2).toNatClampNeg) x5 → (ES E 48 0 [some (.ref (aN E i 0)), none] [] S9 (fun r S10 => r = none ∧ (K none S10)))))))))))) : ES E 47 0 [some (.ref (aN E i 0)), some (.int a1), none] [] S K := by
  have c1 := H.1
  have c2 := H.2.1
  have c3 := H.2.2.1
  replace H := H.2.2.2
  refine e_al x47_0 rfl (e_il x47_1 rfl (e_cV (l0 := [some (.ref (aN E i 0)), some (.int a1)]) x47_2 rfl rfl rfl rfl rfl (fun h hh => hh.tN hi (by decide)) (e_al x45_0 rfl (e_PNp x45_1 hi (e_il x45_4 rfl (e_al x45_5 rfl (e_PNs x45_6 hi (e_al x45_9 rfl (e_gN x45_10 hi (by decide) rfl (e_il x45_13 rfl (e_cV (l0 := [some (.ref (aK E 9)), some (.int (sN S i 0 2)), some (.int a1)]) x45_14 rfl rfl rfl rfl rfl (fun h hh => hh.tK (by decide)) (e_il x28_0 rfl (e_il x28_1 rfl (e_ii (v := ((sN S i 0 2) + a1)) x28_2 rfl (e_al x28_3 rfl (e_gK x28_4 (by decide) rfl (e_rem x28_7 c2 (e_ri x28_8 (e_ic x45_17 (e_cV (l0 := [some (.ref (aN E i (sR S i 0))), some (.int a1), some (.int (((sN S i 0 2) + a1) - ((sN S i 0 2) + a1) / (sK S 9 0) * (sK S 9 0))), some (.int 0)]) x45_18 rfl rfl rfl rfl rfl (fun h hh => (hh.tN hi (Bal.l (RB.b c1))).trans (Bal.t (RB.b c1))) (e_al x9_0 rfl (e_PBv x9_1 hi (RB.b c1) (e_il x9_4 rfl (e_al x9_5 rfl (e_gN x9_6 hi (Bal.l (RB.b c1)) (Bal.t (RB.b c1)) (e_ii (v := (a1 * (sN S i (sR S i 0) 0))) x9_9 rfl (e_il x9_10 rfl (e_ii (v := ((a1 * (sN S i (sR S i 0) 0)) + (((sN S i 0 2) + a1) - ((sN S i 0 2) + a1) / (sK S 9 0) * (sK S 9 0)))) x9_11 rfl (e_ic x9_12 (e_ii (v := (((a1 * (sN S i (sR S i 0) 0)) + (((sN S i 0 2) + a1) - ((sN S i 0 2) + a1) / (sK S 9 0) * (sK S 9 0))) * 3)) x9_13 rfl (e_il x9_14 rfl (e_ii (v := ((((a1 * (sN S i (sR S i 0) 0)) + (((sN S i 0 2) + a1) - ((sN S i 0 2) + a1) / (sK S 9 0) * (sK S 9 0))) * 3) + 0)) x9_15 rfl (e_iaBv x9_16 hi (RB.b c1) c3 (e_ri x9_17 (e_ri x45_21 (e_ist (l' := [some (.ref (aN E i 0)), some (.int a1), some (.int (sN S i ((sR S i 0) + 2) (((((a1 * (sN S i (sR S i 0) 0)) + (((sN S i 0 2) + a1) - ((sN S i 0 2) + a1) / (sK S 9 0) * (sK S 9 0))) * 3) + 0).toNatClampNeg)))]) x47_5 rfl rfl (e_al x47_6 rfl (e_PN x47_7 hi (by decide) rfl rfl (e_al x47_10 rfl (e_gN x47_11 hi (by decide) rfl (e_il x47_14 rfl (e_il x47_15 rfl (e_al x47_16 rfl (e_PNp x47_17 hi (e_il x47_20 rfl (e_ic x47_21 (e_il x47_22 rfl (e_cV (l0 := [some (.ref (aN E i (sR S i 0))), some (.int a1), some (.int 2), some (.int (sN S i ((sR S i 0) + 2) (((((a1 * (sN S i (sR S i 0) 0)) + (((sN S i 0 2) + a1) - ((sN S i 0 2) + a1) / (sK S 9 0) * (sK S 9 0))) * 3) + 0).toNatClampNeg))), none, none]) x47_23 rfl rfl rfl rfl rfl (fun h hh => (hh.tN hi (Bal.l (RB.b c1))).trans (Bal.t (RB.b c1))) (ES.mono H ?_)))))))))))))))))))))))))))))))))))))))))))))))))
  rintro _ S4 ⟨x5, rfl, H⟩
  have c6 := H.1
  replace H := H.2
  refine e_cV (l0 := [some (.ref (aN E i 5)), some (.int (sN S i 0 2)), some (.int (sN S i ((sR S i 0) + 2) (((((a1 * (sN S i (sR S i 0) 0)) + (((sN S i 0 2) + a1) - ((sN S i 0 2) + a1) / (sK S 9 0) * (sK S 9 0))) * 3) + 0).toNatClampNeg))), some (.int a1), some (.int x5)]) x47_26 rfl rfl rfl rfl rfl (fun h hh => hh.tN hi (by decide)) (e_al x16_0 rfl (e_PN x16_1 hi (by decide) rfl rfl (e_il x16_4 rfl (e_il x16_5 rfl (e_waN x16_6 hi (by decide) rfl c6 ?_)))))
  let S7 : mS := uN S4 i 6 ((sN S i 0 2).toNatClampNeg) (sN S i ((sR S i 0) + 2) (((((a1 * (sN S i (sR S i 0) 0)) + (((sN S i 0 2) + a1) - ((sN S i 0 2) + a1) / (sK S 9 0) * (sK S 9 0))) * 3) + 0).toNatClampNeg))
  replace H := H S7 rfl
  show ES _ _ _ _ _ S7 _
  refine e_al x16_7 rfl (e_PN x16_8 hi (by decide) rfl rfl (e_il x16_11 rfl (e_il x16_12 rfl (e_waN x16_13 hi (by decide) rfl c6 ?_))))
  let S8 : mS := uN S7 i 7 ((sN S i 0 2).toNatClampNeg) a1
  replace H := H S8 rfl
  show ES _ _ _ _ _ S8 _
  refine e_al x16_14 rfl (e_PN x16_15 hi (by decide) rfl rfl (e_il x16_18 rfl (e_il x16_19 rfl (e_waN x16_21 hi (by decide) rfl c6 ?_))))
  let S9 : mS := uN S8 i 8 ((sN S i 0 2).toNatClampNeg) x5
  replace H := H S9 rfl
  show ES _ _ _ _ _ S9 _
  refine e_rv x16_22 (e_al x47_29 rfl (e_cV (l0 := [some (.ref (aN E i 0)), none]) x47_30 rfl rfl rfl rfl rfl (fun h hh => hh.tN hi (by decide)) (ES.mono H ?_)))
  rintro _ S10 ⟨rfl, H⟩
  exact e_rv x47_33 H

-- Node.goToNextHeight()V, from 0
set_option maxRecDepth 8000 in
theorem T48 {E : mE} {i : Nat} {S : mS} {K : Option Value → mS → Prop} (hi : i < eN E) (H : ∀ S1, S1 = uN S i 0 2 ((sN S i 0 2) + 1) → (∀ S2, S2 = uN S1 i 1 0 0 → (∀ S3, S3 = uN S2 i 1 1 (-1) → (∀ S4, S4 = uN S3 i 2 0 0 → (∀ S5, S5 = uN S4 i 2 1 (-1) → ((RB (sR S i 0)) ∧ (ES E 13 0 [some (.ref (aN E i (sR S i 0))), none, none] [] S5 (fun r S7 => r = none ∧ ((RB (sR S7 i 1)) ∧ (∀ S9, S9 = uR S7 i 0 (sR S7 i 1) → (∀ S10, S10 = uR S9 i 1 (sR S i 0) → (ES E 13 0 [some (.ref (aN E i 9)), none, none] [] S10 (fun r S11 => r = none ∧ (ES E 13 0 [some (.ref (aN E i 13)), none, none] [] S11 (fun r S12 => r = none ∧ (K none S12)))))))))))))))) : ES E 48 0 [some (.ref (aN E i 0)), none] [] S K := by
  refine e_al x48_0 rfl (e_dupr x48_1 (e_gN x48_2 hi (by decide) rfl (e_ic x48_5 (e_ii (v := ((sN S i 0 2) + 1)) x48_6 rfl (e_pN x48_7 hi (by decide) rfl ?_)))))
  let S1 : mS := uN S i 0 2 ((sN S i 0 2) + 1)
  replace H := H S1 rfl
  show ES _ _ _ _ _ S1 _
  refine e_al x48_10 rfl (e_PN x48_11 hi (by decide) rfl rfl (e_ic x48_14 (e_ic x48_15 (e_cV (l0 := [some (.ref (aN E i 1)), some (.int 0), some (.int (-1))]) x48_16 rfl rfl rfl rfl rfl (fun h hh => hh.tN hi (by decide)) (e_al x3_0 rfl (e_il x3_1 rfl (e_pN x3_2 hi (by decide) rfl ?_)))))))
  let S2 : mS := uN S1 i 1 0 0
  replace H := H S2 rfl
  show ES _ _ _ _ _ S2 _
  refine e_al x3_5 rfl (e_il x3_6 rfl (e_pN x3_7 hi (by decide) rfl ?_))
  let S3 : mS := uN S2 i 1 1 (-1)
  replace H := H S3 rfl
  show ES _ _ _ _ _ S3 _
  refine e_rv x3_10 (e_al x48_19 rfl (e_PN x48_20 hi (by decide) rfl rfl (e_ic x48_23 (e_ic x48_24 (e_cV (l0 := [some (.ref (aN E i 2)), some (.int 0), some (.int (-1))]) x48_25 rfl rfl rfl rfl rfl (fun h hh => hh.tN hi (by decide)) (e_al x3_0 rfl (e_il x3_1 rfl (e_pN x3_2 hi (by decide) rfl ?_))))))))
  let S4 : mS := uN S3 i 2 0 0
  replace H := H S4 rfl
  show ES _ _ _ _ _ S4 _
  refine e_al x3_5 rfl (e_il x3_6 rfl (e_pN x3_7 hi (by decide) rfl ?_))
  let S5 : mS := uN S4 i 2 1 (-1)
  replace H := H S5 rfl
  show ES _ _ _ _ _ S5 _
  have c6 := H.1
  replace H := H.2
  refine e_rv x3_10 (e_al x48_28 rfl (e_PNp x48_29 hi (e_ast (l' := [some (.ref (aN E i 0)), some (.ref (aN E i (sR S i 0)))]) x48_32 rfl rfl (e_al x48_33 rfl (e_cV (l0 := [some (.ref (aN E i (sR S i 0))), none, none]) x48_34 rfl rfl rfl rfl rfl (fun h hh => (hh.tN hi (Bal.l (RB.b c6))).trans (Bal.t (RB.b c6))) (ES.mono H ?_))))))
  rintro _ S7 ⟨rfl, H⟩
  have c8 := H.1
  replace H := H.2
  refine e_al x48_37 rfl (e_al x48_38 rfl (e_PNn x48_39 hi (e_pR (j := 0) x48_42 hi (by decide) rfl c8 ?_)))
  let S9 : mS := uR S7 i 0 (sR S7 i 1)
  replace H := H S9 rfl
  show ES _ _ _ _ _ S9 _
  refine e_al x48_45 rfl (e_al x48_46 rfl (e_pR (j := 1) x48_47 hi (by decide) rfl c6 ?_))
  let S10 : mS := uR S9 i 1 (sR S i 0)
  replace H := H S10 rfl
  show ES _ _ _ _ _ S10 _
  refine e_al x48_50 rfl (e_PN x48_51 hi (by decide) rfl rfl (e_cV (l0 := [some (.ref (aN E i 9)), none, none]) x48_54 rfl rfl rfl rfl rfl (fun h hh => (hh.tN hi (Bal.l Bal.n9)).trans (Bal.t Bal.n9)) (ES.mono H ?_)))
  rintro _ S11 ⟨rfl, H⟩
  refine e_al x48_57 rfl (e_PN x48_58 hi (by decide) rfl rfl (e_PN x48_61 hi (by decide) rfl rfl (e_cV (l0 := [some (.ref (aN E i 13)), none, none]) x48_64 rfl rfl rfl rfl rfl (fun h hh => (hh.tN hi (Bal.l Bal.n13)).trans (Bal.t Bal.n13)) (ES.mono H ?_))))
  rintro _ S12 ⟨rfl, H⟩
  exact e_rv x48_67 H

-- Node.roundToJoin()I, from 0
set_option maxRecDepth 8000 in
theorem T49 {E : mE} {i : Nat} {S : mS} {K : Option Value → mS → Prop} (hi : i < eN E) (H : (RB (sR S i 0)) ∧ (ES E 49 8 [some (.ref (aN E i 0)), some (.int (sN S i (sR S i 0) 3)), none] [] S K)) : ES E 49 0 [some (.ref (aN E i 0)), none, none] [] S K := by
  have c1 := H.1
  replace H := H.2
  exact e_al x49_0 rfl (e_PNp x49_1 hi (e_gN x49_4 hi (Bal.l (RB.b c1)) (Bal.t (RB.b c1)) (e_ist (l' := [some (.ref (aN E i 0)), some (.int (sN S i (sR S i 0) 3)), none]) x49_7 rfl rfl (H))))

-- Node.roundToJoin()I, from 8
set_option maxRecDepth 8000 in
theorem T49_8 {E : mE} {i : Nat} {v1 : Int32} {S : mS} {K : Option Value → mS → Prop} (hi : i < eN E) (H : (v1 ≤ (sN S i 0 3) → (K (some (.int (-1))) S)) ∧ (¬ v1 ≤ (sN S i 0 3) → ((RB (sR S i 0)) ∧ (ES E 14 0 [some (.ref (aN E i (sR S i 0))), some (.int v1), some (.int 0), none, none] [] S (fun r S3 => ∃ x4 : Int32, r = some (.int x4) ∧ ((RB (sR S3 i 0)) ∧ (ES E 14 0 [some (.ref (aN E i (sR S3 i 0))), some (.int v1), some (.int 1), none, none] [] S3 (fun r S6 => ∃ x7 : Int32, r = some (.int x7) ∧ ((RB (sR S6 i 0)) ∧ (ES E 14 0 [some (.ref (aN E i (sR S6 i 0))), some (.int v1), some (.int 2), none, none] [] S6 (fun r S9 => ∃ x10 : Int32, r = some (.int x10) ∧ (ES E 50 0 [some (.ref (aN E i 0)), some (.int ((x4 ||| x7) ||| x10))] [] S9 (fun r S11 => ∃ x12 : Int32, r = some (.int x12) ∧ ((x12 = 0 → (ES E 49 8 [some (.ref (aN E i 0)), some (.int (v1 + (-1))), none] [] S11 K)) ∧ (¬ x12 = 0 → (K (some (.int v1)) S11)))))))))))))))) : ES E 49 8 [some (.ref (aN E i 0)), some (.int v1), none] [] S K := by
  refine e_il x49_8 rfl (e_al x49_9 rfl (e_gN x49_10 hi (by decide) rfl (e_le x49_13 (fun c1 => ?_) (fun c1 => ?_))))
  · replace H := H.1 c1
    exact e_ic x49_62 (e_ri x49_63 H)
  · replace H := H.2 c1
    have c2 := H.1
    replace H := H.2
    refine e_al x49_16 rfl (e_PNp x49_17 hi (e_il x49_20 rfl (e_ic x49_21 (e_cV (l0 := [some (.ref (aN E i (sR S i 0))), some (.int v1), some (.int 0), none, none]) x49_22 rfl rfl rfl rfl rfl (fun h hh => (hh.tN hi (Bal.l (RB.b c2))).trans (Bal.t (RB.b c2))) (ES.mono H ?_)))))
    rintro _ S3 ⟨x4, rfl, H⟩
    have c5 := H.1
    replace H := H.2
    refine e_al x49_25 rfl (e_PNp x49_26 hi (e_il x49_29 rfl (e_ic x49_30 (e_cV (l0 := [some (.ref (aN E i (sR S3 i 0))), some (.int v1), some (.int 1), none, none]) x49_31 rfl rfl rfl rfl rfl (fun h hh => (hh.tN hi (Bal.l (RB.b c5))).trans (Bal.t (RB.b c5))) (ES.mono H ?_)))))
    rintro _ S6 ⟨x7, rfl, H⟩
    have c8 := H.1
    replace H := H.2
    refine e_ii (v := (x4 ||| x7)) x49_34 rfl (e_al x49_35 rfl (e_PNp x49_36 hi (e_il x49_39 rfl (e_ic x49_40 (e_cV (l0 := [some (.ref (aN E i (sR S6 i 0))), some (.int v1), some (.int 2), none, none]) x49_41 rfl rfl rfl rfl rfl (fun h hh => (hh.tN hi (Bal.l (RB.b c8))).trans (Bal.t (RB.b c8))) (ES.mono H ?_))))))
    rintro _ S9 ⟨x10, rfl, H⟩
    refine e_ii (v := ((x4 ||| x7) ||| x10)) x49_44 rfl (e_ist (l' := [some (.ref (aN E i 0)), some (.int v1), some (.int ((x4 ||| x7) ||| x10))]) x49_45 rfl rfl (e_al x49_46 rfl (e_il x49_47 rfl (e_cV (l0 := [some (.ref (aN E i 0)), some (.int ((x4 ||| x7) ||| x10))]) x49_48 rfl rfl rfl rfl rfl (fun h hh => hh.tN hi (by decide)) (ES.mono H ?_)))))
    rintro _ S11 ⟨x12, rfl, H⟩
    refine e_eq0 x49_51 (fun c13 => ?_) (fun c13 => ?_)
    · replace H := H.1 c13
      exact e_inc (l' := [some (.ref (aN E i 0)), some (.int (v1 + (-1))), some (.int ((x4 ||| x7) ||| x10))]) x49_56 rfl rfl rfl (e_back (l' := [some (.ref (aN E i 0)), some (.int (v1 + (-1))), none]) x49_59 rfl (H))
    · replace H := H.2 c13
      exact e_il x49_54 rfl (e_ri x49_55 H)

-- Node.areSome(I)Z, from 0
set_option maxRecDepth 8000 in
theorem T50 {E : mE} {i : Nat} {a1 : Int32} {S : mS} {K : Option Value → mS → Prop} (hi : i < eN E) (H : ES E 30 0 [some (.ref (aK E 9)), some (.int a1), some (.int (sN S i 0 2)), none, none] [] S (fun r S1 => ∃ x2 : Int32, r = some (.int x2) ∧ ((¬ (sN S1 i 0 2) < 0 ∧ ((sN S1 i 0 2).toNatClampNeg) < 41) ∧ (((3 * x2) ≤ (sK S1 10 ((sN S1 i 0 2).toNatClampNeg)) → (K (some (.int 0)) S1)) ∧ (¬ (3 * x2) ≤ (sK S1 10 ((sN S1 i 0 2).toNatClampNeg)) → (K (some (.int 1)) S1)))))) : ES E 50 0 [some (.ref (aN E i 0)), some (.int a1)] [] S K := by
  refine e_ic x50_0 (e_al x50_1 rfl (e_PNs x50_2 hi (e_il x50_5 rfl (e_al x50_6 rfl (e_gN x50_7 hi (by decide) rfl (e_cV (l0 := [some (.ref (aK E 9)), some (.int a1), some (.int (sN S i 0 2)), none, none]) x50_10 rfl rfl rfl rfl rfl (fun h hh => hh.tK (by decide)) (ES.mono H ?_)))))))
  rintro _ S1 ⟨x2, rfl, H⟩
  have c3 := H.1
  replace H := H.2
  refine e_ii (v := (3 * x2)) x50_13 rfl (e_al x50_14 rfl (e_PNs x50_15 hi (e_PK x50_18 (by decide) rfl rfl (e_al x50_21 rfl (e_gN x50_22 hi (by decide) rfl (e_iaK x50_25 (by decide) rfl c3 (e_le x50_26 (fun c4 => ?_) (fun c4 => ?_))))))))
  · replace H := H.1 c4
    exact e_ic x50_33 (e_rz x50_34 (by decide) H)
  · replace H := H.2 c4
    exact e_ic x50_29 (e_goto x50_30 (e_rz x50_34 (by decide) H))

-- Node.answersProposal()Z, from 0
set_option maxRecDepth 8000 in
theorem T51 {E : mE} {i : Nat} {S : mS} {K : Option Value → mS → Prop} (hi : i < eN E) (H : (RB (sR S i 0)) ∧ ((¬ (sK S 9 0) = 0) ∧ ((¬ (((((sN S i 0 3) * (sN S i (sR S i 0) 0)) + (((sN S i 0 2) + (sN S i 0 3)) - ((sN S i 0 2) + (sN S i 0 3)) / (sK S 9 0) * (sK S 9 0))) * 3) + 0) < 0 ∧ ((((((sN S i 0 3) * (sN S i (sR S i 0) 0)) + (((sN S i 0 2) + (sN S i 0 3)) - ((sN S i 0 2) + (sN S i 0 3)) / (sK S 9 0) * (sK S 9 0))) * 3) + 0).toNatClampNeg) < lnB (eN E) (sR S i 0)) ∧ (((sN S i 0 4) = 0 → (((sN S i ((sR S i 0) + 2) ((((((sN S i 0 3) * (sN S i (sR S i 0) 0)) + (((sN S i 0 2) + (sN S i 0 3)) - ((sN S i 0 2) + (sN S i 0 3)) / (sK S 9 0) * (sK S 9 0))) * 3) + 0).toNatClampNeg)) = (-2) → (K (some (.int 0)) S)) ∧ (¬ (sN S i ((sR S i 0) + 2) ((((((sN S i 0 3) * (sN S i (sR S i 0) 0)) + (((sN S i 0 2) + (sN S i 0 3)) - ((sN S i 0 2) + (sN S i 0 3)) / (sK S 9 0) * (sK S 9 0))) * 3) + 0).toNatClampNeg)) = (-2) → ((¬ (sN S i 0 3) < 0 ∧ ((sN S i 0 3).toNatClampNeg) < 30) ∧ (((sN S i ((sR S i 0) + 1) ((sN S i 0 3).toNatClampNeg)) < (sN S i 0 3) → (((sN S i ((sR S i 0) + 1) ((sN S i 0 3).toNatClampNeg)) ≤ (-1) → (ES E 52 0 [some (.ref (aN E i 0)), some (.int (sN S i ((sR S i 0) + 2) ((((((sN S i 0 3) * (sN S i (sR S i 0) 0)) + (((sN S i 0 2) + (sN S i 0 3)) - ((sN S i 0 2) + (sN S i 0 3)) / (sK S 9 0) * (sK S 9 0))) * 3) + 0).toNatClampNeg))), some (.int (sN S i ((sR S i 0) + 1) ((sN S i 0 3).toNatClampNeg)))] [] S (fun r S9 => ∃ x10 : Int32, r = some (.int x10) ∧ ((x10 = 0 → (ES E 40 0 [some (.ref (aN E i 0)), some (.int 1), some (.int 0), some (.int (-1)), none, none] [] S9 (fun r S12 => r = none ∧ (K (some (.int 1)) S12)))) ∧ (¬ x10 = 0 → (ES E 40 0 [some (.ref (aN E i 0)), some (.int 1), some (.int (sN S i ((sR S i 0) + 2) ((((((sN S i 0 3) * (sN S i (sR S i 0) 0)) + (((sN S i 0 2) + (sN S i 0 3)) - ((sN S i 0 2) + (sN S i 0 3)) / (sK S 9 0) * (sK S 9 0))) * 3) + 0).toNatClampNeg))), some (.int (-1)), none, none] [] S9 (fun r S13 => r = none ∧ (K (some (.int 1)) S13)))))))) ∧ (¬ (sN S i ((sR S i 0) + 1) ((sN S i 0 3).toNatClampNeg)) ≤ (-1) → (ES E 12 0 [some (.ref (aN E i (sR S i 0))), some (.int (sN S i ((sR S i 0) + 1) ((sN S i 0 3).toNatClampNeg))), some (.int 1), some (.int (sN S i ((sR S i 0) + 2) ((((((sN S i 0 3) * (sN S i (sR S i 0) 0)) + (((sN S i 0 2) + (sN S i 0 3)) - ((sN S i 0 2) + (sN S i 0 3)) / (sK S 9 0) * (sK S 9 0))) * 3) + 0).toNatClampNeg))), none, none] [] S (fun r S14 => ∃ x15 : Int32, r = some (.int x15) ∧ (ES E 46 0 [some (.ref (aN E i 0)), some (.int x15)] [] S14 (fun r S16 => ∃ x17 : Int32, r = some (.int x17) ∧ ((x17 = 0 → (K (some (.int 0)) S16)) ∧ (¬ x17 = 0 → (ES E 52 0 [some (.ref (aN E i 0)), some (.int (sN S i ((sR S i 0) + 2) ((((((sN S i 0 3) * (sN S i (sR S i 0) 0)) + (((sN S i 0 2) + (sN S i 0 3)) - ((sN S i 0 2) + (sN S i 0 3)) / (sK S 9 0) * (sK S 9 0))) * 3) + 0).toNatClampNeg))), some (.int (sN S i ((sR S i 0) + 1) ((sN S i 0 3).toNatClampNeg)))] [] S16 (fun r S19 => ∃ x20 : Int32, r = some (.int x20) ∧ ((x20 = 0 → (ES E 40 0 [some (.ref (aN E i 0)), some (.int 1), some (.int 0), some (.int (-1)), none, none] [] S19 (fun r S22 => r = none ∧ (K (some (.int 1)) S22)))) ∧ (¬ x20 = 0 → (ES E 40 0 [some (.ref (aN E i 0)), some (.int 1), some (.int (sN S i ((sR S i 0) + 2) ((((((sN S i 0 3) * (sN S i (sR S i 0) 0)) + (((sN S i 0 2) + (sN S i 0 3)) - ((sN S i 0 2) + (sN S i 0 3)) / (sK S 9 0) * (sK S 9 0))) * 3) + 0).toNatClampNeg))), some (.int (-1)), none, none] [] S19 (fun r S23 => r = none ∧ (K (some (.int 1)) S23)))))))))))))))) ∧ (¬ (sN S i ((sR S i 0) + 1) ((sN S i 0 3).toNatClampNeg)) < (sN S i 0 3) → (K (some (.int 0)) S))))))) ∧ (¬ (sN S i 0 4) = 0 → (K (some (.int 0)) S)))))) : ES E 51 0 [some (.ref (aN E i 0)), none, none] [] S K := by
  have c1 := H.1
  have c2 := H.2.1
  have c3 := H.2.2.1
  replace H := H.2.2.2
  refine e_al x51_0 rfl (e_al x51_1 rfl (e_gN x51_2 hi (by decide) rfl (e_cV (l0 := [some (.ref (aN E i 0)), some (.int (sN S i 0 3))]) x51_5 rfl rfl rfl rfl rfl (fun h hh => hh.tN hi (by decide)) (e_al x45_0 rfl (e_PNp x45_1 hi (e_il x45_4 rfl (e_al x45_5 rfl (e_PNs x45_6 hi (e_al x45_9 rfl (e_gN x45_10 hi (by decide) rfl (e_il x45_13 rfl (e_cV (l0 := [some (.ref (aK E 9)), some (.int (sN S i 0 2)), some (.int (sN S i 0 3))]) x45_14 rfl rfl rfl rfl rfl (fun h hh => hh.tK (by decide)) (e_il x28_0 rfl (e_il x28_1 rfl (e_ii (v := ((sN S i 0 2) + (sN S i 0 3))) x28_2 rfl (e_al x28_3 rfl (e_gK x28_4 (by decide) rfl (e_rem x28_7 c2 (e_ri x28_8 (e_ic x45_17 (e_cV (l0 := [some (.ref (aN E i (sR S i 0))), some (.int (sN S i 0 3)), some (.int (((sN S i 0 2) + (sN S i 0 3)) - ((sN S i 0 2) + (sN S i 0 3)) / (sK S 9 0) * (sK S 9 0))), some (.int 0)]) x45_18 rfl rfl rfl rfl rfl (fun h hh => (hh.tN hi (Bal.l (RB.b c1))).trans (Bal.t (RB.b c1))) (e_al x9_0 rfl (e_PBv x9_1 hi (RB.b c1) (e_il x9_4 rfl (e_al x9_5 rfl (e_gN x9_6 hi (Bal.l (RB.b c1)) (Bal.t (RB.b c1)) (e_ii (v := ((sN S i 0 3) * (sN S i (sR S i 0) 0))) x9_9 rfl (e_il x9_10 rfl (e_ii (v := (((sN S i 0 3) * (sN S i (sR S i 0) 0)) + (((sN S i 0 2) + (sN S i 0 3)) - ((sN S i 0 2) + (sN S i 0 3)) / (sK S 9 0) * (sK S 9 0)))) x9_11 rfl (e_ic x9_12 (e_ii (v := ((((sN S i 0 3) * (sN S i (sR S i 0) 0)) + (((sN S i 0 2) + (sN S i 0 3)) - ((sN S i 0 2) + (sN S i 0 3)) / (sK S 9 0) * (sK S 9 0))) * 3)) x9_13 rfl (e_il x9_14 rfl (e_ii (v := (((((sN S i 0 3) * (sN S i (sR S i 0) 0)) + (((sN S i 0 2) + (sN S i 0 3)) - ((sN S i 0 2) + (sN S i 0 3)) / (sK S 9 0) * (sK S 9 0))) * 3) + 0)) x9_15 rfl (e_iaBv x9_16 hi (RB.b c1) c3 (e_ri x9_17 (e_ri x45_21 (e_ist (l' := [some (.ref (aN E i 0)), some (.int (sN S i ((sR S i 0) + 2) ((((((sN S i 0 3) * (sN S i (sR S i 0) 0)) + (((sN S i 0 2) + (sN S i 0 3)) - ((sN S i 0 2) + (sN S i 0 3)) / (sK S 9 0) * (sK S 9 0))) * 3) + 0).toNatClampNeg))), none]) x51_8 rfl rfl (e_al x51_9 rfl (e_gN x51_10 hi (by decide) rfl (e_ne0 x51_13 (fun c4 => ?_) (fun c4 => ?_)))))))))))))))))))))))))))))))))))))))))
  · replace H := H.1 c4
    refine e_il x51_16 rfl (e_ic x51_17 (e_ne x51_19 (fun c5 => ?_) (fun c5 => ?_)))
    · replace H := H.1 c5
      exact e_ic x51_22 (e_rz x51_23 (by decide) H)
    · replace H := H.2 c5
      have c6 := H.1
      replace H := H.2
      refine e_al x51_24 rfl (e_PNp x51_25 hi (e_al x51_28 rfl (e_gN x51_29 hi (by decide) rfl (e_cV (l0 := [some (.ref (aN E i (sR S i 0))), some (.int (sN S i 0 3))]) x51_32 rfl rfl rfl rfl rfl (fun h hh => (hh.tN hi (Bal.l (RB.b c1))).trans (Bal.t (RB.b c1))) (e_al x10_0 rfl (e_PBs x10_1 hi (RB.b c1) (e_il x10_4 rfl (e_iaBs x10_5 hi (RB.b c1) c6 (e_ri x10_6 (e_ist (l' := [some (.ref (aN E i 0)), some (.int (sN S i ((sR S i 0) + 2) ((((((sN S i 0 3) * (sN S i (sR S i 0) 0)) + (((sN S i 0 2) + (sN S i 0 3)) - ((sN S i 0 2) + (sN S i 0 3)) / (sK S 9 0) * (sK S 9 0))) * 3) + 0).toNatClampNeg))), some (.int (sN S i ((sR S i 0) + 1) ((sN S i 0 3).toNatClampNeg)))]) x51_35 rfl rfl (e_il x51_36 rfl (e_al x51_37 rfl (e_gN x51_38 hi (by decide) rfl (e_lt x51_41 (fun c7 => ?_) (fun c7 => ?_)))))))))))))))
      · replace H := H.1 c7
        refine e_il x51_46 rfl (e_ic x51_47 (e_le x51_48 (fun c8 => ?_) (fun c8 => ?_)))
        · replace H := H.1 c8
          refine e_al x51_70 rfl (e_ic x51_71 (e_al x51_72 rfl (e_il x51_73 rfl (e_il x51_74 rfl (e_cV (l0 := [some (.ref (aN E i 0)), some (.int (sN S i ((sR S i 0) + 2) ((((((sN S i 0 3) * (sN S i (sR S i 0) 0)) + (((sN S i 0 2) + (sN S i 0 3)) - ((sN S i 0 2) + (sN S i 0 3)) / (sK S 9 0) * (sK S 9 0))) * 3) + 0).toNatClampNeg))), some (.int (sN S i ((sR S i 0) + 1) ((sN S i 0 3).toNatClampNeg)))]) x51_75 rfl rfl rfl rfl rfl (fun h hh => hh.tN hi (by decide)) (ES.mono H ?_))))))
          rintro _ S9 ⟨x10, rfl, H⟩
          refine e_eq0 x51_78 (fun c11 => ?_) (fun c11 => ?_)
          · replace H := H.1 c11
            refine e_ic x51_85 (e_ic x51_86 (e_cV (l0 := [some (.ref (aN E i 0)), some (.int 1), some (.int 0), some (.int (-1)), none, none]) x51_87 rfl rfl rfl rfl rfl (fun h hh => hh.tN hi (by decide)) (ES.mono H ?_)))
            rintro _ S12 ⟨rfl, H⟩
            exact e_ic x51_90 (e_rz x51_91 (by decide) H)
          · replace H := H.2 c11
            refine e_il x51_81 rfl (e_goto x51_82 (e_ic x51_86 (e_cV (l0 := [some (.ref (aN E i 0)), some (.int 1), some (.int (sN S i ((sR S i 0) + 2) ((((((sN S i 0 3) * (sN S i (sR S i 0) 0)) + (((sN S i 0 2) + (sN S i 0 3)) - ((sN S i 0 2) + (sN S i 0 3)) / (sK S 9 0) * (sK S 9 0))) * 3) + 0).toNatClampNeg))), some (.int (-1)), none, none]) x51_87 rfl rfl rfl rfl rfl (fun h hh => hh.tN hi (by decide)) (ES.mono H ?_))))
            rintro _ S13 ⟨rfl, H⟩
            exact e_ic x51_90 (e_rz x51_91 (by decide) H)
        · replace H := H.2 c8
          refine e_al x51_51 rfl (e_al x51_52 rfl (e_PNp x51_53 hi (e_il x51_56 rfl (e_ic x51_57 (e_il x51_58 rfl (e_cV (l0 := [some (.ref (aN E i (sR S i 0))), some (.int (sN S i ((sR S i 0) + 1) ((sN S i 0 3).toNatClampNeg))), some (.int 1), some (.int (sN S i ((sR S i 0) + 2) ((((((sN S i 0 3) * (sN S i (sR S i 0) 0)) + (((sN S i 0 2) + (sN S i 0 3)) - ((sN S i 0 2) + (sN S i 0 3)) / (sK S 9 0) * (sK S 9 0))) * 3) + 0).toNatClampNeg))), none, none]) x51_59 rfl rfl rfl rfl rfl (fun h hh => (hh.tN hi (Bal.l (RB.b c1))).trans (Bal.t (RB.b c1))) (ES.mono H ?_)))))))
          rintro _ S14 ⟨x15, rfl, H⟩
          refine e_cV (l0 := [some (.ref (aN E i 0)), some (.int x15)]) x51_62 rfl rfl rfl rfl rfl (fun h hh => hh.tN hi (by decide)) (ES.mono H ?_)
          rintro _ S16 ⟨x17, rfl, H⟩
          refine e_ne0 x51_65 (fun c18 => ?_) (fun c18 => ?_)
          · replace H := H.1 c18
            exact e_ic x51_68 (e_rz x51_69 (by decide) H)
          · replace H := H.2 c18
            refine e_al x51_70 rfl (e_ic x51_71 (e_al x51_72 rfl (e_il x51_73 rfl (e_il x51_74 rfl (e_cV (l0 := [some (.ref (aN E i 0)), some (.int (sN S i ((sR S i 0) + 2) ((((((sN S i 0 3) * (sN S i (sR S i 0) 0)) + (((sN S i 0 2) + (sN S i 0 3)) - ((sN S i 0 2) + (sN S i 0 3)) / (sK S 9 0) * (sK S 9 0))) * 3) + 0).toNatClampNeg))), some (.int (sN S i ((sR S i 0) + 1) ((sN S i 0 3).toNatClampNeg)))]) x51_75 rfl rfl rfl rfl rfl (fun h hh => hh.tN hi (by decide)) (ES.mono H ?_))))))
            rintro _ S19 ⟨x20, rfl, H⟩
            refine e_eq0 x51_78 (fun c21 => ?_) (fun c21 => ?_)
            · replace H := H.1 c21
              refine e_ic x51_85 (e_ic x51_86 (e_cV (l0 := [some (.ref (aN E i 0)), some (.int 1), some (.int 0), some (.int (-1)), none, none]) x51_87 rfl rfl rfl rfl rfl (fun h hh => hh.tN hi (by decide)) (ES.mono H ?_)))
              rintro _ S22 ⟨rfl, H⟩
              exact e_ic x51_90 (e_rz x51_91 (by decide) H)
            · replace H := H.2 c21
              refine e_il x51_81 rfl (e_goto x51_82 (e_ic x51_86 (e_cV (l0 := [some (.ref (aN E i 0)), some (.int 1), some (.int (sN S i ((sR S i 0) + 2) ((((((sN S i 0 3) * (sN S i (sR S i 0) 0)) + (((sN S i 0 2) + (sN S i 0 3)) - ((sN S i 0 2) + (sN S i 0 3)) / (sK S 9 0) * (sK S 9 0))) * 3) + 0).toNatClampNeg))), some (.int (-1)), none, none]) x51_87 rfl rfl rfl rfl rfl (fun h hh => hh.tN hi (by decide)) (ES.mono H ?_))))
              rintro _ S23 ⟨rfl, H⟩
              exact e_ic x51_90 (e_rz x51_91 (by decide) H)
      · replace H := H.2 c7
        exact e_ic x51_44 (e_rz x51_45 (by decide) H)
  · replace H := H.2 c4
    exact e_ic x51_22 (e_rz x51_23 (by decide) H)

-- Node.lockAllows(II)Z, from 0
set_option maxRecDepth 8000 in
theorem T52 {E : mE} {i : Nat} {a1 : Int32} {a2 : Int32} {S : mS} {K : Option Value → mS → Prop} (hi : i < eN E) (H : ((sN S i 0 7) = 4 → (K (some (.int 1)) S)) ∧ (¬ (sN S i 0 7) = 4 → (((sN S i 1 0) = 0 → (K (some (.int 1)) S)) ∧ (¬ (sN S i 1 0) = 0 → (((sN S i 1 0) = a1 → (K (some (.int 1)) S)) ∧ (¬ (sN S i 1 0) = a1 → ((a2 ≤ (-1) → (K (some (.int 0)) S)) ∧ (¬ a2 ≤ (-1) → ((a2 < (sN S i 1 1) → (K (some (.int 0)) S)) ∧ (¬ a2 < (sN S i 1 1) → (K (some (.int 1)) S))))))))))) : ES E 52 0 [some (.ref (aN E i 0)), some (.int a1), some (.int a2)] [] S K := by
  refine e_al x52_0 rfl (e_gN x52_1 hi (by decide) rfl (e_ic x52_4 (e_eq x52_5 (fun c1 => ?_) (fun c1 => ?_))))
  · replace H := H.1 c1
    exact e_ic x52_29 (e_rz x52_30 (by decide) H)
  · replace H := H.2 c1
    refine e_al x52_8 rfl (e_PN x52_9 hi (by decide) rfl rfl (e_cV (l0 := [some (.ref (aN E i 1))]) x52_12 rfl rfl rfl rfl rfl (fun h hh => hh.tN hi (by decide)) (e_al x2_0 rfl (e_gN x2_1 hi (by decide) rfl (e_ne0 x2_4 (fun c2 => ?_) (fun c2 => ?_))))))
    · replace H := H.1 c2
      refine e_ic x2_7 (e_goto x2_8 (e_rz x2_12 (by decide) (e_ne0 x52_15 (fun z9 => absurd z9 (by decide)) (fun _ => ?_))))
      exact e_ic x52_29 (e_rz x52_30 (by decide) H)
    · replace H := H.2 c2
      refine e_ic x2_11 (e_rz x2_12 (by decide) (e_ne0 x52_15 (fun _ => ?_) (fun z9 => absurd (by decide) z9)))
      refine e_al x52_18 rfl (e_PN x52_19 hi (by decide) rfl rfl (e_gN x52_22 hi (by decide) rfl (e_il x52_25 rfl (e_ne x52_26 (fun c3 => ?_) (fun c3 => ?_)))))
      · replace H := H.1 c3
        exact e_ic x52_29 (e_rz x52_30 (by decide) H)
      · replace H := H.2 c3
        refine e_il x52_31 rfl (e_ic x52_32 (e_le x52_33 (fun c4 => ?_) (fun c4 => ?_)))
        · replace H := H.1 c4
          exact e_ic x52_51 (e_rz x52_52 (by decide) H)
        · replace H := H.2 c4
          refine e_al x52_36 rfl (e_PN x52_37 hi (by decide) rfl rfl (e_gN x52_40 hi (by decide) rfl (e_il x52_43 rfl (e_gt x52_44 (fun c5 => ?_) (fun c5 => ?_)))))
          · replace H := H.1 c5
            exact e_ic x52_51 (e_rz x52_52 (by decide) H)
          · replace H := H.2 c5
            exact e_ic x52_47 (e_goto x52_48 (e_rz x52_52 (by decide) H))

-- Node.locks()Z, from 0
set_option maxRecDepth 8000 in
theorem T53 {E : mE} {i : Nat} {S : mS} {K : Option Value → mS → Prop} (hi : i < eN E) (H : (RB (sR S i 0)) ∧ ((¬ (sK S 9 0) = 0) ∧ ((¬ (((((sN S i 0 3) * (sN S i (sR S i 0) 0)) + (((sN S i 0 2) + (sN S i 0 3)) - ((sN S i 0 2) + (sN S i 0 3)) / (sK S 9 0) * (sK S 9 0))) * 3) + 0) < 0 ∧ ((((((sN S i 0 3) * (sN S i (sR S i 0) 0)) + (((sN S i 0 2) + (sN S i 0 3)) - ((sN S i 0 2) + (sN S i 0 3)) / (sK S 9 0) * (sK S 9 0))) * 3) + 0).toNatClampNeg) < lnB (eN E) (sR S i 0)) ∧ ((¬ (0 : Int32) < 0 ∧ ((0 : Int32).toNatClampNeg) < 3) ∧ (((sN S i 4 ((0 : Int32).toNatClampNeg)) = 0 → (((sN S i 0 4) = 0 → (K (some (.int 0)) S)) ∧ (¬ (sN S i 0 4) = 0 → (((sN S i ((sR S i 0) + 2) ((((((sN S i 0 3) * (sN S i (sR S i 0) 0)) + (((sN S i 0 2) + (sN S i 0 3)) - ((sN S i 0 2) + (sN S i 0 3)) / (sK S 9 0) * (sK S 9 0))) * 3) + 0).toNatClampNeg)) = (-2) → (K (some (.int 0)) S)) ∧ (¬ (sN S i ((sR S i 0) + 2) ((((((sN S i 0 3) * (sN S i (sR S i 0) 0)) + (((sN S i 0 2) + (sN S i 0 3)) - ((sN S i 0 2) + (sN S i 0 3)) / (sK S 9 0) * (sK S 9 0))) * 3) + 0).toNatClampNeg)) = (-2) → (ES E 12 0 [some (.ref (aN E i (sR S i 0))), some (.int (sN S i 0 3)), some (.int 1), some (.int (sN S i ((sR S i 0) + 2) ((((((sN S i 0 3) * (sN S i (sR S i 0) 0)) + (((sN S i 0 2) + (sN S i 0 3)) - ((sN S i 0 2) + (sN S i 0 3)) / (sK S 9 0) * (sK S 9 0))) * 3) + 0).toNatClampNeg))), none, none] [] S (fun r S8 => ∃ x9 : Int32, r = some (.int x9) ∧ (ES E 46 0 [some (.ref (aN E i 0)), some (.int x9)] [] S8 (fun r S10 => ∃ x11 : Int32, r = some (.int x11) ∧ ((x11 = 0 → (K (some (.int 0)) S10)) ∧ (¬ x11 = 0 → (∀ S13, S13 = uN S10 i 4 ((0 : Int32).toNatClampNeg) 1 → (((sN S13 i 0 4) = 1 → (∀ S15, S15 = uN S13 i 1 0 (sN S i ((sR S i 0) + 2) ((((((sN S i 0 3) * (sN S i (sR S i 0) 0)) + (((sN S i 0 2) + (sN S i 0 3)) - ((sN S i 0 2) + (sN S i 0 3)) / (sK S 9 0) * (sK S 9 0))) * 3) + 0).toNatClampNeg)) → (∀ S16, S16 = uN S15 i 1 1 (sN S13 i 0 3) → (ES E 40 0 [some (.ref (aN E i 0)), some (.int 2), some (.int (sN S i ((sR S i 0) + 2) ((((((sN S i 0 3) * (sN S i (sR S i 0) 0)) + (((sN S i 0 2) + (sN S i 0 3)) - ((sN S i 0 2) + (sN S i 0 3)) / (sK S 9 0) * (sK S 9 0))) * 3) + 0).toNatClampNeg))), some (.int (-1)), none, none] [] S16 (fun r S17 => r = none ∧ (∀ S18, S18 = uN S17 i 2 0 (sN S i ((sR S i 0) + 2) ((((((sN S i 0 3) * (sN S i (sR S i 0) 0)) + (((sN S i 0 2) + (sN S i 0 3)) - ((sN S i 0 2) + (sN S i 0 3)) / (sK S 9 0) * (sK S 9 0))) * 3) + 0).toNatClampNeg)) → (∀ S19, S19 = uN S18 i 2 1 (sN S17 i 0 3) → (K (some (.int 1)) S19)))))))) ∧ (¬ (sN S13 i 0 4) = 1 → (∀ S20, S20 = uN S13 i 2 0 (sN S i ((sR S i 0) + 2) ((((((sN S i 0 3) * (sN S i (sR S i 0) 0)) + (((sN S i 0 2) + (sN S i 0 3)) - ((sN S i 0 2) + (sN S i 0 3)) / (sK S 9 0) * (sK S 9 0))) * 3) + 0).toNatClampNeg)) → (∀ S21, S21 = uN S20 i 2 1 (sN S13 i 0 3) → (K (some (.int 1)) S21))))))))))))))))) ∧ (¬ (sN S i 4 ((0 : Int32).toNatClampNeg)) = 0 → (K (some (.int 0)) S))))))) : ES E 53 0 [some (.ref (aN E i 0)), none] [] S K := by
  have c1 := H.1
  have c2 := H.2.1
  have c3 := H.2.2.1
  have c4 := H.2.2.2.1
  replace H := H.2.2.2.2
  refine e_al x53_0 rfl (e_al x53_1 rfl (e_gN x53_2 hi (by decide) rfl (e_cV (l0 := [some (.ref (aN E i 0)), some (.int (sN S i 0 3))]) x53_5 rfl rfl rfl rfl rfl (fun h hh => hh.tN hi (by decide)) (e_al x45_0 rfl (e_PNp x45_1 hi (e_il x45_4 rfl (e_al x45_5 rfl (e_PNs x45_6 hi (e_al x45_9 rfl (e_gN x45_10 hi (by decide) rfl (e_il x45_13 rfl (e_cV (l0 := [some (.ref (aK E 9)), some (.int (sN S i 0 2)), some (.int (sN S i 0 3))]) x45_14 rfl rfl rfl rfl rfl (fun h hh => hh.tK (by decide)) (e_il x28_0 rfl (e_il x28_1 rfl (e_ii (v := ((sN S i 0 2) + (sN S i 0 3))) x28_2 rfl (e_al x28_3 rfl (e_gK x28_4 (by decide) rfl (e_rem x28_7 c2 (e_ri x28_8 (e_ic x45_17 (e_cV (l0 := [some (.ref (aN E i (sR S i 0))), some (.int (sN S i 0 3)), some (.int (((sN S i 0 2) + (sN S i 0 3)) - ((sN S i 0 2) + (sN S i 0 3)) / (sK S 9 0) * (sK S 9 0))), some (.int 0)]) x45_18 rfl rfl rfl rfl rfl (fun h hh => (hh.tN hi (Bal.l (RB.b c1))).trans (Bal.t (RB.b c1))) (e_al x9_0 rfl (e_PBv x9_1 hi (RB.b c1) (e_il x9_4 rfl (e_al x9_5 rfl (e_gN x9_6 hi (Bal.l (RB.b c1)) (Bal.t (RB.b c1)) (e_ii (v := ((sN S i 0 3) * (sN S i (sR S i 0) 0))) x9_9 rfl (e_il x9_10 rfl (e_ii (v := (((sN S i 0 3) * (sN S i (sR S i 0) 0)) + (((sN S i 0 2) + (sN S i 0 3)) - ((sN S i 0 2) + (sN S i 0 3)) / (sK S 9 0) * (sK S 9 0)))) x9_11 rfl (e_ic x9_12 (e_ii (v := ((((sN S i 0 3) * (sN S i (sR S i 0) 0)) + (((sN S i 0 2) + (sN S i 0 3)) - ((sN S i 0 2) + (sN S i 0 3)) / (sK S 9 0) * (sK S 9 0))) * 3)) x9_13 rfl (e_il x9_14 rfl (e_ii (v := (((((sN S i 0 3) * (sN S i (sR S i 0) 0)) + (((sN S i 0 2) + (sN S i 0 3)) - ((sN S i 0 2) + (sN S i 0 3)) / (sK S 9 0) * (sK S 9 0))) * 3) + 0)) x9_15 rfl (e_iaBv x9_16 hi (RB.b c1) c3 (e_ri x9_17 (e_ri x45_21 (e_ist (l' := [some (.ref (aN E i 0)), some (.int (sN S i ((sR S i 0) + 2) ((((((sN S i 0 3) * (sN S i (sR S i 0) 0)) + (((sN S i 0 2) + (sN S i 0 3)) - ((sN S i 0 2) + (sN S i 0 3)) / (sK S 9 0) * (sK S 9 0))) * 3) + 0).toNatClampNeg)))]) x53_8 rfl rfl (e_al x53_9 rfl (e_PN x53_10 hi (by decide) rfl rfl (e_ic x53_13 (e_baN x53_14 hi (by decide) rfl c4 (e_ne0 x53_15 (fun c5 => ?_) (fun c5 => ?_)))))))))))))))))))))))))))))))))))))))))))
  · replace H := H.1 c5
    refine e_al x53_18 rfl (e_gN x53_19 hi (by decide) rfl (e_eq0 x53_22 (fun c6 => ?_) (fun c6 => ?_)))
    · replace H := H.1 c6
      exact e_ic x53_31 (e_rz x53_32 (by decide) H)
    · replace H := H.2 c6
      refine e_il x53_25 rfl (e_ic x53_26 (e_ne x53_28 (fun c7 => ?_) (fun c7 => ?_)))
      · replace H := H.1 c7
        exact e_ic x53_31 (e_rz x53_32 (by decide) H)
      · replace H := H.2 c7
        refine e_al x53_33 rfl (e_al x53_34 rfl (e_PNp x53_35 hi (e_al x53_38 rfl (e_gN x53_39 hi (by decide) rfl (e_ic x53_42 (e_il x53_43 rfl (e_cV (l0 := [some (.ref (aN E i (sR S i 0))), some (.int (sN S i 0 3)), some (.int 1), some (.int (sN S i ((sR S i 0) + 2) ((((((sN S i 0 3) * (sN S i (sR S i 0) 0)) + (((sN S i 0 2) + (sN S i 0 3)) - ((sN S i 0 2) + (sN S i 0 3)) / (sK S 9 0) * (sK S 9 0))) * 3) + 0).toNatClampNeg))), none, none]) x53_44 rfl rfl rfl rfl rfl (fun h hh => (hh.tN hi (Bal.l (RB.b c1))).trans (Bal.t (RB.b c1))) (ES.mono H ?_))))))))
        rintro _ S8 ⟨x9, rfl, H⟩
        refine e_cV (l0 := [some (.ref (aN E i 0)), some (.int x9)]) x53_47 rfl rfl rfl rfl rfl (fun h hh => hh.tN hi (by decide)) (ES.mono H ?_)
        rintro _ S10 ⟨x11, rfl, H⟩
        refine e_ne0 x53_50 (fun c12 => ?_) (fun c12 => ?_)
        · replace H := H.1 c12
          exact e_ic x53_53 (e_rz x53_54 (by decide) H)
        · replace H := H.2 c12
          refine e_al x53_55 rfl (e_PN x53_56 hi (by decide) rfl rfl (e_ic x53_59 (e_ic x53_60 (e_wzN x53_61 hi (by decide) rfl (by decide) c4 ?_))))
          let S13 : mS := uN S10 i 4 ((0 : Int32).toNatClampNeg) 1
          replace H := H S13 rfl
          show ES _ _ _ _ _ S13 _
          refine e_al x53_62 rfl (e_gN x53_63 hi (by decide) rfl (e_ic x53_66 (e_ne x53_67 (fun c14 => ?_) (fun c14 => ?_))))
          · replace H := H.1 c14
            refine e_al x53_70 rfl (e_PN x53_71 hi (by decide) rfl rfl (e_il x53_74 rfl (e_al x53_75 rfl (e_gN x53_76 hi (by decide) rfl (e_cV (l0 := [some (.ref (aN E i 1)), some (.int (sN S i ((sR S i 0) + 2) ((((((sN S i 0 3) * (sN S i (sR S i 0) 0)) + (((sN S i 0 2) + (sN S i 0 3)) - ((sN S i 0 2) + (sN S i 0 3)) / (sK S 9 0) * (sK S 9 0))) * 3) + 0).toNatClampNeg))), some (.int (sN S13 i 0 3))]) x53_79 rfl rfl rfl rfl rfl (fun h hh => hh.tN hi (by decide)) (e_al x3_0 rfl (e_il x3_1 rfl (e_pN x3_2 hi (by decide) rfl ?_))))))))
            let S15 : mS := uN S13 i 1 0 (sN S i ((sR S i 0) + 2) ((((((sN S i 0 3) * (sN S i (sR S i 0) 0)) + (((sN S i 0 2) + (sN S i 0 3)) - ((sN S i 0 2) + (sN S i 0 3)) / (sK S 9 0) * (sK S 9 0))) * 3) + 0).toNatClampNeg))
            replace H := H S15 rfl
            show ES _ _ _ _ _ S15 _
            refine e_al x3_5 rfl (e_il x3_6 rfl (e_pN x3_7 hi (by decide) rfl ?_))
            let S16 : mS := uN S15 i 1 1 (sN S13 i 0 3)
            replace H := H S16 rfl
            show ES _ _ _ _ _ S16 _
            refine e_rv x3_10 (e_al x53_82 rfl (e_ic x53_83 (e_il x53_84 rfl (e_ic x53_85 (e_cV (l0 := [some (.ref (aN E i 0)), some (.int 2), some (.int (sN S i ((sR S i 0) + 2) ((((((sN S i 0 3) * (sN S i (sR S i 0) 0)) + (((sN S i 0 2) + (sN S i 0 3)) - ((sN S i 0 2) + (sN S i 0 3)) / (sK S 9 0) * (sK S 9 0))) * 3) + 0).toNatClampNeg))), some (.int (-1)), none, none]) x53_86 rfl rfl rfl rfl rfl (fun h hh => hh.tN hi (by decide)) (ES.mono H ?_))))))
            rintro _ S17 ⟨rfl, H⟩
            refine e_al x53_89 rfl (e_PN x53_90 hi (by decide) rfl rfl (e_il x53_93 rfl (e_al x53_94 rfl (e_gN x53_95 hi (by decide) rfl (e_cV (l0 := [some (.ref (aN E i 2)), some (.int (sN S i ((sR S i 0) + 2) ((((((sN S i 0 3) * (sN S i (sR S i 0) 0)) + (((sN S i 0 2) + (sN S i 0 3)) - ((sN S i 0 2) + (sN S i 0 3)) / (sK S 9 0) * (sK S 9 0))) * 3) + 0).toNatClampNeg))), some (.int (sN S17 i 0 3))]) x53_98 rfl rfl rfl rfl rfl (fun h hh => hh.tN hi (by decide)) (e_al x3_0 rfl (e_il x3_1 rfl (e_pN x3_2 hi (by decide) rfl ?_))))))))
            let S18 : mS := uN S17 i 2 0 (sN S i ((sR S i 0) + 2) ((((((sN S i 0 3) * (sN S i (sR S i 0) 0)) + (((sN S i 0 2) + (sN S i 0 3)) - ((sN S i 0 2) + (sN S i 0 3)) / (sK S 9 0) * (sK S 9 0))) * 3) + 0).toNatClampNeg))
            replace H := H S18 rfl
            show ES _ _ _ _ _ S18 _
            refine e_al x3_5 rfl (e_il x3_6 rfl (e_pN x3_7 hi (by decide) rfl ?_))
            let S19 : mS := uN S18 i 2 1 (sN S17 i 0 3)
            replace H := H S19 rfl
            show ES _ _ _ _ _ S19 _
            exact e_rv x3_10 (e_ic x53_101 (e_rz x53_102 (by decide) H))
          · replace H := H.2 c14
            refine e_al x53_89 rfl (e_PN x53_90 hi (by decide) rfl rfl (e_il x53_93 rfl (e_al x53_94 rfl (e_gN x53_95 hi (by decide) rfl (e_cV (l0 := [some (.ref (aN E i 2)), some (.int (sN S i ((sR S i 0) + 2) ((((((sN S i 0 3) * (sN S i (sR S i 0) 0)) + (((sN S i 0 2) + (sN S i 0 3)) - ((sN S i 0 2) + (sN S i 0 3)) / (sK S 9 0) * (sK S 9 0))) * 3) + 0).toNatClampNeg))), some (.int (sN S13 i 0 3))]) x53_98 rfl rfl rfl rfl rfl (fun h hh => hh.tN hi (by decide)) (e_al x3_0 rfl (e_il x3_1 rfl (e_pN x3_2 hi (by decide) rfl ?_))))))))
            let S20 : mS := uN S13 i 2 0 (sN S i ((sR S i 0) + 2) ((((((sN S i 0 3) * (sN S i (sR S i 0) 0)) + (((sN S i 0 2) + (sN S i 0 3)) - ((sN S i 0 2) + (sN S i 0 3)) / (sK S 9 0) * (sK S 9 0))) * 3) + 0).toNatClampNeg))
            replace H := H S20 rfl
            show ES _ _ _ _ _ S20 _
            refine e_al x3_5 rfl (e_il x3_6 rfl (e_pN x3_7 hi (by decide) rfl ?_))
            let S21 : mS := uN S20 i 2 1 (sN S13 i 0 3)
            replace H := H S21 rfl
            show ES _ _ _ _ _ S21 _
            exact e_rv x3_10 (e_ic x53_101 (e_rz x53_102 (by decide) H))
  · replace H := H.2 c5
    exact e_ic x53_31 (e_rz x53_32 (by decide) H)

-- Node.givesUpValue()Z, from 0
set_option maxRecDepth 8000 in
theorem T54 {E : mE} {i : Nat} {S : mS} {K : Option Value → mS → Prop} (hi : i < eN E) (H : ((sN S i 0 4) = 1 → ((RB (sR S i 0)) ∧ (ES E 12 0 [some (.ref (aN E i (sR S i 0))), some (.int (sN S i 0 3)), some (.int 1), some (.int 0), none, none] [] S (fun r S3 => ∃ x4 : Int32, r = some (.int x4) ∧ (ES E 46 0 [some (.ref (aN E i 0)), some (.int x4)] [] S3 (fun r S5 => ∃ x6 : Int32, r = some (.int x6) ∧ ((x6 = 0 → (K (some (.int 0)) S5)) ∧ (¬ x6 = 0 → (ES E 40 0 [some (.ref (aN E i 0)), some (.int 2), some (.int 0), some (.int (-1)), none, none] [] S5 (fun r S8 => r = none ∧ (K (some (.int 1)) S8))))))))))) ∧ (¬ (sN S i 0 4) = 1 → (K (some (.int 0)) S))) : ES E 54 0 [some (.ref (aN E i 0))] [] S K := by
  refine e_al x54_0 rfl (e_gN x54_1 hi (by decide) rfl (e_ic x54_4 (e_ne x54_5 (fun c1 => ?_) (fun c1 => ?_))))
  · replace H := H.1 c1
    have c2 := H.1
    replace H := H.2
    refine e_al x54_8 rfl (e_al x54_9 rfl (e_PNp x54_10 hi (e_al x54_13 rfl (e_gN x54_14 hi (by decide) rfl (e_ic x54_17 (e_ic x54_18 (e_cV (l0 := [some (.ref (aN E i (sR S i 0))), some (.int (sN S i 0 3)), some (.int 1), some (.int 0), none, none]) x54_19 rfl rfl rfl rfl rfl (fun h hh => (hh.tN hi (Bal.l (RB.b c2))).trans (Bal.t (RB.b c2))) (ES.mono H ?_))))))))
    rintro _ S3 ⟨x4, rfl, H⟩
    refine e_cV (l0 := [some (.ref (aN E i 0)), some (.int x4)]) x54_22 rfl rfl rfl rfl rfl (fun h hh => hh.tN hi (by decide)) (ES.mono H ?_)
    rintro _ S5 ⟨x6, rfl, H⟩
    refine e_ne0 x54_25 (fun c7 => ?_) (fun c7 => ?_)
    · replace H := H.1 c7
      exact e_ic x54_28 (e_rz x54_29 (by decide) H)
    · replace H := H.2 c7
      refine e_al x54_30 rfl (e_ic x54_31 (e_ic x54_32 (e_ic x54_33 (e_cV (l0 := [some (.ref (aN E i 0)), some (.int 2), some (.int 0), some (.int (-1)), none, none]) x54_34 rfl rfl rfl rfl rfl (fun h hh => hh.tN hi (by decide)) (ES.mono H ?_)))))
      rintro _ S8 ⟨rfl, H⟩
      exact e_ic x54_37 (e_rz x54_38 (by decide) H)
  · replace H := H.2 c1
    exact e_ic x54_28 (e_rz x54_29 (by decide) H)

-- Node.waitsForPrevotes(I)Z, from 0
set_option maxRecDepth 8000 in
theorem T55 {E : mE} {i : Nat} {a1 : Int32} {S : mS} {K : Option Value → mS → Prop} (hi : i < eN E) (H : (¬ (1 : Int32) < 0 ∧ ((1 : Int32).toNatClampNeg) < 3) ∧ (((sN S i 4 ((1 : Int32).toNatClampNeg)) = 0 → (((sN S i 0 4) = 1 → ((RB (sR S i 0)) ∧ (ES E 14 0 [some (.ref (aN E i (sR S i 0))), some (.int (sN S i 0 3)), some (.int 1), none, none] [] S (fun r S5 => ∃ x6 : Int32, r = some (.int x6) ∧ (ES E 46 0 [some (.ref (aN E i 0)), some (.int x6)] [] S5 (fun r S7 => ∃ x8 : Int32, r = some (.int x8) ∧ ((x8 = 0 → (K (some (.int 0)) S7)) ∧ (¬ x8 = 0 → (∀ S10, S10 = uN S7 i 4 ((1 : Int32).toNatClampNeg) 1 → (∀ S11, S11 = uN S10 i 3 ((1 : Int32).toNatClampNeg) ((a1 + 3) + (sN S10 i 0 3)) → (K (some (.int 1)) S11))))))))))) ∧ (¬ (sN S i 0 4) = 1 → (K (some (.int 0)) S)))) ∧ (¬ (sN S i 4 ((1 : Int32).toNatClampNeg)) = 0 → (K (some (.int 0)) S)))) : ES E 55 0 [some (.ref (aN E i 0)), some (.int a1)] [] S K := by
  have c1 := H.1
  replace H := H.2
  refine e_al x55_0 rfl (e_PN x55_1 hi (by decide) rfl rfl (e_ic x55_4 (e_baN x55_5 hi (by decide) rfl c1 (e_ne0 x55_6 (fun c2 => ?_) (fun c2 => ?_)))))
  · replace H := H.1 c2
    refine e_al x55_9 rfl (e_gN x55_10 hi (by decide) rfl (e_ic x55_13 (e_ne x55_14 (fun c3 => ?_) (fun c3 => ?_))))
    · replace H := H.1 c3
      have c4 := H.1
      replace H := H.2
      refine e_al x55_17 rfl (e_al x55_18 rfl (e_PNp x55_19 hi (e_al x55_22 rfl (e_gN x55_23 hi (by decide) rfl (e_ic x55_26 (e_cV (l0 := [some (.ref (aN E i (sR S i 0))), some (.int (sN S i 0 3)), some (.int 1), none, none]) x55_27 rfl rfl rfl rfl rfl (fun h hh => (hh.tN hi (Bal.l (RB.b c4))).trans (Bal.t (RB.b c4))) (ES.mono H ?_)))))))
      rintro _ S5 ⟨x6, rfl, H⟩
      refine e_cV (l0 := [some (.ref (aN E i 0)), some (.int x6)]) x55_30 rfl rfl rfl rfl rfl (fun h hh => hh.tN hi (by decide)) (ES.mono H ?_)
      rintro _ S7 ⟨x8, rfl, H⟩
      refine e_ne0 x55_33 (fun c9 => ?_) (fun c9 => ?_)
      · replace H := H.1 c9
        exact e_ic x55_36 (e_rz x55_37 (by decide) H)
      · replace H := H.2 c9
        refine e_al x55_38 rfl (e_PN x55_39 hi (by decide) rfl rfl (e_ic x55_42 (e_ic x55_43 (e_wzN x55_44 hi (by decide) rfl (by decide) c1 ?_))))
        let S10 : mS := uN S7 i 4 ((1 : Int32).toNatClampNeg) 1
        replace H := H S10 rfl
        show ES _ _ _ _ _ S10 _
        refine e_al x55_45 rfl (e_PN x55_46 hi (by decide) rfl rfl (e_ic x55_49 (e_il x55_50 rfl (e_ic x55_51 (e_ii (v := (a1 + 3)) x55_52 rfl (e_al x55_53 rfl (e_gN x55_54 hi (by decide) rfl (e_ii (v := ((a1 + 3) + (sN S10 i 0 3))) x55_57 rfl (e_waN x55_58 hi (by decide) rfl c1 ?_)))))))))
        let S11 : mS := uN S10 i 3 ((1 : Int32).toNatClampNeg) ((a1 + 3) + (sN S10 i 0 3))
        replace H := H S11 rfl
        show ES _ _ _ _ _ S11 _
        exact e_ic x55_59 (e_rz x55_60 (by decide) H)
    · replace H := H.2 c3
      exact e_ic x55_36 (e_rz x55_37 (by decide) H)
  · replace H := H.2 c2
    exact e_ic x55_36 (e_rz x55_37 (by decide) H)

-- Node.waitsForPrecommits(I)Z, from 0
set_option maxRecDepth 8000 in
theorem T56 {E : mE} {i : Nat} {a1 : Int32} {S : mS} {K : Option Value → mS → Prop} (hi : i < eN E) (H : (¬ (2 : Int32) < 0 ∧ ((2 : Int32).toNatClampNeg) < 3) ∧ (((sN S i 4 ((2 : Int32).toNatClampNeg)) = 0 → ((RB (sR S i 0)) ∧ (ES E 14 0 [some (.ref (aN E i (sR S i 0))), some (.int (sN S i 0 3)), some (.int 2), none, none] [] S (fun r S4 => ∃ x5 : Int32, r = some (.int x5) ∧ (ES E 46 0 [some (.ref (aN E i 0)), some (.int x5)] [] S4 (fun r S6 => ∃ x7 : Int32, r = some (.int x7) ∧ ((x7 = 0 → (K (some (.int 0)) S6)) ∧ (¬ x7 = 0 → (∀ S9, S9 = uN S6 i 4 ((2 : Int32).toNatClampNeg) 1 → (∀ S10, S10 = uN S9 i 3 ((2 : Int32).toNatClampNeg) ((a1 + 3) + (sN S9 i 0 3)) → (K (some (.int 1)) S10))))))))))) ∧ (¬ (sN S i 4 ((2 : Int32).toNatClampNeg)) = 0 → (K (some (.int 0)) S)))) : ES E 56 0 [some (.ref (aN E i 0)), some (.int a1)] [] S K := by
  have c1 := H.1
  replace H := H.2
  refine e_al x56_0 rfl (e_PN x56_1 hi (by decide) rfl rfl (e_ic x56_4 (e_baN x56_5 hi (by decide) rfl c1 (e_ne0 x56_6 (fun c2 => ?_) (fun c2 => ?_)))))
  · replace H := H.1 c2
    have c3 := H.1
    replace H := H.2
    refine e_al x56_9 rfl (e_al x56_10 rfl (e_PNp x56_11 hi (e_al x56_14 rfl (e_gN x56_15 hi (by decide) rfl (e_ic x56_18 (e_cV (l0 := [some (.ref (aN E i (sR S i 0))), some (.int (sN S i 0 3)), some (.int 2), none, none]) x56_19 rfl rfl rfl rfl rfl (fun h hh => (hh.tN hi (Bal.l (RB.b c3))).trans (Bal.t (RB.b c3))) (ES.mono H ?_)))))))
    rintro _ S4 ⟨x5, rfl, H⟩
    refine e_cV (l0 := [some (.ref (aN E i 0)), some (.int x5)]) x56_22 rfl rfl rfl rfl rfl (fun h hh => hh.tN hi (by decide)) (ES.mono H ?_)
    rintro _ S6 ⟨x7, rfl, H⟩
    refine e_ne0 x56_25 (fun c8 => ?_) (fun c8 => ?_)
    · replace H := H.1 c8
      exact e_ic x56_28 (e_rz x56_29 (by decide) H)
    · replace H := H.2 c8
      refine e_al x56_30 rfl (e_PN x56_31 hi (by decide) rfl rfl (e_ic x56_34 (e_ic x56_35 (e_wzN x56_36 hi (by decide) rfl (by decide) c1 ?_))))
      let S9 : mS := uN S6 i 4 ((2 : Int32).toNatClampNeg) 1
      replace H := H S9 rfl
      show ES _ _ _ _ _ S9 _
      refine e_al x56_37 rfl (e_PN x56_38 hi (by decide) rfl rfl (e_ic x56_41 (e_il x56_42 rfl (e_ic x56_43 (e_ii (v := (a1 + 3)) x56_44 rfl (e_al x56_45 rfl (e_gN x56_46 hi (by decide) rfl (e_ii (v := ((a1 + 3) + (sN S9 i 0 3))) x56_49 rfl (e_waN x56_50 hi (by decide) rfl c1 ?_)))))))))
      let S10 : mS := uN S9 i 3 ((2 : Int32).toNatClampNeg) ((a1 + 3) + (sN S9 i 0 3))
      replace H := H S10 rfl
      show ES _ _ _ _ _ S10 _
      exact e_ic x56_51 (e_rz x56_52 (by decide) H)
  · replace H := H.2 c2
    exact e_ic x56_28 (e_rz x56_29 (by decide) H)

-- Node.comeBack(I)V, from 0
set_option maxRecDepth 8000 in
theorem T57 {E : mE} {i : Nat} {a1 : Int32} {S : mS} {K : Option Value → mS → Prop} (hi : i < eN E) (H : ∀ S1, S1 = uN S i 0 8 0 → ((RB (sR S i 0)) ∧ (ES E 13 0 [some (.ref (aN E i (sR S i 0))), none, none] [] S1 (fun r S3 => r = none ∧ ((RB (sR S3 i 1)) ∧ (ES E 13 0 [some (.ref (aN E i (sR S3 i 1))), none, none] [] S3 (fun r S5 => r = none ∧ (ES E 57 29 [some (.ref (aN E i 0)), some (.int a1), some (.int (sN S5 i 9 3)), some (.int 0), none] [] S5 K)))))))) : ES E 57 0 [some (.ref (aN E i 0)), some (.int a1), none, none, none] [] S K := by
  refine e_al x57_0 rfl (e_ic x57_1 (e_pN x57_2 hi (by decide) rfl ?_))
  let S1 : mS := uN S i 0 8 0
  replace H := H S1 rfl
  show ES _ _ _ _ _ S1 _
  have c2 := H.1
  replace H := H.2
  refine e_al x57_5 rfl (e_PNp x57_6 hi (e_cV (l0 := [some (.ref (aN E i (sR S i 0))), none, none]) x57_9 rfl rfl rfl rfl rfl (fun h hh => (hh.tN hi (Bal.l (RB.b c2))).trans (Bal.t (RB.b c2))) (ES.mono H ?_)))
  rintro _ S3 ⟨rfl, H⟩
  have c4 := H.1
  replace H := H.2
  refine e_al x57_12 rfl (e_PNn x57_13 hi (e_cV (l0 := [some (.ref (aN E i (sR S3 i 1))), none, none]) x57_16 rfl rfl rfl rfl rfl (fun h hh => (hh.tN hi (Bal.l (RB.b c4))).trans (Bal.t (RB.b c4))) (ES.mono H ?_)))
  rintro _ S5 ⟨rfl, H⟩
  exact e_al x57_19 rfl (e_PN x57_20 hi (by decide) rfl rfl (e_gN x57_23 hi (Bal.l Bal.n9) (Bal.t Bal.n9) (e_ist (l' := [some (.ref (aN E i 0)), some (.int a1), some (.int (sN S5 i 9 3)), none, none]) x57_26 rfl rfl (e_ic x57_27 (e_ist (l' := [some (.ref (aN E i 0)), some (.int a1), some (.int (sN S5 i 9 3)), some (.int 0), none]) x57_28 rfl rfl (H))))))

-- Node.comeBack(I)V, from 29
set_option maxRecDepth 8000 in
theorem T57_29 {E : mE} {i : Nat} {v1 : Int32} {v2 : Int32} {v3 : Int32} {S : mS} {K : Option Value → mS → Prop} (hi : i < eN E) (H : (v2 < v3 → (ES E 38 0 [some (.ref (aN E i 0)), some (.int (sN S i 0 3)), some (.int v1), none] [] S (fun r S2 => r = none ∧ (K none S2)))) ∧ (¬ v2 < v3 → (ES E 57 37 [some (.ref (aN E i 0)), some (.int v1), some (.int v2), some (.int v3), some (.int 0)] [] S K))) : ES E 57 29 [some (.ref (aN E i 0)), some (.int v1), some (.int v2), some (.int v3), none] [] S K := by
  refine e_il x57_29 rfl (e_il x57_30 rfl (e_gt x57_31 (fun c1 => ?_) (fun c1 => ?_)))
  · replace H := H.1 c1
    refine e_al x57_102 rfl (e_al x57_103 rfl (e_gN x57_104 hi (by decide) rfl (e_il x57_107 rfl (e_cV (l0 := [some (.ref (aN E i 0)), some (.int (sN S i 0 3)), some (.int v1), none]) x57_108 rfl rfl rfl rfl rfl (fun h hh => hh.tN hi (by decide)) (ES.mono H ?_)))))
    rintro _ S2 ⟨rfl, H⟩
    exact e_rv x57_111 H
  · replace H := H.2 c1
    exact e_ic x57_34 (e_ist (l' := [some (.ref (aN E i 0)), some (.int v1), some (.int v2), some (.int v3), some (.int 0)]) x57_35 rfl rfl (H))

-- Node.comeBack(I)V, from 37
set_option maxRecDepth 8000 in
theorem T57_37 {E : mE} {i : Nat} {v1 : Int32} {v2 : Int32} {v3 : Int32} {v4 : Int32} {S : mS} {K : Option Value → mS → Prop} (hi : i < eN E) (H : ((3 : Int32) ≤ v4 → (ES E 57 29 [some (.ref (aN E i 0)), some (.int v1), some (.int v2), some (.int (v3 + 1)), none] [] S K)) ∧ (¬ (3 : Int32) ≤ v4 → ((¬ ((((v3 * (sN S i 9 0)) + 0) * 3) + v4) < 0 ∧ (((((v3 * (sN S i 9 0)) + 0) * 3) + v4).toNatClampNeg) < lnB (eN E) 9) ∧ (((sN S i (9 + 2) (((((v3 * (sN S i 9 0)) + 0) * 3) + v4).toNatClampNeg)) = (-2) → (ES E 57 37 [some (.ref (aN E i 0)), some (.int v1), some (.int v2), some (.int v3), some (.int (v4 + 1))] [] S K)) ∧ (¬ (sN S i (9 + 2) (((((v3 * (sN S i 9 0)) + 0) * 3) + v4).toNatClampNeg)) = (-2) → ((RB (sR S i 0)) ∧ ((¬ v3 < 0 ∧ (v3.toNatClampNeg) < 30) ∧ (ES E 11 0 [some (.ref (aN E i (sR S i 0))), some (.int v3), some (.int (sN S i 0 0)), some (.int v4), some (.int (sN S i (9 + 2) (((((v3 * (sN S i 9 0)) + 0) * 3) + v4).toNatClampNeg))), some (.int (sN S i (9 + 1) (v3.toNatClampNeg)))] [] S (fun r S6 => r = none ∧ (ES E 57 37 [some (.ref (aN E i 0)), some (.int v1), some (.int v2), some (.int v3), some (.int (v4 + 1))] [] S6 K)))))))))) : ES E 57 37 [some (.ref (aN E i 0)), some (.int v1), some (.int v2), some (.int v3), some (.int v4)] [] S K := by
  refine e_il x57_37 rfl (e_ic x57_39 (e_ge x57_40 (fun c1 => ?_) (fun c1 => ?_)))
  · replace H := H.1 c1
    exact e_inc (l' := [some (.ref (aN E i 0)), some (.int v1), some (.int v2), some (.int (v3 + 1)), some (.int v4)]) x57_96 rfl rfl rfl (e_back (l' := [some (.ref (aN E i 0)), some (.int v1), some (.int v2), some (.int (v3 + 1)), none]) x57_99 rfl (H))
  · replace H := H.2 c1
    have c2 := H.1
    replace H := H.2
    refine e_al x57_43 rfl (e_PN x57_44 hi (by decide) rfl rfl (e_il x57_47 rfl (e_ic x57_48 (e_il x57_49 rfl (e_cV (l0 := [some (.ref (aN E i 9)), some (.int v3), some (.int 0), some (.int v4)]) x57_51 rfl rfl rfl rfl rfl (fun h hh => (hh.tN hi (Bal.l Bal.n9)).trans (Bal.t Bal.n9)) (e_al x8_0 rfl (e_PBv x8_1 hi Bal.n9 (e_il x8_4 rfl (e_al x8_5 rfl (e_gN x8_6 hi (Bal.l Bal.n9) (Bal.t Bal.n9) (e_ii (v := (v3 * (sN S i 9 0))) x8_9 rfl (e_il x8_10 rfl (e_ii (v := ((v3 * (sN S i 9 0)) + 0)) x8_11 rfl (e_ic x8_12 (e_ii (v := (((v3 * (sN S i 9 0)) + 0) * 3)) x8_13 rfl (e_il x8_14 rfl (e_ii (v := ((((v3 * (sN S i 9 0)) + 0) * 3) + v4)) x8_15 rfl (e_iaBv x8_16 hi Bal.n9 c2 (e_ic x8_17 (e_eq x8_19 (fun c3 => ?_) (fun c3 => ?_)))))))))))))))))))))
    · replace H := H.1 c3
      refine e_ic x8_26 (e_rz x8_27 (by decide) (e_eq0 x57_54 (fun _ => ?_) (fun z9 => absurd (by decide) z9)))
      exact e_inc (l' := [some (.ref (aN E i 0)), some (.int v1), some (.int v2), some (.int v3), some (.int (v4 + 1))]) x57_90 rfl rfl rfl (e_back (l' := [some (.ref (aN E i 0)), some (.int v1), some (.int v2), some (.int v3), some (.int (v4 + 1))]) x57_93 rfl (H))
    · replace H := H.2 c3
      refine e_ic x8_22 (e_goto x8_23 (e_rz x8_27 (by decide) (e_eq0 x57_54 (fun z9 => absurd z9 (by decide)) (fun _ => ?_))))
      have c4 := H.1
      have c5 := H.2.1
      replace H := H.2.2
      refine e_al x57_57 rfl (e_PNp x57_58 hi (e_il x57_61 rfl (e_al x57_62 rfl (e_gN x57_63 hi (by decide) rfl (e_il x57_66 rfl (e_al x57_68 rfl (e_PN x57_69 hi (by decide) rfl rfl (e_il x57_72 rfl (e_ic x57_73 (e_il x57_74 rfl (e_cV (l0 := [some (.ref (aN E i 9)), some (.int v3), some (.int 0), some (.int v4)]) x57_76 rfl rfl rfl rfl rfl (fun h hh => (hh.tN hi (Bal.l Bal.n9)).trans (Bal.t Bal.n9)) (e_al x9_0 rfl (e_PBv x9_1 hi Bal.n9 (e_il x9_4 rfl (e_al x9_5 rfl (e_gN x9_6 hi (Bal.l Bal.n9) (Bal.t Bal.n9) (e_ii (v := (v3 * (sN S i 9 0))) x9_9 rfl (e_il x9_10 rfl (e_ii (v := ((v3 * (sN S i 9 0)) + 0)) x9_11 rfl (e_ic x9_12 (e_ii (v := (((v3 * (sN S i 9 0)) + 0) * 3)) x9_13 rfl (e_il x9_14 rfl (e_ii (v := ((((v3 * (sN S i 9 0)) + 0) * 3) + v4)) x9_15 rfl (e_iaBv x9_16 hi Bal.n9 c2 (e_ri x9_17 (e_al x57_79 rfl (e_PN x57_80 hi (by decide) rfl rfl (e_il x57_83 rfl (e_cV (l0 := [some (.ref (aN E i 9)), some (.int v3)]) x57_84 rfl rfl rfl rfl rfl (fun h hh => (hh.tN hi (Bal.l Bal.n9)).trans (Bal.t Bal.n9)) (e_al x10_0 rfl (e_PBs x10_1 hi Bal.n9 (e_il x10_4 rfl (e_iaBs x10_5 hi Bal.n9 c5 (e_ri x10_6 (e_cV (l0 := [some (.ref (aN E i (sR S i 0))), some (.int v3), some (.int (sN S i 0 0)), some (.int v4), some (.int (sN S i (9 + 2) (((((v3 * (sN S i 9 0)) + 0) * 3) + v4).toNatClampNeg))), some (.int (sN S i (9 + 1) (v3.toNatClampNeg)))]) x57_87 rfl rfl rfl rfl rfl (fun h hh => (hh.tN hi (Bal.l (RB.b c4))).trans (Bal.t (RB.b c4))) (ES.mono H ?_))))))))))))))))))))))))))))))))))))
      rintro _ S6 ⟨rfl, H⟩
      exact e_inc (l' := [some (.ref (aN E i 0)), some (.int v1), some (.int v2), some (.int v3), some (.int (v4 + 1))]) x57_90 rfl rfl rfl (e_back (l' := [some (.ref (aN E i 0)), some (.int v1), some (.int v2), some (.int v3), some (.int (v4 + 1))]) x57_93 rfl (H))

-- Node.accepts(LRoundVotes$Message;)Z, from 0
set_option maxRecDepth 8000 in
theorem T58 {E : mE} {i : Nat} {q : Nat} {S : mS} {K : Option Value → mS → Prop} (hi : i < eN E) (hq : q < sU S) (H : ((sM S q 2) = (sN S i 0 2) → (ES E 58 26 [some (.ref (aN E i 0)), some (.ref (aM E q)), none] [] S K)) ∧ (¬ (sM S q 2) = (sN S i 0 2) → (((sM S q 2) = ((sN S i 0 2) + 1) → (ES E 58 26 [some (.ref (aN E i 0)), some (.ref (aM E q)), none] [] S K)) ∧ (¬ (sM S q 2) = ((sN S i 0 2) + 1) → (K (some (.int 1)) S))))) : ES E 58 0 [some (.ref (aN E i 0)), some (.ref (aM E q)), none] [] S K := by
  refine e_al x58_0 rfl (e_gM x58_1 hq (e_al x58_4 rfl (e_gN x58_5 hi (by decide) rfl (e_eq x58_8 (fun c1 => ?_) (fun c1 => ?_)))))
  · replace H := H.1 c1
    exact H
  · replace H := H.2 c1
    refine e_al x58_11 rfl (e_gM x58_12 hq (e_al x58_15 rfl (e_gN x58_16 hi (by decide) rfl (e_ic x58_19 (e_ii (v := ((sN S i 0 2) + 1)) x58_20 rfl (e_eq x58_21 (fun c2 => ?_) (fun c2 => ?_)))))))
    · replace H := H.1 c2
      exact H
    · replace H := H.2 c2
      exact e_ic x58_24 (e_rz x58_25 (by decide) H)

-- Node.accepts(LRoundVotes$Message;)Z, from 26
set_option maxRecDepth 8000 in
theorem T58_26 {E : mE} {i : Nat} {q1 : Nat} {S : mS} {K : Option Value → mS → Prop} (hi : i < eN E) (hq1 : q1 < sU S) (H : ((sM S q1 2) = (sN S i 0 2) → ((RB (sR S i 0)) ∧ ((¬ (((((sM S q1 3) * (sN S i (sR S i 0) 0)) + (sM S q1 0)) * 3) + (sM S q1 4)) < 0 ∧ ((((((sM S q1 3) * (sN S i (sR S i 0) 0)) + (sM S q1 0)) * 3) + (sM S q1 4)).toNatClampNeg) < lnB (eN E) (sR S i 0)) ∧ (((sN S i ((sR S i 0) + 2) ((((((sM S q1 3) * (sN S i (sR S i 0) 0)) + (sM S q1 0)) * 3) + (sM S q1 4)).toNatClampNeg)) = (-2) → (ES E 11 0 [some (.ref (aN E i (sR S i 0))), some (.int (sM S q1 3)), some (.int (sM S q1 0)), some (.int (sM S q1 4)), some (.int (sM S q1 5)), some (.int (sM S q1 6))] [] S (fun r S5 => r = none ∧ (K (some (.int 1)) S5)))) ∧ (¬ (sN S i ((sR S i 0) + 2) ((((((sM S q1 3) * (sN S i (sR S i 0) 0)) + (sM S q1 0)) * 3) + (sM S q1 4)).toNatClampNeg)) = (-2) → (((sM S q1 4) = 0 → ((¬ (sM S q1 3) < 0 ∧ ((sM S q1 3).toNatClampNeg) < 30) ∧ (((sN S i ((sR S i 0) + 1) ((sM S q1 3).toNatClampNeg)) = (sM S q1 6) → (ES E 58 118 [some (.ref (aN E i 0)), some (.ref (aM E q1)), some (.ref (aN E i (sR S i 0)))] [] S K)) ∧ (¬ (sN S i ((sR S i 0) + 1) ((sM S q1 3).toNatClampNeg)) = (sM S q1 6) → (K (some (.int 0)) S))))) ∧ (¬ (sM S q1 4) = 0 → (ES E 58 118 [some (.ref (aN E i 0)), some (.ref (aM E q1)), some (.ref (aN E i (sR S i 0)))] [] S K)))))))) ∧ (¬ (sM S q1 2) = (sN S i 0 2) → ((RB (sR S i 1)) ∧ ((¬ (((((sM S q1 3) * (sN S i (sR S i 1) 0)) + (sM S q1 0)) * 3) + (sM S q1 4)) < 0 ∧ ((((((sM S q1 3) * (sN S i (sR S i 1) 0)) + (sM S q1 0)) * 3) + (sM S q1 4)).toNatClampNeg) < lnB (eN E) (sR S i 1)) ∧ (((sN S i ((sR S i 1) + 2) ((((((sM S q1 3) * (sN S i (sR S i 1) 0)) + (sM S q1 0)) * 3) + (sM S q1 4)).toNatClampNeg)) = (-2) → (ES E 11 0 [some (.ref (aN E i (sR S i 1))), some (.int (sM S q1 3)), some (.int (sM S q1 0)), some (.int (sM S q1 4)), some (.int (sM S q1 5)), some (.int (sM S q1 6))] [] S (fun r S12 => r = none ∧ (K (some (.int 1)) S12)))) ∧ (¬ (sN S i ((sR S i 1) + 2) ((((((sM S q1 3) * (sN S i (sR S i 1) 0)) + (sM S q1 0)) * 3) + (sM S q1 4)).toNatClampNeg)) = (-2) → (((sM S q1 4) = 0 → ((¬ (sM S q1 3) < 0 ∧ ((sM S q1 3).toNatClampNeg) < 30) ∧ (((sN S i ((sR S i 1) + 1) ((sM S q1 3).toNatClampNeg)) = (sM S q1 6) → (ES E 58 118 [some (.ref (aN E i 0)), some (.ref (aM E q1)), some (.ref (aN E i (sR S i 1)))] [] S K)) ∧ (¬ (sN S i ((sR S i 1) + 1) ((sM S q1 3).toNatClampNeg)) = (sM S q1 6) → (K (some (.int 0)) S))))) ∧ (¬ (sM S q1 4) = 0 → (ES E 58 118 [some (.ref (aN E i 0)), some (.ref (aM E q1)), some (.ref (aN E i (sR S i 1)))] [] S K))))))))) : ES E 58 26 [some (.ref (aN E i 0)), some (.ref (aM E q1)), none] [] S K := by
  refine e_al x58_26 rfl (e_gM x58_27 hq1 (e_al x58_30 rfl (e_gN x58_31 hi (by decide) rfl (e_ne x58_34 (fun c1 => ?_) (fun c1 => ?_)))))
  · replace H := H.1 c1
    have c2 := H.1
    have c3 := H.2.1
    replace H := H.2.2
    refine e_al x58_37 rfl (e_PNp x58_38 hi (e_goto x58_41 (e_ast (l' := [some (.ref (aN E i 0)), some (.ref (aM E q1)), some (.ref (aN E i (sR S i 0)))]) x58_48 rfl rfl (e_al x58_49 rfl (e_al x58_50 rfl (e_gM x58_51 hq1 (e_al x58_54 rfl (e_gM x58_55 hq1 (e_al x58_58 rfl (e_gM x58_59 hq1 (e_cV (l0 := [some (.ref (aN E i (sR S i 0))), some (.int (sM S q1 3)), some (.int (sM S q1 0)), some (.int (sM S q1 4))]) x58_62 rfl rfl rfl rfl rfl (fun h hh => (hh.tN hi (Bal.l (RB.b c2))).trans (Bal.t (RB.b c2))) (e_al x8_0 rfl (e_PBv x8_1 hi (RB.b c2) (e_il x8_4 rfl (e_al x8_5 rfl (e_gN x8_6 hi (Bal.l (RB.b c2)) (Bal.t (RB.b c2)) (e_ii (v := ((sM S q1 3) * (sN S i (sR S i 0) 0))) x8_9 rfl (e_il x8_10 rfl (e_ii (v := (((sM S q1 3) * (sN S i (sR S i 0) 0)) + (sM S q1 0))) x8_11 rfl (e_ic x8_12 (e_ii (v := ((((sM S q1 3) * (sN S i (sR S i 0) 0)) + (sM S q1 0)) * 3)) x8_13 rfl (e_il x8_14 rfl (e_ii (v := (((((sM S q1 3) * (sN S i (sR S i 0) 0)) + (sM S q1 0)) * 3) + (sM S q1 4))) x8_15 rfl (e_iaBv x8_16 hi (RB.b c2) c3 (e_ic x8_17 (e_eq x8_19 (fun c4 => ?_) (fun c4 => ?_)))))))))))))))))))))))))))
    · replace H := H.1 c4
      refine e_ic x8_26 (e_rz x8_27 (by decide) (e_ne0 x58_65 (fun _ => ?_) (fun z9 => absurd (by decide) z9)))
      refine e_al x58_68 rfl (e_al x58_69 rfl (e_gM x58_70 hq1 (e_al x58_73 rfl (e_gM x58_74 hq1 (e_al x58_77 rfl (e_gM x58_78 hq1 (e_al x58_81 rfl (e_gM x58_82 hq1 (e_al x58_85 rfl (e_gM x58_86 hq1 (e_cV (l0 := [some (.ref (aN E i (sR S i 0))), some (.int (sM S q1 3)), some (.int (sM S q1 0)), some (.int (sM S q1 4)), some (.int (sM S q1 5)), some (.int (sM S q1 6))]) x58_89 rfl rfl rfl rfl rfl (fun h hh => (hh.tN hi (Bal.l (RB.b c2))).trans (Bal.t (RB.b c2))) (ES.mono H ?_))))))))))))
      rintro _ S5 ⟨rfl, H⟩
      exact e_ic x58_92 (e_rz x58_93 (by decide) H)
    · replace H := H.2 c4
      refine e_ic x8_22 (e_goto x8_23 (e_rz x8_27 (by decide) (e_ne0 x58_65 (fun z9 => absurd z9 (by decide)) (fun _ => ?_))))
      refine e_al x58_94 rfl (e_gM x58_95 hq1 (e_ne0 x58_98 (fun c6 => ?_) (fun c6 => ?_)))
      · replace H := H.1 c6
        have c7 := H.1
        replace H := H.2
        refine e_al x58_101 rfl (e_al x58_102 rfl (e_gM x58_103 hq1 (e_cV (l0 := [some (.ref (aN E i (sR S i 0))), some (.int (sM S q1 3))]) x58_106 rfl rfl rfl rfl rfl (fun h hh => (hh.tN hi (Bal.l (RB.b c2))).trans (Bal.t (RB.b c2))) (e_al x10_0 rfl (e_PBs x10_1 hi (RB.b c2) (e_il x10_4 rfl (e_iaBs x10_5 hi (RB.b c2) c7 (e_ri x10_6 (e_al x58_109 rfl (e_gM x58_110 hq1 (e_eq x58_113 (fun c8 => ?_) (fun c8 => ?_))))))))))))
        · replace H := H.1 c8
          exact H
        · replace H := H.2 c8
          exact e_ic x58_116 (e_rz x58_117 (by decide) H)
      · replace H := H.2 c6
        exact H
  · replace H := H.2 c1
    have c9 := H.1
    have c10 := H.2.1
    replace H := H.2.2
    refine e_al x58_44 rfl (e_PNn x58_45 hi (e_ast (l' := [some (.ref (aN E i 0)), some (.ref (aM E q1)), some (.ref (aN E i (sR S i 1)))]) x58_48 rfl rfl (e_al x58_49 rfl (e_al x58_50 rfl (e_gM x58_51 hq1 (e_al x58_54 rfl (e_gM x58_55 hq1 (e_al x58_58 rfl (e_gM x58_59 hq1 (e_cV (l0 := [some (.ref (aN E i (sR S i 1))), some (.int (sM S q1 3)), some (.int (sM S q1 0)), some (.int (sM S q1 4))]) x58_62 rfl rfl rfl rfl rfl (fun h hh => (hh.tN hi (Bal.l (RB.b c9))).trans (Bal.t (RB.b c9))) (e_al x8_0 rfl (e_PBv x8_1 hi (RB.b c9) (e_il x8_4 rfl (e_al x8_5 rfl (e_gN x8_6 hi (Bal.l (RB.b c9)) (Bal.t (RB.b c9)) (e_ii (v := ((sM S q1 3) * (sN S i (sR S i 1) 0))) x8_9 rfl (e_il x8_10 rfl (e_ii (v := (((sM S q1 3) * (sN S i (sR S i 1) 0)) + (sM S q1 0))) x8_11 rfl (e_ic x8_12 (e_ii (v := ((((sM S q1 3) * (sN S i (sR S i 1) 0)) + (sM S q1 0)) * 3)) x8_13 rfl (e_il x8_14 rfl (e_ii (v := (((((sM S q1 3) * (sN S i (sR S i 1) 0)) + (sM S q1 0)) * 3) + (sM S q1 4))) x8_15 rfl (e_iaBv x8_16 hi (RB.b c9) c10 (e_ic x8_17 (e_eq x8_19 (fun c11 => ?_) (fun c11 => ?_))))))))))))))))))))))))))
    · replace H := H.1 c11
      refine e_ic x8_26 (e_rz x8_27 (by decide) (e_ne0 x58_65 (fun _ => ?_) (fun z9 => absurd (by decide) z9)))
      refine e_al x58_68 rfl (e_al x58_69 rfl (e_gM x58_70 hq1 (e_al x58_73 rfl (e_gM x58_74 hq1 (e_al x58_77 rfl (e_gM x58_78 hq1 (e_al x58_81 rfl (e_gM x58_82 hq1 (e_al x58_85 rfl (e_gM x58_86 hq1 (e_cV (l0 := [some (.ref (aN E i (sR S i 1))), some (.int (sM S q1 3)), some (.int (sM S q1 0)), some (.int (sM S q1 4)), some (.int (sM S q1 5)), some (.int (sM S q1 6))]) x58_89 rfl rfl rfl rfl rfl (fun h hh => (hh.tN hi (Bal.l (RB.b c9))).trans (Bal.t (RB.b c9))) (ES.mono H ?_))))))))))))
      rintro _ S12 ⟨rfl, H⟩
      exact e_ic x58_92 (e_rz x58_93 (by decide) H)
    · replace H := H.2 c11
      refine e_ic x8_22 (e_goto x8_23 (e_rz x8_27 (by decide) (e_ne0 x58_65 (fun z9 => absurd z9 (by decide)) (fun _ => ?_))))
      refine e_al x58_94 rfl (e_gM x58_95 hq1 (e_ne0 x58_98 (fun c13 => ?_) (fun c13 => ?_)))
      · replace H := H.1 c13
        have c14 := H.1
        replace H := H.2
        refine e_al x58_101 rfl (e_al x58_102 rfl (e_gM x58_103 hq1 (e_cV (l0 := [some (.ref (aN E i (sR S i 1))), some (.int (sM S q1 3))]) x58_106 rfl rfl rfl rfl rfl (fun h hh => (hh.tN hi (Bal.l (RB.b c9))).trans (Bal.t (RB.b c9))) (e_al x10_0 rfl (e_PBs x10_1 hi (RB.b c9) (e_il x10_4 rfl (e_iaBs x10_5 hi (RB.b c9) c14 (e_ri x10_6 (e_al x58_109 rfl (e_gM x58_110 hq1 (e_eq x58_113 (fun c15 => ?_) (fun c15 => ?_))))))))))))
        · replace H := H.1 c15
          exact H
        · replace H := H.2 c15
          exact e_ic x58_116 (e_rz x58_117 (by decide) H)
      · replace H := H.2 c13
        exact H

-- Node.accepts(LRoundVotes$Message;)Z, from 118
set_option maxRecDepth 8000 in
theorem T58_118 {E : mE} {i : Nat} {q1 : Nat} {c2 : Nat} {S : mS} {K : Option Value → mS → Prop} (hi : i < eN E) (hq1 : q1 < sU S) (hc2 : RB c2) (H : (¬ (((((sM S q1 3) * (sN S i c2 0)) + (sM S q1 0)) * 3) + (sM S q1 4)) < 0 ∧ ((((((sM S q1 3) * (sN S i c2 0)) + (sM S q1 0)) * 3) + (sM S q1 4)).toNatClampNeg) < lnB (eN E) c2) ∧ (((sN S i (c2 + 2) ((((((sM S q1 3) * (sN S i c2 0)) + (sM S q1 0)) * 3) + (sM S q1 4)).toNatClampNeg)) = (sM S q1 5) → (K (some (.int 1)) S)) ∧ (¬ (sN S i (c2 + 2) ((((((sM S q1 3) * (sN S i c2 0)) + (sM S q1 0)) * 3) + (sM S q1 4)).toNatClampNeg)) = (sM S q1 5) → (K (some (.int 0)) S)))) : ES E 58 118 [some (.ref (aN E i 0)), some (.ref (aM E q1)), some (.ref (aN E i c2))] [] S K := by
  have c1 := H.1
  replace H := H.2
  refine e_al x58_118 rfl (e_al x58_119 rfl (e_gM x58_120 hq1 (e_al x58_123 rfl (e_gM x58_124 hq1 (e_al x58_127 rfl (e_gM x58_128 hq1 (e_cV (l0 := [some (.ref (aN E i c2)), some (.int (sM S q1 3)), some (.int (sM S q1 0)), some (.int (sM S q1 4))]) x58_131 rfl rfl rfl rfl rfl (fun h hh => (hh.tN hi (Bal.l (RB.b hc2))).trans (Bal.t (RB.b hc2))) (e_al x9_0 rfl (e_PBv x9_1 hi (RB.b hc2) (e_il x9_4 rfl (e_al x9_5 rfl (e_gN x9_6 hi (Bal.l (RB.b hc2)) (Bal.t (RB.b hc2)) (e_ii (v := ((sM S q1 3) * (sN S i c2 0))) x9_9 rfl (e_il x9_10 rfl (e_ii (v := (((sM S q1 3) * (sN S i c2 0)) + (sM S q1 0))) x9_11 rfl (e_ic x9_12 (e_ii (v := ((((sM S q1 3) * (sN S i c2 0)) + (sM S q1 0)) * 3)) x9_13 rfl (e_il x9_14 rfl (e_ii (v := (((((sM S q1 3) * (sN S i c2 0)) + (sM S q1 0)) * 3) + (sM S q1 4))) x9_15 rfl (e_iaBv x9_16 hi (RB.b hc2) c1 (e_ri x9_17 (e_al x58_134 rfl (e_gM x58_135 hq1 (e_ne x58_138 (fun c2 => ?_) (fun c2 => ?_)))))))))))))))))))))))))
  · replace H := H.1 c2
    exact e_ic x58_141 (e_goto x58_142 (e_rz x58_146 (by decide) H))
  · replace H := H.2 c2
    exact e_ic x58_145 (e_rz x58_146 (by decide) H)

-- Node.endTimer(II)V, from 0
set_option maxRecDepth 8000 in
theorem T59 {E : mE} {i : Nat} {a1 : Int32} {a2 : Int32} {S : mS} {K : Option Value → mS → Prop} (hi : i < eN E) (H : (¬ a1 < 0 ∧ (a1.toNatClampNeg) < 3) ∧ (∀ S2, S2 = uN S i 3 (a1.toNatClampNeg) 0 → ((a1 = 0 → (((sN S2 i 0 4) = 0 → (ES E 40 0 [some (.ref (aN E i 0)), some (.int 1), some (.int 0), some (.int (-1)), none, none] [] S2 (fun r S5 => r = none ∧ (ES E 59 67 [some (.ref (aN E i 0)), some (.int a1), some (.int a2)] [] S5 K)))) ∧ (¬ (sN S2 i 0 4) = 0 → (ES E 59 28 [some (.ref (aN E i 0)), some (.int a1), some (.int a2)] [] S2 K)))) ∧ (¬ a1 = 0 → (ES E 59 28 [some (.ref (aN E i 0)), some (.int a1), some (.int a2)] [] S2 K))))) : ES E 59 0 [some (.ref (aN E i 0)), some (.int a1), some (.int a2)] [] S K := by
  have c1 := H.1
  replace H := H.2
  refine e_al x59_0 rfl (e_PN x59_1 hi (by decide) rfl rfl (e_il x59_4 rfl (e_ic x59_5 (e_waN x59_6 hi (by decide) rfl c1 ?_))))
  let S2 : mS := uN S i 3 (a1.toNatClampNeg) 0
  replace H := H S2 rfl
  show ES _ _ _ _ _ S2 _
  refine e_il x59_7 rfl (e_ne0 x59_8 (fun c3 => ?_) (fun c3 => ?_))
  · replace H := H.1 c3
    refine e_al x59_11 rfl (e_gN x59_12 hi (by decide) rfl (e_ne0 x59_15 (fun c4 => ?_) (fun c4 => ?_)))
    · replace H := H.1 c4
      refine e_al x59_18 rfl (e_ic x59_19 (e_ic x59_20 (e_ic x59_21 (e_cV (l0 := [some (.ref (aN E i 0)), some (.int 1), some (.int 0), some (.int (-1)), none, none]) x59_22 rfl rfl rfl rfl rfl (fun h hh => hh.tN hi (by decide)) (ES.mono H ?_)))))
      rintro _ S5 ⟨rfl, H⟩
      exact e_goto x59_25 (H)
    · replace H := H.2 c4
      exact H
  · replace H := H.2 c3
    exact H

-- Node.endTimer(II)V, from 67
set_option maxRecDepth 8000 in
theorem T59_67 {E : mE} {i : Nat} {v1 : Int32} {v2 : Int32} {S : mS} {K : Option Value → mS → Prop} (hi : i < eN E) (H : K none S) : ES E 59 67 [some (.ref (aN E i 0)), some (.int v1), some (.int v2)] [] S K := by
  exact e_rv x59_67 H

-- Node.endTimer(II)V, from 28
set_option maxRecDepth 8000 in
theorem T59_28 {E : mE} {i : Nat} {v1 : Int32} {v2 : Int32} {S : mS} {K : Option Value → mS → Prop} (hi : i < eN E) (H : (v1 = 1 → (((sN S i 0 4) = 1 → (ES E 40 0 [some (.ref (aN E i 0)), some (.int 2), some (.int 0), some (.int (-1)), none, none] [] S (fun r S3 => r = none ∧ (ES E 59 67 [some (.ref (aN E i 0)), some (.int v1), some (.int v2)] [] S3 K)))) ∧ (¬ (sN S i 0 4) = 1 → (ES E 59 51 [some (.ref (aN E i 0)), some (.int v1), some (.int v2)] [] S K)))) ∧ (¬ v1 = 1 → (ES E 59 51 [some (.ref (aN E i 0)), some (.int v1), some (.int v2)] [] S K))) : ES E 59 28 [some (.ref (aN E i 0)), some (.int v1), some (.int v2)] [] S K := by
  refine e_il x59_28 rfl (e_ic x59_29 (e_ne x59_30 (fun c1 => ?_) (fun c1 => ?_)))
  · replace H := H.1 c1
    refine e_al x59_33 rfl (e_gN x59_34 hi (by decide) rfl (e_ic x59_37 (e_ne x59_38 (fun c2 => ?_) (fun c2 => ?_))))
    · replace H := H.1 c2
      refine e_al x59_41 rfl (e_ic x59_42 (e_ic x59_43 (e_ic x59_44 (e_cV (l0 := [some (.ref (aN E i 0)), some (.int 2), some (.int 0), some (.int (-1)), none, none]) x59_45 rfl rfl rfl rfl rfl (fun h hh => hh.tN hi (by decide)) (ES.mono H ?_)))))
      rintro _ S3 ⟨rfl, H⟩
      exact e_goto x59_48 (H)
    · replace H := H.2 c2
      exact H
  · replace H := H.2 c1
    exact H

-- Node.endTimer(II)V, from 51
set_option maxRecDepth 8000 in
theorem T59_51 {E : mE} {i : Nat} {v1 : Int32} {v2 : Int32} {S : mS} {K : Option Value → mS → Prop} (hi : i < eN E) (H : (v1 = 2 → (ES E 38 0 [some (.ref (aN E i 0)), some (.int ((sN S i 0 3) + 1)), some (.int v2), none] [] S (fun r S2 => r = none ∧ (ES E 59 67 [some (.ref (aN E i 0)), some (.int v1), some (.int v2)] [] S2 K)))) ∧ (¬ v1 = 2 → (ES E 59 67 [some (.ref (aN E i 0)), some (.int v1), some (.int v2)] [] S K))) : ES E 59 51 [some (.ref (aN E i 0)), some (.int v1), some (.int v2)] [] S K := by
  refine e_il x59_51 rfl (e_ic x59_52 (e_ne x59_53 (fun c1 => ?_) (fun c1 => ?_)))
  · replace H := H.1 c1
    refine e_al x59_56 rfl (e_al x59_57 rfl (e_gN x59_58 hi (by decide) rfl (e_ic x59_61 (e_ii (v := ((sN S i 0 3) + 1)) x59_62 rfl (e_il x59_63 rfl (e_cV (l0 := [some (.ref (aN E i 0)), some (.int ((sN S i 0 3) + 1)), some (.int v2), none]) x59_64 rfl rfl rfl rfl rfl (fun h hh => hh.tN hi (by decide)) (ES.mono H ?_)))))))
    rintro _ S2 ⟨rfl, H⟩
    exact H
  · replace H := H.2 c1
    exact H

-- Node.decideAs(LRoundVotes$Node;)V, from 0
set_option maxRecDepth 8000 in
theorem T60 {E : mE} {i : Nat} {j : Nat} {S : mS} {K : Option Value → mS → Prop} (hi : i < eN E) (hj : j < eN E) (H : (¬ (sN S i 0 2) < 0 ∧ ((sN S i 0 2).toNatClampNeg) < 41) ∧ (∀ S2, S2 = uN S i 6 ((sN S i 0 2).toNatClampNeg) (sN S j 6 ((sN S i 0 2).toNatClampNeg)) → (∀ S3, S3 = uN S2 i 7 ((sN S i 0 2).toNatClampNeg) (sN S j 7 ((sN S i 0 2).toNatClampNeg)) → (∀ S4, S4 = uN S3 i 8 ((sN S i 0 2).toNatClampNeg) (sN S j 8 ((sN S i 0 2).toNatClampNeg)) → (ES E 48 0 [some (.ref (aN E i 0)), none] [] S4 (fun r S5 => r = none ∧ (K none S5))))))) : ES E 60 0 [some (.ref (aN E i 0)), some (.ref (aN E j 0)), none] [] S K := by
  have c1 := H.1
  replace H := H.2
  refine e_al x60_0 rfl (e_PN x60_1 hj (by decide) rfl rfl (e_ast (l' := [some (.ref (aN E i 0)), some (.ref (aN E j 0)), some (.ref (aN E j 5))]) x60_4 rfl rfl (e_al x60_5 rfl (e_PN x60_6 hi (by decide) rfl rfl (e_al x60_9 rfl (e_gN x60_10 hi (by decide) rfl (e_al x60_13 rfl (e_PN x60_14 hj (by decide) rfl rfl (e_al x60_17 rfl (e_gN x60_18 hi (by decide) rfl (e_iaN x60_21 hj (by decide) rfl c1 (e_al x60_22 rfl (e_PN x60_23 hj (by decide) rfl rfl (e_al x60_26 rfl (e_gN x60_27 hi (by decide) rfl (e_iaN x60_30 hj (by decide) rfl c1 (e_al x60_31 rfl (e_PN x60_32 hj (by decide) rfl rfl (e_al x60_35 rfl (e_gN x60_36 hi (by decide) rfl (e_iaN x60_39 hj (by decide) rfl c1 (e_cV (l0 := [some (.ref (aN E i 5)), some (.int (sN S i 0 2)), some (.int (sN S j 6 ((sN S i 0 2).toNatClampNeg))), some (.int (sN S j 7 ((sN S i 0 2).toNatClampNeg))), some (.int (sN S j 8 ((sN S i 0 2).toNatClampNeg)))]) x60_40 rfl rfl rfl rfl rfl (fun h hh => hh.tN hi (by decide)) (e_al x16_0 rfl (e_PN x16_1 hi (by decide) rfl rfl (e_il x16_4 rfl (e_il x16_5 rfl (e_waN x16_6 hi (by decide) rfl c1 ?_)))))))))))))))))))))))))))
  let S2 : mS := uN S i 6 ((sN S i 0 2).toNatClampNeg) (sN S j 6 ((sN S i 0 2).toNatClampNeg))
  replace H := H S2 rfl
  show ES _ _ _ _ _ S2 _
  refine e_al x16_7 rfl (e_PN x16_8 hi (by decide) rfl rfl (e_il x16_11 rfl (e_il x16_12 rfl (e_waN x16_13 hi (by decide) rfl c1 ?_))))
  let S3 : mS := uN S2 i 7 ((sN S i 0 2).toNatClampNeg) (sN S j 7 ((sN S i 0 2).toNatClampNeg))
  replace H := H S3 rfl
  show ES _ _ _ _ _ S3 _
  refine e_al x16_14 rfl (e_PN x16_15 hi (by decide) rfl rfl (e_il x16_18 rfl (e_il x16_19 rfl (e_waN x16_21 hi (by decide) rfl c1 ?_))))
  let S4 : mS := uN S3 i 8 ((sN S i 0 2).toNatClampNeg) (sN S j 8 ((sN S i 0 2).toNatClampNeg))
  replace H := H S4 rfl
  show ES _ _ _ _ _ S4 _
  refine e_rv x16_22 (e_al x60_43 rfl (e_cV (l0 := [some (.ref (aN E i 0)), none]) x60_44 rfl rfl rfl rfl rfl (fun h hh => hh.tN hi (by decide)) (ES.mono H ?_)))
  rintro _ S5 ⟨rfl, H⟩
  exact e_rv x60_47 H

