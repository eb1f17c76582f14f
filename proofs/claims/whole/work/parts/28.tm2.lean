/-! ===== what the runs need, over states ===== -/
-- Model.ruleA(I)Z, from 0
set_option maxRecDepth 8000 in
theorem T112 {E : mE} {a1 : Int32} {S : mS} {K : Option Value → mS → Prop}  (H : (¬ a1 < 0 ∧ (a1.toNatClampNeg) < 10) ∧ (ES E 112 9 [some (.ref (aS E 0)), some (.int a1), some (.int (sS S 2 (a1.toNatClampNeg))), some (.int 0), none, none, none] [] S K)) : ES E 112 0 [some (.ref (aS E 0)), some (.int a1), none, none, none, none, none] [] S K := by
  have c1 := H.1
  replace H := H.2
  exact e_al x112_0 rfl (e_PS x112_1 rfl (e_il x112_4 rfl (e_iaS x112_5 (by decide) rfl c1 (e_ist (l' := [some (.ref (aS E 0)), some (.int a1), some (.int (sS S 2 (a1.toNatClampNeg))), none, none, none, none]) x112_6 rfl rfl (e_ic x112_7 (e_ist (l' := [some (.ref (aS E 0)), some (.int a1), some (.int (sS S 2 (a1.toNatClampNeg))), some (.int 0), none, none, none]) x112_8 rfl rfl (H)))))))

-- Model.ruleA(I)Z, from 9
set_option maxRecDepth 8000 in
theorem T112_9 {E : mE} {v1 : Int32} {v2 : Int32} {v3 : Int32} {S : mS} {K : Option Value → mS → Prop}  (H : ((30 : Int32) ≤ v3 → (K (some (.int 0)) S)) ∧ (¬ (30 : Int32) ≤ v3 → ((¬ v1 < 0 ∧ (v1.toNatClampNeg) < 10) ∧ ((¬ (sS S 0 1) = 0) ∧ ((¬ (2 : Int32) = 0) ∧ ((¬ ((((((((2 * v1) + ((sS S 2 (v1.toNatClampNeg)) - (sS S 2 (v1.toNatClampNeg)) / 2 * 2)) * 30) + v3) * 10) + (((sS S 2 (v1.toNatClampNeg)) + v3) - ((sS S 2 (v1.toNatClampNeg)) + v3) / (sS S 0 1) * (sS S 0 1))) * 3) + 0) < 0 ∧ (((((((((2 * v1) + ((sS S 2 (v1.toNatClampNeg)) - (sS S 2 (v1.toNatClampNeg)) / 2 * 2)) * 30) + v3) * 10) + (((sS S 2 (v1.toNatClampNeg)) + v3) - ((sS S 2 (v1.toNatClampNeg)) + v3) / (sS S 0 1) * (sS S 0 1))) * 3) + 0).toNatClampNeg) < 18000) ∧ (((sS S 17 (((((((((2 * v1) + ((sS S 2 (v1.toNatClampNeg)) - (sS S 2 (v1.toNatClampNeg)) / 2 * 2)) * 30) + v3) * 10) + (((sS S 2 (v1.toNatClampNeg)) + v3) - ((sS S 2 (v1.toNatClampNeg)) + v3) / (sS S 0 1) * (sS S 0 1))) * 3) + 0).toNatClampNeg)) ≤ 0 → (ES E 112 9 [some (.ref (aS E 0)), some (.int v1), some (.int v2), some (.int (v3 + 1)), none, none, none] [] S K)) ∧ (¬ (sS S 17 (((((((((2 * v1) + ((sS S 2 (v1.toNatClampNeg)) - (sS S 2 (v1.toNatClampNeg)) / 2 * 2)) * 30) + v3) * 10) + (((sS S 2 (v1.toNatClampNeg)) + v3) - ((sS S 2 (v1.toNatClampNeg)) + v3) / (sS S 0 1) * (sS S 0 1))) * 3) + 0).toNatClampNeg)) ≤ 0 → (ES E 115 0 [some (.ref (aS E 0)), some (.int v1), some (.int v3), some (.int 2), some (.int (sS S 17 (((((((((2 * v1) + ((sS S 2 (v1.toNatClampNeg)) - (sS S 2 (v1.toNatClampNeg)) / 2 * 2)) * 30) + v3) * 10) + (((sS S 2 (v1.toNatClampNeg)) + v3) - ((sS S 2 (v1.toNatClampNeg)) + v3) / (sS S 0 1) * (sS S 0 1))) * 3) + 0).toNatClampNeg))), none, none, none, none] [] S (fun r S7 => ∃ x8 : Int64, r = some (.long x8) ∧ (ES E 116 0 [some (.ref (aS E 0)), some (.long x8), none, some (.int v2)] [] S7 (fun r S9 => ∃ x10 : Int32, r = some (.int x10) ∧ ((x10 = 0 → (ES E 112 9 [some (.ref (aS E 0)), some (.int v1), some (.int v2), some (.int (v3 + 1)), none, none, none] [] S9 K)) ∧ (¬ x10 = 0 → ((¬ ((10 * v2) + v1) < 0 ∧ (((10 * v2) + v1).toNatClampNeg) < 410) ∧ (∀ S13, S13 = uS S9 21 (((10 * v2) + v1).toNatClampNeg) (sS S 17 (((((((((2 * v1) + ((sS S 2 (v1.toNatClampNeg)) - (sS S 2 (v1.toNatClampNeg)) / 2 * 2)) * 30) + v3) * 10) + (((sS S 2 (v1.toNatClampNeg)) + v3) - ((sS S 2 (v1.toNatClampNeg)) + v3) / (sS S 0 1) * (sS S 0 1))) * 3) + 0).toNatClampNeg)) → (∀ S14, S14 = uS S13 22 (((10 * v2) + v1).toNatClampNeg) v3 → (∀ S15, S15 = uS S14 23 (((10 * v2) + v1).toNatClampNeg) 0 → (ES E 112 81 [some (.ref (aS E 0)), some (.int v1), some (.int v2), some (.int v3), some (.int (sS S 17 (((((((((2 * v1) + ((sS S 2 (v1.toNatClampNeg)) - (sS S 2 (v1.toNatClampNeg)) / 2 * 2)) * 30) + v3) * 10) + (((sS S 2 (v1.toNatClampNeg)) + v3) - ((sS S 2 (v1.toNatClampNeg)) + v3) / (sS S 0 1) * (sS S 0 1))) * 3) + 0).toNatClampNeg))), some (.int ((10 * v2) + v1)), some (.int 0)] [] S15 K))))))))))))))))))) : ES E 112 9 [some (.ref (aS E 0)), some (.int v1), some (.int v2), some (.int v3), none, none, none] [] S K := by
  refine e_il x112_9 rfl (e_ic x112_10 (e_ge x112_12 (fun c1 => ?_) (fun c1 => ?_)))
  · replace H := H.1 c1
    exact e_ic x112_179 (e_rz x112_180 (by decide) H)
  · replace H := H.2 c1
    have c2 := H.1
    have c3 := H.2.1
    have c4 := H.2.2.1
    have c5 := H.2.2.2.1
    replace H := H.2.2.2.2
    refine e_al x112_15 rfl (e_il x112_16 rfl (e_il x112_17 rfl (e_cV (l0 := [some (.ref (aS E 0)), some (.int v1), some (.int v3)]) x112_18 rfl rfl rfl rfl rfl (fun h hh => hh.tS (by decide)) (e_al x113_0 rfl (e_il x113_1 rfl (e_il x113_2 rfl (e_al x113_3 rfl (e_al x113_4 rfl (e_PS x113_5 rfl (e_il x113_8 rfl (e_iaS x113_9 (by decide) rfl c2 (e_il x113_10 rfl (e_cV (l0 := [some (.ref (aS E 0)), some (.int (sS S 2 (v1.toNatClampNeg))), some (.int v3)]) x113_11 rfl rfl rfl rfl rfl (fun h hh => hh.tS (by decide)) (e_il x100_0 rfl (e_il x100_1 rfl (e_ii (v := ((sS S 2 (v1.toNatClampNeg)) + v3)) x100_2 rfl (e_al x100_3 rfl (e_gS x100_4 (by decide) rfl (e_rem x100_7 c3 (e_ri x100_8 (e_ic x113_14 (e_cV (l0 := [some (.ref (aS E 0)), some (.int v1), some (.int v3), some (.int (((sS S 2 (v1.toNatClampNeg)) + v3) - ((sS S 2 (v1.toNatClampNeg)) + v3) / (sS S 0 1) * (sS S 0 1))), some (.int 0)]) x113_15 rfl rfl rfl rfl rfl (fun h hh => hh.tS (by decide)) (e_al x114_0 rfl (e_PS x114_1 rfl (e_al x114_4 rfl (e_il x114_5 rfl (e_al x114_6 rfl (e_PS x114_7 rfl (e_il x114_10 rfl (e_iaS x114_11 (by decide) rfl c2 (e_il x114_12 rfl (e_il x114_13 rfl (e_il x114_14 rfl (e_cV (l0 := [some (.ref (aS E 0)), some (.int v1), some (.int (sS S 2 (v1.toNatClampNeg))), some (.int v3), some (.int (((sS S 2 (v1.toNatClampNeg)) + v3) - ((sS S 2 (v1.toNatClampNeg)) + v3) / (sS S 0 1) * (sS S 0 1))), some (.int 0)]) x114_16 rfl rfl rfl rfl rfl (fun h hh => hh.tS (by decide)) (e_ic x93_0 (e_il x93_1 rfl (e_ii (v := (2 * v1)) x93_2 rfl (e_il x93_3 rfl (e_ic x93_4 (e_rem x93_5 c4 (e_ii (v := ((2 * v1) + ((sS S 2 (v1.toNatClampNeg)) - (sS S 2 (v1.toNatClampNeg)) / 2 * 2))) x93_6 rfl (e_ic x93_7 (e_ii (v := (((2 * v1) + ((sS S 2 (v1.toNatClampNeg)) - (sS S 2 (v1.toNatClampNeg)) / 2 * 2)) * 30)) x93_9 rfl (e_il x93_10 rfl (e_ii (v := ((((2 * v1) + ((sS S 2 (v1.toNatClampNeg)) - (sS S 2 (v1.toNatClampNeg)) / 2 * 2)) * 30) + v3)) x93_11 rfl (e_ic x93_12 (e_ii (v := (((((2 * v1) + ((sS S 2 (v1.toNatClampNeg)) - (sS S 2 (v1.toNatClampNeg)) / 2 * 2)) * 30) + v3) * 10)) x93_14 rfl (e_il x93_15 rfl (e_ii (v := ((((((2 * v1) + ((sS S 2 (v1.toNatClampNeg)) - (sS S 2 (v1.toNatClampNeg)) / 2 * 2)) * 30) + v3) * 10) + (((sS S 2 (v1.toNatClampNeg)) + v3) - ((sS S 2 (v1.toNatClampNeg)) + v3) / (sS S 0 1) * (sS S 0 1)))) x93_17 rfl (e_ic x93_18 (e_ii (v := (((((((2 * v1) + ((sS S 2 (v1.toNatClampNeg)) - (sS S 2 (v1.toNatClampNeg)) / 2 * 2)) * 30) + v3) * 10) + (((sS S 2 (v1.toNatClampNeg)) + v3) - ((sS S 2 (v1.toNatClampNeg)) + v3) / (sS S 0 1) * (sS S 0 1))) * 3)) x93_19 rfl (e_il x93_20 rfl (e_ii (v := ((((((((2 * v1) + ((sS S 2 (v1.toNatClampNeg)) - (sS S 2 (v1.toNatClampNeg)) / 2 * 2)) * 30) + v3) * 10) + (((sS S 2 (v1.toNatClampNeg)) + v3) - ((sS S 2 (v1.toNatClampNeg)) + v3) / (sS S 0 1) * (sS S 0 1))) * 3) + 0)) x93_22 rfl (e_ri x93_23 (e_iaS x114_19 (by decide) rfl c5 (e_ri x114_20 (e_ri x113_18 (e_ist (l' := [some (.ref (aS E 0)), some (.int v1), some (.int v2), some (.int v3), some (.int (sS S 17 (((((((((2 * v1) + ((sS S 2 (v1.toNatClampNeg)) - (sS S 2 (v1.toNatClampNeg)) / 2 * 2)) * 30) + v3) * 10) + (((sS S 2 (v1.toNatClampNeg)) + v3) - ((sS S 2 (v1.toNatClampNeg)) + v3) / (sS S 0 1) * (sS S 0 1))) * 3) + 0).toNatClampNeg))), none, none]) x112_21 rfl rfl (e_il x112_23 rfl (e_le0 x112_25 (fun c6 => ?_) (fun c6 => ?_)))))))))))))))))))))))))))))))))))))))))))))))))))))))))))))
    · replace H := H.1 c6
      exact e_inc (l' := [some (.ref (aS E 0)), some (.int v1), some (.int v2), some (.int (v3 + 1)), some (.int (sS S 17 (((((((((2 * v1) + ((sS S 2 (v1.toNatClampNeg)) - (sS S 2 (v1.toNatClampNeg)) / 2 * 2)) * 30) + v3) * 10) + (((sS S 2 (v1.toNatClampNeg)) + v3) - ((sS S 2 (v1.toNatClampNeg)) + v3) / (sS S 0 1) * (sS S 0 1))) * 3) + 0).toNatClampNeg))), none, none]) x112_173 rfl rfl rfl (e_back (l' := [some (.ref (aS E 0)), some (.int v1), some (.int v2), some (.int (v3 + 1)), none, none, none]) x112_176 rfl (H))
    · replace H := H.2 c6
      refine e_al x112_28 rfl (e_al x112_29 rfl (e_il x112_30 rfl (e_il x112_31 rfl (e_ic x112_32 (e_il x112_33 rfl (e_cV (l0 := [some (.ref (aS E 0)), some (.int v1), some (.int v3), some (.int 2), some (.int (sS S 17 (((((((((2 * v1) + ((sS S 2 (v1.toNatClampNeg)) - (sS S 2 (v1.toNatClampNeg)) / 2 * 2)) * 30) + v3) * 10) + (((sS S 2 (v1.toNatClampNeg)) + v3) - ((sS S 2 (v1.toNatClampNeg)) + v3) / (sS S 0 1) * (sS S 0 1))) * 3) + 0).toNatClampNeg))), none, none, none, none]) x112_35 rfl rfl rfl rfl rfl (fun h hh => hh.tS (by decide)) (ES.mono H ?_)))))))
      rintro _ S7 ⟨x8, rfl, H⟩
      refine e_il x112_38 rfl (e_cV (l0 := [some (.ref (aS E 0)), some (.long x8), none, some (.int v2)]) x112_39 rfl rfl rfl rfl rfl (fun h hh => hh.tS (by decide)) (ES.mono H ?_))
      rintro _ S9 ⟨x10, rfl, H⟩
      refine e_eq0 x112_42 (fun c11 => ?_) (fun c11 => ?_)
      · replace H := H.1 c11
        exact e_inc (l' := [some (.ref (aS E 0)), some (.int v1), some (.int v2), some (.int (v3 + 1)), some (.int (sS S 17 (((((((((2 * v1) + ((sS S 2 (v1.toNatClampNeg)) - (sS S 2 (v1.toNatClampNeg)) / 2 * 2)) * 30) + v3) * 10) + (((sS S 2 (v1.toNatClampNeg)) + v3) - ((sS S 2 (v1.toNatClampNeg)) + v3) / (sS S 0 1) * (sS S 0 1))) * 3) + 0).toNatClampNeg))), none, none]) x112_173 rfl rfl rfl (e_back (l' := [some (.ref (aS E 0)), some (.int v1), some (.int v2), some (.int (v3 + 1)), none, none, none]) x112_176 rfl (H))
      · replace H := H.2 c11
        have c12 := H.1
        replace H := H.2
        refine e_ic x112_45 (e_il x112_47 rfl (e_ii (v := (10 * v2)) x112_48 rfl (e_il x112_49 rfl (e_ii (v := ((10 * v2) + v1)) x112_50 rfl (e_ist (l' := [some (.ref (aS E 0)), some (.int v1), some (.int v2), some (.int v3), some (.int (sS S 17 (((((((((2 * v1) + ((sS S 2 (v1.toNatClampNeg)) - (sS S 2 (v1.toNatClampNeg)) / 2 * 2)) * 30) + v3) * 10) + (((sS S 2 (v1.toNatClampNeg)) + v3) - ((sS S 2 (v1.toNatClampNeg)) + v3) / (sS S 0 1) * (sS S 0 1))) * 3) + 0).toNatClampNeg))), some (.int ((10 * v2) + v1)), none]) x112_51 rfl rfl (e_al x112_53 rfl (e_PS x112_54 rfl (e_il x112_57 rfl (e_il x112_59 rfl (e_waS x112_61 (by decide) rfl c12 ?_))))))))))
        let S13 : mS := uS S9 21 (((10 * v2) + v1).toNatClampNeg) (sS S 17 (((((((((2 * v1) + ((sS S 2 (v1.toNatClampNeg)) - (sS S 2 (v1.toNatClampNeg)) / 2 * 2)) * 30) + v3) * 10) + (((sS S 2 (v1.toNatClampNeg)) + v3) - ((sS S 2 (v1.toNatClampNeg)) + v3) / (sS S 0 1) * (sS S 0 1))) * 3) + 0).toNatClampNeg))
        replace H := H S13 rfl
        show ES _ _ _ _ _ S13 _
        refine e_al x112_62 rfl (e_PS x112_63 rfl (e_il x112_66 rfl (e_il x112_68 rfl (e_waS x112_69 (by decide) rfl c12 ?_))))
        let S14 : mS := uS S13 22 (((10 * v2) + v1).toNatClampNeg) v3
        replace H := H S14 rfl
        show ES _ _ _ _ _ S14 _
        refine e_al x112_70 rfl (e_PS x112_71 rfl (e_il x112_74 rfl (e_ic x112_76 (e_waS x112_77 (by decide) rfl c12 ?_))))
        let S15 : mS := uS S14 23 (((10 * v2) + v1).toNatClampNeg) 0
        replace H := H S15 rfl
        show ES _ _ _ _ _ S15 _
        exact e_ic x112_78 (e_ist (l' := [some (.ref (aS E 0)), some (.int v1), some (.int v2), some (.int v3), some (.int (sS S 17 (((((((((2 * v1) + ((sS S 2 (v1.toNatClampNeg)) - (sS S 2 (v1.toNatClampNeg)) / 2 * 2)) * 30) + v3) * 10) + (((sS S 2 (v1.toNatClampNeg)) + v3) - ((sS S 2 (v1.toNatClampNeg)) + v3) / (sS S 0 1) * (sS S 0 1))) * 3) + 0).toNatClampNeg))), some (.int ((10 * v2) + v1)), some (.int 0)]) x112_79 rfl rfl (H))

-- Model.ruleA(I)Z, from 81
set_option maxRecDepth 8000 in
theorem T112_81 {E : mE} {v1 : Int32} {v2 : Int32} {v3 : Int32} {v4 : Int32} {v5 : Int32} {v6 : Int32} {S : mS} {K : Option Value → mS → Prop}  (H : ((sS S 0 1) ≤ v6 → (ES E 115 0 [some (.ref (aS E 0)), some (.int v1), some (.int v3), some (.int 2), some (.int v4), none, none, none, none] [] S (fun r S2 => ∃ x3 : Int64, r = some (.long x3) ∧ ((¬ v5 < 0 ∧ (v5.toNatClampNeg) < 410) ∧ (∀ S5, S5 = uW S2 (v5.toNatClampNeg) x3 → (ES E 118 0 [some (.ref (aS E 0)), some (.int v1), none] [] S5 (fun r S6 => r = none ∧ ((¬ v1 < 0 ∧ (v1.toNatClampNeg) < 10) ∧ (((40 : Int32) < (sS S6 2 (v1.toNatClampNeg)) → (K (some (.int 1)) S6)) ∧ (¬ (40 : Int32) < (sS S6 2 (v1.toNatClampNeg)) → (ES E 99 0 [some (.ref (aS E 0)), some (.int v1), some (.int 0), none] [] S6 (fun r S9 => r = none ∧ (K (some (.int 1)) S9))))))))))))) ∧ (¬ (sS S 0 1) ≤ v6 → ((¬ v5 < 0 ∧ (v5.toNatClampNeg) < 410) ∧ ((¬ v1 < 0 ∧ (v1.toNatClampNeg) < 10) ∧ ((¬ (2 : Int32) = 0) ∧ ((¬ ((((((((2 * v1) + ((sS S 2 (v1.toNatClampNeg)) - (sS S 2 (v1.toNatClampNeg)) / 2 * 2)) * 30) + v3) * 10) + v6) * 3) + 2) < 0 ∧ (((((((((2 * v1) + ((sS S 2 (v1.toNatClampNeg)) - (sS S 2 (v1.toNatClampNeg)) / 2 * 2)) * 30) + v3) * 10) + v6) * 3) + 2).toNatClampNeg) < 18000) ∧ (((sS S 17 (((((((((2 * v1) + ((sS S 2 (v1.toNatClampNeg)) - (sS S 2 (v1.toNatClampNeg)) / 2 * 2)) * 30) + v3) * 10) + v6) * 3) + 2).toNatClampNeg)) = v4 → (∀ S15, S15 = uS S 23 (v5.toNatClampNeg) ((sS S 23 (v5.toNatClampNeg)) ||| ((1 : Int32) <<< (v6 &&& 31))) → (ES E 112 81 [some (.ref (aS E 0)), some (.int v1), some (.int v2), some (.int v3), some (.int v4), some (.int v5), some (.int (v6 + 1))] [] S15 K))) ∧ (¬ (sS S 17 (((((((((2 * v1) + ((sS S 2 (v1.toNatClampNeg)) - (sS S 2 (v1.toNatClampNeg)) / 2 * 2)) * 30) + v3) * 10) + v6) * 3) + 2).toNatClampNeg)) = v4 → (∀ S16, S16 = uS S 23 (v5.toNatClampNeg) ((sS S 23 (v5.toNatClampNeg)) ||| 0) → (ES E 112 81 [some (.ref (aS E 0)), some (.int v1), some (.int v2), some (.int v3), some (.int v4), some (.int v5), some (.int (v6 + 1))] [] S16 K)))))))))) : ES E 112 81 [some (.ref (aS E 0)), some (.int v1), some (.int v2), some (.int v3), some (.int v4), some (.int v5), some (.int v6)] [] S K := by
  refine e_il x112_81 rfl (e_al x112_83 rfl (e_gS x112_84 (by decide) rfl (e_ge x112_87 (fun c1 => ?_) (fun c1 => ?_))))
  · replace H := H.1 c1
    refine e_al x112_133 rfl (e_PS x112_134 rfl (e_il x112_137 rfl (e_al x112_139 rfl (e_il x112_140 rfl (e_il x112_141 rfl (e_ic x112_142 (e_il x112_143 rfl (e_cV (l0 := [some (.ref (aS E 0)), some (.int v1), some (.int v3), some (.int 2), some (.int v4), none, none, none, none]) x112_145 rfl rfl rfl rfl rfl (fun h hh => hh.tS (by decide)) (ES.mono H ?_)))))))))
    rintro _ S2 ⟨x3, rfl, H⟩
    have c4 := H.1
    replace H := H.2
    refine e_wl x112_148 c4 ?_
    let S5 : mS := uW S2 (v5.toNatClampNeg) x3
    replace H := H S5 rfl
    show ES _ _ _ _ _ S5 _
    refine e_al x112_149 rfl (e_il x112_150 rfl (e_cV (l0 := [some (.ref (aS E 0)), some (.int v1), none]) x112_151 rfl rfl rfl rfl rfl (fun h hh => hh.tS (by decide)) (ES.mono H ?_)))
    rintro _ S6 ⟨rfl, H⟩
    have c7 := H.1
    replace H := H.2
    refine e_al x112_154 rfl (e_PS x112_155 rfl (e_il x112_158 rfl (e_iaS x112_159 (by decide) rfl c7 (e_ic x112_160 (e_gt x112_162 (fun c8 => ?_) (fun c8 => ?_))))))
    · replace H := H.1 c8
      exact e_ic x112_171 (e_rz x112_172 (by decide) H)
    · replace H := H.2 c8
      refine e_al x112_165 rfl (e_il x112_166 rfl (e_ic x112_167 (e_cV (l0 := [some (.ref (aS E 0)), some (.int v1), some (.int 0), none]) x112_168 rfl rfl rfl rfl rfl (fun h hh => hh.tS (by decide)) (ES.mono H ?_))))
      rintro _ S9 ⟨rfl, H⟩
      exact e_ic x112_171 (e_rz x112_172 (by decide) H)
  · replace H := H.2 c1
    have c10 := H.1
    have c11 := H.2.1
    have c12 := H.2.2.1
    have c13 := H.2.2.2.1
    replace H := H.2.2.2.2
    refine e_al x112_90 rfl (e_PS x112_91 rfl (e_il x112_94 rfl (e_al x112_96 rfl (e_PS x112_97 rfl (e_il x112_100 rfl (e_iaS x112_102 (by decide) rfl c10 (e_al x112_103 rfl (e_il x112_104 rfl (e_il x112_105 rfl (e_il x112_106 rfl (e_ic x112_108 (e_cV (l0 := [some (.ref (aS E 0)), some (.int v1), some (.int v3), some (.int v6), some (.int 2)]) x112_109 rfl rfl rfl rfl rfl (fun h hh => hh.tS (by decide)) (e_al x114_0 rfl (e_PS x114_1 rfl (e_al x114_4 rfl (e_il x114_5 rfl (e_al x114_6 rfl (e_PS x114_7 rfl (e_il x114_10 rfl (e_iaS x114_11 (by decide) rfl c11 (e_il x114_12 rfl (e_il x114_13 rfl (e_il x114_14 rfl (e_cV (l0 := [some (.ref (aS E 0)), some (.int v1), some (.int (sS S 2 (v1.toNatClampNeg))), some (.int v3), some (.int v6), some (.int 2)]) x114_16 rfl rfl rfl rfl rfl (fun h hh => hh.tS (by decide)) (e_ic x93_0 (e_il x93_1 rfl (e_ii (v := (2 * v1)) x93_2 rfl (e_il x93_3 rfl (e_ic x93_4 (e_rem x93_5 c12 (e_ii (v := ((2 * v1) + ((sS S 2 (v1.toNatClampNeg)) - (sS S 2 (v1.toNatClampNeg)) / 2 * 2))) x93_6 rfl (e_ic x93_7 (e_ii (v := (((2 * v1) + ((sS S 2 (v1.toNatClampNeg)) - (sS S 2 (v1.toNatClampNeg)) / 2 * 2)) * 30)) x93_9 rfl (e_il x93_10 rfl (e_ii (v := ((((2 * v1) + ((sS S 2 (v1.toNatClampNeg)) - (sS S 2 (v1.toNatClampNeg)) / 2 * 2)) * 30) + v3)) x93_11 rfl (e_ic x93_12 (e_ii (v := (((((2 * v1) + ((sS S 2 (v1.toNatClampNeg)) - (sS S 2 (v1.toNatClampNeg)) / 2 * 2)) * 30) + v3) * 10)) x93_14 rfl (e_il x93_15 rfl (e_ii (v := ((((((2 * v1) + ((sS S 2 (v1.toNatClampNeg)) - (sS S 2 (v1.toNatClampNeg)) / 2 * 2)) * 30) + v3) * 10) + v6)) x93_17 rfl (e_ic x93_18 (e_ii (v := (((((((2 * v1) + ((sS S 2 (v1.toNatClampNeg)) - (sS S 2 (v1.toNatClampNeg)) / 2 * 2)) * 30) + v3) * 10) + v6) * 3)) x93_19 rfl (e_il x93_20 rfl (e_ii (v := ((((((((2 * v1) + ((sS S 2 (v1.toNatClampNeg)) - (sS S 2 (v1.toNatClampNeg)) / 2 * 2)) * 30) + v3) * 10) + v6) * 3) + 2)) x93_22 rfl (e_ri x93_23 (e_iaS x114_19 (by decide) rfl c13 (e_ri x114_20 (e_il x112_112 rfl (e_ne x112_114 (fun c14 => ?_) (fun c14 => ?_)))))))))))))))))))))))))))))))))))))))))))))))))
    · replace H := H.1 c14
      refine e_ic x112_117 (e_il x112_118 rfl (e_ii (v := ((1 : Int32) <<< (v6 &&& 31))) x112_120 rfl (e_goto x112_121 (e_ii (v := ((sS S 23 (v5.toNatClampNeg)) ||| ((1 : Int32) <<< (v6 &&& 31)))) x112_125 rfl (e_waS x112_126 (by decide) rfl c10 ?_)))))
      let S15 : mS := uS S 23 (v5.toNatClampNeg) ((sS S 23 (v5.toNatClampNeg)) ||| ((1 : Int32) <<< (v6 &&& 31)))
      replace H := H S15 rfl
      show ES _ _ _ _ _ S15 _
      exact e_inc (l' := [some (.ref (aS E 0)), some (.int v1), some (.int v2), some (.int v3), some (.int v4), some (.int v5), some (.int (v6 + 1))]) x112_127 rfl rfl rfl (e_back (l' := [some (.ref (aS E 0)), some (.int v1), some (.int v2), some (.int v3), some (.int v4), some (.int v5), some (.int (v6 + 1))]) x112_130 rfl (H))
    · replace H := H.2 c14
      refine e_ic x112_124 (e_ii (v := ((sS S 23 (v5.toNatClampNeg)) ||| 0)) x112_125 rfl (e_waS x112_126 (by decide) rfl c10 ?_))
      let S16 : mS := uS S 23 (v5.toNatClampNeg) ((sS S 23 (v5.toNatClampNeg)) ||| 0)
      replace H := H S16 rfl
      show ES _ _ _ _ _ S16 _
      exact e_inc (l' := [some (.ref (aS E 0)), some (.int v1), some (.int v2), some (.int v3), some (.int v4), some (.int v5), some (.int (v6 + 1))]) x112_127 rfl rfl rfl (e_back (l' := [some (.ref (aS E 0)), some (.int v1), some (.int v2), some (.int v3), some (.int v4), some (.int v5), some (.int (v6 + 1))]) x112_130 rfl (H))

-- Model.votes(IIII)J, from 0
set_option maxRecDepth 8000 in
theorem T115 {E : mE} {a1 : Int32} {a2 : Int32} {a3 : Int32} {a4 : Int32} {S : mS} {K : Option Value → mS → Prop}  (H : ES E 115 6 [some (.ref (aS E 0)), some (.int a1), some (.int a2), some (.int a3), some (.int a4), some (.long 0), none, some (.int 0), none] [] S K) : ES E 115 0 [some (.ref (aS E 0)), some (.int a1), some (.int a2), some (.int a3), some (.int a4), none, none, none, none] [] S K := by
  exact e_lc x115_0 (e_lst (l' := [some (.ref (aS E 0)), some (.int a1), some (.int a2), some (.int a3), some (.int a4), some (.long 0), none, none, none]) x115_1 rfl rfl (e_ic x115_3 (e_ist (l' := [some (.ref (aS E 0)), some (.int a1), some (.int a2), some (.int a3), some (.int a4), some (.long 0), none, some (.int 0), none]) x115_4 rfl rfl (H))))

-- Model.votes(IIII)J, from 6
set_option maxRecDepth 8000 in
theorem T115_6 {E : mE} {v1 : Int32} {v2 : Int32} {v3 : Int32} {v4 : Int32} {v5 : Int64} {v7 : Int32} {S : mS} {K : Option Value → mS → Prop}  (H : ((sS S 0 1) ≤ v7 → (K (some (.long v5)) S)) ∧ (¬ (sS S 0 1) ≤ v7 → ((¬ v1 < 0 ∧ (v1.toNatClampNeg) < 10) ∧ ((¬ (2 : Int32) = 0) ∧ ((¬ ((((((((2 * v1) + ((sS S 2 (v1.toNatClampNeg)) - (sS S 2 (v1.toNatClampNeg)) / 2 * 2)) * 30) + v2) * 10) + v7) * 3) + v3) < 0 ∧ (((((((((2 * v1) + ((sS S 2 (v1.toNatClampNeg)) - (sS S 2 (v1.toNatClampNeg)) / 2 * 2)) * 30) + v2) * 10) + v7) * 3) + v3).toNatClampNeg) < 18000) ∧ (((sS S 17 (((((((((2 * v1) + ((sS S 2 (v1.toNatClampNeg)) - (sS S 2 (v1.toNatClampNeg)) / 2 * 2)) * 30) + v2) * 10) + v7) * 3) + v3).toNatClampNeg)) < 0 → (ES E 115 6 [some (.ref (aS E 0)), some (.int v1), some (.int v2), some (.int v3), some (.int v4), some (.long ((v5 : Int64) + ((0 : Int32).toInt64))), none, some (.int (v7 + 1)), none] [] S K)) ∧ (¬ (sS S 17 (((((((((2 * v1) + ((sS S 2 (v1.toNatClampNeg)) - (sS S 2 (v1.toNatClampNeg)) / 2 * 2)) * 30) + v2) * 10) + v7) * 3) + v3).toNatClampNeg)) < 0 → ((v4 < 0 → ((¬ ((10 * (sS S 2 (v1.toNatClampNeg))) + v7) < 0 ∧ (((10 * (sS S 2 (v1.toNatClampNeg))) + v7).toNatClampNeg) < 420) ∧ (ES E 115 6 [some (.ref (aS E 0)), some (.int v1), some (.int v2), some (.int v3), some (.int v4), some (.long ((v5 : Int64) + ((sS S 1 (((10 * (sS S 2 (v1.toNatClampNeg))) + v7).toNatClampNeg)).toInt64))), none, some (.int (v7 + 1)), none] [] S K))) ∧ (¬ v4 < 0 → (((sS S 17 (((((((((2 * v1) + ((sS S 2 (v1.toNatClampNeg)) - (sS S 2 (v1.toNatClampNeg)) / 2 * 2)) * 30) + v2) * 10) + v7) * 3) + v3).toNatClampNeg)) = v4 → ((¬ ((10 * (sS S 2 (v1.toNatClampNeg))) + v7) < 0 ∧ (((10 * (sS S 2 (v1.toNatClampNeg))) + v7).toNatClampNeg) < 420) ∧ (ES E 115 6 [some (.ref (aS E 0)), some (.int v1), some (.int v2), some (.int v3), some (.int v4), some (.long ((v5 : Int64) + ((sS S 1 (((10 * (sS S 2 (v1.toNatClampNeg))) + v7).toNatClampNeg)).toInt64))), none, some (.int (v7 + 1)), none] [] S K))) ∧ (¬ (sS S 17 (((((((((2 * v1) + ((sS S 2 (v1.toNatClampNeg)) - (sS S 2 (v1.toNatClampNeg)) / 2 * 2)) * 30) + v2) * 10) + v7) * 3) + v3).toNatClampNeg)) = v4 → (ES E 115 6 [some (.ref (aS E 0)), some (.int v1), some (.int v2), some (.int v3), some (.int v4), some (.long ((v5 : Int64) + ((0 : Int32).toInt64))), none, some (.int (v7 + 1)), none] [] S K)))))))))))) : ES E 115 6 [some (.ref (aS E 0)), some (.int v1), some (.int v2), some (.int v3), some (.int v4), some (.long v5), none, some (.int v7), none] [] S K := by
  refine e_il x115_6 rfl (e_al x115_8 rfl (e_gS x115_9 (by decide) rfl (e_ge x115_12 (fun c1 => ?_) (fun c1 => ?_))))
  · replace H := H.1 c1
    exact e_llo x115_76 rfl (e_rl x115_78 H)
  · replace H := H.2 c1
    have c2 := H.1
    have c3 := H.2.1
    have c4 := H.2.2.1
    replace H := H.2.2.2
    refine e_al x115_15 rfl (e_il x115_16 rfl (e_il x115_17 rfl (e_il x115_18 rfl (e_il x115_20 rfl (e_cV (l0 := [some (.ref (aS E 0)), some (.int v1), some (.int v2), some (.int v7), some (.int v3)]) x115_21 rfl rfl rfl rfl rfl (fun h hh => hh.tS (by decide)) (e_al x114_0 rfl (e_PS x114_1 rfl (e_al x114_4 rfl (e_il x114_5 rfl (e_al x114_6 rfl (e_PS x114_7 rfl (e_il x114_10 rfl (e_iaS x114_11 (by decide) rfl c2 (e_il x114_12 rfl (e_il x114_13 rfl (e_il x114_14 rfl (e_cV (l0 := [some (.ref (aS E 0)), some (.int v1), some (.int (sS S 2 (v1.toNatClampNeg))), some (.int v2), some (.int v7), some (.int v3)]) x114_16 rfl rfl rfl rfl rfl (fun h hh => hh.tS (by decide)) (e_ic x93_0 (e_il x93_1 rfl (e_ii (v := (2 * v1)) x93_2 rfl (e_il x93_3 rfl (e_ic x93_4 (e_rem x93_5 c3 (e_ii (v := ((2 * v1) + ((sS S 2 (v1.toNatClampNeg)) - (sS S 2 (v1.toNatClampNeg)) / 2 * 2))) x93_6 rfl (e_ic x93_7 (e_ii (v := (((2 * v1) + ((sS S 2 (v1.toNatClampNeg)) - (sS S 2 (v1.toNatClampNeg)) / 2 * 2)) * 30)) x93_9 rfl (e_il x93_10 rfl (e_ii (v := ((((2 * v1) + ((sS S 2 (v1.toNatClampNeg)) - (sS S 2 (v1.toNatClampNeg)) / 2 * 2)) * 30) + v2)) x93_11 rfl (e_ic x93_12 (e_ii (v := (((((2 * v1) + ((sS S 2 (v1.toNatClampNeg)) - (sS S 2 (v1.toNatClampNeg)) / 2 * 2)) * 30) + v2) * 10)) x93_14 rfl (e_il x93_15 rfl (e_ii (v := ((((((2 * v1) + ((sS S 2 (v1.toNatClampNeg)) - (sS S 2 (v1.toNatClampNeg)) / 2 * 2)) * 30) + v2) * 10) + v7)) x93_17 rfl (e_ic x93_18 (e_ii (v := (((((((2 * v1) + ((sS S 2 (v1.toNatClampNeg)) - (sS S 2 (v1.toNatClampNeg)) / 2 * 2)) * 30) + v2) * 10) + v7) * 3)) x93_19 rfl (e_il x93_20 rfl (e_ii (v := ((((((((2 * v1) + ((sS S 2 (v1.toNatClampNeg)) - (sS S 2 (v1.toNatClampNeg)) / 2 * 2)) * 30) + v2) * 10) + v7) * 3) + v3)) x93_22 rfl (e_ri x93_23 (e_iaS x114_19 (by decide) rfl c4 (e_ri x114_20 (e_ist (l' := [some (.ref (aS E 0)), some (.int v1), some (.int v2), some (.int v3), some (.int v4), some (.long v5), none, some (.int v7), some (.int (sS S 17 (((((((((2 * v1) + ((sS S 2 (v1.toNatClampNeg)) - (sS S 2 (v1.toNatClampNeg)) / 2 * 2)) * 30) + v2) * 10) + v7) * 3) + v3).toNatClampNeg)))]) x115_24 rfl rfl (e_llo x115_26 rfl (e_il x115_28 rfl (e_lt0 x115_30 (fun c5 => ?_) (fun c5 => ?_))))))))))))))))))))))))))))))))))))))))))))
    · replace H := H.1 c5
      exact e_ic x115_65 (e_i2l x115_66 (e_ll (v := ((v5 : Int64) + ((0 : Int32).toInt64))) x115_67 rfl (e_lst (l' := [some (.ref (aS E 0)), some (.int v1), some (.int v2), some (.int v3), some (.int v4), some (.long ((v5 : Int64) + ((0 : Int32).toInt64))), none, some (.int v7), some (.int (sS S 17 (((((((((2 * v1) + ((sS S 2 (v1.toNatClampNeg)) - (sS S 2 (v1.toNatClampNeg)) / 2 * 2)) * 30) + v2) * 10) + v7) * 3) + v3).toNatClampNeg)))]) x115_68 rfl rfl (e_inc (l' := [some (.ref (aS E 0)), some (.int v1), some (.int v2), some (.int v3), some (.int v4), some (.long ((v5 : Int64) + ((0 : Int32).toInt64))), none, some (.int (v7 + 1)), some (.int (sS S 17 (((((((((2 * v1) + ((sS S 2 (v1.toNatClampNeg)) - (sS S 2 (v1.toNatClampNeg)) / 2 * 2)) * 30) + v2) * 10) + v7) * 3) + v3).toNatClampNeg)))]) x115_70 rfl rfl rfl (e_back (l' := [some (.ref (aS E 0)), some (.int v1), some (.int v2), some (.int v3), some (.int v4), some (.long ((v5 : Int64) + ((0 : Int32).toInt64))), none, some (.int (v7 + 1)), none]) x115_73 rfl (H))))))
    · replace H := H.2 c5
      refine e_il x115_33 rfl (e_lt0 x115_35 (fun c6 => ?_) (fun c6 => ?_))
      · replace H := H.1 c6
        have c7 := H.1
        replace H := H.2
        exact e_al x115_45 rfl (e_PS x115_46 rfl (e_ic x115_49 (e_al x115_51 rfl (e_PS x115_52 rfl (e_il x115_55 rfl (e_iaS x115_56 (by decide) rfl c2 (e_ii (v := (10 * (sS S 2 (v1.toNatClampNeg)))) x115_57 rfl (e_il x115_58 rfl (e_ii (v := ((10 * (sS S 2 (v1.toNatClampNeg))) + v7)) x115_60 rfl (e_iaS x115_61 (by decide) rfl c7 (e_goto x115_62 (e_i2l x115_66 (e_ll (v := ((v5 : Int64) + ((sS S 1 (((10 * (sS S 2 (v1.toNatClampNeg))) + v7).toNatClampNeg)).toInt64))) x115_67 rfl (e_lst (l' := [some (.ref (aS E 0)), some (.int v1), some (.int v2), some (.int v3), some (.int v4), some (.long ((v5 : Int64) + ((sS S 1 (((10 * (sS S 2 (v1.toNatClampNeg))) + v7).toNatClampNeg)).toInt64))), none, some (.int v7), some (.int (sS S 17 (((((((((2 * v1) + ((sS S 2 (v1.toNatClampNeg)) - (sS S 2 (v1.toNatClampNeg)) / 2 * 2)) * 30) + v2) * 10) + v7) * 3) + v3).toNatClampNeg)))]) x115_68 rfl rfl (e_inc (l' := [some (.ref (aS E 0)), some (.int v1), some (.int v2), some (.int v3), some (.int v4), some (.long ((v5 : Int64) + ((sS S 1 (((10 * (sS S 2 (v1.toNatClampNeg))) + v7).toNatClampNeg)).toInt64))), none, some (.int (v7 + 1)), some (.int (sS S 17 (((((((((2 * v1) + ((sS S 2 (v1.toNatClampNeg)) - (sS S 2 (v1.toNatClampNeg)) / 2 * 2)) * 30) + v2) * 10) + v7) * 3) + v3).toNatClampNeg)))]) x115_70 rfl rfl rfl (e_back (l' := [some (.ref (aS E 0)), some (.int v1), some (.int v2), some (.int v3), some (.int v4), some (.long ((v5 : Int64) + ((sS S 1 (((10 * (sS S 2 (v1.toNatClampNeg))) + v7).toNatClampNeg)).toInt64))), none, some (.int (v7 + 1)), none]) x115_73 rfl (H)))))))))))))))))
      · replace H := H.2 c6
        refine e_il x115_38 rfl (e_il x115_40 rfl (e_ne x115_42 (fun c8 => ?_) (fun c8 => ?_)))
        · replace H := H.1 c8
          have c9 := H.1
          replace H := H.2
          exact e_al x115_45 rfl (e_PS x115_46 rfl (e_ic x115_49 (e_al x115_51 rfl (e_PS x115_52 rfl (e_il x115_55 rfl (e_iaS x115_56 (by decide) rfl c2 (e_ii (v := (10 * (sS S 2 (v1.toNatClampNeg)))) x115_57 rfl (e_il x115_58 rfl (e_ii (v := ((10 * (sS S 2 (v1.toNatClampNeg))) + v7)) x115_60 rfl (e_iaS x115_61 (by decide) rfl c9 (e_goto x115_62 (e_i2l x115_66 (e_ll (v := ((v5 : Int64) + ((sS S 1 (((10 * (sS S 2 (v1.toNatClampNeg))) + v7).toNatClampNeg)).toInt64))) x115_67 rfl (e_lst (l' := [some (.ref (aS E 0)), some (.int v1), some (.int v2), some (.int v3), some (.int v4), some (.long ((v5 : Int64) + ((sS S 1 (((10 * (sS S 2 (v1.toNatClampNeg))) + v7).toNatClampNeg)).toInt64))), none, some (.int v7), some (.int (sS S 17 (((((((((2 * v1) + ((sS S 2 (v1.toNatClampNeg)) - (sS S 2 (v1.toNatClampNeg)) / 2 * 2)) * 30) + v2) * 10) + v7) * 3) + v3).toNatClampNeg)))]) x115_68 rfl rfl (e_inc (l' := [some (.ref (aS E 0)), some (.int v1), some (.int v2), some (.int v3), some (.int v4), some (.long ((v5 : Int64) + ((sS S 1 (((10 * (sS S 2 (v1.toNatClampNeg))) + v7).toNatClampNeg)).toInt64))), none, some (.int (v7 + 1)), some (.int (sS S 17 (((((((((2 * v1) + ((sS S 2 (v1.toNatClampNeg)) - (sS S 2 (v1.toNatClampNeg)) / 2 * 2)) * 30) + v2) * 10) + v7) * 3) + v3).toNatClampNeg)))]) x115_70 rfl rfl rfl (e_back (l' := [some (.ref (aS E 0)), some (.int v1), some (.int v2), some (.int v3), some (.int v4), some (.long ((v5 : Int64) + ((sS S 1 (((10 * (sS S 2 (v1.toNatClampNeg))) + v7).toNatClampNeg)).toInt64))), none, some (.int (v7 + 1)), none]) x115_73 rfl (H)))))))))))))))))
        · replace H := H.2 c8
          exact e_ic x115_65 (e_i2l x115_66 (e_ll (v := ((v5 : Int64) + ((0 : Int32).toInt64))) x115_67 rfl (e_lst (l' := [some (.ref (aS E 0)), some (.int v1), some (.int v2), some (.int v3), some (.int v4), some (.long ((v5 : Int64) + ((0 : Int32).toInt64))), none, some (.int v7), some (.int (sS S 17 (((((((((2 * v1) + ((sS S 2 (v1.toNatClampNeg)) - (sS S 2 (v1.toNatClampNeg)) / 2 * 2)) * 30) + v2) * 10) + v7) * 3) + v3).toNatClampNeg)))]) x115_68 rfl rfl (e_inc (l' := [some (.ref (aS E 0)), some (.int v1), some (.int v2), some (.int v3), some (.int v4), some (.long ((v5 : Int64) + ((0 : Int32).toInt64))), none, some (.int (v7 + 1)), some (.int (sS S 17 (((((((((2 * v1) + ((sS S 2 (v1.toNatClampNeg)) - (sS S 2 (v1.toNatClampNeg)) / 2 * 2)) * 30) + v2) * 10) + v7) * 3) + v3).toNatClampNeg)))]) x115_70 rfl rfl rfl (e_back (l' := [some (.ref (aS E 0)), some (.int v1), some (.int v2), some (.int v3), some (.int v4), some (.long ((v5 : Int64) + ((0 : Int32).toInt64))), none, some (.int (v7 + 1)), none]) x115_73 rfl (H))))))

-- Model.isMany(JI)Z, from 0
set_option maxRecDepth 8000 in
theorem T116 {E : mE} {a1 : Int64} {a2 : Int32} {S : mS} {K : Option Value → mS → Prop}  (H : ES E 117 0 [some (.ref (aS E 0)), some (.int a2), none, none, none] [] S (fun r S1 => ∃ x2 : Int64, r = some (.long x2) ∧ (((lg_cmp ((3 : Int64) * a1) ((2 : Int64) * x2)) ≤ 0 → (K (some (.int 0)) S1)) ∧ (¬ (lg_cmp ((3 : Int64) * a1) ((2 : Int64) * x2)) ≤ 0 → (K (some (.int 1)) S1))))) : ES E 116 0 [some (.ref (aS E 0)), some (.long a1), none, some (.int a2)] [] S K := by
  refine e_lc x116_0 (e_llo x116_3 rfl (e_ll (v := ((3 : Int64) * a1)) x116_4 rfl (e_lc x116_5 (e_al x116_8 rfl (e_il x116_9 rfl (e_cV (l0 := [some (.ref (aS E 0)), some (.int a2), none, none, none]) x116_10 rfl rfl rfl rfl rfl (fun h hh => hh.tS (by decide)) (ES.mono H ?_)))))))
  rintro _ S1 ⟨x2, rfl, H⟩
  refine e_ll (v := ((2 : Int64) * x2)) x116_13 rfl (e_lcmp x116_14 (e_le0 x116_15 (fun c3 => ?_) (fun c3 => ?_)))
  · replace H := H.1 c3
    exact e_ic x116_22 (e_rz x116_23 (by decide) H)
  · replace H := H.2 c3
    exact e_ic x116_18 (e_goto x116_19 (e_rz x116_23 (by decide) H))

-- Model.all(I)J, from 0
set_option maxRecDepth 8000 in
theorem T117 {E : mE} {a1 : Int32} {S : mS} {K : Option Value → mS → Prop}  (H : ES E 117 5 [some (.ref (aS E 0)), some (.int a1), some (.long 0), none, some (.int 0)] [] S K) : ES E 117 0 [some (.ref (aS E 0)), some (.int a1), none, none, none] [] S K := by
  exact e_lc x117_0 (e_lst (l' := [some (.ref (aS E 0)), some (.int a1), some (.long 0), none, none]) x117_1 rfl rfl (e_ic x117_2 (e_ist (l' := [some (.ref (aS E 0)), some (.int a1), some (.long 0), none, some (.int 0)]) x117_3 rfl rfl (H))))

-- Model.all(I)J, from 5
set_option maxRecDepth 8000 in
theorem T117_5 {E : mE} {v1 : Int32} {v2 : Int64} {v4 : Int32} {S : mS} {K : Option Value → mS → Prop}  (H : ((sS S 0 1) ≤ v4 → (K (some (.long v2)) S)) ∧ (¬ (sS S 0 1) ≤ v4 → ((¬ ((10 * v1) + v4) < 0 ∧ (((10 * v1) + v4).toNatClampNeg) < 420) ∧ (ES E 117 5 [some (.ref (aS E 0)), some (.int v1), some (.long ((v2 : Int64) + ((sS S 1 (((10 * v1) + v4).toNatClampNeg)).toInt64))), none, some (.int (v4 + 1))] [] S K)))) : ES E 117 5 [some (.ref (aS E 0)), some (.int v1), some (.long v2), none, some (.int v4)] [] S K := by
  refine e_il x117_5 rfl (e_al x117_7 rfl (e_gS x117_8 (by decide) rfl (e_ge x117_11 (fun c1 => ?_) (fun c1 => ?_))))
  · replace H := H.1 c1
    exact e_llo x117_36 rfl (e_rl x117_37 H)
  · replace H := H.2 c1
    have c2 := H.1
    replace H := H.2
    exact e_llo x117_14 rfl (e_al x117_15 rfl (e_PS x117_16 rfl (e_ic x117_19 (e_il x117_21 rfl (e_ii (v := (10 * v1)) x117_22 rfl (e_il x117_23 rfl (e_ii (v := ((10 * v1) + v4)) x117_25 rfl (e_iaS x117_26 (by decide) rfl c2 (e_i2l x117_27 (e_ll (v := ((v2 : Int64) + ((sS S 1 (((10 * v1) + v4).toNatClampNeg)).toInt64))) x117_28 rfl (e_lst (l' := [some (.ref (aS E 0)), some (.int v1), some (.long ((v2 : Int64) + ((sS S 1 (((10 * v1) + v4).toNatClampNeg)).toInt64))), none, some (.int v4)]) x117_29 rfl rfl (e_inc (l' := [some (.ref (aS E 0)), some (.int v1), some (.long ((v2 : Int64) + ((sS S 1 (((10 * v1) + v4).toNatClampNeg)).toInt64))), none, some (.int (v4 + 1))]) x117_30 rfl rfl rfl (e_back (l' := [some (.ref (aS E 0)), some (.int v1), some (.long ((v2 : Int64) + ((sS S 1 (((10 * v1) + v4).toNatClampNeg)).toInt64))), none, some (.int (v4 + 1))]) x117_33 rfl (H))))))))))))))

-- Model.nextHeight(I)V, from 0
set_option maxRecDepth 8000 in
theorem T118 {E : mE} {a1 : Int32} {S : mS} {K : Option Value → mS → Prop}  (H : (¬ a1 < 0 ∧ (a1.toNatClampNeg) < 10) ∧ (ES E 92 0 [some (.ref (aS E 0)), some (.int a1), some (.int (sS S 2 (a1.toNatClampNeg))), none, none, none] [] S (fun r S2 => r = none ∧ (ES E 95 0 [some (.ref (aS E 0)), some (.int a1), none] [] S2 (fun r S3 => r = none ∧ (∀ S4, S4 = uS S3 2 (a1.toNatClampNeg) ((sS S3 2 (a1.toNatClampNeg)) + 1) → (∀ S5, S5 = uS S4 5 (a1.toNatClampNeg) 0 → (∀ S6, S6 = uS S5 6 (a1.toNatClampNeg) (-1) → (∀ S7, S7 = uS S6 7 (a1.toNatClampNeg) 0 → (∀ S8, S8 = uS S7 8 (a1.toNatClampNeg) (-1) → (∀ S9, S9 = uS S8 3 (a1.toNatClampNeg) 0 → (∀ S10, S10 = uS S9 4 (a1.toNatClampNeg) 0 → (ES E 118 70 [some (.ref (aS E 0)), some (.int a1), some (.int 0)] [] S10 K))))))))))))) : ES E 118 0 [some (.ref (aS E 0)), some (.int a1), none] [] S K := by
  have c1 := H.1
  replace H := H.2
  refine e_al x118_0 rfl (e_il x118_1 rfl (e_al x118_2 rfl (e_PS x118_3 rfl (e_il x118_6 rfl (e_iaS x118_7 (by decide) rfl c1 (e_cV (l0 := [some (.ref (aS E 0)), some (.int a1), some (.int (sS S 2 (a1.toNatClampNeg))), none, none, none]) x118_8 rfl rfl rfl rfl rfl (fun h hh => hh.tS (by decide)) (ES.mono H ?_)))))))
  rintro _ S2 ⟨rfl, H⟩
  refine e_al x118_11 rfl (e_il x118_12 rfl (e_cV (l0 := [some (.ref (aS E 0)), some (.int a1), none]) x118_13 rfl rfl rfl rfl rfl (fun h hh => hh.tS (by decide)) (ES.mono H ?_)))
  rintro _ S3 ⟨rfl, H⟩
  refine e_al x118_16 rfl (e_PS x118_17 rfl (e_il x118_20 rfl (e_dup2 x118_21 (e_iaS x118_22 (by decide) rfl c1 (e_ic x118_23 (e_ii (v := ((sS S3 2 (a1.toNatClampNeg)) + 1)) x118_24 rfl (e_waS x118_25 (by decide) rfl c1 ?_)))))))
  let S4 : mS := uS S3 2 (a1.toNatClampNeg) ((sS S3 2 (a1.toNatClampNeg)) + 1)
  replace H := H S4 rfl
  show ES _ _ _ _ _ S4 _
  refine e_al x118_26 rfl (e_PS x118_27 rfl (e_il x118_30 rfl (e_ic x118_31 (e_waS x118_32 (by decide) rfl c1 ?_))))
  let S5 : mS := uS S4 5 (a1.toNatClampNeg) 0
  replace H := H S5 rfl
  show ES _ _ _ _ _ S5 _
  refine e_al x118_33 rfl (e_PS x118_34 rfl (e_il x118_37 rfl (e_ic x118_38 (e_waS x118_39 (by decide) rfl c1 ?_))))
  let S6 : mS := uS S5 6 (a1.toNatClampNeg) (-1)
  replace H := H S6 rfl
  show ES _ _ _ _ _ S6 _
  refine e_al x118_40 rfl (e_PS x118_41 rfl (e_il x118_44 rfl (e_ic x118_45 (e_waS x118_46 (by decide) rfl c1 ?_))))
  let S7 : mS := uS S6 7 (a1.toNatClampNeg) 0
  replace H := H S7 rfl
  show ES _ _ _ _ _ S7 _
  refine e_al x118_47 rfl (e_PS x118_48 rfl (e_il x118_51 rfl (e_ic x118_52 (e_waS x118_53 (by decide) rfl c1 ?_))))
  let S8 : mS := uS S7 8 (a1.toNatClampNeg) (-1)
  replace H := H S8 rfl
  show ES _ _ _ _ _ S8 _
  refine e_al x118_54 rfl (e_PS x118_55 rfl (e_il x118_58 rfl (e_ic x118_59 (e_waS x118_60 (by decide) rfl c1 ?_))))
  let S9 : mS := uS S8 3 (a1.toNatClampNeg) 0
  replace H := H S9 rfl
  show ES _ _ _ _ _ S9 _
  refine e_al x118_61 rfl (e_PS x118_62 rfl (e_il x118_65 rfl (e_ic x118_66 (e_waS x118_67 (by decide) rfl c1 ?_))))
  let S10 : mS := uS S9 4 (a1.toNatClampNeg) 0
  replace H := H S10 rfl
  show ES _ _ _ _ _ S10 _
  exact e_ic x118_68 (e_ist (l' := [some (.ref (aS E 0)), some (.int a1), some (.int 0)]) x118_69 rfl rfl (H))

-- Model.nextHeight(I)V, from 70
set_option maxRecDepth 8000 in
theorem T118_70 {E : mE} {v1 : Int32} {v2 : Int32} {S : mS} {K : Option Value → mS → Prop}  (H : ((3 : Int32) ≤ v2 → (K none S)) ∧ (¬ (3 : Int32) ≤ v2 → ((¬ ((3 * v1) + v2) < 0 ∧ (((3 * v1) + v2).toNatClampNeg) < 30) ∧ (∀ S3, S3 = uS S 12 (((3 * v1) + v2).toNatClampNeg) 0 → (ES E 118 70 [some (.ref (aS E 0)), some (.int v1), some (.int (v2 + 1))] [] S3 K))))) : ES E 118 70 [some (.ref (aS E 0)), some (.int v1), some (.int v2)] [] S K := by
  refine e_il x118_70 rfl (e_ic x118_71 (e_ge x118_72 (fun c1 => ?_) (fun c1 => ?_)))
  · replace H := H.1 c1
    exact e_rv x118_92 H
  · replace H := H.2 c1
    have c2 := H.1
    replace H := H.2
    refine e_al x118_75 rfl (e_PS x118_76 rfl (e_ic x118_79 (e_il x118_80 rfl (e_ii (v := (3 * v1)) x118_81 rfl (e_il x118_82 rfl (e_ii (v := ((3 * v1) + v2)) x118_83 rfl (e_ic x118_84 (e_waS x118_85 (by decide) rfl c2 ?_))))))))
    let S3 : mS := uS S 12 (((3 * v1) + v2).toNatClampNeg) 0
    replace H := H S3 rfl
    show ES _ _ _ _ _ S3 _
    exact e_inc (l' := [some (.ref (aS E 0)), some (.int v1), some (.int (v2 + 1))]) x118_86 rfl rfl rfl (e_back (l' := [some (.ref (aS E 0)), some (.int v1), some (.int (v2 + 1))]) x118_89 rfl (H))

-- Model.ruleB(I)Z, from 0
set_option maxRecDepth 8000 in
theorem T119 {E : mE} {a1 : Int32} {S : mS} {K : Option Value → mS → Prop}  (H : (¬ a1 < 0 ∧ (a1.toNatClampNeg) < 10) ∧ (ES E 119 10 [some (.ref (aS E 0)), some (.int a1), some (.int (sS S 2 (a1.toNatClampNeg))), some (.int 29), none, none, none, none] [] S K)) : ES E 119 0 [some (.ref (aS E 0)), some (.int a1), none, none, none, none, none, none] [] S K := by
  have c1 := H.1
  replace H := H.2
  exact e_al x119_0 rfl (e_PS x119_1 rfl (e_il x119_4 rfl (e_iaS x119_5 (by decide) rfl c1 (e_ist (l' := [some (.ref (aS E 0)), some (.int a1), some (.int (sS S 2 (a1.toNatClampNeg))), none, none, none, none, none]) x119_6 rfl rfl (e_ic x119_7 (e_ist (l' := [some (.ref (aS E 0)), some (.int a1), some (.int (sS S 2 (a1.toNatClampNeg))), some (.int 29), none, none, none, none]) x119_9 rfl rfl (H)))))))

-- Model.ruleB(I)Z, from 10
set_option maxRecDepth 8000 in
theorem T119_10 {E : mE} {v1 : Int32} {v2 : Int32} {v3 : Int32} {S : mS} {K : Option Value → mS → Prop}  (H : (¬ v1 < 0 ∧ (v1.toNatClampNeg) < 10) ∧ ((v3 ≤ (sS S 3 (v1.toNatClampNeg)) → (K (some (.int 0)) S)) ∧ (¬ v3 ≤ (sS S 3 (v1.toNatClampNeg)) → (ES E 119 26 [some (.ref (aS E 0)), some (.int v1), some (.int v2), some (.int v3), some (.long 0), none, some (.int 0), none] [] S K)))) : ES E 119 10 [some (.ref (aS E 0)), some (.int v1), some (.int v2), some (.int v3), none, none, none, none] [] S K := by
  have c1 := H.1
  replace H := H.2
  refine e_il x119_10 rfl (e_al x119_11 rfl (e_PS x119_12 rfl (e_il x119_15 rfl (e_iaS x119_16 (by decide) rfl c1 (e_le x119_17 (fun c2 => ?_) (fun c2 => ?_))))))
  · replace H := H.1 c2
    exact e_ic x119_151 (e_rz x119_152 (by decide) H)
  · replace H := H.2 c2
    exact e_lc x119_20 (e_lst (l' := [some (.ref (aS E 0)), some (.int v1), some (.int v2), some (.int v3), some (.long 0), none, none, none]) x119_21 rfl rfl (e_ic x119_23 (e_ist (l' := [some (.ref (aS E 0)), some (.int v1), some (.int v2), some (.int v3), some (.long 0), none, some (.int 0), none]) x119_24 rfl rfl (H))))

-- Model.ruleB(I)Z, from 26
set_option maxRecDepth 8000 in
theorem T119_26 {E : mE} {v1 : Int32} {v2 : Int32} {v3 : Int32} {v4 : Int64} {v6 : Int32} {S : mS} {K : Option Value → mS → Prop}  (H : ((sS S 0 1) ≤ v6 → (ES E 117 0 [some (.ref (aS E 0)), some (.int v2), none, none, none] [] S (fun r S2 => ∃ x3 : Int64, r = some (.long x3) ∧ (((lg_cmp ((3 : Int64) * v4) x3) ≤ 0 → (ES E 119 10 [some (.ref (aS E 0)), some (.int v1), some (.int v2), some (.int (v3 + (-1))), none, none, none, none] [] S2 K)) ∧ (¬ (lg_cmp ((3 : Int64) * v4) x3) ≤ 0 → (ES E 99 0 [some (.ref (aS E 0)), some (.int v1), some (.int v3), none] [] S2 (fun r S5 => r = none ∧ (K (some (.int 1)) S5)))))))) ∧ (¬ (sS S 0 1) ≤ v6 → ((¬ v1 < 0 ∧ (v1.toNatClampNeg) < 10) ∧ ((¬ (2 : Int32) = 0) ∧ ((¬ ((((((((2 * v1) + ((sS S 2 (v1.toNatClampNeg)) - (sS S 2 (v1.toNatClampNeg)) / 2 * 2)) * 30) + v3) * 10) + v6) * 3) + 1) < 0 ∧ (((((((((2 * v1) + ((sS S 2 (v1.toNatClampNeg)) - (sS S 2 (v1.toNatClampNeg)) / 2 * 2)) * 30) + v3) * 10) + v6) * 3) + 1).toNatClampNeg) < 18000) ∧ (((0 : Int32) ≤ (sS S 17 (((((((((2 * v1) + ((sS S 2 (v1.toNatClampNeg)) - (sS S 2 (v1.toNatClampNeg)) / 2 * 2)) * 30) + v3) * 10) + v6) * 3) + 1).toNatClampNeg)) → ((¬ ((10 * v2) + v6) < 0 ∧ (((10 * v2) + v6).toNatClampNeg) < 420) ∧ (ES E 119 26 [some (.ref (aS E 0)), some (.int v1), some (.int v2), some (.int v3), some (.long ((v4 : Int64) + ((sS S 1 (((10 * v2) + v6).toNatClampNeg)).toInt64))), none, some (.int (v6 + 1)), none] [] S K))) ∧ (¬ (0 : Int32) ≤ (sS S 17 (((((((((2 * v1) + ((sS S 2 (v1.toNatClampNeg)) - (sS S 2 (v1.toNatClampNeg)) / 2 * 2)) * 30) + v3) * 10) + v6) * 3) + 1).toNatClampNeg)) → ((¬ ((((((((2 * v1) + ((sS S 2 (v1.toNatClampNeg)) - (sS S 2 (v1.toNatClampNeg)) / 2 * 2)) * 30) + v3) * 10) + v6) * 3) + 2) < 0 ∧ (((((((((2 * v1) + ((sS S 2 (v1.toNatClampNeg)) - (sS S 2 (v1.toNatClampNeg)) / 2 * 2)) * 30) + v3) * 10) + v6) * 3) + 2).toNatClampNeg) < 18000) ∧ (((0 : Int32) ≤ (sS S 17 (((((((((2 * v1) + ((sS S 2 (v1.toNatClampNeg)) - (sS S 2 (v1.toNatClampNeg)) / 2 * 2)) * 30) + v3) * 10) + v6) * 3) + 2).toNatClampNeg)) → ((¬ ((10 * v2) + v6) < 0 ∧ (((10 * v2) + v6).toNatClampNeg) < 420) ∧ (ES E 119 26 [some (.ref (aS E 0)), some (.int v1), some (.int v2), some (.int v3), some (.long ((v4 : Int64) + ((sS S 1 (((10 * v2) + v6).toNatClampNeg)).toInt64))), none, some (.int (v6 + 1)), none] [] S K))) ∧ (¬ (0 : Int32) ≤ (sS S 17 (((((((((2 * v1) + ((sS S 2 (v1.toNatClampNeg)) - (sS S 2 (v1.toNatClampNeg)) / 2 * 2)) * 30) + v3) * 10) + v6) * 3) + 2).toNatClampNeg)) → ((¬ (sS S 0 1) = 0) ∧ ((v6 = ((v2 + v3) - (v2 + v3) / (sS S 0 1) * (sS S 0 1)) → ((¬ ((((((((2 * v1) + ((sS S 2 (v1.toNatClampNeg)) - (sS S 2 (v1.toNatClampNeg)) / 2 * 2)) * 30) + v3) * 10) + v6) * 3) + 0) < 0 ∧ (((((((((2 * v1) + ((sS S 2 (v1.toNatClampNeg)) - (sS S 2 (v1.toNatClampNeg)) / 2 * 2)) * 30) + v3) * 10) + v6) * 3) + 0).toNatClampNeg) < 18000) ∧ (((sS S 17 (((((((((2 * v1) + ((sS S 2 (v1.toNatClampNeg)) - (sS S 2 (v1.toNatClampNeg)) / 2 * 2)) * 30) + v3) * 10) + v6) * 3) + 0).toNatClampNeg)) < 0 → (ES E 119 26 [some (.ref (aS E 0)), some (.int v1), some (.int v2), some (.int v3), some (.long ((v4 : Int64) + ((0 : Int32).toInt64))), none, some (.int (v6 + 1)), none] [] S K)) ∧ (¬ (sS S 17 (((((((((2 * v1) + ((sS S 2 (v1.toNatClampNeg)) - (sS S 2 (v1.toNatClampNeg)) / 2 * 2)) * 30) + v3) * 10) + v6) * 3) + 0).toNatClampNeg)) < 0 → ((¬ ((10 * v2) + v6) < 0 ∧ (((10 * v2) + v6).toNatClampNeg) < 420) ∧ (ES E 119 26 [some (.ref (aS E 0)), some (.int v1), some (.int v2), some (.int v3), some (.long ((v4 : Int64) + ((sS S 1 (((10 * v2) + v6).toNatClampNeg)).toInt64))), none, some (.int (v6 + 1)), none] [] S K)))))) ∧ (¬ v6 = ((v2 + v3) - (v2 + v3) / (sS S 0 1) * (sS S 0 1)) → (ES E 119 26 [some (.ref (aS E 0)), some (.int v1), some (.int v2), some (.int v3), some (.long ((v4 : Int64) + ((0 : Int32).toInt64))), none, some (.int (v6 + 1)), none] [] S K)))))))))))))) : ES E 119 26 [some (.ref (aS E 0)), some (.int v1), some (.int v2), some (.int v3), some (.long v4), none, some (.int v6), none] [] S K := by
  refine e_il x119_26 rfl (e_al x119_28 rfl (e_gS x119_29 (by decide) rfl (e_ge x119_32 (fun c1 => ?_) (fun c1 => ?_))))
  · replace H := H.1 c1
    refine e_lc x119_122 (e_llo x119_125 rfl (e_ll (v := ((3 : Int64) * v4)) x119_127 rfl (e_al x119_128 rfl (e_il x119_129 rfl (e_cV (l0 := [some (.ref (aS E 0)), some (.int v2), none, none, none]) x119_130 rfl rfl rfl rfl rfl (fun h hh => hh.tS (by decide)) (ES.mono H ?_))))))
    rintro _ S2 ⟨x3, rfl, H⟩
    refine e_lcmp x119_133 (e_le0 x119_134 (fun c4 => ?_) (fun c4 => ?_))
    · replace H := H.1 c4
      exact e_inc (l' := [some (.ref (aS E 0)), some (.int v1), some (.int v2), some (.int (v3 + (-1))), some (.long v4), none, some (.int v6), none]) x119_145 rfl rfl rfl (e_back (l' := [some (.ref (aS E 0)), some (.int v1), some (.int v2), some (.int (v3 + (-1))), none, none, none, none]) x119_148 rfl (H))
    · replace H := H.2 c4
      refine e_al x119_137 rfl (e_il x119_138 rfl (e_il x119_139 rfl (e_cV (l0 := [some (.ref (aS E 0)), some (.int v1), some (.int v3), none]) x119_140 rfl rfl rfl rfl rfl (fun h hh => hh.tS (by decide)) (ES.mono H ?_))))
      rintro _ S5 ⟨rfl, H⟩
      exact e_ic x119_143 (e_rz x119_144 (by decide) H)
  · replace H := H.2 c1
    have c6 := H.1
    have c7 := H.2.1
    have c8 := H.2.2.1
    replace H := H.2.2.2
    refine e_al x119_35 rfl (e_il x119_36 rfl (e_il x119_37 rfl (e_il x119_38 rfl (e_ic x119_40 (e_cV (l0 := [some (.ref (aS E 0)), some (.int v1), some (.int v3), some (.int v6), some (.int 1)]) x119_41 rfl rfl rfl rfl rfl (fun h hh => hh.tS (by decide)) (e_al x114_0 rfl (e_PS x114_1 rfl (e_al x114_4 rfl (e_il x114_5 rfl (e_al x114_6 rfl (e_PS x114_7 rfl (e_il x114_10 rfl (e_iaS x114_11 (by decide) rfl c6 (e_il x114_12 rfl (e_il x114_13 rfl (e_il x114_14 rfl (e_cV (l0 := [some (.ref (aS E 0)), some (.int v1), some (.int (sS S 2 (v1.toNatClampNeg))), some (.int v3), some (.int v6), some (.int 1)]) x114_16 rfl rfl rfl rfl rfl (fun h hh => hh.tS (by decide)) (e_ic x93_0 (e_il x93_1 rfl (e_ii (v := (2 * v1)) x93_2 rfl (e_il x93_3 rfl (e_ic x93_4 (e_rem x93_5 c7 (e_ii (v := ((2 * v1) + ((sS S 2 (v1.toNatClampNeg)) - (sS S 2 (v1.toNatClampNeg)) / 2 * 2))) x93_6 rfl (e_ic x93_7 (e_ii (v := (((2 * v1) + ((sS S 2 (v1.toNatClampNeg)) - (sS S 2 (v1.toNatClampNeg)) / 2 * 2)) * 30)) x93_9 rfl (e_il x93_10 rfl (e_ii (v := ((((2 * v1) + ((sS S 2 (v1.toNatClampNeg)) - (sS S 2 (v1.toNatClampNeg)) / 2 * 2)) * 30) + v3)) x93_11 rfl (e_ic x93_12 (e_ii (v := (((((2 * v1) + ((sS S 2 (v1.toNatClampNeg)) - (sS S 2 (v1.toNatClampNeg)) / 2 * 2)) * 30) + v3) * 10)) x93_14 rfl (e_il x93_15 rfl (e_ii (v := ((((((2 * v1) + ((sS S 2 (v1.toNatClampNeg)) - (sS S 2 (v1.toNatClampNeg)) / 2 * 2)) * 30) + v3) * 10) + v6)) x93_17 rfl (e_ic x93_18 (e_ii (v := (((((((2 * v1) + ((sS S 2 (v1.toNatClampNeg)) - (sS S 2 (v1.toNatClampNeg)) / 2 * 2)) * 30) + v3) * 10) + v6) * 3)) x93_19 rfl (e_il x93_20 rfl (e_ii (v := ((((((((2 * v1) + ((sS S 2 (v1.toNatClampNeg)) - (sS S 2 (v1.toNatClampNeg)) / 2 * 2)) * 30) + v3) * 10) + v6) * 3) + 1)) x93_22 rfl (e_ri x93_23 (e_iaS x114_19 (by decide) rfl c8 (e_ri x114_20 (e_ge0 x119_44 (fun c9 => ?_) (fun c9 => ?_)))))))))))))))))))))))))))))))))))))))))
    · replace H := H.1 c9
      refine e_ic x119_82 (e_goto x119_83 (e_ist (l' := [some (.ref (aS E 0)), some (.int v1), some (.int v2), some (.int v3), some (.long v4), none, some (.int v6), some (.int 1)]) x119_87 rfl rfl (e_llo x119_89 rfl (e_il x119_91 rfl (e_eq0 x119_93 (fun z9 => absurd z9 (by decide)) (fun _ => ?_))))))
      have c10 := H.1
      replace H := H.2
      exact e_al x119_96 rfl (e_PS x119_97 rfl (e_ic x119_100 (e_il x119_102 rfl (e_ii (v := (10 * v2)) x119_103 rfl (e_il x119_104 rfl (e_ii (v := ((10 * v2) + v6)) x119_106 rfl (e_iaS x119_107 (by decide) rfl c10 (e_goto x119_108 (e_i2l x119_112 (e_ll (v := ((v4 : Int64) + ((sS S 1 (((10 * v2) + v6).toNatClampNeg)).toInt64))) x119_113 rfl (e_lst (l' := [some (.ref (aS E 0)), some (.int v1), some (.int v2), some (.int v3), some (.long ((v4 : Int64) + ((sS S 1 (((10 * v2) + v6).toNatClampNeg)).toInt64))), none, some (.int v6), some (.int 1)]) x119_114 rfl rfl (e_inc (l' := [some (.ref (aS E 0)), some (.int v1), some (.int v2), some (.int v3), some (.long ((v4 : Int64) + ((sS S 1 (((10 * v2) + v6).toNatClampNeg)).toInt64))), none, some (.int (v6 + 1)), some (.int 1)]) x119_116 rfl rfl rfl (e_back (l' := [some (.ref (aS E 0)), some (.int v1), some (.int v2), some (.int v3), some (.long ((v4 : Int64) + ((sS S 1 (((10 * v2) + v6).toNatClampNeg)).toInt64))), none, some (.int (v6 + 1)), none]) x119_119 rfl (H))))))))))))))
    · replace H := H.2 c9
      have c11 := H.1
      replace H := H.2
      refine e_al x119_47 rfl (e_il x119_48 rfl (e_il x119_49 rfl (e_il x119_50 rfl (e_ic x119_52 (e_cV (l0 := [some (.ref (aS E 0)), some (.int v1), some (.int v3), some (.int v6), some (.int 2)]) x119_53 rfl rfl rfl rfl rfl (fun h hh => hh.tS (by decide)) (e_al x114_0 rfl (e_PS x114_1 rfl (e_al x114_4 rfl (e_il x114_5 rfl (e_al x114_6 rfl (e_PS x114_7 rfl (e_il x114_10 rfl (e_iaS x114_11 (by decide) rfl c6 (e_il x114_12 rfl (e_il x114_13 rfl (e_il x114_14 rfl (e_cV (l0 := [some (.ref (aS E 0)), some (.int v1), some (.int (sS S 2 (v1.toNatClampNeg))), some (.int v3), some (.int v6), some (.int 2)]) x114_16 rfl rfl rfl rfl rfl (fun h hh => hh.tS (by decide)) (e_ic x93_0 (e_il x93_1 rfl (e_ii (v := (2 * v1)) x93_2 rfl (e_il x93_3 rfl (e_ic x93_4 (e_rem x93_5 c7 (e_ii (v := ((2 * v1) + ((sS S 2 (v1.toNatClampNeg)) - (sS S 2 (v1.toNatClampNeg)) / 2 * 2))) x93_6 rfl (e_ic x93_7 (e_ii (v := (((2 * v1) + ((sS S 2 (v1.toNatClampNeg)) - (sS S 2 (v1.toNatClampNeg)) / 2 * 2)) * 30)) x93_9 rfl (e_il x93_10 rfl (e_ii (v := ((((2 * v1) + ((sS S 2 (v1.toNatClampNeg)) - (sS S 2 (v1.toNatClampNeg)) / 2 * 2)) * 30) + v3)) x93_11 rfl (e_ic x93_12 (e_ii (v := (((((2 * v1) + ((sS S 2 (v1.toNatClampNeg)) - (sS S 2 (v1.toNatClampNeg)) / 2 * 2)) * 30) + v3) * 10)) x93_14 rfl (e_il x93_15 rfl (e_ii (v := ((((((2 * v1) + ((sS S 2 (v1.toNatClampNeg)) - (sS S 2 (v1.toNatClampNeg)) / 2 * 2)) * 30) + v3) * 10) + v6)) x93_17 rfl (e_ic x93_18 (e_ii (v := (((((((2 * v1) + ((sS S 2 (v1.toNatClampNeg)) - (sS S 2 (v1.toNatClampNeg)) / 2 * 2)) * 30) + v3) * 10) + v6) * 3)) x93_19 rfl (e_il x93_20 rfl (e_ii (v := ((((((((2 * v1) + ((sS S 2 (v1.toNatClampNeg)) - (sS S 2 (v1.toNatClampNeg)) / 2 * 2)) * 30) + v3) * 10) + v6) * 3) + 2)) x93_22 rfl (e_ri x93_23 (e_iaS x114_19 (by decide) rfl c11 (e_ri x114_20 (e_ge0 x119_56 (fun c12 => ?_) (fun c12 => ?_)))))))))))))))))))))))))))))))))))))))))
      · replace H := H.1 c12
        refine e_ic x119_82 (e_goto x119_83 (e_ist (l' := [some (.ref (aS E 0)), some (.int v1), some (.int v2), some (.int v3), some (.long v4), none, some (.int v6), some (.int 1)]) x119_87 rfl rfl (e_llo x119_89 rfl (e_il x119_91 rfl (e_eq0 x119_93 (fun z9 => absurd z9 (by decide)) (fun _ => ?_))))))
        have c13 := H.1
        replace H := H.2
        exact e_al x119_96 rfl (e_PS x119_97 rfl (e_ic x119_100 (e_il x119_102 rfl (e_ii (v := (10 * v2)) x119_103 rfl (e_il x119_104 rfl (e_ii (v := ((10 * v2) + v6)) x119_106 rfl (e_iaS x119_107 (by decide) rfl c13 (e_goto x119_108 (e_i2l x119_112 (e_ll (v := ((v4 : Int64) + ((sS S 1 (((10 * v2) + v6).toNatClampNeg)).toInt64))) x119_113 rfl (e_lst (l' := [some (.ref (aS E 0)), some (.int v1), some (.int v2), some (.int v3), some (.long ((v4 : Int64) + ((sS S 1 (((10 * v2) + v6).toNatClampNeg)).toInt64))), none, some (.int v6), some (.int 1)]) x119_114 rfl rfl (e_inc (l' := [some (.ref (aS E 0)), some (.int v1), some (.int v2), some (.int v3), some (.long ((v4 : Int64) + ((sS S 1 (((10 * v2) + v6).toNatClampNeg)).toInt64))), none, some (.int (v6 + 1)), some (.int 1)]) x119_116 rfl rfl rfl (e_back (l' := [some (.ref (aS E 0)), some (.int v1), some (.int v2), some (.int v3), some (.long ((v4 : Int64) + ((sS S 1 (((10 * v2) + v6).toNatClampNeg)).toInt64))), none, some (.int (v6 + 1)), none]) x119_119 rfl (H))))))))))))))
      · replace H := H.2 c12
        have c14 := H.1
        replace H := H.2
        refine e_il x119_59 rfl (e_al x119_61 rfl (e_il x119_62 rfl (e_il x119_63 rfl (e_cV (l0 := [some (.ref (aS E 0)), some (.int v2), some (.int v3)]) x119_64 rfl rfl rfl rfl rfl (fun h hh => hh.tS (by decide)) (e_il x100_0 rfl (e_il x100_1 rfl (e_ii (v := (v2 + v3)) x100_2 rfl (e_al x100_3 rfl (e_gS x100_4 (by decide) rfl (e_rem x100_7 c14 (e_ri x100_8 (e_ne x119_67 (fun c15 => ?_) (fun c15 => ?_)))))))))))))
        · replace H := H.1 c15
          have c16 := H.1
          replace H := H.2
          refine e_al x119_70 rfl (e_il x119_71 rfl (e_il x119_72 rfl (e_il x119_73 rfl (e_ic x119_75 (e_cV (l0 := [some (.ref (aS E 0)), some (.int v1), some (.int v3), some (.int v6), some (.int 0)]) x119_76 rfl rfl rfl rfl rfl (fun h hh => hh.tS (by decide)) (e_al x114_0 rfl (e_PS x114_1 rfl (e_al x114_4 rfl (e_il x114_5 rfl (e_al x114_6 rfl (e_PS x114_7 rfl (e_il x114_10 rfl (e_iaS x114_11 (by decide) rfl c6 (e_il x114_12 rfl (e_il x114_13 rfl (e_il x114_14 rfl (e_cV (l0 := [some (.ref (aS E 0)), some (.int v1), some (.int (sS S 2 (v1.toNatClampNeg))), some (.int v3), some (.int v6), some (.int 0)]) x114_16 rfl rfl rfl rfl rfl (fun h hh => hh.tS (by decide)) (e_ic x93_0 (e_il x93_1 rfl (e_ii (v := (2 * v1)) x93_2 rfl (e_il x93_3 rfl (e_ic x93_4 (e_rem x93_5 c7 (e_ii (v := ((2 * v1) + ((sS S 2 (v1.toNatClampNeg)) - (sS S 2 (v1.toNatClampNeg)) / 2 * 2))) x93_6 rfl (e_ic x93_7 (e_ii (v := (((2 * v1) + ((sS S 2 (v1.toNatClampNeg)) - (sS S 2 (v1.toNatClampNeg)) / 2 * 2)) * 30)) x93_9 rfl (e_il x93_10 rfl (e_ii (v := ((((2 * v1) + ((sS S 2 (v1.toNatClampNeg)) - (sS S 2 (v1.toNatClampNeg)) / 2 * 2)) * 30) + v3)) x93_11 rfl (e_ic x93_12 (e_ii (v := (((((2 * v1) + ((sS S 2 (v1.toNatClampNeg)) - (sS S 2 (v1.toNatClampNeg)) / 2 * 2)) * 30) + v3) * 10)) x93_14 rfl (e_il x93_15 rfl (e_ii (v := ((((((2 * v1) + ((sS S 2 (v1.toNatClampNeg)) - (sS S 2 (v1.toNatClampNeg)) / 2 * 2)) * 30) + v3) * 10) + v6)) x93_17 rfl (e_ic x93_18 (e_ii (v := (((((((2 * v1) + ((sS S 2 (v1.toNatClampNeg)) - (sS S 2 (v1.toNatClampNeg)) / 2 * 2)) * 30) + v3) * 10) + v6) * 3)) x93_19 rfl (e_il x93_20 rfl (e_ii (v := ((((((((2 * v1) + ((sS S 2 (v1.toNatClampNeg)) - (sS S 2 (v1.toNatClampNeg)) / 2 * 2)) * 30) + v3) * 10) + v6) * 3) + 0)) x93_22 rfl (e_ri x93_23 (e_iaS x114_19 (by decide) rfl c16 (e_ri x114_20 (e_lt0 x119_79 (fun c17 => ?_) (fun c17 => ?_)))))))))))))))))))))))))))))))))))))))))
          · replace H := H.1 c17
            refine e_ic x119_86 (e_ist (l' := [some (.ref (aS E 0)), some (.int v1), some (.int v2), some (.int v3), some (.long v4), none, some (.int v6), some (.int 0)]) x119_87 rfl rfl (e_llo x119_89 rfl (e_il x119_91 rfl (e_eq0 x119_93 (fun _ => ?_) (fun z9 => absurd (by decide) z9)))))
            exact e_ic x119_111 (e_i2l x119_112 (e_ll (v := ((v4 : Int64) + ((0 : Int32).toInt64))) x119_113 rfl (e_lst (l' := [some (.ref (aS E 0)), some (.int v1), some (.int v2), some (.int v3), some (.long ((v4 : Int64) + ((0 : Int32).toInt64))), none, some (.int v6), some (.int 0)]) x119_114 rfl rfl (e_inc (l' := [some (.ref (aS E 0)), some (.int v1), some (.int v2), some (.int v3), some (.long ((v4 : Int64) + ((0 : Int32).toInt64))), none, some (.int (v6 + 1)), some (.int 0)]) x119_116 rfl rfl rfl (e_back (l' := [some (.ref (aS E 0)), some (.int v1), some (.int v2), some (.int v3), some (.long ((v4 : Int64) + ((0 : Int32).toInt64))), none, some (.int (v6 + 1)), none]) x119_119 rfl (H))))))
          · replace H := H.2 c17
            refine e_ic x119_82 (e_goto x119_83 (e_ist (l' := [some (.ref (aS E 0)), some (.int v1), some (.int v2), some (.int v3), some (.long v4), none, some (.int v6), some (.int 1)]) x119_87 rfl rfl (e_llo x119_89 rfl (e_il x119_91 rfl (e_eq0 x119_93 (fun z9 => absurd z9 (by decide)) (fun _ => ?_))))))
            have c18 := H.1
            replace H := H.2
            exact e_al x119_96 rfl (e_PS x119_97 rfl (e_ic x119_100 (e_il x119_102 rfl (e_ii (v := (10 * v2)) x119_103 rfl (e_il x119_104 rfl (e_ii (v := ((10 * v2) + v6)) x119_106 rfl (e_iaS x119_107 (by decide) rfl c18 (e_goto x119_108 (e_i2l x119_112 (e_ll (v := ((v4 : Int64) + ((sS S 1 (((10 * v2) + v6).toNatClampNeg)).toInt64))) x119_113 rfl (e_lst (l' := [some (.ref (aS E 0)), some (.int v1), some (.int v2), some (.int v3), some (.long ((v4 : Int64) + ((sS S 1 (((10 * v2) + v6).toNatClampNeg)).toInt64))), none, some (.int v6), some (.int 1)]) x119_114 rfl rfl (e_inc (l' := [some (.ref (aS E 0)), some (.int v1), some (.int v2), some (.int v3), some (.long ((v4 : Int64) + ((sS S 1 (((10 * v2) + v6).toNatClampNeg)).toInt64))), none, some (.int (v6 + 1)), some (.int 1)]) x119_116 rfl rfl rfl (e_back (l' := [some (.ref (aS E 0)), some (.int v1), some (.int v2), some (.int v3), some (.long ((v4 : Int64) + ((sS S 1 (((10 * v2) + v6).toNatClampNeg)).toInt64))), none, some (.int (v6 + 1)), none]) x119_119 rfl (H))))))))))))))
        · replace H := H.2 c15
          refine e_ic x119_86 (e_ist (l' := [some (.ref (aS E 0)), some (.int v1), some (.int v2), some (.int v3), some (.long v4), none, some (.int v6), some (.int 0)]) x119_87 rfl rfl (e_llo x119_89 rfl (e_il x119_91 rfl (e_eq0 x119_93 (fun _ => ?_) (fun z9 => absurd (by decide) z9)))))
          exact e_ic x119_111 (e_i2l x119_112 (e_ll (v := ((v4 : Int64) + ((0 : Int32).toInt64))) x119_113 rfl (e_lst (l' := [some (.ref (aS E 0)), some (.int v1), some (.int v2), some (.int v3), some (.long ((v4 : Int64) + ((0 : Int32).toInt64))), none, some (.int v6), some (.int 0)]) x119_114 rfl rfl (e_inc (l' := [some (.ref (aS E 0)), some (.int v1), some (.int v2), some (.int v3), some (.long ((v4 : Int64) + ((0 : Int32).toInt64))), none, some (.int (v6 + 1)), some (.int 0)]) x119_116 rfl rfl rfl (e_back (l' := [some (.ref (aS E 0)), some (.int v1), some (.int v2), some (.int v3), some (.long ((v4 : Int64) + ((0 : Int32).toInt64))), none, some (.int (v6 + 1)), none]) x119_119 rfl (H))))))

-- Model.ruleC(I)Z, from 0
set_option maxRecDepth 8000 in
theorem T120 {E : mE} {a1 : Int32} {S : mS} {K : Option Value → mS → Prop}  (H : (¬ a1 < 0 ∧ (a1.toNatClampNeg) < 10) ∧ ((¬ (sS S 0 1) = 0) ∧ ((¬ (2 : Int32) = 0) ∧ ((¬ ((((((((2 * a1) + ((sS S 2 (a1.toNatClampNeg)) - (sS S 2 (a1.toNatClampNeg)) / 2 * 2)) * 30) + (sS S 3 (a1.toNatClampNeg))) * 10) + (((sS S 2 (a1.toNatClampNeg)) + (sS S 3 (a1.toNatClampNeg))) - ((sS S 2 (a1.toNatClampNeg)) + (sS S 3 (a1.toNatClampNeg))) / (sS S 0 1) * (sS S 0 1))) * 3) + 0) < 0 ∧ (((((((((2 * a1) + ((sS S 2 (a1.toNatClampNeg)) - (sS S 2 (a1.toNatClampNeg)) / 2 * 2)) * 30) + (sS S 3 (a1.toNatClampNeg))) * 10) + (((sS S 2 (a1.toNatClampNeg)) + (sS S 3 (a1.toNatClampNeg))) - ((sS S 2 (a1.toNatClampNeg)) + (sS S 3 (a1.toNatClampNeg))) / (sS S 0 1) * (sS S 0 1))) * 3) + 0).toNatClampNeg) < 18000) ∧ (((sS S 4 (a1.toNatClampNeg)) = 0 → (((0 : Int32) ≤ (sS S 17 (((((((((2 * a1) + ((sS S 2 (a1.toNatClampNeg)) - (sS S 2 (a1.toNatClampNeg)) / 2 * 2)) * 30) + (sS S 3 (a1.toNatClampNeg))) * 10) + (((sS S 2 (a1.toNatClampNeg)) + (sS S 3 (a1.toNatClampNeg))) - ((sS S 2 (a1.toNatClampNeg)) + (sS S 3 (a1.toNatClampNeg))) / (sS S 0 1) * (sS S 0 1))) * 3) + 0).toNatClampNeg)) → ((¬ ((((((2 * a1) + ((sS S 2 (a1.toNatClampNeg)) - (sS S 2 (a1.toNatClampNeg)) / 2 * 2)) * 30) + (sS S 3 (a1.toNatClampNeg))) * 10) + (((sS S 2 (a1.toNatClampNeg)) + (sS S 3 (a1.toNatClampNeg))) - ((sS S 2 (a1.toNatClampNeg)) + (sS S 3 (a1.toNatClampNeg))) / (sS S 0 1) * (sS S 0 1))) < 0 ∧ (((((((2 * a1) + ((sS S 2 (a1.toNatClampNeg)) - (sS S 2 (a1.toNatClampNeg)) / 2 * 2)) * 30) + (sS S 3 (a1.toNatClampNeg))) * 10) + (((sS S 2 (a1.toNatClampNeg)) + (sS S 3 (a1.toNatClampNeg))) - ((sS S 2 (a1.toNatClampNeg)) + (sS S 3 (a1.toNatClampNeg))) / (sS S 0 1) * (sS S 0 1))).toNatClampNeg) < 6000) ∧ (((sS S 18 (((((((2 * a1) + ((sS S 2 (a1.toNatClampNeg)) - (sS S 2 (a1.toNatClampNeg)) / 2 * 2)) * 30) + (sS S 3 (a1.toNatClampNeg))) * 10) + (((sS S 2 (a1.toNatClampNeg)) + (sS S 3 (a1.toNatClampNeg))) - ((sS S 2 (a1.toNatClampNeg)) + (sS S 3 (a1.toNatClampNeg))) / (sS S 0 1) * (sS S 0 1))).toNatClampNeg)) = (-1) → (ES E 120 81 [some (.ref (aS E 0)), some (.int a1), some (.int (sS S 3 (a1.toNatClampNeg))), some (.int (sS S 17 (((((((((2 * a1) + ((sS S 2 (a1.toNatClampNeg)) - (sS S 2 (a1.toNatClampNeg)) / 2 * 2)) * 30) + (sS S 3 (a1.toNatClampNeg))) * 10) + (((sS S 2 (a1.toNatClampNeg)) + (sS S 3 (a1.toNatClampNeg))) - ((sS S 2 (a1.toNatClampNeg)) + (sS S 3 (a1.toNatClampNeg))) / (sS S 0 1) * (sS S 0 1))) * 3) + 0).toNatClampNeg))), some (.int (sS S 18 (((((((2 * a1) + ((sS S 2 (a1.toNatClampNeg)) - (sS S 2 (a1.toNatClampNeg)) / 2 * 2)) * 30) + (sS S 3 (a1.toNatClampNeg))) * 10) + (((sS S 2 (a1.toNatClampNeg)) + (sS S 3 (a1.toNatClampNeg))) - ((sS S 2 (a1.toNatClampNeg)) + (sS S 3 (a1.toNatClampNeg))) / (sS S 0 1) * (sS S 0 1))).toNatClampNeg))), none] [] S K)) ∧ (¬ (sS S 18 (((((((2 * a1) + ((sS S 2 (a1.toNatClampNeg)) - (sS S 2 (a1.toNatClampNeg)) / 2 * 2)) * 30) + (sS S 3 (a1.toNatClampNeg))) * 10) + (((sS S 2 (a1.toNatClampNeg)) + (sS S 3 (a1.toNatClampNeg))) - ((sS S 2 (a1.toNatClampNeg)) + (sS S 3 (a1.toNatClampNeg))) / (sS S 0 1) * (sS S 0 1))).toNatClampNeg)) = (-1) → (((lg_cmp ((sS S 18 (((((((2 * a1) + ((sS S 2 (a1.toNatClampNeg)) - (sS S 2 (a1.toNatClampNeg)) / 2 * 2)) * 30) + (sS S 3 (a1.toNatClampNeg))) * 10) + (((sS S 2 (a1.toNatClampNeg)) + (sS S 3 (a1.toNatClampNeg))) - ((sS S 2 (a1.toNatClampNeg)) + (sS S 3 (a1.toNatClampNeg))) / (sS S 0 1) * (sS S 0 1))).toNatClampNeg)).toInt64) 0) < 0 → (ES E 120 79 [some (.ref (aS E 0)), some (.int a1), some (.int (sS S 3 (a1.toNatClampNeg))), some (.int (sS S 17 (((((((((2 * a1) + ((sS S 2 (a1.toNatClampNeg)) - (sS S 2 (a1.toNatClampNeg)) / 2 * 2)) * 30) + (sS S 3 (a1.toNatClampNeg))) * 10) + (((sS S 2 (a1.toNatClampNeg)) + (sS S 3 (a1.toNatClampNeg))) - ((sS S 2 (a1.toNatClampNeg)) + (sS S 3 (a1.toNatClampNeg))) / (sS S 0 1) * (sS S 0 1))) * 3) + 0).toNatClampNeg))), some (.int (sS S 18 (((((((2 * a1) + ((sS S 2 (a1.toNatClampNeg)) - (sS S 2 (a1.toNatClampNeg)) / 2 * 2)) * 30) + (sS S 3 (a1.toNatClampNeg))) * 10) + (((sS S 2 (a1.toNatClampNeg)) + (sS S 3 (a1.toNatClampNeg))) - ((sS S 2 (a1.toNatClampNeg)) + (sS S 3 (a1.toNatClampNeg))) / (sS S 0 1) * (sS S 0 1))).toNatClampNeg))), none] [] S K)) ∧ (¬ (lg_cmp ((sS S 18 (((((((2 * a1) + ((sS S 2 (a1.toNatClampNeg)) - (sS S 2 (a1.toNatClampNeg)) / 2 * 2)) * 30) + (sS S 3 (a1.toNatClampNeg))) * 10) + (((sS S 2 (a1.toNatClampNeg)) + (sS S 3 (a1.toNatClampNeg))) - ((sS S 2 (a1.toNatClampNeg)) + (sS S 3 (a1.toNatClampNeg))) / (sS S 0 1) * (sS S 0 1))).toNatClampNeg)).toInt64) 0) < 0 → (((0 : Int32) < (lg_cmp ((sS S 18 (((((((2 * a1) + ((sS S 2 (a1.toNatClampNeg)) - (sS S 2 (a1.toNatClampNeg)) / 2 * 2)) * 30) + (sS S 3 (a1.toNatClampNeg))) * 10) + (((sS S 2 (a1.toNatClampNeg)) + (sS S 3 (a1.toNatClampNeg))) - ((sS S 2 (a1.toNatClampNeg)) + (sS S 3 (a1.toNatClampNeg))) / (sS S 0 1) * (sS S 0 1))).toNatClampNeg)).toInt64) (((sS S 3 (a1.toNatClampNeg)) - 1).toInt64)) → (ES E 120 79 [some (.ref (aS E 0)), some (.int a1), some (.int (sS S 3 (a1.toNatClampNeg))), some (.int (sS S 17 (((((((((2 * a1) + ((sS S 2 (a1.toNatClampNeg)) - (sS S 2 (a1.toNatClampNeg)) / 2 * 2)) * 30) + (sS S 3 (a1.toNatClampNeg))) * 10) + (((sS S 2 (a1.toNatClampNeg)) + (sS S 3 (a1.toNatClampNeg))) - ((sS S 2 (a1.toNatClampNeg)) + (sS S 3 (a1.toNatClampNeg))) / (sS S 0 1) * (sS S 0 1))) * 3) + 0).toNatClampNeg))), some (.int (sS S 18 (((((((2 * a1) + ((sS S 2 (a1.toNatClampNeg)) - (sS S 2 (a1.toNatClampNeg)) / 2 * 2)) * 30) + (sS S 3 (a1.toNatClampNeg))) * 10) + (((sS S 2 (a1.toNatClampNeg)) + (sS S 3 (a1.toNatClampNeg))) - ((sS S 2 (a1.toNatClampNeg)) + (sS S 3 (a1.toNatClampNeg))) / (sS S 0 1) * (sS S 0 1))).toNatClampNeg))), none] [] S K)) ∧ (¬ (0 : Int32) < (lg_cmp ((sS S 18 (((((((2 * a1) + ((sS S 2 (a1.toNatClampNeg)) - (sS S 2 (a1.toNatClampNeg)) / 2 * 2)) * 30) + (sS S 3 (a1.toNatClampNeg))) * 10) + (((sS S 2 (a1.toNatClampNeg)) + (sS S 3 (a1.toNatClampNeg))) - ((sS S 2 (a1.toNatClampNeg)) + (sS S 3 (a1.toNatClampNeg))) / (sS S 0 1) * (sS S 0 1))).toNatClampNeg)).toInt64) (((sS S 3 (a1.toNatClampNeg)) - 1).toInt64)) → (ES E 115 0 [some (.ref (aS E 0)), some (.int a1), some (.int (sS S 18 (((((((2 * a1) + ((sS S 2 (a1.toNatClampNeg)) - (sS S 2 (a1.toNatClampNeg)) / 2 * 2)) * 30) + (sS S 3 (a1.toNatClampNeg))) * 10) + (((sS S 2 (a1.toNatClampNeg)) + (sS S 3 (a1.toNatClampNeg))) - ((sS S 2 (a1.toNatClampNeg)) + (sS S 3 (a1.toNatClampNeg))) / (sS S 0 1) * (sS S 0 1))).toNatClampNeg))), some (.int 1), some (.int (sS S 17 (((((((((2 * a1) + ((sS S 2 (a1.toNatClampNeg)) - (sS S 2 (a1.toNatClampNeg)) / 2 * 2)) * 30) + (sS S 3 (a1.toNatClampNeg))) * 10) + (((sS S 2 (a1.toNatClampNeg)) + (sS S 3 (a1.toNatClampNeg))) - ((sS S 2 (a1.toNatClampNeg)) + (sS S 3 (a1.toNatClampNeg))) / (sS S 0 1) * (sS S 0 1))) * 3) + 0).toNatClampNeg))), none, none, none, none] [] S (fun r S11 => ∃ x12 : Int64, r = some (.long x12) ∧ (ES E 116 0 [some (.ref (aS E 0)), some (.long x12), none, some (.int (sS S11 2 (a1.toNatClampNeg)))] [] S11 (fun r S13 => ∃ x14 : Int32, r = some (.int x14) ∧ ((x14 = 0 → (ES E 120 79 [some (.ref (aS E 0)), some (.int a1), some (.int (sS S 3 (a1.toNatClampNeg))), some (.int (sS S 17 (((((((((2 * a1) + ((sS S 2 (a1.toNatClampNeg)) - (sS S 2 (a1.toNatClampNeg)) / 2 * 2)) * 30) + (sS S 3 (a1.toNatClampNeg))) * 10) + (((sS S 2 (a1.toNatClampNeg)) + (sS S 3 (a1.toNatClampNeg))) - ((sS S 2 (a1.toNatClampNeg)) + (sS S 3 (a1.toNatClampNeg))) / (sS S 0 1) * (sS S 0 1))) * 3) + 0).toNatClampNeg))), some (.int (sS S 18 (((((((2 * a1) + ((sS S 2 (a1.toNatClampNeg)) - (sS S 2 (a1.toNatClampNeg)) / 2 * 2)) * 30) + (sS S 3 (a1.toNatClampNeg))) * 10) + (((sS S 2 (a1.toNatClampNeg)) + (sS S 3 (a1.toNatClampNeg))) - ((sS S 2 (a1.toNatClampNeg)) + (sS S 3 (a1.toNatClampNeg))) / (sS S 0 1) * (sS S 0 1))).toNatClampNeg))), none] [] S13 K)) ∧ (¬ x14 = 0 → (ES E 120 81 [some (.ref (aS E 0)), some (.int a1), some (.int (sS S 3 (a1.toNatClampNeg))), some (.int (sS S 17 (((((((((2 * a1) + ((sS S 2 (a1.toNatClampNeg)) - (sS S 2 (a1.toNatClampNeg)) / 2 * 2)) * 30) + (sS S 3 (a1.toNatClampNeg))) * 10) + (((sS S 2 (a1.toNatClampNeg)) + (sS S 3 (a1.toNatClampNeg))) - ((sS S 2 (a1.toNatClampNeg)) + (sS S 3 (a1.toNatClampNeg))) / (sS S 0 1) * (sS S 0 1))) * 3) + 0).toNatClampNeg))), some (.int (sS S 18 (((((((2 * a1) + ((sS S 2 (a1.toNatClampNeg)) - (sS S 2 (a1.toNatClampNeg)) / 2 * 2)) * 30) + (sS S 3 (a1.toNatClampNeg))) * 10) + (((sS S 2 (a1.toNatClampNeg)) + (sS S 3 (a1.toNatClampNeg))) - ((sS S 2 (a1.toNatClampNeg)) + (sS S 3 (a1.toNatClampNeg))) / (sS S 0 1) * (sS S 0 1))).toNatClampNeg))), none] [] S13 K))))))))))))))) ∧ (¬ (0 : Int32) ≤ (sS S 17 (((((((((2 * a1) + ((sS S 2 (a1.toNatClampNeg)) - (sS S 2 (a1.toNatClampNeg)) / 2 * 2)) * 30) + (sS S 3 (a1.toNatClampNeg))) * 10) + (((sS S 2 (a1.toNatClampNeg)) + (sS S 3 (a1.toNatClampNeg))) - ((sS S 2 (a1.toNatClampNeg)) + (sS S 3 (a1.toNatClampNeg))) / (sS S 0 1) * (sS S 0 1))) * 3) + 0).toNatClampNeg)) → (ES E 120 27 [some (.ref (aS E 0)), some (.int a1), some (.int (sS S 3 (a1.toNatClampNeg))), some (.int (sS S 17 (((((((((2 * a1) + ((sS S 2 (a1.toNatClampNeg)) - (sS S 2 (a1.toNatClampNeg)) / 2 * 2)) * 30) + (sS S 3 (a1.toNatClampNeg))) * 10) + (((sS S 2 (a1.toNatClampNeg)) + (sS S 3 (a1.toNatClampNeg))) - ((sS S 2 (a1.toNatClampNeg)) + (sS S 3 (a1.toNatClampNeg))) / (sS S 0 1) * (sS S 0 1))) * 3) + 0).toNatClampNeg))), none, none] [] S K)))) ∧ (¬ (sS S 4 (a1.toNatClampNeg)) = 0 → (ES E 120 27 [some (.ref (aS E 0)), some (.int a1), some (.int (sS S 3 (a1.toNatClampNeg))), some (.int (sS S 17 (((((((((2 * a1) + ((sS S 2 (a1.toNatClampNeg)) - (sS S 2 (a1.toNatClampNeg)) / 2 * 2)) * 30) + (sS S 3 (a1.toNatClampNeg))) * 10) + (((sS S 2 (a1.toNatClampNeg)) + (sS S 3 (a1.toNatClampNeg))) - ((sS S 2 (a1.toNatClampNeg)) + (sS S 3 (a1.toNatClampNeg))) / (sS S 0 1) * (sS S 0 1))) * 3) + 0).toNatClampNeg))), none, none] [] S K))))))) : ES E 120 0 [some (.ref (aS E 0)), some (.int a1), none, none, none, none] [] S K := by
  have c1 := H.1
  have c2 := H.2.1
  have c3 := H.2.2.1
  have c4 := H.2.2.2.1
  replace H := H.2.2.2.2
  refine e_al x120_0 rfl (e_PS x120_1 rfl (e_il x120_4 rfl (e_iaS x120_5 (by decide) rfl c1 (e_ist (l' := [some (.ref (aS E 0)), some (.int a1), some (.int (sS S 3 (a1.toNatClampNeg))), none, none, none]) x120_6 rfl rfl (e_al x120_7 rfl (e_il x120_8 rfl (e_il x120_9 rfl (e_cV (l0 := [some (.ref (aS E 0)), some (.int a1), some (.int (sS S 3 (a1.toNatClampNeg)))]) x120_10 rfl rfl rfl rfl rfl (fun h hh => hh.tS (by decide)) (e_al x113_0 rfl (e_il x113_1 rfl (e_il x113_2 rfl (e_al x113_3 rfl (e_al x113_4 rfl (e_PS x113_5 rfl (e_il x113_8 rfl (e_iaS x113_9 (by decide) rfl c1 (e_il x113_10 rfl (e_cV (l0 := [some (.ref (aS E 0)), some (.int (sS S 2 (a1.toNatClampNeg))), some (.int (sS S 3 (a1.toNatClampNeg)))]) x113_11 rfl rfl rfl rfl rfl (fun h hh => hh.tS (by decide)) (e_il x100_0 rfl (e_il x100_1 rfl (e_ii (v := ((sS S 2 (a1.toNatClampNeg)) + (sS S 3 (a1.toNatClampNeg)))) x100_2 rfl (e_al x100_3 rfl (e_gS x100_4 (by decide) rfl (e_rem x100_7 c2 (e_ri x100_8 (e_ic x113_14 (e_cV (l0 := [some (.ref (aS E 0)), some (.int a1), some (.int (sS S 3 (a1.toNatClampNeg))), some (.int (((sS S 2 (a1.toNatClampNeg)) + (sS S 3 (a1.toNatClampNeg))) - ((sS S 2 (a1.toNatClampNeg)) + (sS S 3 (a1.toNatClampNeg))) / (sS S 0 1) * (sS S 0 1))), some (.int 0)]) x113_15 rfl rfl rfl rfl rfl (fun h hh => hh.tS (by decide)) (e_al x114_0 rfl (e_PS x114_1 rfl (e_al x114_4 rfl (e_il x114_5 rfl (e_al x114_6 rfl (e_PS x114_7 rfl (e_il x114_10 rfl (e_iaS x114_11 (by decide) rfl c1 (e_il x114_12 rfl (e_il x114_13 rfl (e_il x114_14 rfl (e_cV (l0 := [some (.ref (aS E 0)), some (.int a1), some (.int (sS S 2 (a1.toNatClampNeg))), some (.int (sS S 3 (a1.toNatClampNeg))), some (.int (((sS S 2 (a1.toNatClampNeg)) + (sS S 3 (a1.toNatClampNeg))) - ((sS S 2 (a1.toNatClampNeg)) + (sS S 3 (a1.toNatClampNeg))) / (sS S 0 1) * (sS S 0 1))), some (.int 0)]) x114_16 rfl rfl rfl rfl rfl (fun h hh => hh.tS (by decide)) (e_ic x93_0 (e_il x93_1 rfl (e_ii (v := (2 * a1)) x93_2 rfl (e_il x93_3 rfl (e_ic x93_4 (e_rem x93_5 c3 (e_ii (v := ((2 * a1) + ((sS S 2 (a1.toNatClampNeg)) - (sS S 2 (a1.toNatClampNeg)) / 2 * 2))) x93_6 rfl (e_ic x93_7 (e_ii (v := (((2 * a1) + ((sS S 2 (a1.toNatClampNeg)) - (sS S 2 (a1.toNatClampNeg)) / 2 * 2)) * 30)) x93_9 rfl (e_il x93_10 rfl (e_ii (v := ((((2 * a1) + ((sS S 2 (a1.toNatClampNeg)) - (sS S 2 (a1.toNatClampNeg)) / 2 * 2)) * 30) + (sS S 3 (a1.toNatClampNeg)))) x93_11 rfl (e_ic x93_12 (e_ii (v := (((((2 * a1) + ((sS S 2 (a1.toNatClampNeg)) - (sS S 2 (a1.toNatClampNeg)) / 2 * 2)) * 30) + (sS S 3 (a1.toNatClampNeg))) * 10)) x93_14 rfl (e_il x93_15 rfl (e_ii (v := ((((((2 * a1) + ((sS S 2 (a1.toNatClampNeg)) - (sS S 2 (a1.toNatClampNeg)) / 2 * 2)) * 30) + (sS S 3 (a1.toNatClampNeg))) * 10) + (((sS S 2 (a1.toNatClampNeg)) + (sS S 3 (a1.toNatClampNeg))) - ((sS S 2 (a1.toNatClampNeg)) + (sS S 3 (a1.toNatClampNeg))) / (sS S 0 1) * (sS S 0 1)))) x93_17 rfl (e_ic x93_18 (e_ii (v := (((((((2 * a1) + ((sS S 2 (a1.toNatClampNeg)) - (sS S 2 (a1.toNatClampNeg)) / 2 * 2)) * 30) + (sS S 3 (a1.toNatClampNeg))) * 10) + (((sS S 2 (a1.toNatClampNeg)) + (sS S 3 (a1.toNatClampNeg))) - ((sS S 2 (a1.toNatClampNeg)) + (sS S 3 (a1.toNatClampNeg))) / (sS S 0 1) * (sS S 0 1))) * 3)) x93_19 rfl (e_il x93_20 rfl (e_ii (v := ((((((((2 * a1) + ((sS S 2 (a1.toNatClampNeg)) - (sS S 2 (a1.toNatClampNeg)) / 2 * 2)) * 30) + (sS S 3 (a1.toNatClampNeg))) * 10) + (((sS S 2 (a1.toNatClampNeg)) + (sS S 3 (a1.toNatClampNeg))) - ((sS S 2 (a1.toNatClampNeg)) + (sS S 3 (a1.toNatClampNeg))) / (sS S 0 1) * (sS S 0 1))) * 3) + 0)) x93_22 rfl (e_ri x93_23 (e_iaS x114_19 (by decide) rfl c4 (e_ri x114_20 (e_ri x113_18 (e_ist (l' := [some (.ref (aS E 0)), some (.int a1), some (.int (sS S 3 (a1.toNatClampNeg))), some (.int (sS S 17 (((((((((2 * a1) + ((sS S 2 (a1.toNatClampNeg)) - (sS S 2 (a1.toNatClampNeg)) / 2 * 2)) * 30) + (sS S 3 (a1.toNatClampNeg))) * 10) + (((sS S 2 (a1.toNatClampNeg)) + (sS S 3 (a1.toNatClampNeg))) - ((sS S 2 (a1.toNatClampNeg)) + (sS S 3 (a1.toNatClampNeg))) / (sS S 0 1) * (sS S 0 1))) * 3) + 0).toNatClampNeg))), none, none]) x120_13 rfl rfl (e_al x120_14 rfl (e_PS x120_15 rfl (e_il x120_18 rfl (e_iaS x120_19 (by decide) rfl c1 (e_ne0 x120_20 (fun c5 => ?_) (fun c5 => ?_)))))))))))))))))))))))))))))))))))))))))))))))))))))))))))))))))))))
  · replace H := H.1 c5
    refine e_il x120_23 rfl (e_ge0 x120_24 (fun c6 => ?_) (fun c6 => ?_))
    · replace H := H.1 c6
      have c7 := H.1
      replace H := H.2
      refine e_al x120_29 rfl (e_il x120_30 rfl (e_il x120_31 rfl (e_cV (l0 := [some (.ref (aS E 0)), some (.int a1), some (.int (sS S 3 (a1.toNatClampNeg)))]) x120_32 rfl rfl rfl rfl rfl (fun h hh => hh.tS (by decide)) (e_al x121_0 rfl (e_PS x121_1 rfl (e_al x121_4 rfl (e_il x121_5 rfl (e_al x121_6 rfl (e_PS x121_7 rfl (e_il x121_10 rfl (e_iaS x121_11 (by decide) rfl c1 (e_il x121_12 rfl (e_al x121_13 rfl (e_al x121_14 rfl (e_PS x121_15 rfl (e_il x121_18 rfl (e_iaS x121_19 (by decide) rfl c1 (e_il x121_20 rfl (e_cV (l0 := [some (.ref (aS E 0)), some (.int (sS S 2 (a1.toNatClampNeg))), some (.int (sS S 3 (a1.toNatClampNeg)))]) x121_21 rfl rfl rfl rfl rfl (fun h hh => hh.tS (by decide)) (e_il x100_0 rfl (e_il x100_1 rfl (e_ii (v := ((sS S 2 (a1.toNatClampNeg)) + (sS S 3 (a1.toNatClampNeg)))) x100_2 rfl (e_al x100_3 rfl (e_gS x100_4 (by decide) rfl (e_rem x100_7 c2 (e_ri x100_8 (e_cV (l0 := [some (.ref (aS E 0)), some (.int a1), some (.int (sS S 2 (a1.toNatClampNeg))), some (.int (sS S 3 (a1.toNatClampNeg))), some (.int (((sS S 2 (a1.toNatClampNeg)) + (sS S 3 (a1.toNatClampNeg))) - ((sS S 2 (a1.toNatClampNeg)) + (sS S 3 (a1.toNatClampNeg))) / (sS S 0 1) * (sS S 0 1)))]) x121_24 rfl rfl rfl rfl rfl (fun h hh => hh.tS (by decide)) (e_ic x94_0 (e_il x94_1 rfl (e_ii (v := (2 * a1)) x94_2 rfl (e_il x94_3 rfl (e_ic x94_4 (e_rem x94_5 c3 (e_ii (v := ((2 * a1) + ((sS S 2 (a1.toNatClampNeg)) - (sS S 2 (a1.toNatClampNeg)) / 2 * 2))) x94_6 rfl (e_ic x94_7 (e_ii (v := (((2 * a1) + ((sS S 2 (a1.toNatClampNeg)) - (sS S 2 (a1.toNatClampNeg)) / 2 * 2)) * 30)) x94_9 rfl (e_il x94_10 rfl (e_ii (v := ((((2 * a1) + ((sS S 2 (a1.toNatClampNeg)) - (sS S 2 (a1.toNatClampNeg)) / 2 * 2)) * 30) + (sS S 3 (a1.toNatClampNeg)))) x94_11 rfl (e_ic x94_12 (e_ii (v := (((((2 * a1) + ((sS S 2 (a1.toNatClampNeg)) - (sS S 2 (a1.toNatClampNeg)) / 2 * 2)) * 30) + (sS S 3 (a1.toNatClampNeg))) * 10)) x94_14 rfl (e_il x94_15 rfl (e_ii (v := ((((((2 * a1) + ((sS S 2 (a1.toNatClampNeg)) - (sS S 2 (a1.toNatClampNeg)) / 2 * 2)) * 30) + (sS S 3 (a1.toNatClampNeg))) * 10) + (((sS S 2 (a1.toNatClampNeg)) + (sS S 3 (a1.toNatClampNeg))) - ((sS S 2 (a1.toNatClampNeg)) + (sS S 3 (a1.toNatClampNeg))) / (sS S 0 1) * (sS S 0 1)))) x94_17 rfl (e_ri x94_18 (e_iaS x121_27 (by decide) rfl c7 (e_ri x121_28 (e_ist (l' := [some (.ref (aS E 0)), some (.int a1), some (.int (sS S 3 (a1.toNatClampNeg))), some (.int (sS S 17 (((((((((2 * a1) + ((sS S 2 (a1.toNatClampNeg)) - (sS S 2 (a1.toNatClampNeg)) / 2 * 2)) * 30) + (sS S 3 (a1.toNatClampNeg))) * 10) + (((sS S 2 (a1.toNatClampNeg)) + (sS S 3 (a1.toNatClampNeg))) - ((sS S 2 (a1.toNatClampNeg)) + (sS S 3 (a1.toNatClampNeg))) / (sS S 0 1) * (sS S 0 1))) * 3) + 0).toNatClampNeg))), some (.int (sS S 18 (((((((2 * a1) + ((sS S 2 (a1.toNatClampNeg)) - (sS S 2 (a1.toNatClampNeg)) / 2 * 2)) * 30) + (sS S 3 (a1.toNatClampNeg))) * 10) + (((sS S 2 (a1.toNatClampNeg)) + (sS S 3 (a1.toNatClampNeg))) - ((sS S 2 (a1.toNatClampNeg)) + (sS S 3 (a1.toNatClampNeg))) / (sS S 0 1) * (sS S 0 1))).toNatClampNeg))), none]) x120_35 rfl rfl (e_il x120_37 rfl (e_ic x120_39 (e_eq x120_40 (fun c8 => ?_) (fun c8 => ?_))))))))))))))))))))))))))))))))))))))))))))))))))
      · replace H := H.1 c8
        exact H
      · replace H := H.2 c8
        refine e_il x120_43 rfl (e_i2l x120_45 (e_lc x120_46 (e_il x120_47 rfl (e_ic x120_48 (e_ii (v := ((sS S 3 (a1.toNatClampNeg)) - 1)) x120_49 rfl (e_i2l x120_50 (e_cS (l0 := [some (.long ((sS S 18 (((((((2 * a1) + ((sS S 2 (a1.toNatClampNeg)) - (sS S 2 (a1.toNatClampNeg)) / 2 * 2)) * 30) + (sS S 3 (a1.toNatClampNeg))) * 10) + (((sS S 2 (a1.toNatClampNeg)) + (sS S 3 (a1.toNatClampNeg))) - ((sS S 2 (a1.toNatClampNeg)) + (sS S 3 (a1.toNatClampNeg))) / (sS S 0 1) * (sS S 0 1))).toNatClampNeg)).toInt64)), none, some (.long 0), none, some (.long (((sS S 3 (a1.toNatClampNeg)) - 1).toInt64)), none]) x120_51 rfl rfl rfl rfl rfl (e_llo x97_0 rfl (e_llo x97_1 rfl (e_lcmp x97_2 (e_lt0 x97_3 (fun c9 => ?_) (fun c9 => ?_))))))))))))
        · replace H := H.1 c9
          refine e_ic x97_17 (e_rz x97_18 (by decide) (e_eq0 x120_54 (fun _ => ?_) (fun z9 => absurd (by decide) z9)))
          exact H
        · replace H := H.2 c9
          refine e_llo x97_6 rfl (e_llo x97_7 rfl (e_lcmp x97_9 (e_gt0 x97_10 (fun c10 => ?_) (fun c10 => ?_))))
          · replace H := H.1 c10
            refine e_ic x97_17 (e_rz x97_18 (by decide) (e_eq0 x120_54 (fun _ => ?_) (fun z9 => absurd (by decide) z9)))
            exact H
          · replace H := H.2 c10
            refine e_ic x97_13 (e_goto x97_14 (e_rz x97_18 (by decide) (e_eq0 x120_54 (fun z9 => absurd z9 (by decide)) (fun _ => ?_))))
            refine e_al x120_57 rfl (e_al x120_58 rfl (e_il x120_59 rfl (e_il x120_60 rfl (e_ic x120_62 (e_il x120_63 rfl (e_cV (l0 := [some (.ref (aS E 0)), some (.int a1), some (.int (sS S 18 (((((((2 * a1) + ((sS S 2 (a1.toNatClampNeg)) - (sS S 2 (a1.toNatClampNeg)) / 2 * 2)) * 30) + (sS S 3 (a1.toNatClampNeg))) * 10) + (((sS S 2 (a1.toNatClampNeg)) + (sS S 3 (a1.toNatClampNeg))) - ((sS S 2 (a1.toNatClampNeg)) + (sS S 3 (a1.toNatClampNeg))) / (sS S 0 1) * (sS S 0 1))).toNatClampNeg))), some (.int 1), some (.int (sS S 17 (((((((((2 * a1) + ((sS S 2 (a1.toNatClampNeg)) - (sS S 2 (a1.toNatClampNeg)) / 2 * 2)) * 30) + (sS S 3 (a1.toNatClampNeg))) * 10) + (((sS S 2 (a1.toNatClampNeg)) + (sS S 3 (a1.toNatClampNeg))) - ((sS S 2 (a1.toNatClampNeg)) + (sS S 3 (a1.toNatClampNeg))) / (sS S 0 1) * (sS S 0 1))) * 3) + 0).toNatClampNeg))), none, none, none, none]) x120_64 rfl rfl rfl rfl rfl (fun h hh => hh.tS (by decide)) (ES.mono H ?_)))))))
            rintro _ S11 ⟨x12, rfl, H⟩
            refine e_al x120_67 rfl (e_PS x120_68 rfl (e_il x120_71 rfl (e_iaS x120_72 (by decide) rfl c1 (e_cV (l0 := [some (.ref (aS E 0)), some (.long x12), none, some (.int (sS S11 2 (a1.toNatClampNeg)))]) x120_73 rfl rfl rfl rfl rfl (fun h hh => hh.tS (by decide)) (ES.mono H ?_)))))
            rintro _ S13 ⟨x14, rfl, H⟩
            refine e_ne0 x120_76 (fun c15 => ?_) (fun c15 => ?_)
            · replace H := H.1 c15
              exact H
            · replace H := H.2 c15
              exact H
    · replace H := H.2 c6
      exact H
  · replace H := H.2 c5
    exact H

-- Model.ruleC(I)Z, from 81
set_option maxRecDepth 8000 in
theorem T120_81 {E : mE} {v1 : Int32} {v2 : Int32} {v3 : Int32} {v4 : Int32} {S : mS} {K : Option Value → mS → Prop}  (H : (¬ v1 < 0 ∧ (v1.toNatClampNeg) < 10) ∧ (((sS S 6 (v1.toNatClampNeg)) < 0 → (ES E 120 127 [some (.ref (aS E 0)), some (.int v1), some (.int v2), some (.int v3), some (.int v4), none] [] S K)) ∧ (¬ (sS S 6 (v1.toNatClampNeg)) < 0 → (((sS S 5 (v1.toNatClampNeg)) = v3 → (ES E 120 127 [some (.ref (aS E 0)), some (.int v1), some (.int v2), some (.int v3), some (.int v4), none] [] S K)) ∧ (¬ (sS S 5 (v1.toNatClampNeg)) = v3 → ((v4 ≤ (-1) → (ES E 120 117 [some (.ref (aS E 0)), some (.int v1), some (.int v2), some (.int v3), some (.int v4), none] [] S K)) ∧ (¬ v4 ≤ (-1) → (((sS S 6 (v1.toNatClampNeg)) ≤ v4 → (ES E 120 127 [some (.ref (aS E 0)), some (.int v1), some (.int v2), some (.int v3), some (.int v4), none] [] S K)) ∧ (¬ (sS S 6 (v1.toNatClampNeg)) ≤ v4 → (ES E 120 117 [some (.ref (aS E 0)), some (.int v1), some (.int v2), some (.int v3), some (.int v4), none] [] S K)))))))))) : ES E 120 81 [some (.ref (aS E 0)), some (.int v1), some (.int v2), some (.int v3), some (.int v4), none] [] S K := by
  have c1 := H.1
  replace H := H.2
  refine e_al x120_81 rfl (e_PS x120_82 rfl (e_il x120_85 rfl (e_iaS x120_86 (by decide) rfl c1 (e_lt0 x120_87 (fun c2 => ?_) (fun c2 => ?_)))))
  · replace H := H.1 c2
    exact H
  · replace H := H.2 c2
    refine e_al x120_90 rfl (e_PS x120_91 rfl (e_il x120_94 rfl (e_iaS x120_95 (by decide) rfl c1 (e_il x120_96 rfl (e_eq x120_97 (fun c3 => ?_) (fun c3 => ?_))))))
    · replace H := H.1 c3
      exact H
    · replace H := H.2 c3
      refine e_il x120_100 rfl (e_ic x120_102 (e_le x120_103 (fun c4 => ?_) (fun c4 => ?_)))
      · replace H := H.1 c4
        exact H
      · replace H := H.2 c4
        refine e_al x120_106 rfl (e_PS x120_107 rfl (e_il x120_110 rfl (e_iaS x120_111 (by decide) rfl c1 (e_il x120_112 rfl (e_le x120_114 (fun c5 => ?_) (fun c5 => ?_))))))
        · replace H := H.1 c5
          exact H
        · replace H := H.2 c5
          exact H

-- Model.ruleC(I)Z, from 79
set_option maxRecDepth 8000 in
theorem T120_79 {E : mE} {v1 : Int32} {v2 : Int32} {v3 : Int32} {v4 : Int32} {S : mS} {K : Option Value → mS → Prop}  (H : K (some (.int 0)) S) : ES E 120 79 [some (.ref (aS E 0)), some (.int v1), some (.int v2), some (.int v3), some (.int v4), none] [] S K := by
  exact e_ic x120_79 (e_rz x120_80 (by decide) H)

-- Model.ruleC(I)Z, from 27
set_option maxRecDepth 8000 in
theorem T120_27 {E : mE} {v1 : Int32} {v2 : Int32} {v3 : Int32} {S : mS} {K : Option Value → mS → Prop}  (H : K (some (.int 0)) S) : ES E 120 27 [some (.ref (aS E 0)), some (.int v1), some (.int v2), some (.int v3), none, none] [] S K := by
  exact e_ic x120_27 (e_rz x120_28 (by decide) H)

-- Model.ruleC(I)Z, from 127
set_option maxRecDepth 8000 in
theorem T120_127 {E : mE} {v1 : Int32} {v2 : Int32} {v3 : Int32} {v4 : Int32} {S : mS} {K : Option Value → mS → Prop}  (H : ES E 101 0 [some (.ref (aS E 0)), some (.int v1), some (.int 1), some (.int v3), some (.int (-9)), none, none, none, none, none, none, none] [] S (fun r S1 => r = none ∧ ((¬ v1 < 0 ∧ (v1.toNatClampNeg) < 10) ∧ (∀ S3, S3 = uS S1 4 (v1.toNatClampNeg) 1 → (K (some (.int 1)) S3))))) : ES E 120 127 [some (.ref (aS E 0)), some (.int v1), some (.int v2), some (.int v3), some (.int v4), none] [] S K := by
  refine e_ic x120_127 (e_goto x120_128 (e_ist (l' := [some (.ref (aS E 0)), some (.int v1), some (.int v2), some (.int v3), some (.int v4), some (.int 1)]) x120_132 rfl rfl (e_al x120_134 rfl (e_il x120_135 rfl (e_ic x120_136 (e_il x120_137 rfl (e_eq0 x120_139 (fun z9 => absurd z9 (by decide)) (fun _ => ?_))))))))
  refine e_il x120_142 rfl (e_goto x120_143 (e_ic x120_147 (e_cV (l0 := [some (.ref (aS E 0)), some (.int v1), some (.int 1), some (.int v3), some (.int (-9)), none, none, none, none, none, none, none]) x120_149 rfl rfl rfl rfl rfl (fun h hh => hh.tS (by decide)) (ES.mono H ?_))))
  rintro _ S1 ⟨rfl, H⟩
  have c2 := H.1
  replace H := H.2
  refine e_al x120_152 rfl (e_PS x120_153 rfl (e_il x120_156 rfl (e_ic x120_157 (e_waS x120_158 (by decide) rfl c2 ?_))))
  let S3 : mS := uS S1 4 (v1.toNatClampNeg) 1
  replace H := H S3 rfl
  show ES _ _ _ _ _ S3 _
  exact e_ic x120_159 (e_rz x120_160 (by decide) H)

-- Model.ruleC(I)Z, from 117
set_option maxRecDepth 8000 in
theorem T120_117 {E : mE} {v1 : Int32} {v2 : Int32} {v3 : Int32} {v4 : Int32} {S : mS} {K : Option Value → mS → Prop}  (H : (¬ v1 < 0 ∧ (v1.toNatClampNeg) < 10) ∧ (((sS S 11 (v1.toNatClampNeg)) = 4 → (ES E 120 127 [some (.ref (aS E 0)), some (.int v1), some (.int v2), some (.int v3), some (.int v4), none] [] S K)) ∧ (¬ (sS S 11 (v1.toNatClampNeg)) = 4 → (ES E 101 0 [some (.ref (aS E 0)), some (.int v1), some (.int 1), some (.int 0), some (.int (-9)), none, none, none, none, none, none, none] [] S (fun r S3 => r = none ∧ (∀ S4, S4 = uS S3 4 (v1.toNatClampNeg) 1 → (K (some (.int 1)) S4))))))) : ES E 120 117 [some (.ref (aS E 0)), some (.int v1), some (.int v2), some (.int v3), some (.int v4), none] [] S K := by
  have c1 := H.1
  replace H := H.2
  refine e_al x120_117 rfl (e_PS x120_118 rfl (e_il x120_121 rfl (e_iaS x120_122 (by decide) rfl c1 (e_ic x120_123 (e_ne x120_124 (fun c2 => ?_) (fun c2 => ?_))))))
  · replace H := H.1 c2
    exact H
  · replace H := H.2 c2
    refine e_ic x120_131 (e_ist (l' := [some (.ref (aS E 0)), some (.int v1), some (.int v2), some (.int v3), some (.int v4), some (.int 0)]) x120_132 rfl rfl (e_al x120_134 rfl (e_il x120_135 rfl (e_ic x120_136 (e_il x120_137 rfl (e_eq0 x120_139 (fun _ => ?_) (fun z9 => absurd (by decide) z9)))))))
    refine e_ic x120_146 (e_ic x120_147 (e_cV (l0 := [some (.ref (aS E 0)), some (.int v1), some (.int 1), some (.int 0), some (.int (-9)), none, none, none, none, none, none, none]) x120_149 rfl rfl rfl rfl rfl (fun h hh => hh.tS (by decide)) (ES.mono H ?_)))
    rintro _ S3 ⟨rfl, H⟩
    refine e_al x120_152 rfl (e_PS x120_153 rfl (e_il x120_156 rfl (e_ic x120_157 (e_waS x120_158 (by decide) rfl c1 ?_))))
    let S4 : mS := uS S3 4 (v1.toNatClampNeg) 1
    replace H := H S4 rfl
    show ES _ _ _ _ _ S4 _
    exact e_ic x120_159 (e_rz x120_160 (by decide) H)

-- Model.ruleD(I)Z, from 0
set_option maxRecDepth 8000 in
theorem T122 {E : mE} {a1 : Int32} {S : mS} {K : Option Value → mS → Prop}  (H : (¬ a1 < 0 ∧ (a1.toNatClampNeg) < 10) ∧ ((¬ (sS S 0 1) = 0) ∧ ((¬ (2 : Int32) = 0) ∧ ((¬ ((((((((2 * a1) + ((sS S 2 (a1.toNatClampNeg)) - (sS S 2 (a1.toNatClampNeg)) / 2 * 2)) * 30) + (sS S 3 (a1.toNatClampNeg))) * 10) + (((sS S 2 (a1.toNatClampNeg)) + (sS S 3 (a1.toNatClampNeg))) - ((sS S 2 (a1.toNatClampNeg)) + (sS S 3 (a1.toNatClampNeg))) / (sS S 0 1) * (sS S 0 1))) * 3) + 0) < 0 ∧ (((((((((2 * a1) + ((sS S 2 (a1.toNatClampNeg)) - (sS S 2 (a1.toNatClampNeg)) / 2 * 2)) * 30) + (sS S 3 (a1.toNatClampNeg))) * 10) + (((sS S 2 (a1.toNatClampNeg)) + (sS S 3 (a1.toNatClampNeg))) - ((sS S 2 (a1.toNatClampNeg)) + (sS S 3 (a1.toNatClampNeg))) / (sS S 0 1) * (sS S 0 1))) * 3) + 0).toNatClampNeg) < 18000) ∧ (((sS S 13 (a1.toNatClampNeg)) = 0 → (((sS S 4 (a1.toNatClampNeg)) = 0 → (K (some (.int 0)) S)) ∧ (¬ (sS S 4 (a1.toNatClampNeg)) = 0 → (((sS S 17 (((((((((2 * a1) + ((sS S 2 (a1.toNatClampNeg)) - (sS S 2 (a1.toNatClampNeg)) / 2 * 2)) * 30) + (sS S 3 (a1.toNatClampNeg))) * 10) + (((sS S 2 (a1.toNatClampNeg)) + (sS S 3 (a1.toNatClampNeg))) - ((sS S 2 (a1.toNatClampNeg)) + (sS S 3 (a1.toNatClampNeg))) / (sS S 0 1) * (sS S 0 1))) * 3) + 0).toNatClampNeg)) < 0 → (K (some (.int 0)) S)) ∧ (¬ (sS S 17 (((((((((2 * a1) + ((sS S 2 (a1.toNatClampNeg)) - (sS S 2 (a1.toNatClampNeg)) / 2 * 2)) * 30) + (sS S 3 (a1.toNatClampNeg))) * 10) + (((sS S 2 (a1.toNatClampNeg)) + (sS S 3 (a1.toNatClampNeg))) - ((sS S 2 (a1.toNatClampNeg)) + (sS S 3 (a1.toNatClampNeg))) / (sS S 0 1) * (sS S 0 1))) * 3) + 0).toNatClampNeg)) < 0 → (ES E 115 0 [some (.ref (aS E 0)), some (.int a1), some (.int (sS S 3 (a1.toNatClampNeg))), some (.int 1), some (.int (sS S 17 (((((((((2 * a1) + ((sS S 2 (a1.toNatClampNeg)) - (sS S 2 (a1.toNatClampNeg)) / 2 * 2)) * 30) + (sS S 3 (a1.toNatClampNeg))) * 10) + (((sS S 2 (a1.toNatClampNeg)) + (sS S 3 (a1.toNatClampNeg))) - ((sS S 2 (a1.toNatClampNeg)) + (sS S 3 (a1.toNatClampNeg))) / (sS S 0 1) * (sS S 0 1))) * 3) + 0).toNatClampNeg))), none, none, none, none] [] S (fun r S8 => ∃ x9 : Int64, r = some (.long x9) ∧ (ES E 116 0 [some (.ref (aS E 0)), some (.long x9), none, some (.int (sS S8 2 (a1.toNatClampNeg)))] [] S8 (fun r S10 => ∃ x11 : Int32, r = some (.int x11) ∧ ((x11 = 0 → (K (some (.int 0)) S10)) ∧ (¬ x11 = 0 → (∀ S13, S13 = uS S10 13 (a1.toNatClampNeg) 1 → (((sS S13 4 (a1.toNatClampNeg)) = 1 → (∀ S15, S15 = uS S13 5 (a1.toNatClampNeg) (sS S 17 (((((((((2 * a1) + ((sS S 2 (a1.toNatClampNeg)) - (sS S 2 (a1.toNatClampNeg)) / 2 * 2)) * 30) + (sS S 3 (a1.toNatClampNeg))) * 10) + (((sS S 2 (a1.toNatClampNeg)) + (sS S 3 (a1.toNatClampNeg))) - ((sS S 2 (a1.toNatClampNeg)) + (sS S 3 (a1.toNatClampNeg))) / (sS S 0 1) * (sS S 0 1))) * 3) + 0).toNatClampNeg)) → (∀ S16, S16 = uS S15 6 (a1.toNatClampNeg) (sS S 3 (a1.toNatClampNeg)) → (ES E 101 0 [some (.ref (aS E 0)), some (.int a1), some (.int 2), some (.int (sS S 17 (((((((((2 * a1) + ((sS S 2 (a1.toNatClampNeg)) - (sS S 2 (a1.toNatClampNeg)) / 2 * 2)) * 30) + (sS S 3 (a1.toNatClampNeg))) * 10) + (((sS S 2 (a1.toNatClampNeg)) + (sS S 3 (a1.toNatClampNeg))) - ((sS S 2 (a1.toNatClampNeg)) + (sS S 3 (a1.toNatClampNeg))) / (sS S 0 1) * (sS S 0 1))) * 3) + 0).toNatClampNeg))), some (.int (-9)), none, none, none, none, none, none, none] [] S16 (fun r S17 => r = none ∧ (∀ S18, S18 = uS S17 4 (a1.toNatClampNeg) 2 → (∀ S19, S19 = uS S18 7 (a1.toNatClampNeg) (sS S 17 (((((((((2 * a1) + ((sS S 2 (a1.toNatClampNeg)) - (sS S 2 (a1.toNatClampNeg)) / 2 * 2)) * 30) + (sS S 3 (a1.toNatClampNeg))) * 10) + (((sS S 2 (a1.toNatClampNeg)) + (sS S 3 (a1.toNatClampNeg))) - ((sS S 2 (a1.toNatClampNeg)) + (sS S 3 (a1.toNatClampNeg))) / (sS S 0 1) * (sS S 0 1))) * 3) + 0).toNatClampNeg)) → (∀ S20, S20 = uS S19 8 (a1.toNatClampNeg) (sS S 3 (a1.toNatClampNeg)) → (K (some (.int 1)) S20))))))))) ∧ (¬ (sS S13 4 (a1.toNatClampNeg)) = 1 → (∀ S21, S21 = uS S13 7 (a1.toNatClampNeg) (sS S 17 (((((((((2 * a1) + ((sS S 2 (a1.toNatClampNeg)) - (sS S 2 (a1.toNatClampNeg)) / 2 * 2)) * 30) + (sS S 3 (a1.toNatClampNeg))) * 10) + (((sS S 2 (a1.toNatClampNeg)) + (sS S 3 (a1.toNatClampNeg))) - ((sS S 2 (a1.toNatClampNeg)) + (sS S 3 (a1.toNatClampNeg))) / (sS S 0 1) * (sS S 0 1))) * 3) + 0).toNatClampNeg)) → (∀ S22, S22 = uS S21 8 (a1.toNatClampNeg) (sS S 3 (a1.toNatClampNeg)) → (K (some (.int 1)) S22))))))))))))))))) ∧ (¬ (sS S 13 (a1.toNatClampNeg)) = 0 → (K (some (.int 0)) S))))))) : ES E 122 0 [some (.ref (aS E 0)), some (.int a1), none, none] [] S K := by
  have c1 := H.1
  have c2 := H.2.1
  have c3 := H.2.2.1
  have c4 := H.2.2.2.1
  replace H := H.2.2.2.2
  refine e_al x122_0 rfl (e_PS x122_1 rfl (e_il x122_4 rfl (e_iaS x122_5 (by decide) rfl c1 (e_ist (l' := [some (.ref (aS E 0)), some (.int a1), some (.int (sS S 3 (a1.toNatClampNeg))), none]) x122_6 rfl rfl (e_al x122_7 rfl (e_il x122_8 rfl (e_il x122_9 rfl (e_cV (l0 := [some (.ref (aS E 0)), some (.int a1), some (.int (sS S 3 (a1.toNatClampNeg)))]) x122_10 rfl rfl rfl rfl rfl (fun h hh => hh.tS (by decide)) (e_al x113_0 rfl (e_il x113_1 rfl (e_il x113_2 rfl (e_al x113_3 rfl (e_al x113_4 rfl (e_PS x113_5 rfl (e_il x113_8 rfl (e_iaS x113_9 (by decide) rfl c1 (e_il x113_10 rfl (e_cV (l0 := [some (.ref (aS E 0)), some (.int (sS S 2 (a1.toNatClampNeg))), some (.int (sS S 3 (a1.toNatClampNeg)))]) x113_11 rfl rfl rfl rfl rfl (fun h hh => hh.tS (by decide)) (e_il x100_0 rfl (e_il x100_1 rfl (e_ii (v := ((sS S 2 (a1.toNatClampNeg)) + (sS S 3 (a1.toNatClampNeg)))) x100_2 rfl (e_al x100_3 rfl (e_gS x100_4 (by decide) rfl (e_rem x100_7 c2 (e_ri x100_8 (e_ic x113_14 (e_cV (l0 := [some (.ref (aS E 0)), some (.int a1), some (.int (sS S 3 (a1.toNatClampNeg))), some (.int (((sS S 2 (a1.toNatClampNeg)) + (sS S 3 (a1.toNatClampNeg))) - ((sS S 2 (a1.toNatClampNeg)) + (sS S 3 (a1.toNatClampNeg))) / (sS S 0 1) * (sS S 0 1))), some (.int 0)]) x113_15 rfl rfl rfl rfl rfl (fun h hh => hh.tS (by decide)) (e_al x114_0 rfl (e_PS x114_1 rfl (e_al x114_4 rfl (e_il x114_5 rfl (e_al x114_6 rfl (e_PS x114_7 rfl (e_il x114_10 rfl (e_iaS x114_11 (by decide) rfl c1 (e_il x114_12 rfl (e_il x114_13 rfl (e_il x114_14 rfl (e_cV (l0 := [some (.ref (aS E 0)), some (.int a1), some (.int (sS S 2 (a1.toNatClampNeg))), some (.int (sS S 3 (a1.toNatClampNeg))), some (.int (((sS S 2 (a1.toNatClampNeg)) + (sS S 3 (a1.toNatClampNeg))) - ((sS S 2 (a1.toNatClampNeg)) + (sS S 3 (a1.toNatClampNeg))) / (sS S 0 1) * (sS S 0 1))), some (.int 0)]) x114_16 rfl rfl rfl rfl rfl (fun h hh => hh.tS (by decide)) (e_ic x93_0 (e_il x93_1 rfl (e_ii (v := (2 * a1)) x93_2 rfl (e_il x93_3 rfl (e_ic x93_4 (e_rem x93_5 c3 (e_ii (v := ((2 * a1) + ((sS S 2 (a1.toNatClampNeg)) - (sS S 2 (a1.toNatClampNeg)) / 2 * 2))) x93_6 rfl (e_ic x93_7 (e_ii (v := (((2 * a1) + ((sS S 2 (a1.toNatClampNeg)) - (sS S 2 (a1.toNatClampNeg)) / 2 * 2)) * 30)) x93_9 rfl (e_il x93_10 rfl (e_ii (v := ((((2 * a1) + ((sS S 2 (a1.toNatClampNeg)) - (sS S 2 (a1.toNatClampNeg)) / 2 * 2)) * 30) + (sS S 3 (a1.toNatClampNeg)))) x93_11 rfl (e_ic x93_12 (e_ii (v := (((((2 * a1) + ((sS S 2 (a1.toNatClampNeg)) - (sS S 2 (a1.toNatClampNeg)) / 2 * 2)) * 30) + (sS S 3 (a1.toNatClampNeg))) * 10)) x93_14 rfl (e_il x93_15 rfl (e_ii (v := ((((((2 * a1) + ((sS S 2 (a1.toNatClampNeg)) - (sS S 2 (a1.toNatClampNeg)) / 2 * 2)) * 30) + (sS S 3 (a1.toNatClampNeg))) * 10) + (((sS S 2 (a1.toNatClampNeg)) + (sS S 3 (a1.toNatClampNeg))) - ((sS S 2 (a1.toNatClampNeg)) + (sS S 3 (a1.toNatClampNeg))) / (sS S 0 1) * (sS S 0 1)))) x93_17 rfl (e_ic x93_18 (e_ii (v := (((((((2 * a1) + ((sS S 2 (a1.toNatClampNeg)) - (sS S 2 (a1.toNatClampNeg)) / 2 * 2)) * 30) + (sS S 3 (a1.toNatClampNeg))) * 10) + (((sS S 2 (a1.toNatClampNeg)) + (sS S 3 (a1.toNatClampNeg))) - ((sS S 2 (a1.toNatClampNeg)) + (sS S 3 (a1.toNatClampNeg))) / (sS S 0 1) * (sS S 0 1))) * 3)) x93_19 rfl (e_il x93_20 rfl (e_ii (v := ((((((((2 * a1) + ((sS S 2 (a1.toNatClampNeg)) - (sS S 2 (a1.toNatClampNeg)) / 2 * 2)) * 30) + (sS S 3 (a1.toNatClampNeg))) * 10) + (((sS S 2 (a1.toNatClampNeg)) + (sS S 3 (a1.toNatClampNeg))) - ((sS S 2 (a1.toNatClampNeg)) + (sS S 3 (a1.toNatClampNeg))) / (sS S 0 1) * (sS S 0 1))) * 3) + 0)) x93_22 rfl (e_ri x93_23 (e_iaS x114_19 (by decide) rfl c4 (e_ri x114_20 (e_ri x113_18 (e_ist (l' := [some (.ref (aS E 0)), some (.int a1), some (.int (sS S 3 (a1.toNatClampNeg))), some (.int (sS S 17 (((((((((2 * a1) + ((sS S 2 (a1.toNatClampNeg)) - (sS S 2 (a1.toNatClampNeg)) / 2 * 2)) * 30) + (sS S 3 (a1.toNatClampNeg))) * 10) + (((sS S 2 (a1.toNatClampNeg)) + (sS S 3 (a1.toNatClampNeg))) - ((sS S 2 (a1.toNatClampNeg)) + (sS S 3 (a1.toNatClampNeg))) / (sS S 0 1) * (sS S 0 1))) * 3) + 0).toNatClampNeg)))]) x122_13 rfl rfl (e_al x122_14 rfl (e_PS x122_15 rfl (e_il x122_18 rfl (e_baS x122_19 (by decide) rfl c1 (e_ne0 x122_20 (fun c5 => ?_) (fun c5 => ?_)))))))))))))))))))))))))))))))))))))))))))))))))))))))))))))))))))))
  · replace H := H.1 c5
    refine e_al x122_23 rfl (e_PS x122_24 rfl (e_il x122_27 rfl (e_iaS x122_28 (by decide) rfl c1 (e_eq0 x122_29 (fun c6 => ?_) (fun c6 => ?_)))))
    · replace H := H.1 c6
      exact e_ic x122_57 (e_rz x122_58 (by decide) H)
    · replace H := H.2 c6
      refine e_il x122_32 rfl (e_lt0 x122_33 (fun c7 => ?_) (fun c7 => ?_))
      · replace H := H.1 c7
        exact e_ic x122_57 (e_rz x122_58 (by decide) H)
      · replace H := H.2 c7
        refine e_al x122_36 rfl (e_al x122_37 rfl (e_il x122_38 rfl (e_il x122_39 rfl (e_ic x122_40 (e_il x122_41 rfl (e_cV (l0 := [some (.ref (aS E 0)), some (.int a1), some (.int (sS S 3 (a1.toNatClampNeg))), some (.int 1), some (.int (sS S 17 (((((((((2 * a1) + ((sS S 2 (a1.toNatClampNeg)) - (sS S 2 (a1.toNatClampNeg)) / 2 * 2)) * 30) + (sS S 3 (a1.toNatClampNeg))) * 10) + (((sS S 2 (a1.toNatClampNeg)) + (sS S 3 (a1.toNatClampNeg))) - ((sS S 2 (a1.toNatClampNeg)) + (sS S 3 (a1.toNatClampNeg))) / (sS S 0 1) * (sS S 0 1))) * 3) + 0).toNatClampNeg))), none, none, none, none]) x122_42 rfl rfl rfl rfl rfl (fun h hh => hh.tS (by decide)) (ES.mono H ?_)))))))
        rintro _ S8 ⟨x9, rfl, H⟩
        refine e_al x122_45 rfl (e_PS x122_46 rfl (e_il x122_49 rfl (e_iaS x122_50 (by decide) rfl c1 (e_cV (l0 := [some (.ref (aS E 0)), some (.long x9), none, some (.int (sS S8 2 (a1.toNatClampNeg)))]) x122_51 rfl rfl rfl rfl rfl (fun h hh => hh.tS (by decide)) (ES.mono H ?_)))))
        rintro _ S10 ⟨x11, rfl, H⟩
        refine e_ne0 x122_54 (fun c12 => ?_) (fun c12 => ?_)
        · replace H := H.1 c12
          exact e_ic x122_57 (e_rz x122_58 (by decide) H)
        · replace H := H.2 c12
          refine e_al x122_59 rfl (e_PS x122_60 rfl (e_il x122_63 rfl (e_ic x122_64 (e_wzS x122_65 (by decide) rfl (by decide) c1 ?_))))
          let S13 : mS := uS S10 13 (a1.toNatClampNeg) 1
          replace H := H S13 rfl
          show ES _ _ _ _ _ S13 _
          refine e_al x122_66 rfl (e_PS x122_67 rfl (e_il x122_70 rfl (e_iaS x122_71 (by decide) rfl c1 (e_ic x122_72 (e_ne x122_73 (fun c14 => ?_) (fun c14 => ?_))))))
          · replace H := H.1 c14
            refine e_al x122_76 rfl (e_PS x122_77 rfl (e_il x122_80 rfl (e_il x122_81 rfl (e_waS x122_82 (by decide) rfl c1 ?_))))
            let S15 : mS := uS S13 5 (a1.toNatClampNeg) (sS S 17 (((((((((2 * a1) + ((sS S 2 (a1.toNatClampNeg)) - (sS S 2 (a1.toNatClampNeg)) / 2 * 2)) * 30) + (sS S 3 (a1.toNatClampNeg))) * 10) + (((sS S 2 (a1.toNatClampNeg)) + (sS S 3 (a1.toNatClampNeg))) - ((sS S 2 (a1.toNatClampNeg)) + (sS S 3 (a1.toNatClampNeg))) / (sS S 0 1) * (sS S 0 1))) * 3) + 0).toNatClampNeg))
            replace H := H S15 rfl
            show ES _ _ _ _ _ S15 _
            refine e_al x122_83 rfl (e_PS x122_84 rfl (e_il x122_87 rfl (e_il x122_88 rfl (e_waS x122_89 (by decide) rfl c1 ?_))))
            let S16 : mS := uS S15 6 (a1.toNatClampNeg) (sS S 3 (a1.toNatClampNeg))
            replace H := H S16 rfl
            show ES _ _ _ _ _ S16 _
            refine e_al x122_90 rfl (e_il x122_91 rfl (e_ic x122_92 (e_il x122_93 rfl (e_ic x122_94 (e_cV (l0 := [some (.ref (aS E 0)), some (.int a1), some (.int 2), some (.int (sS S 17 (((((((((2 * a1) + ((sS S 2 (a1.toNatClampNeg)) - (sS S 2 (a1.toNatClampNeg)) / 2 * 2)) * 30) + (sS S 3 (a1.toNatClampNeg))) * 10) + (((sS S 2 (a1.toNatClampNeg)) + (sS S 3 (a1.toNatClampNeg))) - ((sS S 2 (a1.toNatClampNeg)) + (sS S 3 (a1.toNatClampNeg))) / (sS S 0 1) * (sS S 0 1))) * 3) + 0).toNatClampNeg))), some (.int (-9)), none, none, none, none, none, none, none]) x122_96 rfl rfl rfl rfl rfl (fun h hh => hh.tS (by decide)) (ES.mono H ?_))))))
            rintro _ S17 ⟨rfl, H⟩
            refine e_al x122_99 rfl (e_PS x122_100 rfl (e_il x122_103 rfl (e_ic x122_104 (e_waS x122_105 (by decide) rfl c1 ?_))))
            let S18 : mS := uS S17 4 (a1.toNatClampNeg) 2
            replace H := H S18 rfl
            show ES _ _ _ _ _ S18 _
            refine e_al x122_106 rfl (e_PS x122_107 rfl (e_il x122_110 rfl (e_il x122_111 rfl (e_waS x122_112 (by decide) rfl c1 ?_))))
            let S19 : mS := uS S18 7 (a1.toNatClampNeg) (sS S 17 (((((((((2 * a1) + ((sS S 2 (a1.toNatClampNeg)) - (sS S 2 (a1.toNatClampNeg)) / 2 * 2)) * 30) + (sS S 3 (a1.toNatClampNeg))) * 10) + (((sS S 2 (a1.toNatClampNeg)) + (sS S 3 (a1.toNatClampNeg))) - ((sS S 2 (a1.toNatClampNeg)) + (sS S 3 (a1.toNatClampNeg))) / (sS S 0 1) * (sS S 0 1))) * 3) + 0).toNatClampNeg))
            replace H := H S19 rfl
            show ES _ _ _ _ _ S19 _
            refine e_al x122_113 rfl (e_PS x122_114 rfl (e_il x122_117 rfl (e_il x122_118 rfl (e_waS x122_119 (by decide) rfl c1 ?_))))
            let S20 : mS := uS S19 8 (a1.toNatClampNeg) (sS S 3 (a1.toNatClampNeg))
            replace H := H S20 rfl
            show ES _ _ _ _ _ S20 _
            exact e_ic x122_120 (e_rz x122_121 (by decide) H)
          · replace H := H.2 c14
            refine e_al x122_106 rfl (e_PS x122_107 rfl (e_il x122_110 rfl (e_il x122_111 rfl (e_waS x122_112 (by decide) rfl c1 ?_))))
            let S21 : mS := uS S13 7 (a1.toNatClampNeg) (sS S 17 (((((((((2 * a1) + ((sS S 2 (a1.toNatClampNeg)) - (sS S 2 (a1.toNatClampNeg)) / 2 * 2)) * 30) + (sS S 3 (a1.toNatClampNeg))) * 10) + (((sS S 2 (a1.toNatClampNeg)) + (sS S 3 (a1.toNatClampNeg))) - ((sS S 2 (a1.toNatClampNeg)) + (sS S 3 (a1.toNatClampNeg))) / (sS S 0 1) * (sS S 0 1))) * 3) + 0).toNatClampNeg))
            replace H := H S21 rfl
            show ES _ _ _ _ _ S21 _
            refine e_al x122_113 rfl (e_PS x122_114 rfl (e_il x122_117 rfl (e_il x122_118 rfl (e_waS x122_119 (by decide) rfl c1 ?_))))
            let S22 : mS := uS S21 8 (a1.toNatClampNeg) (sS S 3 (a1.toNatClampNeg))
            replace H := H S22 rfl
            show ES _ _ _ _ _ S22 _
            exact e_ic x122_120 (e_rz x122_121 (by decide) H)
  · replace H := H.2 c5
    exact e_ic x122_57 (e_rz x122_58 (by decide) H)

-- Model.ruleE(I)Z, from 0
set_option maxRecDepth 8000 in
theorem T123 {E : mE} {a1 : Int32} {S : mS} {K : Option Value → mS → Prop}  (H : (¬ a1 < 0 ∧ (a1.toNatClampNeg) < 10) ∧ (((sS S 4 (a1.toNatClampNeg)) = 1 → (ES E 115 0 [some (.ref (aS E 0)), some (.int a1), some (.int (sS S 3 (a1.toNatClampNeg))), some (.int 1), some (.int 0), none, none, none, none] [] S (fun r S3 => ∃ x4 : Int64, r = some (.long x4) ∧ (ES E 116 0 [some (.ref (aS E 0)), some (.long x4), none, some (.int (sS S3 2 (a1.toNatClampNeg)))] [] S3 (fun r S5 => ∃ x6 : Int32, r = some (.int x6) ∧ ((x6 = 0 → (K (some (.int 0)) S5)) ∧ (¬ x6 = 0 → (ES E 101 0 [some (.ref (aS E 0)), some (.int a1), some (.int 2), some (.int 0), some (.int (-9)), none, none, none, none, none, none, none] [] S5 (fun r S8 => r = none ∧ (∀ S9, S9 = uS S8 4 (a1.toNatClampNeg) 2 → (K (some (.int 1)) S9))))))))))) ∧ (¬ (sS S 4 (a1.toNatClampNeg)) = 1 → (K (some (.int 0)) S)))) : ES E 123 0 [some (.ref (aS E 0)), some (.int a1)] [] S K := by
  have c1 := H.1
  replace H := H.2
  refine e_al x123_0 rfl (e_PS x123_1 rfl (e_il x123_4 rfl (e_iaS x123_5 (by decide) rfl c1 (e_ic x123_6 (e_ne x123_7 (fun c2 => ?_) (fun c2 => ?_))))))
  · replace H := H.1 c2
    refine e_al x123_10 rfl (e_al x123_11 rfl (e_il x123_12 rfl (e_al x123_13 rfl (e_PS x123_14 rfl (e_il x123_17 rfl (e_iaS x123_18 (by decide) rfl c1 (e_ic x123_19 (e_ic x123_20 (e_cV (l0 := [some (.ref (aS E 0)), some (.int a1), some (.int (sS S 3 (a1.toNatClampNeg))), some (.int 1), some (.int 0), none, none, none, none]) x123_21 rfl rfl rfl rfl rfl (fun h hh => hh.tS (by decide)) (ES.mono H ?_))))))))))
    rintro _ S3 ⟨x4, rfl, H⟩
    refine e_al x123_24 rfl (e_PS x123_25 rfl (e_il x123_28 rfl (e_iaS x123_29 (by decide) rfl c1 (e_cV (l0 := [some (.ref (aS E 0)), some (.long x4), none, some (.int (sS S3 2 (a1.toNatClampNeg)))]) x123_30 rfl rfl rfl rfl rfl (fun h hh => hh.tS (by decide)) (ES.mono H ?_)))))
    rintro _ S5 ⟨x6, rfl, H⟩
    refine e_ne0 x123_33 (fun c7 => ?_) (fun c7 => ?_)
    · replace H := H.1 c7
      exact e_ic x123_36 (e_rz x123_37 (by decide) H)
    · replace H := H.2 c7
      refine e_al x123_38 rfl (e_il x123_39 rfl (e_ic x123_40 (e_ic x123_41 (e_ic x123_42 (e_cV (l0 := [some (.ref (aS E 0)), some (.int a1), some (.int 2), some (.int 0), some (.int (-9)), none, none, none, none, none, none, none]) x123_44 rfl rfl rfl rfl rfl (fun h hh => hh.tS (by decide)) (ES.mono H ?_))))))
      rintro _ S8 ⟨rfl, H⟩
      refine e_al x123_47 rfl (e_PS x123_48 rfl (e_il x123_51 rfl (e_ic x123_52 (e_waS x123_53 (by decide) rfl c1 ?_))))
      let S9 : mS := uS S8 4 (a1.toNatClampNeg) 2
      replace H := H S9 rfl
      show ES _ _ _ _ _ S9 _
      exact e_ic x123_54 (e_rz x123_55 (by decide) H)
  · replace H := H.2 c2
    exact e_ic x123_36 (e_rz x123_37 (by decide) H)

-- Model.ruleF(I)Z, from 0
set_option maxRecDepth 8000 in
theorem T124 {E : mE} {a1 : Int32} {S : mS} {K : Option Value → mS → Prop}  (H : (¬ a1 < 0 ∧ (a1.toNatClampNeg) < 10) ∧ (((sS S 14 (a1.toNatClampNeg)) = 0 → (((sS S 4 (a1.toNatClampNeg)) = 1 → (ES E 115 0 [some (.ref (aS E 0)), some (.int a1), some (.int (sS S 3 (a1.toNatClampNeg))), some (.int 1), some (.int (-1)), none, none, none, none] [] S (fun r S4 => ∃ x5 : Int64, r = some (.long x5) ∧ (ES E 116 0 [some (.ref (aS E 0)), some (.long x5), none, some (.int (sS S4 2 (a1.toNatClampNeg)))] [] S4 (fun r S6 => ∃ x7 : Int32, r = some (.int x7) ∧ ((x7 = 0 → (K (some (.int 0)) S6)) ∧ (¬ x7 = 0 → (∀ S9, S9 = uS S6 14 (a1.toNatClampNeg) 1 → ((¬ ((3 * a1) + 1) < 0 ∧ (((3 * a1) + 1).toNatClampNeg) < 30) ∧ (∀ S11, S11 = uS S9 12 (((3 * a1) + 1).toNatClampNeg) (((sS S9 0 3) + 3) + (sS S9 3 (a1.toNatClampNeg))) → (K (some (.int 1)) S11))))))))))) ∧ (¬ (sS S 4 (a1.toNatClampNeg)) = 1 → (K (some (.int 0)) S)))) ∧ (¬ (sS S 14 (a1.toNatClampNeg)) = 0 → (K (some (.int 0)) S)))) : ES E 124 0 [some (.ref (aS E 0)), some (.int a1)] [] S K := by
  have c1 := H.1
  replace H := H.2
  refine e_al x124_0 rfl (e_PS x124_1 rfl (e_il x124_4 rfl (e_baS x124_5 (by decide) rfl c1 (e_ne0 x124_6 (fun c2 => ?_) (fun c2 => ?_)))))
  · replace H := H.1 c2
    refine e_al x124_9 rfl (e_PS x124_10 rfl (e_il x124_13 rfl (e_iaS x124_14 (by decide) rfl c1 (e_ic x124_15 (e_ne x124_16 (fun c3 => ?_) (fun c3 => ?_))))))
    · replace H := H.1 c3
      refine e_al x124_19 rfl (e_al x124_20 rfl (e_il x124_21 rfl (e_al x124_22 rfl (e_PS x124_23 rfl (e_il x124_26 rfl (e_iaS x124_27 (by decide) rfl c1 (e_ic x124_28 (e_ic x124_29 (e_cV (l0 := [some (.ref (aS E 0)), some (.int a1), some (.int (sS S 3 (a1.toNatClampNeg))), some (.int 1), some (.int (-1)), none, none, none, none]) x124_30 rfl rfl rfl rfl rfl (fun h hh => hh.tS (by decide)) (ES.mono H ?_))))))))))
      rintro _ S4 ⟨x5, rfl, H⟩
      refine e_al x124_33 rfl (e_PS x124_34 rfl (e_il x124_37 rfl (e_iaS x124_38 (by decide) rfl c1 (e_cV (l0 := [some (.ref (aS E 0)), some (.long x5), none, some (.int (sS S4 2 (a1.toNatClampNeg)))]) x124_39 rfl rfl rfl rfl rfl (fun h hh => hh.tS (by decide)) (ES.mono H ?_)))))
      rintro _ S6 ⟨x7, rfl, H⟩
      refine e_ne0 x124_42 (fun c8 => ?_) (fun c8 => ?_)
      · replace H := H.1 c8
        exact e_ic x124_45 (e_rz x124_46 (by decide) H)
      · replace H := H.2 c8
        refine e_al x124_47 rfl (e_PS x124_48 rfl (e_il x124_51 rfl (e_ic x124_52 (e_wzS x124_53 (by decide) rfl (by decide) c1 ?_))))
        let S9 : mS := uS S6 14 (a1.toNatClampNeg) 1
        replace H := H S9 rfl
        show ES _ _ _ _ _ S9 _
        have c10 := H.1
        replace H := H.2
        refine e_al x124_54 rfl (e_PS x124_55 rfl (e_ic x124_58 (e_il x124_59 rfl (e_ii (v := (3 * a1)) x124_60 rfl (e_ic x124_61 (e_ii (v := ((3 * a1) + 1)) x124_62 rfl (e_al x124_63 rfl (e_gS x124_64 (by decide) rfl (e_ic x124_67 (e_ii (v := ((sS S9 0 3) + 3)) x124_68 rfl (e_al x124_69 rfl (e_PS x124_70 rfl (e_il x124_73 rfl (e_iaS x124_74 (by decide) rfl c1 (e_ii (v := (((sS S9 0 3) + 3) + (sS S9 3 (a1.toNatClampNeg)))) x124_75 rfl (e_waS x124_76 (by decide) rfl c10 ?_))))))))))))))))
        let S11 : mS := uS S9 12 (((3 * a1) + 1).toNatClampNeg) (((sS S9 0 3) + 3) + (sS S9 3 (a1.toNatClampNeg)))
        replace H := H S11 rfl
        show ES _ _ _ _ _ S11 _
        exact e_ic x124_77 (e_rz x124_78 (by decide) H)
    · replace H := H.2 c3
      exact e_ic x124_45 (e_rz x124_46 (by decide) H)
  · replace H := H.2 c2
    exact e_ic x124_45 (e_rz x124_46 (by decide) H)

-- Model.ruleG(I)Z, from 0
set_option maxRecDepth 8000 in
theorem T125 {E : mE} {a1 : Int32} {S : mS} {K : Option Value → mS → Prop}  (H : (¬ a1 < 0 ∧ (a1.toNatClampNeg) < 10) ∧ (((sS S 15 (a1.toNatClampNeg)) = 0 → (ES E 115 0 [some (.ref (aS E 0)), some (.int a1), some (.int (sS S 3 (a1.toNatClampNeg))), some (.int 2), some (.int (-1)), none, none, none, none] [] S (fun r S3 => ∃ x4 : Int64, r = some (.long x4) ∧ (ES E 116 0 [some (.ref (aS E 0)), some (.long x4), none, some (.int (sS S3 2 (a1.toNatClampNeg)))] [] S3 (fun r S5 => ∃ x6 : Int32, r = some (.int x6) ∧ ((x6 = 0 → (K (some (.int 0)) S5)) ∧ (¬ x6 = 0 → (∀ S8, S8 = uS S5 15 (a1.toNatClampNeg) 1 → ((¬ ((3 * a1) + 2) < 0 ∧ (((3 * a1) + 2).toNatClampNeg) < 30) ∧ (∀ S10, S10 = uS S8 12 (((3 * a1) + 2).toNatClampNeg) (((sS S8 0 3) + 3) + (sS S8 3 (a1.toNatClampNeg))) → (K (some (.int 1)) S10))))))))))) ∧ (¬ (sS S 15 (a1.toNatClampNeg)) = 0 → (K (some (.int 0)) S)))) : ES E 125 0 [some (.ref (aS E 0)), some (.int a1)] [] S K := by
  have c1 := H.1
  replace H := H.2
  refine e_al x125_0 rfl (e_PS x125_1 rfl (e_il x125_4 rfl (e_baS x125_5 (by decide) rfl c1 (e_ne0 x125_6 (fun c2 => ?_) (fun c2 => ?_)))))
  · replace H := H.1 c2
    refine e_al x125_9 rfl (e_al x125_10 rfl (e_il x125_11 rfl (e_al x125_12 rfl (e_PS x125_13 rfl (e_il x125_16 rfl (e_iaS x125_17 (by decide) rfl c1 (e_ic x125_18 (e_ic x125_19 (e_cV (l0 := [some (.ref (aS E 0)), some (.int a1), some (.int (sS S 3 (a1.toNatClampNeg))), some (.int 2), some (.int (-1)), none, none, none, none]) x125_20 rfl rfl rfl rfl rfl (fun h hh => hh.tS (by decide)) (ES.mono H ?_))))))))))
    rintro _ S3 ⟨x4, rfl, H⟩
    refine e_al x125_23 rfl (e_PS x125_24 rfl (e_il x125_27 rfl (e_iaS x125_28 (by decide) rfl c1 (e_cV (l0 := [some (.ref (aS E 0)), some (.long x4), none, some (.int (sS S3 2 (a1.toNatClampNeg)))]) x125_29 rfl rfl rfl rfl rfl (fun h hh => hh.tS (by decide)) (ES.mono H ?_)))))
    rintro _ S5 ⟨x6, rfl, H⟩
    refine e_ne0 x125_32 (fun c7 => ?_) (fun c7 => ?_)
    · replace H := H.1 c7
      exact e_ic x125_35 (e_rz x125_36 (by decide) H)
    · replace H := H.2 c7
      refine e_al x125_37 rfl (e_PS x125_38 rfl (e_il x125_41 rfl (e_ic x125_42 (e_wzS x125_43 (by decide) rfl (by decide) c1 ?_))))
      let S8 : mS := uS S5 15 (a1.toNatClampNeg) 1
      replace H := H S8 rfl
      show ES _ _ _ _ _ S8 _
      have c9 := H.1
      replace H := H.2
      refine e_al x125_44 rfl (e_PS x125_45 rfl (e_ic x125_48 (e_il x125_49 rfl (e_ii (v := (3 * a1)) x125_50 rfl (e_ic x125_51 (e_ii (v := ((3 * a1) + 2)) x125_52 rfl (e_al x125_53 rfl (e_gS x125_54 (by decide) rfl (e_ic x125_57 (e_ii (v := ((sS S8 0 3) + 3)) x125_58 rfl (e_al x125_59 rfl (e_PS x125_60 rfl (e_il x125_63 rfl (e_iaS x125_64 (by decide) rfl c1 (e_ii (v := (((sS S8 0 3) + 3) + (sS S8 3 (a1.toNatClampNeg)))) x125_65 rfl (e_waS x125_66 (by decide) rfl c9 ?_))))))))))))))))
      let S10 : mS := uS S8 12 (((3 * a1) + 2).toNatClampNeg) (((sS S8 0 3) + 3) + (sS S8 3 (a1.toNatClampNeg)))
      replace H := H S10 rfl
      show ES _ _ _ _ _ S10 _
      exact e_ic x125_67 (e_rz x125_68 (by decide) H)
  · replace H := H.2 c2
    exact e_ic x125_35 (e_rz x125_36 (by decide) H)

-- Model.comeBack(I)V, from 0
set_option maxRecDepth 8000 in
theorem T126 {E : mE} {a1 : Int32} {S : mS} {K : Option Value → mS → Prop}  (H : (¬ a1 < 0 ∧ (a1.toNatClampNeg) < 10) ∧ (∀ S2, S2 = uS S 10 (a1.toNatClampNeg) 0 → (ES E 92 0 [some (.ref (aS E 0)), some (.int a1), some (.int 0), none, none, none] [] S2 (fun r S3 => r = none ∧ (ES E 92 0 [some (.ref (aS E 0)), some (.int a1), some (.int 1), none, none, none] [] S3 (fun r S4 => r = none ∧ (((sS S4 2 (a1.toNatClampNeg)) ≤ 40 → (ES E 126 33 [some (.ref (aS E 0)), some (.int a1), some (.int 0), none, none] [] S4 K)) ∧ (¬ (sS S4 2 (a1.toNatClampNeg)) ≤ 40 → (K none S4))))))))) : ES E 126 0 [some (.ref (aS E 0)), some (.int a1), none, none, none] [] S K := by
  have c1 := H.1
  replace H := H.2
  refine e_al x126_0 rfl (e_PS x126_1 rfl (e_il x126_4 rfl (e_ic x126_5 (e_wzS x126_6 (by decide) rfl (by decide) c1 ?_))))
  let S2 : mS := uS S 10 (a1.toNatClampNeg) 0
  replace H := H S2 rfl
  show ES _ _ _ _ _ S2 _
  refine e_al x126_7 rfl (e_il x126_8 rfl (e_ic x126_9 (e_cV (l0 := [some (.ref (aS E 0)), some (.int a1), some (.int 0), none, none, none]) x126_10 rfl rfl rfl rfl rfl (fun h hh => hh.tS (by decide)) (ES.mono H ?_))))
  rintro _ S3 ⟨rfl, H⟩
  refine e_al x126_13 rfl (e_il x126_14 rfl (e_ic x126_15 (e_cV (l0 := [some (.ref (aS E 0)), some (.int a1), some (.int 1), none, none, none]) x126_16 rfl rfl rfl rfl rfl (fun h hh => hh.tS (by decide)) (ES.mono H ?_))))
  rintro _ S4 ⟨rfl, H⟩
  refine e_al x126_19 rfl (e_PS x126_20 rfl (e_il x126_23 rfl (e_iaS x126_24 (by decide) rfl c1 (e_ic x126_25 (e_le x126_27 (fun c5 => ?_) (fun c5 => ?_))))))
  · replace H := H.1 c5
    exact e_ic x126_31 (e_ist (l' := [some (.ref (aS E 0)), some (.int a1), some (.int 0), none, none]) x126_32 rfl rfl (H))
  · replace H := H.2 c5
    exact e_rv x126_30 H

-- Model.comeBack(I)V, from 33
set_option maxRecDepth 8000 in
theorem T126_33 {E : mE} {v1 : Int32} {v2 : Int32} {S : mS} {K : Option Value → mS → Prop}  (H : ((30 : Int32) ≤ v2 → ((¬ v1 < 0 ∧ (v1.toNatClampNeg) < 10) ∧ (ES E 99 0 [some (.ref (aS E 0)), some (.int v1), some (.int (sS S 3 (v1.toNatClampNeg))), none] [] S (fun r S3 => r = none ∧ (ES E 111 0 [some (.ref (aS E 0)), some (.int v1), none] [] S3 (fun r S4 => r = none ∧ (K none S4))))))) ∧ (¬ (30 : Int32) ≤ v2 → (ES E 126 41 [some (.ref (aS E 0)), some (.int v1), some (.int v2), some (.int 0), none] [] S K))) : ES E 126 33 [some (.ref (aS E 0)), some (.int v1), some (.int v2), none, none] [] S K := by
  refine e_il x126_33 rfl (e_ic x126_34 (e_ge x126_36 (fun c1 => ?_) (fun c1 => ?_)))
  · replace H := H.1 c1
    have c2 := H.1
    replace H := H.2
    refine e_al x126_109 rfl (e_il x126_110 rfl (e_al x126_111 rfl (e_PS x126_112 rfl (e_il x126_115 rfl (e_iaS x126_116 (by decide) rfl c2 (e_cV (l0 := [some (.ref (aS E 0)), some (.int v1), some (.int (sS S 3 (v1.toNatClampNeg))), none]) x126_117 rfl rfl rfl rfl rfl (fun h hh => hh.tS (by decide)) (ES.mono H ?_)))))))
    rintro _ S3 ⟨rfl, H⟩
    refine e_al x126_120 rfl (e_il x126_121 rfl (e_cV (l0 := [some (.ref (aS E 0)), some (.int v1), none]) x126_122 rfl rfl rfl rfl rfl (fun h hh => hh.tS (by decide)) (ES.mono H ?_)))
    rintro _ S4 ⟨rfl, H⟩
    exact e_rv x126_125 H
  · replace H := H.2 c1
    exact e_ic x126_39 (e_ist (l' := [some (.ref (aS E 0)), some (.int v1), some (.int v2), some (.int 0), none]) x126_40 rfl rfl (H))

-- Model.comeBack(I)V, from 41
set_option maxRecDepth 8000 in
theorem T126_41 {E : mE} {v1 : Int32} {v2 : Int32} {v3 : Int32} {S : mS} {K : Option Value → mS → Prop}  (H : ((3 : Int32) ≤ v3 → (ES E 126 33 [some (.ref (aS E 0)), some (.int v1), some (.int (v2 + 1)), none, none] [] S K)) ∧ (¬ (3 : Int32) ≤ v3 → ((¬ (((90 * v1) + (3 * v2)) + v3) < 0 ∧ ((((90 * v1) + (3 * v2)) + v3).toNatClampNeg) < 900) ∧ (((sS S 19 ((((90 * v1) + (3 * v2)) + v3).toNatClampNeg)) < 0 → (ES E 126 41 [some (.ref (aS E 0)), some (.int v1), some (.int v2), some (.int (v3 + 1)), none] [] S K)) ∧ (¬ (sS S 19 ((((90 * v1) + (3 * v2)) + v3).toNatClampNeg)) < 0 → ((¬ v1 < 0 ∧ (v1.toNatClampNeg) < 10) ∧ (ES E 102 0 [some (.ref (aS E 0)), some (.int v1), some (.int v1), some (.int (sS S 2 (v1.toNatClampNeg))), some (.int v2), some (.int v3), some (.int (sS S 19 ((((90 * v1) + (3 * v2)) + v3).toNatClampNeg))), some (.int (sS S 20 ((((90 * v1) + (3 * v2)) + v3).toNatClampNeg))), some (.int 0), none, none] [] S (fun r S5 => r = none ∧ (ES E 126 41 [some (.ref (aS E 0)), some (.int v1), some (.int v2), some (.int (v3 + 1)), none] [] S5 K))))))))) : ES E 126 41 [some (.ref (aS E 0)), some (.int v1), some (.int v2), some (.int v3), none] [] S K := by
  refine e_il x126_41 rfl (e_ic x126_42 (e_ge x126_43 (fun c1 => ?_) (fun c1 => ?_)))
  · replace H := H.1 c1
    exact e_inc (l' := [some (.ref (aS E 0)), some (.int v1), some (.int (v2 + 1)), some (.int v3), none]) x126_103 rfl rfl rfl (e_back (l' := [some (.ref (aS E 0)), some (.int v1), some (.int (v2 + 1)), none, none]) x126_106 rfl (H))
  · replace H := H.2 c1
    have c2 := H.1
    replace H := H.2
    refine e_ic x126_46 (e_il x126_48 rfl (e_ii (v := (90 * v1)) x126_49 rfl (e_ic x126_50 (e_il x126_51 rfl (e_ii (v := (3 * v2)) x126_52 rfl (e_ii (v := ((90 * v1) + (3 * v2))) x126_53 rfl (e_il x126_54 rfl (e_ii (v := (((90 * v1) + (3 * v2)) + v3)) x126_55 rfl (e_ist (l' := [some (.ref (aS E 0)), some (.int v1), some (.int v2), some (.int v3), some (.int (((90 * v1) + (3 * v2)) + v3))]) x126_56 rfl rfl (e_al x126_58 rfl (e_PS x126_59 rfl (e_il x126_62 rfl (e_iaS x126_64 (by decide) rfl c2 (e_lt0 x126_65 (fun c3 => ?_) (fun c3 => ?_)))))))))))))))
    · replace H := H.1 c3
      exact e_inc (l' := [some (.ref (aS E 0)), some (.int v1), some (.int v2), some (.int (v3 + 1)), some (.int (((90 * v1) + (3 * v2)) + v3))]) x126_97 rfl rfl rfl (e_back (l' := [some (.ref (aS E 0)), some (.int v1), some (.int v2), some (.int (v3 + 1)), none]) x126_100 rfl (H))
    · replace H := H.2 c3
      have c4 := H.1
      replace H := H.2
      refine e_al x126_68 rfl (e_il x126_69 rfl (e_il x126_70 rfl (e_al x126_71 rfl (e_PS x126_72 rfl (e_il x126_75 rfl (e_iaS x126_76 (by decide) rfl c4 (e_il x126_77 rfl (e_il x126_78 rfl (e_al x126_79 rfl (e_PS x126_80 rfl (e_il x126_83 rfl (e_iaS x126_85 (by decide) rfl c2 (e_al x126_86 rfl (e_PS x126_87 rfl (e_il x126_90 rfl (e_iaS x126_92 (by decide) rfl c2 (e_ic x126_93 (e_cV (l0 := [some (.ref (aS E 0)), some (.int v1), some (.int v1), some (.int (sS S 2 (v1.toNatClampNeg))), some (.int v2), some (.int v3), some (.int (sS S 19 ((((90 * v1) + (3 * v2)) + v3).toNatClampNeg))), some (.int (sS S 20 ((((90 * v1) + (3 * v2)) + v3).toNatClampNeg))), some (.int 0), none, none]) x126_94 rfl rfl rfl rfl rfl (fun h hh => hh.tS (by decide)) (ES.mono H ?_)))))))))))))))))))
      rintro _ S5 ⟨rfl, H⟩
      exact e_inc (l' := [some (.ref (aS E 0)), some (.int v1), some (.int v2), some (.int (v3 + 1)), some (.int (((90 * v1) + (3 * v2)) + v3))]) x126_97 rfl rfl rfl (e_back (l' := [some (.ref (aS E 0)), some (.int v1), some (.int v2), some (.int (v3 + 1)), none]) x126_100 rfl (H))

-- Model.deliver(ZI)V, from 0
set_option maxRecDepth 8000 in
theorem T127 {E : mE} {a1 : Int32} {a2 : Int32} {S : mS} {K : Option Value → mS → Prop}  (H : ES E 127 2 [some (.ref (aS E 0)), some (.int a1), some (.int a2), some (.int 0), none] [] S K) : ES E 127 0 [some (.ref (aS E 0)), some (.int a1), some (.int a2), none, none] [] S K := by
  exact e_ic x127_0 (e_ist (l' := [some (.ref (aS E 0)), some (.int a1), some (.int a2), some (.int 0), none]) x127_1 rfl rfl (H))

-- Model.deliver(ZI)V, from 2
set_option maxRecDepth 8000 in
theorem T127_2 {E : mE} {v1 : Int32} {v2 : Int32} {v3 : Int32} {S : mS} {K : Option Value → mS → Prop}  (H : (v2 ≤ v3 → (K none S)) ∧ (¬ v2 ≤ v3 → ((¬ v3 < 0 ∧ (v3.toNatClampNeg) < 20000) ∧ (((sS S 25 (v3.toNatClampNeg)) = (sS S 0 3) → (((sS S 33 (v3.toNatClampNeg)) = v1 → (∀ S5, S5 = uS S 25 (v3.toNatClampNeg) (-1) → (∀ S6, S6 = uS S5 0 38 ((sS S5 0 38) - 1) → ((¬ (sS S6 27 (v3.toNatClampNeg)) < 0 ∧ ((sS S6 27 (v3.toNatClampNeg)).toNatClampNeg) < 10) ∧ (((sS S6 10 ((sS S6 27 (v3.toNatClampNeg)).toNatClampNeg)) = 0 → (∀ S9, S9 = uS S6 0 40 ((sS S6 0 40) + 1) → (ES E 102 0 [some (.ref (aS E 0)), some (.int (sS S6 27 (v3.toNatClampNeg))), some (.int (sS S9 26 (v3.toNatClampNeg))), some (.int (sS S9 28 (v3.toNatClampNeg))), some (.int (sS S9 29 (v3.toNatClampNeg))), some (.int (sS S9 30 (v3.toNatClampNeg))), some (.int (sS S9 31 (v3.toNatClampNeg))), some (.int (sS S9 32 (v3.toNatClampNeg))), some (.int 1), none, none] [] S9 (fun r S10 => r = none ∧ (ES E 111 0 [some (.ref (aS E 0)), some (.int (sS S6 27 (v3.toNatClampNeg))), none] [] S10 (fun r S11 => r = none ∧ (ES E 127 2 [some (.ref (aS E 0)), some (.int v1), some (.int v2), some (.int (v3 + 1)), none] [] S11 K))))))) ∧ (¬ (sS S6 10 ((sS S6 27 (v3.toNatClampNeg)).toNatClampNeg)) = 0 → (∀ S12, S12 = uS S6 0 41 ((sS S6 0 41) + 1) → (ES E 127 2 [some (.ref (aS E 0)), some (.int v1), some (.int v2), some (.int (v3 + 1)), none] [] S12 K)))))))) ∧ (¬ (sS S 33 (v3.toNatClampNeg)) = v1 → (ES E 127 2 [some (.ref (aS E 0)), some (.int v1), some (.int v2), some (.int (v3 + 1)), none] [] S K)))) ∧ (¬ (sS S 25 (v3.toNatClampNeg)) = (sS S 0 3) → (ES E 127 2 [some (.ref (aS E 0)), some (.int v1), some (.int v2), some (.int (v3 + 1)), none] [] S K)))))) : ES E 127 2 [some (.ref (aS E 0)), some (.int v1), some (.int v2), some (.int v3), none] [] S K := by
  refine e_il x127_2 rfl (e_il x127_3 rfl (e_ge x127_4 (fun c1 => ?_) (fun c1 => ?_)))
  · replace H := H.1 c1
    exact e_rv x127_143 H
  · replace H := H.2 c1
    have c2 := H.1
    replace H := H.2
    refine e_al x127_7 rfl (e_PS x127_8 rfl (e_il x127_11 rfl (e_iaS x127_12 (by decide) rfl c2 (e_al x127_13 rfl (e_gS x127_14 (by decide) rfl (e_ne x127_17 (fun c3 => ?_) (fun c3 => ?_)))))))
    · replace H := H.1 c3
      refine e_al x127_20 rfl (e_PS x127_21 rfl (e_il x127_24 rfl (e_baS x127_25 (by decide) rfl c2 (e_il x127_26 rfl (e_ne x127_27 (fun c4 => ?_) (fun c4 => ?_))))))
      · replace H := H.1 c4
        refine e_al x127_30 rfl (e_PS x127_31 rfl (e_il x127_34 rfl (e_ic x127_35 (e_waS x127_36 (by decide) rfl c2 ?_))))
        let S5 : mS := uS S 25 (v3.toNatClampNeg) (-1)
        replace H := H S5 rfl
        show ES _ _ _ _ _ S5 _
        refine e_al x127_37 rfl (e_dupr x127_38 (e_gS x127_39 (by decide) rfl (e_ic x127_42 (e_ii (v := ((sS S5 0 38) - 1)) x127_43 rfl (e_pS x127_44 (by decide) rfl ?_)))))
        let S6 : mS := uS S5 0 38 ((sS S5 0 38) - 1)
        replace H := H S6 rfl
        show ES _ _ _ _ _ S6 _
        have c7 := H.1
        replace H := H.2
        refine e_al x127_47 rfl (e_PS x127_48 rfl (e_il x127_51 rfl (e_iaS x127_52 (by decide) rfl c2 (e_ist (l' := [some (.ref (aS E 0)), some (.int v1), some (.int v2), some (.int v3), some (.int (sS S6 27 (v3.toNatClampNeg)))]) x127_53 rfl rfl (e_al x127_55 rfl (e_PS x127_56 rfl (e_il x127_59 rfl (e_baS x127_61 (by decide) rfl c7 (e_eq0 x127_62 (fun c8 => ?_) (fun c8 => ?_))))))))))
        · replace H := H.1 c8
          refine e_al x127_78 rfl (e_dupr x127_79 (e_gS x127_80 (by decide) rfl (e_ic x127_83 (e_ii (v := ((sS S6 0 40) + 1)) x127_84 rfl (e_pS x127_85 (by decide) rfl ?_)))))
          let S9 : mS := uS S6 0 40 ((sS S6 0 40) + 1)
          replace H := H S9 rfl
          show ES _ _ _ _ _ S9 _
          refine e_al x127_88 rfl (e_il x127_89 rfl (e_al x127_91 rfl (e_PS x127_92 rfl (e_il x127_95 rfl (e_iaS x127_96 (by decide) rfl c2 (e_al x127_97 rfl (e_PS x127_98 rfl (e_il x127_101 rfl (e_iaS x127_102 (by decide) rfl c2 (e_al x127_103 rfl (e_PS x127_104 rfl (e_il x127_107 rfl (e_iaS x127_108 (by decide) rfl c2 (e_al x127_109 rfl (e_PS x127_110 rfl (e_il x127_113 rfl (e_iaS x127_114 (by decide) rfl c2 (e_al x127_115 rfl (e_PS x127_116 rfl (e_il x127_119 rfl (e_iaS x127_120 (by decide) rfl c2 (e_al x127_121 rfl (e_PS x127_122 rfl (e_il x127_125 rfl (e_iaS x127_126 (by decide) rfl c2 (e_ic x127_127 (e_cV (l0 := [some (.ref (aS E 0)), some (.int (sS S6 27 (v3.toNatClampNeg))), some (.int (sS S9 26 (v3.toNatClampNeg))), some (.int (sS S9 28 (v3.toNatClampNeg))), some (.int (sS S9 29 (v3.toNatClampNeg))), some (.int (sS S9 30 (v3.toNatClampNeg))), some (.int (sS S9 31 (v3.toNatClampNeg))), some (.int (sS S9 32 (v3.toNatClampNeg))), some (.int 1), none, none]) x127_128 rfl rfl rfl rfl rfl (fun h hh => hh.tS (by decide)) (ES.mono H ?_))))))))))))))))))))))))))))
          rintro _ S10 ⟨rfl, H⟩
          refine e_al x127_131 rfl (e_il x127_132 rfl (e_cV (l0 := [some (.ref (aS E 0)), some (.int (sS S6 27 (v3.toNatClampNeg))), none]) x127_134 rfl rfl rfl rfl rfl (fun h hh => hh.tS (by decide)) (ES.mono H ?_)))
          rintro _ S11 ⟨rfl, H⟩
          exact e_inc (l' := [some (.ref (aS E 0)), some (.int v1), some (.int v2), some (.int (v3 + 1)), some (.int (sS S6 27 (v3.toNatClampNeg)))]) x127_137 rfl rfl rfl (e_back (l' := [some (.ref (aS E 0)), some (.int v1), some (.int v2), some (.int (v3 + 1)), none]) x127_140 rfl (H))
        · replace H := H.2 c8
          refine e_al x127_65 rfl (e_dupr x127_66 (e_gS x127_67 (by decide) rfl (e_ic x127_70 (e_ii (v := ((sS S6 0 41) + 1)) x127_71 rfl (e_pS x127_72 (by decide) rfl ?_)))))
          let S12 : mS := uS S6 0 41 ((sS S6 0 41) + 1)
          replace H := H S12 rfl
          show ES _ _ _ _ _ S12 _
          exact e_goto x127_75 (e_inc (l' := [some (.ref (aS E 0)), some (.int v1), some (.int v2), some (.int (v3 + 1)), some (.int (sS S6 27 (v3.toNatClampNeg)))]) x127_137 rfl rfl rfl (e_back (l' := [some (.ref (aS E 0)), some (.int v1), some (.int v2), some (.int (v3 + 1)), none]) x127_140 rfl (H)))
      · replace H := H.2 c4
        exact e_inc (l' := [some (.ref (aS E 0)), some (.int v1), some (.int v2), some (.int (v3 + 1)), none]) x127_137 rfl rfl rfl (e_back (l' := [some (.ref (aS E 0)), some (.int v1), some (.int v2), some (.int (v3 + 1)), none]) x127_140 rfl (H))
    · replace H := H.2 c3
      exact e_inc (l' := [some (.ref (aS E 0)), some (.int v1), some (.int v2), some (.int (v3 + 1)), none]) x127_137 rfl rfl rfl (e_back (l' := [some (.ref (aS E 0)), some (.int v1), some (.int v2), some (.int (v3 + 1)), none]) x127_140 rfl (H))

-- Model.timerEnds(II)V, from 0
set_option maxRecDepth 8000 in
theorem T128 {E : mE} {a1 : Int32} {a2 : Int32} {S : mS} {K : Option Value → mS → Prop}  (H : (¬ a1 < 0 ∧ (a1.toNatClampNeg) < 10) ∧ (((sS S 10 (a1.toNatClampNeg)) = 0 → ((¬ ((3 * a1) + a2) < 0 ∧ (((3 * a1) + a2).toNatClampNeg) < 30) ∧ (((sS S 12 (((3 * a1) + a2).toNatClampNeg)) = (sS S 0 3) → (∀ S5, S5 = uS S 12 (((3 * a1) + a2).toNatClampNeg) 0 → ((a2 = 0 → (((sS S5 4 (a1.toNatClampNeg)) = 0 → (ES E 101 0 [some (.ref (aS E 0)), some (.int a1), some (.int 1), some (.int 0), some (.int (-9)), none, none, none, none, none, none, none] [] S5 (fun r S8 => r = none ∧ (∀ S9, S9 = uS S8 4 (a1.toNatClampNeg) 1 → (ES E 128 122 [some (.ref (aS E 0)), some (.int a1), some (.int a2)] [] S9 K))))) ∧ (¬ (sS S5 4 (a1.toNatClampNeg)) = 0 → (ES E 128 70 [some (.ref (aS E 0)), some (.int a1), some (.int a2)] [] S5 K)))) ∧ (¬ a2 = 0 → (ES E 128 70 [some (.ref (aS E 0)), some (.int a1), some (.int a2)] [] S5 K))))) ∧ (¬ (sS S 12 (((3 * a1) + a2).toNatClampNeg)) = (sS S 0 3) → (ES E 128 26 [some (.ref (aS E 0)), some (.int a1), some (.int a2)] [] S K))))) ∧ (¬ (sS S 10 (a1.toNatClampNeg)) = 0 → (ES E 128 26 [some (.ref (aS E 0)), some (.int a1), some (.int a2)] [] S K)))) : ES E 128 0 [some (.ref (aS E 0)), some (.int a1), some (.int a2)] [] S K := by
  have c1 := H.1
  replace H := H.2
  refine e_al x128_0 rfl (e_PS x128_1 rfl (e_il x128_4 rfl (e_baS x128_5 (by decide) rfl c1 (e_ne0 x128_6 (fun c2 => ?_) (fun c2 => ?_)))))
  · replace H := H.1 c2
    have c3 := H.1
    replace H := H.2
    refine e_al x128_9 rfl (e_PS x128_10 rfl (e_ic x128_13 (e_il x128_14 rfl (e_ii (v := (3 * a1)) x128_15 rfl (e_il x128_16 rfl (e_ii (v := ((3 * a1) + a2)) x128_17 rfl (e_iaS x128_18 (by decide) rfl c3 (e_al x128_19 rfl (e_gS x128_20 (by decide) rfl (e_eq x128_23 (fun c4 => ?_) (fun c4 => ?_)))))))))))
    · replace H := H.1 c4
      refine e_al x128_27 rfl (e_PS x128_28 rfl (e_ic x128_31 (e_il x128_32 rfl (e_ii (v := (3 * a1)) x128_33 rfl (e_il x128_34 rfl (e_ii (v := ((3 * a1) + a2)) x128_35 rfl (e_ic x128_36 (e_waS x128_37 (by decide) rfl c3 ?_))))))))
      let S5 : mS := uS S 12 (((3 * a1) + a2).toNatClampNeg) 0
      replace H := H S5 rfl
      show ES _ _ _ _ _ S5 _
      refine e_il x128_38 rfl (e_ne0 x128_39 (fun c6 => ?_) (fun c6 => ?_))
      · replace H := H.1 c6
        refine e_al x128_42 rfl (e_PS x128_43 rfl (e_il x128_46 rfl (e_iaS x128_47 (by decide) rfl c1 (e_ne0 x128_48 (fun c7 => ?_) (fun c7 => ?_)))))
        · replace H := H.1 c7
          refine e_al x128_51 rfl (e_il x128_52 rfl (e_ic x128_53 (e_ic x128_54 (e_ic x128_55 (e_cV (l0 := [some (.ref (aS E 0)), some (.int a1), some (.int 1), some (.int 0), some (.int (-9)), none, none, none, none, none, none, none]) x128_57 rfl rfl rfl rfl rfl (fun h hh => hh.tS (by decide)) (ES.mono H ?_))))))
          rintro _ S8 ⟨rfl, H⟩
          refine e_al x128_60 rfl (e_PS x128_61 rfl (e_il x128_64 rfl (e_ic x128_65 (e_waS x128_66 (by decide) rfl c1 ?_))))
          let S9 : mS := uS S8 4 (a1.toNatClampNeg) 1
          replace H := H S9 rfl
          show ES _ _ _ _ _ S9 _
          exact e_goto x128_67 (H)
        · replace H := H.2 c7
          exact H
      · replace H := H.2 c6
        exact H
    · replace H := H.2 c4
      exact H
  · replace H := H.2 c2
    exact H

-- Model.timerEnds(II)V, from 122
set_option maxRecDepth 8000 in
theorem T128_122 {E : mE} {v1 : Int32} {v2 : Int32} {S : mS} {K : Option Value → mS → Prop}  (H : ES E 111 0 [some (.ref (aS E 0)), some (.int v1), none] [] S (fun r S1 => r = none ∧ (K none S1))) : ES E 128 122 [some (.ref (aS E 0)), some (.int v1), some (.int v2)] [] S K := by
  refine e_al x128_122 rfl (e_il x128_123 rfl (e_cV (l0 := [some (.ref (aS E 0)), some (.int v1), none]) x128_124 rfl rfl rfl rfl rfl (fun h hh => hh.tS (by decide)) (ES.mono H ?_)))
  rintro _ S1 ⟨rfl, H⟩
  exact e_rv x128_127 H

-- Model.timerEnds(II)V, from 70
set_option maxRecDepth 8000 in
theorem T128_70 {E : mE} {v1 : Int32} {v2 : Int32} {S : mS} {K : Option Value → mS → Prop}  (H : (v2 = 1 → ((¬ v1 < 0 ∧ (v1.toNatClampNeg) < 10) ∧ (((sS S 4 (v1.toNatClampNeg)) = 1 → (ES E 101 0 [some (.ref (aS E 0)), some (.int v1), some (.int 2), some (.int 0), some (.int (-9)), none, none, none, none, none, none, none] [] S (fun r S4 => r = none ∧ (∀ S5, S5 = uS S4 4 (v1.toNatClampNeg) 2 → (ES E 128 122 [some (.ref (aS E 0)), some (.int v1), some (.int v2)] [] S5 K))))) ∧ (¬ (sS S 4 (v1.toNatClampNeg)) = 1 → (ES E 128 104 [some (.ref (aS E 0)), some (.int v1), some (.int v2)] [] S K))))) ∧ (¬ v2 = 1 → (ES E 128 104 [some (.ref (aS E 0)), some (.int v1), some (.int v2)] [] S K))) : ES E 128 70 [some (.ref (aS E 0)), some (.int v1), some (.int v2)] [] S K := by
  refine e_il x128_70 rfl (e_ic x128_71 (e_ne x128_72 (fun c1 => ?_) (fun c1 => ?_)))
  · replace H := H.1 c1
    have c2 := H.1
    replace H := H.2
    refine e_al x128_75 rfl (e_PS x128_76 rfl (e_il x128_79 rfl (e_iaS x128_80 (by decide) rfl c2 (e_ic x128_81 (e_ne x128_82 (fun c3 => ?_) (fun c3 => ?_))))))
    · replace H := H.1 c3
      refine e_al x128_85 rfl (e_il x128_86 rfl (e_ic x128_87 (e_ic x128_88 (e_ic x128_89 (e_cV (l0 := [some (.ref (aS E 0)), some (.int v1), some (.int 2), some (.int 0), some (.int (-9)), none, none, none, none, none, none, none]) x128_91 rfl rfl rfl rfl rfl (fun h hh => hh.tS (by decide)) (ES.mono H ?_))))))
      rintro _ S4 ⟨rfl, H⟩
      refine e_al x128_94 rfl (e_PS x128_95 rfl (e_il x128_98 rfl (e_ic x128_99 (e_waS x128_100 (by decide) rfl c2 ?_))))
      let S5 : mS := uS S4 4 (v1.toNatClampNeg) 2
      replace H := H S5 rfl
      show ES _ _ _ _ _ S5 _
      exact e_goto x128_101 (H)
    · replace H := H.2 c3
      exact H
  · replace H := H.2 c1
    exact H

-- Model.timerEnds(II)V, from 26
set_option maxRecDepth 8000 in
theorem T128_26 {E : mE} {v1 : Int32} {v2 : Int32} {S : mS} {K : Option Value → mS → Prop}  (H : K none S) : ES E 128 26 [some (.ref (aS E 0)), some (.int v1), some (.int v2)] [] S K := by
  exact e_rv x128_26 H

-- Model.timerEnds(II)V, from 104
set_option maxRecDepth 8000 in
theorem T128_104 {E : mE} {v1 : Int32} {v2 : Int32} {S : mS} {K : Option Value → mS → Prop}  (H : (v2 = 2 → ((¬ v1 < 0 ∧ (v1.toNatClampNeg) < 10) ∧ (ES E 99 0 [some (.ref (aS E 0)), some (.int v1), some (.int ((sS S 3 (v1.toNatClampNeg)) + 1)), none] [] S (fun r S3 => r = none ∧ (ES E 128 122 [some (.ref (aS E 0)), some (.int v1), some (.int v2)] [] S3 K))))) ∧ (¬ v2 = 2 → (ES E 128 122 [some (.ref (aS E 0)), some (.int v1), some (.int v2)] [] S K))) : ES E 128 104 [some (.ref (aS E 0)), some (.int v1), some (.int v2)] [] S K := by
  refine e_il x128_104 rfl (e_ic x128_105 (e_ne x128_106 (fun c1 => ?_) (fun c1 => ?_)))
  · replace H := H.1 c1
    have c2 := H.1
    replace H := H.2
    refine e_al x128_109 rfl (e_il x128_110 rfl (e_al x128_111 rfl (e_PS x128_112 rfl (e_il x128_115 rfl (e_iaS x128_116 (by decide) rfl c2 (e_ic x128_117 (e_ii (v := ((sS S 3 (v1.toNatClampNeg)) + 1)) x128_118 rfl (e_cV (l0 := [some (.ref (aS E 0)), some (.int v1), some (.int ((sS S 3 (v1.toNatClampNeg)) + 1)), none]) x128_119 rfl rfl rfl rfl rfl (fun h hh => hh.tS (by decide)) (ES.mono H ?_)))))))))
    rintro _ S3 ⟨rfl, H⟩
    exact H
  · replace H := H.2 c1
    exact H

-- Model.tidy()V, from 0
set_option maxRecDepth 8000 in
theorem T129 {E : mE}  {S : mS} {K : Option Value → mS → Prop}  (H : ES E 129 4 [some (.ref (aS E 0)), some (.int 0), some (.int 0)] [] S K) : ES E 129 0 [some (.ref (aS E 0)), none, none] [] S K := by
  exact e_ic x129_0 (e_ist (l' := [some (.ref (aS E 0)), some (.int 0), none]) x129_1 rfl rfl (e_ic x129_2 (e_ist (l' := [some (.ref (aS E 0)), some (.int 0), some (.int 0)]) x129_3 rfl rfl (H))))

-- Model.tidy()V, from 4
set_option maxRecDepth 8000 in
theorem T129_4 {E : mE} {v1 : Int32} {v2 : Int32} {S : mS} {K : Option Value → mS → Prop}  (H : ((sS S 0 37) ≤ v2 → (∀ S2, S2 = uS S 0 37 v1 → (K none S2))) ∧ (¬ (sS S 0 37) ≤ v2 → ((¬ v2 < 0 ∧ (v2.toNatClampNeg) < 20000) ∧ (((sS S 25 (v2.toNatClampNeg)) < 0 → (ES E 129 4 [some (.ref (aS E 0)), some (.int v1), some (.int (v2 + 1))] [] S K)) ∧ (¬ (sS S 25 (v2.toNatClampNeg)) < 0 → ((¬ v1 < 0 ∧ (v1.toNatClampNeg) < 20000) ∧ (∀ S6, S6 = uS S 25 (v1.toNatClampNeg) (sS S 25 (v2.toNatClampNeg)) → (∀ S7, S7 = uS S6 26 (v1.toNatClampNeg) (sS S6 26 (v2.toNatClampNeg)) → (∀ S8, S8 = uS S7 27 (v1.toNatClampNeg) (sS S7 27 (v2.toNatClampNeg)) → (∀ S9, S9 = uS S8 28 (v1.toNatClampNeg) (sS S8 28 (v2.toNatClampNeg)) → (∀ S10, S10 = uS S9 29 (v1.toNatClampNeg) (sS S9 29 (v2.toNatClampNeg)) → (∀ S11, S11 = uS S10 30 (v1.toNatClampNeg) (sS S10 30 (v2.toNatClampNeg)) → (∀ S12, S12 = uS S11 31 (v1.toNatClampNeg) (sS S11 31 (v2.toNatClampNeg)) → (∀ S13, S13 = uS S12 32 (v1.toNatClampNeg) (sS S12 32 (v2.toNatClampNeg)) → (((sS S13 33 (v2.toNatClampNeg)) = 0 ∨ (sS S13 33 (v2.toNatClampNeg)) = 1) ∧ (∀ S15, S15 = uS S13 33 (v1.toNatClampNeg) (sS S13 33 (v2.toNatClampNeg)) → (ES E 129 4 [some (.ref (aS E 0)), some (.int (v1 + 1)), some (.int (v2 + 1))] [] S15 K))))))))))))))))) : ES E 129 4 [some (.ref (aS E 0)), some (.int v1), some (.int v2)] [] S K := by
  refine e_il x129_4 rfl (e_al x129_5 rfl (e_gS x129_6 (by decide) rfl (e_ge x129_9 (fun c1 => ?_) (fun c1 => ?_))))
  · replace H := H.1 c1
    refine e_al x129_138 rfl (e_il x129_139 rfl (e_pS x129_140 (by decide) rfl ?_))
    let S2 : mS := uS S 0 37 v1
    replace H := H S2 rfl
    show ES _ _ _ _ _ S2 _
    exact e_rv x129_143 H
  · replace H := H.2 c1
    have c3 := H.1
    replace H := H.2
    refine e_al x129_12 rfl (e_PS x129_13 rfl (e_il x129_16 rfl (e_iaS x129_17 (by decide) rfl c3 (e_lt0 x129_18 (fun c4 => ?_) (fun c4 => ?_)))))
    · replace H := H.1 c4
      exact e_inc (l' := [some (.ref (aS E 0)), some (.int v1), some (.int (v2 + 1))]) x129_132 rfl rfl rfl (e_back (l' := [some (.ref (aS E 0)), some (.int v1), some (.int (v2 + 1))]) x129_135 rfl (H))
    · replace H := H.2 c4
      have c5 := H.1
      replace H := H.2
      refine e_al x129_21 rfl (e_PS x129_22 rfl (e_il x129_25 rfl (e_al x129_26 rfl (e_PS x129_27 rfl (e_il x129_30 rfl (e_iaS x129_31 (by decide) rfl c3 (e_waS x129_32 (by decide) rfl c5 ?_)))))))
      let S6 : mS := uS S 25 (v1.toNatClampNeg) (sS S 25 (v2.toNatClampNeg))
      replace H := H S6 rfl
      show ES _ _ _ _ _ S6 _
      refine e_al x129_33 rfl (e_PS x129_34 rfl (e_il x129_37 rfl (e_al x129_38 rfl (e_PS x129_39 rfl (e_il x129_42 rfl (e_iaS x129_43 (by decide) rfl c3 (e_waS x129_44 (by decide) rfl c5 ?_)))))))
      let S7 : mS := uS S6 26 (v1.toNatClampNeg) (sS S6 26 (v2.toNatClampNeg))
      replace H := H S7 rfl
      show ES _ _ _ _ _ S7 _
      refine e_al x129_45 rfl (e_PS x129_46 rfl (e_il x129_49 rfl (e_al x129_50 rfl (e_PS x129_51 rfl (e_il x129_54 rfl (e_iaS x129_55 (by decide) rfl c3 (e_waS x129_56 (by decide) rfl c5 ?_)))))))
      let S8 : mS := uS S7 27 (v1.toNatClampNeg) (sS S7 27 (v2.toNatClampNeg))
      replace H := H S8 rfl
      show ES _ _ _ _ _ S8 _
      refine e_al x129_57 rfl (e_PS x129_58 rfl (e_il x129_61 rfl (e_al x129_62 rfl (e_PS x129_63 rfl (e_il x129_66 rfl (e_iaS x129_67 (by decide) rfl c3 (e_waS x129_68 (by decide) rfl c5 ?_)))))))
      let S9 : mS := uS S8 28 (v1.toNatClampNeg) (sS S8 28 (v2.toNatClampNeg))
      replace H := H S9 rfl
      show ES _ _ _ _ _ S9 _
      refine e_al x129_69 rfl (e_PS x129_70 rfl (e_il x129_73 rfl (e_al x129_74 rfl (e_PS x129_75 rfl (e_il x129_78 rfl (e_iaS x129_79 (by decide) rfl c3 (e_waS x129_80 (by decide) rfl c5 ?_)))))))
      let S10 : mS := uS S9 29 (v1.toNatClampNeg) (sS S9 29 (v2.toNatClampNeg))
      replace H := H S10 rfl
      show ES _ _ _ _ _ S10 _
      refine e_al x129_81 rfl (e_PS x129_82 rfl (e_il x129_85 rfl (e_al x129_86 rfl (e_PS x129_87 rfl (e_il x129_90 rfl (e_iaS x129_91 (by decide) rfl c3 (e_waS x129_92 (by decide) rfl c5 ?_)))))))
      let S11 : mS := uS S10 30 (v1.toNatClampNeg) (sS S10 30 (v2.toNatClampNeg))
      replace H := H S11 rfl
      show ES _ _ _ _ _ S11 _
      refine e_al x129_93 rfl (e_PS x129_94 rfl (e_il x129_97 rfl (e_al x129_98 rfl (e_PS x129_99 rfl (e_il x129_102 rfl (e_iaS x129_103 (by decide) rfl c3 (e_waS x129_104 (by decide) rfl c5 ?_)))))))
      let S12 : mS := uS S11 31 (v1.toNatClampNeg) (sS S11 31 (v2.toNatClampNeg))
      replace H := H S12 rfl
      show ES _ _ _ _ _ S12 _
      refine e_al x129_105 rfl (e_PS x129_106 rfl (e_il x129_109 rfl (e_al x129_110 rfl (e_PS x129_111 rfl (e_il x129_114 rfl (e_iaS x129_115 (by decide) rfl c3 (e_waS x129_116 (by decide) rfl c5 ?_)))))))
      let S13 : mS := uS S12 32 (v1.toNatClampNeg) (sS S12 32 (v2.toNatClampNeg))
      replace H := H S13 rfl
      show ES _ _ _ _ _ S13 _
      have c14 := H.1
      replace H := H.2
      refine e_al x129_117 rfl (e_PS x129_118 rfl (e_il x129_121 rfl (e_al x129_122 rfl (e_PS x129_123 rfl (e_il x129_126 rfl (e_baS x129_127 (by decide) rfl c3 (e_wzS x129_128 (by decide) rfl c14 c5 ?_)))))))
      let S15 : mS := uS S13 33 (v1.toNatClampNeg) (sS S13 33 (v2.toNatClampNeg))
      replace H := H S15 rfl
      show ES _ _ _ _ _ S15 _
      exact e_inc (l' := [some (.ref (aS E 0)), some (.int (v1 + 1)), some (.int v2)]) x129_129 rfl rfl rfl (e_inc (l' := [some (.ref (aS E 0)), some (.int (v1 + 1)), some (.int (v2 + 1))]) x129_132 rfl rfl rfl (e_back (l' := [some (.ref (aS E 0)), some (.int (v1 + 1)), some (.int (v2 + 1))]) x129_135 rfl (H)))

