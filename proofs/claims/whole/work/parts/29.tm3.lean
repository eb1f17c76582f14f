/-! ===== what the runs need, over states ===== -/
-- Model.weight(II)I, from 0
set_option maxRecDepth 8000 in
theorem T130 {E : mE} {a1 : Int32} {a2 : Int32} {S : mS} {K : Option Value → mS → Prop}  (H : ∀ S1, S1 = uS S 0 0 0 → (((lg_cmp (a1.toInt64) 0) < 0 → (K (some (.int (-1))) S1)) ∧ (¬ (lg_cmp (a1.toInt64) 0) < 0 → (((0 : Int32) < (lg_cmp (a1.toInt64) (((sS S1 0 1) - 1).toInt64)) → (K (some (.int (-1))) S1)) ∧ (¬ (0 : Int32) < (lg_cmp (a1.toInt64) (((sS S1 0 1) - 1).toInt64)) → (((lg_cmp (a2.toInt64) 1) < 0 → (K (some (.int (-1))) S1)) ∧ (¬ (lg_cmp (a2.toInt64) 1) < 0 → (((0 : Int32) < (lg_cmp (a2.toInt64) 1000000) → (K (some (.int (-1))) S1)) ∧ (¬ (0 : Int32) < (lg_cmp (a2.toInt64) 1000000) → (ES E 130 32 [some (.ref (aS E 0)), some (.int a1), some (.int a2), some (.int 0), some (.int 0)] [] S1 K)))))))))) : ES E 130 0 [some (.ref (aS E 0)), some (.int a1), some (.int a2), none, none] [] S K := by
  refine e_al x130_0 rfl (e_ic x130_1 (e_pS x130_2 (by decide) rfl ?_))
  let S1 : mS := uS S 0 0 0
  replace H := H S1 rfl
  show ES _ _ _ _ _ S1 _
  refine e_al x130_5 rfl (e_il x130_6 rfl (e_cV (l0 := [some (.ref (aS E 0)), some (.int a1)]) x130_7 rfl rfl rfl rfl rfl (fun h hh => hh.tS (by decide)) (e_il x131_0 rfl (e_i2l x131_1 (e_lc x131_2 (e_al x131_3 rfl (e_gS x131_4 (by decide) rfl (e_ic x131_7 (e_ii (v := ((sS S1 0 1) - 1)) x131_8 rfl (e_i2l x131_9 (e_cS (l0 := [some (.long (a1.toInt64)), none, some (.long 0), none, some (.long (((sS S1 0 1) - 1).toInt64)), none]) x131_10 rfl rfl rfl rfl rfl (e_llo x97_0 rfl (e_llo x97_1 rfl (e_lcmp x97_2 (e_lt0 x97_3 (fun c2 => ?_) (fun c2 => ?_))))))))))))))))
  · replace H := H.1 c2
    refine e_ic x97_17 (e_rz x97_18 (by decide) (e_ne0 x131_13 (fun _ => ?_) (fun z9 => absurd (by decide) z9)))
    refine e_ic x131_16 (e_goto x131_17 (e_rz x131_21 (by decide) (e_ne0 x130_10 (fun z9 => absurd z9 (by decide)) (fun _ => ?_))))
    exact e_ic x130_25 (e_ri x130_26 H)
  · replace H := H.2 c2
    refine e_llo x97_6 rfl (e_llo x97_7 rfl (e_lcmp x97_9 (e_gt0 x97_10 (fun c3 => ?_) (fun c3 => ?_))))
    · replace H := H.1 c3
      refine e_ic x97_17 (e_rz x97_18 (by decide) (e_ne0 x131_13 (fun _ => ?_) (fun z9 => absurd (by decide) z9)))
      refine e_ic x131_16 (e_goto x131_17 (e_rz x131_21 (by decide) (e_ne0 x130_10 (fun z9 => absurd z9 (by decide)) (fun _ => ?_))))
      exact e_ic x130_25 (e_ri x130_26 H)
    · replace H := H.2 c3
      refine e_ic x97_13 (e_goto x97_14 (e_rz x97_18 (by decide) (e_ne0 x131_13 (fun z9 => absurd z9 (by decide)) (fun _ => ?_))))
      refine e_ic x131_20 (e_rz x131_21 (by decide) (e_ne0 x130_10 (fun _ => ?_) (fun z9 => absurd (by decide) z9)))
      refine e_il x130_13 rfl (e_i2l x130_14 (e_lc x130_15 (e_lc x130_16 (e_cS (l0 := [some (.long (a2.toInt64)), none, some (.long 1), none, some (.long 1000000), none]) x130_19 rfl rfl rfl rfl rfl (e_llo x97_0 rfl (e_llo x97_1 rfl (e_lcmp x97_2 (e_lt0 x97_3 (fun c4 => ?_) (fun c4 => ?_)))))))))
      · replace H := H.1 c4
        refine e_ic x97_17 (e_rz x97_18 (by decide) (e_ne0 x130_22 (fun _ => ?_) (fun z9 => absurd (by decide) z9)))
        exact e_ic x130_25 (e_ri x130_26 H)
      · replace H := H.2 c4
        refine e_llo x97_6 rfl (e_llo x97_7 rfl (e_lcmp x97_9 (e_gt0 x97_10 (fun c5 => ?_) (fun c5 => ?_))))
        · replace H := H.1 c5
          refine e_ic x97_17 (e_rz x97_18 (by decide) (e_ne0 x130_22 (fun _ => ?_) (fun z9 => absurd (by decide) z9)))
          exact e_ic x130_25 (e_ri x130_26 H)
        · replace H := H.2 c5
          refine e_ic x97_13 (e_goto x97_14 (e_rz x97_18 (by decide) (e_ne0 x130_22 (fun z9 => absurd z9 (by decide)) (fun _ => ?_))))
          exact e_ic x130_27 (e_ist (l' := [some (.ref (aS E 0)), some (.int a1), some (.int a2), some (.int 0), none]) x130_28 rfl rfl (e_ic x130_29 (e_ist (l' := [some (.ref (aS E 0)), some (.int a1), some (.int a2), some (.int 0), some (.int 0)]) x130_30 rfl rfl (H))))

-- Model.weight(II)I, from 32
set_option maxRecDepth 8000 in
theorem T130_32 {E : mE} {v1 : Int32} {v2 : Int32} {v3 : Int32} {v4 : Int32} {S : mS} {K : Option Value → mS → Prop}  (H : ((sS S 0 1) ≤ v4 → (ES E 130 83 [some (.ref (aS E 0)), some (.int v1), some (.int v2), some (.int (v3 + 1)), some (.int (v3 + 1))] [] S K)) ∧ (¬ (sS S 0 1) ≤ v4 → (((sS S 0 3) ≤ 0 → (ES E 130 83 [some (.ref (aS E 0)), some (.int v1), some (.int v2), some (.int (v3 + 1)), some (.int (v3 + 1))] [] S K)) ∧ (¬ (sS S 0 3) ≤ 0 → ((¬ v4 < 0 ∧ (v4.toNatClampNeg) < 10) ∧ (((sS S 2 (v4.toNatClampNeg)) ≤ v3 → (ES E 130 32 [some (.ref (aS E 0)), some (.int v1), some (.int v2), some (.int v3), some (.int (v4 + 1))] [] S K)) ∧ (¬ (sS S 2 (v4.toNatClampNeg)) ≤ v3 → (ES E 130 32 [some (.ref (aS E 0)), some (.int v1), some (.int v2), some (.int (sS S 2 (v4.toNatClampNeg))), some (.int (v4 + 1))] [] S K)))))))) : ES E 130 32 [some (.ref (aS E 0)), some (.int v1), some (.int v2), some (.int v3), some (.int v4)] [] S K := by
  refine e_il x130_32 rfl (e_al x130_34 rfl (e_gS x130_35 (by decide) rfl (e_ge x130_38 (fun c1 => ?_) (fun c1 => ?_))))
  · replace H := H.1 c1
    exact e_inc (l' := [some (.ref (aS E 0)), some (.int v1), some (.int v2), some (.int (v3 + 1)), some (.int v4)]) x130_77 rfl rfl rfl (e_il x130_80 rfl (e_ist (l' := [some (.ref (aS E 0)), some (.int v1), some (.int v2), some (.int (v3 + 1)), some (.int (v3 + 1))]) x130_81 rfl rfl (H)))
  · replace H := H.2 c1
    refine e_al x130_41 rfl (e_gS x130_42 (by decide) rfl (e_le0 x130_45 (fun c2 => ?_) (fun c2 => ?_)))
    · replace H := H.1 c2
      exact e_inc (l' := [some (.ref (aS E 0)), some (.int v1), some (.int v2), some (.int (v3 + 1)), some (.int v4)]) x130_77 rfl rfl rfl (e_il x130_80 rfl (e_ist (l' := [some (.ref (aS E 0)), some (.int v1), some (.int v2), some (.int (v3 + 1)), some (.int (v3 + 1))]) x130_81 rfl rfl (H)))
    · replace H := H.2 c2
      have c3 := H.1
      replace H := H.2
      refine e_al x130_48 rfl (e_PS x130_49 rfl (e_il x130_52 rfl (e_iaS x130_54 (by decide) rfl c3 (e_il x130_55 rfl (e_le x130_56 (fun c4 => ?_) (fun c4 => ?_))))))
      · replace H := H.1 c4
        exact e_il x130_69 rfl (e_ist (l' := [some (.ref (aS E 0)), some (.int v1), some (.int v2), some (.int v3), some (.int v4)]) x130_70 rfl rfl (e_inc (l' := [some (.ref (aS E 0)), some (.int v1), some (.int v2), some (.int v3), some (.int (v4 + 1))]) x130_71 rfl rfl rfl (e_back (l' := [some (.ref (aS E 0)), some (.int v1), some (.int v2), some (.int v3), some (.int (v4 + 1))]) x130_74 rfl (H))))
      · replace H := H.2 c4
        exact e_al x130_59 rfl (e_PS x130_60 rfl (e_il x130_63 rfl (e_iaS x130_65 (by decide) rfl c3 (e_goto x130_66 (e_ist (l' := [some (.ref (aS E 0)), some (.int v1), some (.int v2), some (.int (sS S 2 (v4.toNatClampNeg))), some (.int v4)]) x130_70 rfl rfl (e_inc (l' := [some (.ref (aS E 0)), some (.int v1), some (.int v2), some (.int (sS S 2 (v4.toNatClampNeg))), some (.int (v4 + 1))]) x130_71 rfl rfl rfl (e_back (l' := [some (.ref (aS E 0)), some (.int v1), some (.int v2), some (.int (sS S 2 (v4.toNatClampNeg))), some (.int (v4 + 1))]) x130_74 rfl (H))))))))

-- Model.weight(II)I, from 83
set_option maxRecDepth 8000 in
theorem T130_83 {E : mE} {v1 : Int32} {v2 : Int32} {v3 : Int32} {v4 : Int32} {S : mS} {K : Option Value → mS → Prop}  (H : ((40 : Int32) < v4 → (K (some (.int v3)) S)) ∧ (¬ (40 : Int32) < v4 → ((¬ ((10 * v4) + v1) < 0 ∧ (((10 * v4) + v1).toNatClampNeg) < 420) ∧ (∀ S3, S3 = uS S 1 (((10 * v4) + v1).toNatClampNeg) v2 → (ES E 130 83 [some (.ref (aS E 0)), some (.int v1), some (.int v2), some (.int v3), some (.int (v4 + 1))] [] S3 K))))) : ES E 130 83 [some (.ref (aS E 0)), some (.int v1), some (.int v2), some (.int v3), some (.int v4)] [] S K := by
  refine e_il x130_83 rfl (e_ic x130_85 (e_gt x130_87 (fun c1 => ?_) (fun c1 => ?_)))
  · replace H := H.1 c1
    exact e_il x130_109 rfl (e_ri x130_110 H)
  · replace H := H.2 c1
    have c2 := H.1
    replace H := H.2
    refine e_al x130_90 rfl (e_PS x130_91 rfl (e_ic x130_94 (e_il x130_96 rfl (e_ii (v := (10 * v4)) x130_98 rfl (e_il x130_99 rfl (e_ii (v := ((10 * v4) + v1)) x130_100 rfl (e_il x130_101 rfl (e_waS x130_102 (by decide) rfl c2 ?_))))))))
    let S3 : mS := uS S 1 (((10 * v4) + v1).toNatClampNeg) v2
    replace H := H S3 rfl
    show ES _ _ _ _ _ S3 _
    exact e_inc (l' := [some (.ref (aS E 0)), some (.int v1), some (.int v2), some (.int v3), some (.int (v4 + 1))]) x130_103 rfl rfl rfl (e_back (l' := [some (.ref (aS E 0)), some (.int v1), some (.int v2), some (.int v3), some (.int (v4 + 1))]) x130_106 rfl (H))

-- Model.behave(II)I, from 0
set_option maxRecDepth 8000 in
theorem T132 {E : mE} {a1 : Int32} {a2 : Int32} {S : mS} {K : Option Value → mS → Prop}  (H : ∀ S1, S1 = uS S 0 0 0 → (((lg_cmp (a1.toInt64) 0) < 0 → (K (some (.int (-1))) S1)) ∧ (¬ (lg_cmp (a1.toInt64) 0) < 0 → (((0 : Int32) < (lg_cmp (a1.toInt64) (((sS S1 0 1) - 1).toInt64)) → (K (some (.int (-1))) S1)) ∧ (¬ (0 : Int32) < (lg_cmp (a1.toInt64) (((sS S1 0 1) - 1).toInt64)) → (((lg_cmp (a2.toInt64) 0) < 0 → (K (some (.int (-1))) S1)) ∧ (¬ (lg_cmp (a2.toInt64) 0) < 0 → (((0 : Int32) < (lg_cmp (a2.toInt64) 5) → (K (some (.int (-1))) S1)) ∧ (¬ (0 : Int32) < (lg_cmp (a2.toInt64) 5) → ((¬ a1 < 0 ∧ (a1.toNatClampNeg) < 10) ∧ (∀ S7, S7 = uS S1 11 (a1.toNatClampNeg) a2 → (K (some (.int (sS S1 11 (a1.toNatClampNeg)))) S7)))))))))))) : ES E 132 0 [some (.ref (aS E 0)), some (.int a1), some (.int a2), none] [] S K := by
  refine e_al x132_0 rfl (e_ic x132_1 (e_pS x132_2 (by decide) rfl ?_))
  let S1 : mS := uS S 0 0 0
  replace H := H S1 rfl
  show ES _ _ _ _ _ S1 _
  refine e_al x132_5 rfl (e_il x132_6 rfl (e_cV (l0 := [some (.ref (aS E 0)), some (.int a1)]) x132_7 rfl rfl rfl rfl rfl (fun h hh => hh.tS (by decide)) (e_il x131_0 rfl (e_i2l x131_1 (e_lc x131_2 (e_al x131_3 rfl (e_gS x131_4 (by decide) rfl (e_ic x131_7 (e_ii (v := ((sS S1 0 1) - 1)) x131_8 rfl (e_i2l x131_9 (e_cS (l0 := [some (.long (a1.toInt64)), none, some (.long 0), none, some (.long (((sS S1 0 1) - 1).toInt64)), none]) x131_10 rfl rfl rfl rfl rfl (e_llo x97_0 rfl (e_llo x97_1 rfl (e_lcmp x97_2 (e_lt0 x97_3 (fun c2 => ?_) (fun c2 => ?_))))))))))))))))
  · replace H := H.1 c2
    refine e_ic x97_17 (e_rz x97_18 (by decide) (e_ne0 x131_13 (fun _ => ?_) (fun z9 => absurd (by decide) z9)))
    refine e_ic x131_16 (e_goto x131_17 (e_rz x131_21 (by decide) (e_ne0 x132_10 (fun z9 => absurd z9 (by decide)) (fun _ => ?_))))
    exact e_ic x132_25 (e_ri x132_26 H)
  · replace H := H.2 c2
    refine e_llo x97_6 rfl (e_llo x97_7 rfl (e_lcmp x97_9 (e_gt0 x97_10 (fun c3 => ?_) (fun c3 => ?_))))
    · replace H := H.1 c3
      refine e_ic x97_17 (e_rz x97_18 (by decide) (e_ne0 x131_13 (fun _ => ?_) (fun z9 => absurd (by decide) z9)))
      refine e_ic x131_16 (e_goto x131_17 (e_rz x131_21 (by decide) (e_ne0 x132_10 (fun z9 => absurd z9 (by decide)) (fun _ => ?_))))
      exact e_ic x132_25 (e_ri x132_26 H)
    · replace H := H.2 c3
      refine e_ic x97_13 (e_goto x97_14 (e_rz x97_18 (by decide) (e_ne0 x131_13 (fun z9 => absurd z9 (by decide)) (fun _ => ?_))))
      refine e_ic x131_20 (e_rz x131_21 (by decide) (e_ne0 x132_10 (fun _ => ?_) (fun z9 => absurd (by decide) z9)))
      refine e_il x132_13 rfl (e_i2l x132_14 (e_lc x132_15 (e_lc x132_16 (e_cS (l0 := [some (.long (a2.toInt64)), none, some (.long 0), none, some (.long 5), none]) x132_19 rfl rfl rfl rfl rfl (e_llo x97_0 rfl (e_llo x97_1 rfl (e_lcmp x97_2 (e_lt0 x97_3 (fun c4 => ?_) (fun c4 => ?_)))))))))
      · replace H := H.1 c4
        refine e_ic x97_17 (e_rz x97_18 (by decide) (e_ne0 x132_22 (fun _ => ?_) (fun z9 => absurd (by decide) z9)))
        exact e_ic x132_25 (e_ri x132_26 H)
      · replace H := H.2 c4
        refine e_llo x97_6 rfl (e_llo x97_7 rfl (e_lcmp x97_9 (e_gt0 x97_10 (fun c5 => ?_) (fun c5 => ?_))))
        · replace H := H.1 c5
          refine e_ic x97_17 (e_rz x97_18 (by decide) (e_ne0 x132_22 (fun _ => ?_) (fun z9 => absurd (by decide) z9)))
          exact e_ic x132_25 (e_ri x132_26 H)
        · replace H := H.2 c5
          refine e_ic x97_13 (e_goto x97_14 (e_rz x97_18 (by decide) (e_ne0 x132_22 (fun z9 => absurd z9 (by decide)) (fun _ => ?_))))
          have c6 := H.1
          replace H := H.2
          refine e_al x132_27 rfl (e_PS x132_28 rfl (e_il x132_31 rfl (e_iaS x132_32 (by decide) rfl c6 (e_ist (l' := [some (.ref (aS E 0)), some (.int a1), some (.int a2), some (.int (sS S1 11 (a1.toNatClampNeg)))]) x132_33 rfl rfl (e_al x132_34 rfl (e_PS x132_35 rfl (e_il x132_38 rfl (e_il x132_39 rfl (e_waS x132_40 (by decide) rfl c6 ?_)))))))))
          let S7 : mS := uS S1 11 (a1.toNatClampNeg) a2
          replace H := H S7 rfl
          show ES _ _ _ _ _ S7 _
          exact e_il x132_41 rfl (e_ri x132_42 H)

-- Model.disturb(III)I, from 0
set_option maxRecDepth 8000 in
theorem T133 {E : mE} {a1 : Int32} {a2 : Int32} {a3 : Int32} {S : mS} {K : Option Value → mS → Prop}  (H : ∀ S1, S1 = uS S 0 0 0 → ((a1 < (sS S1 0 39) → (K (some (.int (-1))) S1)) ∧ (¬ a1 < (sS S1 0 39) → (((lg_cmp (a2.toInt64) 0) < 0 → (K (some (.int (-1))) S1)) ∧ (¬ (lg_cmp (a2.toInt64) 0) < 0 → (((0 : Int32) < (lg_cmp (a2.toInt64) 2) → (K (some (.int (-1))) S1)) ∧ (¬ (0 : Int32) < (lg_cmp (a2.toInt64) 2) → ((a2 = 2 → (((lg_cmp (a3.toInt64) 1) < 0 → (K (some (.int (-1))) S1)) ∧ (¬ (lg_cmp (a3.toInt64) 1) < 0 → (((0 : Int32) < (lg_cmp (a3.toInt64) 20) → (K (some (.int (-1))) S1)) ∧ (¬ (0 : Int32) < (lg_cmp (a3.toInt64) 20) → (ES E 133 47 [some (.ref (aS E 0)), some (.int a1), some (.int a2), some (.int a3), some (.int 0)] [] S1 K)))))) ∧ (¬ a2 = 2 → (ES E 133 47 [some (.ref (aS E 0)), some (.int a1), some (.int a2), some (.int a3), some (.int 0)] [] S1 K)))))))))) : ES E 133 0 [some (.ref (aS E 0)), some (.int a1), some (.int a2), some (.int a3), none] [] S K := by
  refine e_al x133_0 rfl (e_ic x133_1 (e_pS x133_2 (by decide) rfl ?_))
  let S1 : mS := uS S 0 0 0
  replace H := H S1 rfl
  show ES _ _ _ _ _ S1 _
  refine e_il x133_5 rfl (e_al x133_6 rfl (e_gS x133_7 (by decide) rfl (e_lt x133_10 (fun c2 => ?_) (fun c2 => ?_))))
  · replace H := H.1 c2
    exact e_ic x133_42 (e_ri x133_43 H)
  · replace H := H.2 c2
    refine e_il x133_13 rfl (e_i2l x133_14 (e_lc x133_15 (e_lc x133_16 (e_cS (l0 := [some (.long (a2.toInt64)), none, some (.long 0), none, some (.long 2), none]) x133_19 rfl rfl rfl rfl rfl (e_llo x97_0 rfl (e_llo x97_1 rfl (e_lcmp x97_2 (e_lt0 x97_3 (fun c3 => ?_) (fun c3 => ?_)))))))))
    · replace H := H.1 c3
      refine e_ic x97_17 (e_rz x97_18 (by decide) (e_eq0 x133_22 (fun _ => ?_) (fun z9 => absurd (by decide) z9)))
      exact e_ic x133_42 (e_ri x133_43 H)
    · replace H := H.2 c3
      refine e_llo x97_6 rfl (e_llo x97_7 rfl (e_lcmp x97_9 (e_gt0 x97_10 (fun c4 => ?_) (fun c4 => ?_))))
      · replace H := H.1 c4
        refine e_ic x97_17 (e_rz x97_18 (by decide) (e_eq0 x133_22 (fun _ => ?_) (fun z9 => absurd (by decide) z9)))
        exact e_ic x133_42 (e_ri x133_43 H)
      · replace H := H.2 c4
        refine e_ic x97_13 (e_goto x97_14 (e_rz x97_18 (by decide) (e_eq0 x133_22 (fun z9 => absurd z9 (by decide)) (fun _ => ?_))))
        refine e_il x133_25 rfl (e_ic x133_26 (e_ne x133_27 (fun c5 => ?_) (fun c5 => ?_)))
        · replace H := H.1 c5
          refine e_il x133_30 rfl (e_i2l x133_31 (e_lc x133_32 (e_lc x133_33 (e_cS (l0 := [some (.long (a3.toInt64)), none, some (.long 1), none, some (.long 20), none]) x133_36 rfl rfl rfl rfl rfl (e_llo x97_0 rfl (e_llo x97_1 rfl (e_lcmp x97_2 (e_lt0 x97_3 (fun c6 => ?_) (fun c6 => ?_)))))))))
          · replace H := H.1 c6
            refine e_ic x97_17 (e_rz x97_18 (by decide) (e_ne0 x133_39 (fun _ => ?_) (fun z9 => absurd (by decide) z9)))
            exact e_ic x133_42 (e_ri x133_43 H)
          · replace H := H.2 c6
            refine e_llo x97_6 rfl (e_llo x97_7 rfl (e_lcmp x97_9 (e_gt0 x97_10 (fun c7 => ?_) (fun c7 => ?_))))
            · replace H := H.1 c7
              refine e_ic x97_17 (e_rz x97_18 (by decide) (e_ne0 x133_39 (fun _ => ?_) (fun z9 => absurd (by decide) z9)))
              exact e_ic x133_42 (e_ri x133_43 H)
            · replace H := H.2 c7
              refine e_ic x97_13 (e_goto x97_14 (e_rz x97_18 (by decide) (e_ne0 x133_39 (fun z9 => absurd z9 (by decide)) (fun _ => ?_))))
              exact e_ic x133_44 (e_ist (l' := [some (.ref (aS E 0)), some (.int a1), some (.int a2), some (.int a3), some (.int 0)]) x133_45 rfl rfl (H))
        · replace H := H.2 c5
          exact e_ic x133_44 (e_ist (l' := [some (.ref (aS E 0)), some (.int a1), some (.int a2), some (.int a3), some (.int 0)]) x133_45 rfl rfl (H))

-- Model.disturb(III)I, from 47
set_option maxRecDepth 8000 in
theorem T133_47 {E : mE} {v1 : Int32} {v2 : Int32} {v3 : Int32} {v4 : Int32} {S : mS} {K : Option Value → mS → Prop}  (H : ((sS S 0 45) ≤ v4 → (((sS S 0 45) = 60 → (K (some (.int (-3))) S)) ∧ (¬ (sS S 0 45) = 60 → ((¬ (sS S 0 45) < 0 ∧ ((sS S 0 45).toNatClampNeg) < 60) ∧ (∀ S4, S4 = uS S 34 ((sS S 0 45).toNatClampNeg) v1 → ((¬ (sS S4 0 45) < 0 ∧ ((sS S4 0 45).toNatClampNeg) < 60) ∧ (∀ S6, S6 = uS S4 35 ((sS S4 0 45).toNatClampNeg) v2 → ((¬ (sS S6 0 45) < 0 ∧ ((sS S6 0 45).toNatClampNeg) < 60) ∧ (∀ S8, S8 = uS S6 36 ((sS S6 0 45).toNatClampNeg) v3 → (∀ S9, S9 = uS S8 0 45 ((sS S8 0 45) + 1) → (K (some (.int (sS S9 0 45))) S9))))))))))) ∧ (¬ (sS S 0 45) ≤ v4 → ((¬ v4 < 0 ∧ (v4.toNatClampNeg) < 60) ∧ (((sS S 34 (v4.toNatClampNeg)) = v1 → (K (some (.int (-1))) S)) ∧ (¬ (sS S 34 (v4.toNatClampNeg)) = v1 → (ES E 133 47 [some (.ref (aS E 0)), some (.int v1), some (.int v2), some (.int v3), some (.int (v4 + 1))] [] S K)))))) : ES E 133 47 [some (.ref (aS E 0)), some (.int v1), some (.int v2), some (.int v3), some (.int v4)] [] S K := by
  refine e_il x133_47 rfl (e_al x133_49 rfl (e_gS x133_50 (by decide) rfl (e_ge x133_53 (fun c1 => ?_) (fun c1 => ?_))))
  · replace H := H.1 c1
    refine e_al x133_75 rfl (e_gS x133_76 (by decide) rfl (e_ic x133_79 (e_ne x133_81 (fun c2 => ?_) (fun c2 => ?_))))
    · replace H := H.1 c2
      exact e_ic x133_84 (e_ri x133_86 H)
    · replace H := H.2 c2
      have c3 := H.1
      replace H := H.2
      refine e_al x133_87 rfl (e_PS x133_88 rfl (e_al x133_91 rfl (e_gS x133_92 (by decide) rfl (e_il x133_95 rfl (e_waS x133_96 (by decide) rfl c3 ?_)))))
      let S4 : mS := uS S 34 ((sS S 0 45).toNatClampNeg) v1
      replace H := H S4 rfl
      show ES _ _ _ _ _ S4 _
      have c5 := H.1
      replace H := H.2
      refine e_al x133_97 rfl (e_PS x133_98 rfl (e_al x133_101 rfl (e_gS x133_102 (by decide) rfl (e_il x133_105 rfl (e_waS x133_106 (by decide) rfl c5 ?_)))))
      let S6 : mS := uS S4 35 ((sS S4 0 45).toNatClampNeg) v2
      replace H := H S6 rfl
      show ES _ _ _ _ _ S6 _
      have c7 := H.1
      replace H := H.2
      refine e_al x133_107 rfl (e_PS x133_108 rfl (e_al x133_111 rfl (e_gS x133_112 (by decide) rfl (e_il x133_115 rfl (e_waS x133_116 (by decide) rfl c7 ?_)))))
      let S8 : mS := uS S6 36 ((sS S6 0 45).toNatClampNeg) v3
      replace H := H S8 rfl
      show ES _ _ _ _ _ S8 _
      refine e_al x133_117 rfl (e_dupr x133_118 (e_gS x133_119 (by decide) rfl (e_ic x133_122 (e_ii (v := ((sS S8 0 45) + 1)) x133_123 rfl (e_pS x133_124 (by decide) rfl ?_)))))
      let S9 : mS := uS S8 0 45 ((sS S8 0 45) + 1)
      replace H := H S9 rfl
      show ES _ _ _ _ _ S9 _
      exact e_al x133_127 rfl (e_gS x133_128 (by decide) rfl (e_ri x133_131 H))
  · replace H := H.2 c1
    have c10 := H.1
    replace H := H.2
    refine e_al x133_56 rfl (e_PS x133_57 rfl (e_il x133_60 rfl (e_iaS x133_62 (by decide) rfl c10 (e_il x133_63 rfl (e_ne x133_64 (fun c11 => ?_) (fun c11 => ?_))))))
    · replace H := H.1 c11
      exact e_ic x133_67 (e_ri x133_68 H)
    · replace H := H.2 c11
      exact e_inc (l' := [some (.ref (aS E 0)), some (.int v1), some (.int v2), some (.int v3), some (.int (v4 + 1))]) x133_69 rfl rfl rfl (e_back (l' := [some (.ref (aS E 0)), some (.int v1), some (.int v2), some (.int v3), some (.int (v4 + 1))]) x133_72 rfl (H))

-- Model.sides(II)I, from 0
set_option maxRecDepth 8000 in
theorem T134 {E : mE} {a1 : Int32} {a2 : Int32} {S : mS} {K : Option Value → mS → Prop}  (H : ∀ S1, S1 = uS S 0 0 0 → (((lg_cmp (a2.toInt64) 1) < 0 → (K (some (.int (-1))) S1)) ∧ (¬ (lg_cmp (a2.toInt64) 1) < 0 → (((0 : Int32) < (lg_cmp (a2.toInt64) 100) → (K (some (.int (-1))) S1)) ∧ (¬ (0 : Int32) < (lg_cmp (a2.toInt64) 100) → (∀ S4, S4 = uS S1 0 46 a1 → (∀ S5, S5 = uS S4 0 47 ((sS S4 0 3) + 1) → (∀ S6, S6 = uS S5 0 48 ((sS S5 0 3) + a2) → (K (some (.int 1)) S6))))))))) : ES E 134 0 [some (.ref (aS E 0)), some (.int a1), some (.int a2)] [] S K := by
  refine e_al x134_0 rfl (e_ic x134_1 (e_pS x134_2 (by decide) rfl ?_))
  let S1 : mS := uS S 0 0 0
  replace H := H S1 rfl
  show ES _ _ _ _ _ S1 _
  refine e_il x134_5 rfl (e_i2l x134_6 (e_lc x134_7 (e_lc x134_8 (e_cS (l0 := [some (.long (a2.toInt64)), none, some (.long 1), none, some (.long 100), none]) x134_11 rfl rfl rfl rfl rfl (e_llo x97_0 rfl (e_llo x97_1 rfl (e_lcmp x97_2 (e_lt0 x97_3 (fun c2 => ?_) (fun c2 => ?_)))))))))
  · replace H := H.1 c2
    refine e_ic x97_17 (e_rz x97_18 (by decide) (e_ne0 x134_14 (fun _ => ?_) (fun z9 => absurd (by decide) z9)))
    exact e_ic x134_17 (e_ri x134_18 H)
  · replace H := H.2 c2
    refine e_llo x97_6 rfl (e_llo x97_7 rfl (e_lcmp x97_9 (e_gt0 x97_10 (fun c3 => ?_) (fun c3 => ?_))))
    · replace H := H.1 c3
      refine e_ic x97_17 (e_rz x97_18 (by decide) (e_ne0 x134_14 (fun _ => ?_) (fun z9 => absurd (by decide) z9)))
      exact e_ic x134_17 (e_ri x134_18 H)
    · replace H := H.2 c3
      refine e_ic x97_13 (e_goto x97_14 (e_rz x97_18 (by decide) (e_ne0 x134_14 (fun z9 => absurd z9 (by decide)) (fun _ => ?_))))
      refine e_al x134_19 rfl (e_il x134_20 rfl (e_pS x134_21 (by decide) rfl ?_))
      let S4 : mS := uS S1 0 46 a1
      replace H := H S4 rfl
      show ES _ _ _ _ _ S4 _
      refine e_al x134_24 rfl (e_al x134_25 rfl (e_gS x134_26 (by decide) rfl (e_ic x134_29 (e_ii (v := ((sS S4 0 3) + 1)) x134_30 rfl (e_pS x134_31 (by decide) rfl ?_)))))
      let S5 : mS := uS S4 0 47 ((sS S4 0 3) + 1)
      replace H := H S5 rfl
      show ES _ _ _ _ _ S5 _
      refine e_al x134_34 rfl (e_al x134_35 rfl (e_gS x134_36 (by decide) rfl (e_il x134_39 rfl (e_ii (v := ((sS S5 0 3) + a2)) x134_40 rfl (e_pS x134_41 (by decide) rfl ?_)))))
      let S6 : mS := uS S5 0 48 ((sS S5 0 3) + a2)
      replace H := H S6 rfl
      show ES _ _ _ _ _ S6 _
      exact e_ic x134_44 (e_ri x134_45 H)

-- Model.cut(II)I, from 0
set_option maxRecDepth 8000 in
theorem T135 {E : mE} {a1 : Int32} {a2 : Int32} {S : mS} {K : Option Value → mS → Prop}  (H : ∀ S1, S1 = uS S 0 0 0 → (((lg_cmp (a1.toInt64) 0) < 0 → (K (some (.int (-1))) S1)) ∧ (¬ (lg_cmp (a1.toInt64) 0) < 0 → (((0 : Int32) < (lg_cmp (a1.toInt64) (((sS S1 0 1) - 1).toInt64)) → (K (some (.int (-1))) S1)) ∧ (¬ (0 : Int32) < (lg_cmp (a1.toInt64) (((sS S1 0 1) - 1).toInt64)) → (((lg_cmp (a2.toInt64) 1) < 0 → (K (some (.int (-1))) S1)) ∧ (¬ (lg_cmp (a2.toInt64) 1) < 0 → (((0 : Int32) < (lg_cmp (a2.toInt64) 50) → (K (some (.int (-1))) S1)) ∧ (¬ (0 : Int32) < (lg_cmp (a2.toInt64) 50) → ((¬ a1 < 0 ∧ (a1.toNatClampNeg) < 10) ∧ (((sS S1 10 (a1.toNatClampNeg)) = 0 → (((sS S1 0 3) = 0 → (K (some (.int (-2))) S1)) ∧ (¬ (sS S1 0 3) = 0 → (∀ S9, S9 = uS S1 10 (a1.toNatClampNeg) 1 → (∀ S10, S10 = uS S9 9 (a1.toNatClampNeg) ((sS S9 0 3) + a2) → (K (some (.int 1)) S10)))))) ∧ (¬ (sS S1 10 (a1.toNatClampNeg)) = 0 → (K (some (.int (-2))) S1))))))))))))) : ES E 135 0 [some (.ref (aS E 0)), some (.int a1), some (.int a2)] [] S K := by
  refine e_al x135_0 rfl (e_ic x135_1 (e_pS x135_2 (by decide) rfl ?_))
  let S1 : mS := uS S 0 0 0
  replace H := H S1 rfl
  show ES _ _ _ _ _ S1 _
  refine e_al x135_5 rfl (e_il x135_6 rfl (e_cV (l0 := [some (.ref (aS E 0)), some (.int a1)]) x135_7 rfl rfl rfl rfl rfl (fun h hh => hh.tS (by decide)) (e_il x131_0 rfl (e_i2l x131_1 (e_lc x131_2 (e_al x131_3 rfl (e_gS x131_4 (by decide) rfl (e_ic x131_7 (e_ii (v := ((sS S1 0 1) - 1)) x131_8 rfl (e_i2l x131_9 (e_cS (l0 := [some (.long (a1.toInt64)), none, some (.long 0), none, some (.long (((sS S1 0 1) - 1).toInt64)), none]) x131_10 rfl rfl rfl rfl rfl (e_llo x97_0 rfl (e_llo x97_1 rfl (e_lcmp x97_2 (e_lt0 x97_3 (fun c2 => ?_) (fun c2 => ?_))))))))))))))))
  · replace H := H.1 c2
    refine e_ic x97_17 (e_rz x97_18 (by decide) (e_ne0 x131_13 (fun _ => ?_) (fun z9 => absurd (by decide) z9)))
    refine e_ic x131_16 (e_goto x131_17 (e_rz x131_21 (by decide) (e_ne0 x135_10 (fun z9 => absurd z9 (by decide)) (fun _ => ?_))))
    exact e_ic x135_25 (e_ri x135_26 H)
  · replace H := H.2 c2
    refine e_llo x97_6 rfl (e_llo x97_7 rfl (e_lcmp x97_9 (e_gt0 x97_10 (fun c3 => ?_) (fun c3 => ?_))))
    · replace H := H.1 c3
      refine e_ic x97_17 (e_rz x97_18 (by decide) (e_ne0 x131_13 (fun _ => ?_) (fun z9 => absurd (by decide) z9)))
      refine e_ic x131_16 (e_goto x131_17 (e_rz x131_21 (by decide) (e_ne0 x135_10 (fun z9 => absurd z9 (by decide)) (fun _ => ?_))))
      exact e_ic x135_25 (e_ri x135_26 H)
    · replace H := H.2 c3
      refine e_ic x97_13 (e_goto x97_14 (e_rz x97_18 (by decide) (e_ne0 x131_13 (fun z9 => absurd z9 (by decide)) (fun _ => ?_))))
      refine e_ic x131_20 (e_rz x131_21 (by decide) (e_ne0 x135_10 (fun _ => ?_) (fun z9 => absurd (by decide) z9)))
      refine e_il x135_13 rfl (e_i2l x135_14 (e_lc x135_15 (e_lc x135_16 (e_cS (l0 := [some (.long (a2.toInt64)), none, some (.long 1), none, some (.long 50), none]) x135_19 rfl rfl rfl rfl rfl (e_llo x97_0 rfl (e_llo x97_1 rfl (e_lcmp x97_2 (e_lt0 x97_3 (fun c4 => ?_) (fun c4 => ?_)))))))))
      · replace H := H.1 c4
        refine e_ic x97_17 (e_rz x97_18 (by decide) (e_ne0 x135_22 (fun _ => ?_) (fun z9 => absurd (by decide) z9)))
        exact e_ic x135_25 (e_ri x135_26 H)
      · replace H := H.2 c4
        refine e_llo x97_6 rfl (e_llo x97_7 rfl (e_lcmp x97_9 (e_gt0 x97_10 (fun c5 => ?_) (fun c5 => ?_))))
        · replace H := H.1 c5
          refine e_ic x97_17 (e_rz x97_18 (by decide) (e_ne0 x135_22 (fun _ => ?_) (fun z9 => absurd (by decide) z9)))
          exact e_ic x135_25 (e_ri x135_26 H)
        · replace H := H.2 c5
          refine e_ic x97_13 (e_goto x97_14 (e_rz x97_18 (by decide) (e_ne0 x135_22 (fun z9 => absurd z9 (by decide)) (fun _ => ?_))))
          have c6 := H.1
          replace H := H.2
          refine e_al x135_27 rfl (e_PS x135_28 rfl (e_il x135_31 rfl (e_baS x135_32 (by decide) rfl c6 (e_ne0 x135_33 (fun c7 => ?_) (fun c7 => ?_)))))
          · replace H := H.1 c7
            refine e_al x135_36 rfl (e_gS x135_37 (by decide) rfl (e_ne0 x135_40 (fun c8 => ?_) (fun c8 => ?_)))
            · replace H := H.1 c8
              exact e_ic x135_43 (e_ri x135_45 H)
            · replace H := H.2 c8
              refine e_al x135_46 rfl (e_PS x135_47 rfl (e_il x135_50 rfl (e_ic x135_51 (e_wzS x135_52 (by decide) rfl (by decide) c6 ?_))))
              let S9 : mS := uS S1 10 (a1.toNatClampNeg) 1
              replace H := H S9 rfl
              show ES _ _ _ _ _ S9 _
              refine e_al x135_53 rfl (e_PS x135_54 rfl (e_il x135_57 rfl (e_al x135_58 rfl (e_gS x135_59 (by decide) rfl (e_il x135_62 rfl (e_ii (v := ((sS S9 0 3) + a2)) x135_63 rfl (e_waS x135_64 (by decide) rfl c6 ?_)))))))
              let S10 : mS := uS S9 9 (a1.toNatClampNeg) ((sS S9 0 3) + a2)
              replace H := H S10 rfl
              show ES _ _ _ _ _ S10 _
              exact e_ic x135_65 (e_ri x135_66 H)
          · replace H := H.2 c7
            exact e_ic x135_43 (e_ri x135_45 H)

-- Model.catchUp(I)I, from 0
set_option maxRecDepth 8000 in
theorem T136 {E : mE} {a1 : Int32} {S : mS} {K : Option Value → mS → Prop}  (H : ∀ S1, S1 = uS S 0 0 0 → (((lg_cmp (a1.toInt64) 0) < 0 → (K (some (.int (-1))) S1)) ∧ (¬ (lg_cmp (a1.toInt64) 0) < 0 → (((0 : Int32) < (lg_cmp (a1.toInt64) (((sS S1 0 1) - 1).toInt64)) → (K (some (.int (-1))) S1)) ∧ (¬ (0 : Int32) < (lg_cmp (a1.toInt64) (((sS S1 0 1) - 1).toInt64)) → ((¬ a1 < 0 ∧ (a1.toNatClampNeg) < 10) ∧ (((sS S1 10 (a1.toNatClampNeg)) = 0 → (((sS S1 0 3) = 0 → (K (some (.int (-2))) S1)) ∧ (¬ (sS S1 0 3) = 0 → (ES E 136 38 [some (.ref (aS E 0)), some (.int a1), some (.int 0), some (.int 1), none, none, none, none] [] S1 K)))) ∧ (¬ (sS S1 10 (a1.toNatClampNeg)) = 0 → (K (some (.int (-2))) S1))))))))) : ES E 136 0 [some (.ref (aS E 0)), some (.int a1), none, none, none, none, none, none] [] S K := by
  refine e_al x136_0 rfl (e_ic x136_1 (e_pS x136_2 (by decide) rfl ?_))
  let S1 : mS := uS S 0 0 0
  replace H := H S1 rfl
  show ES _ _ _ _ _ S1 _
  refine e_al x136_5 rfl (e_il x136_6 rfl (e_cV (l0 := [some (.ref (aS E 0)), some (.int a1)]) x136_7 rfl rfl rfl rfl rfl (fun h hh => hh.tS (by decide)) (e_il x131_0 rfl (e_i2l x131_1 (e_lc x131_2 (e_al x131_3 rfl (e_gS x131_4 (by decide) rfl (e_ic x131_7 (e_ii (v := ((sS S1 0 1) - 1)) x131_8 rfl (e_i2l x131_9 (e_cS (l0 := [some (.long (a1.toInt64)), none, some (.long 0), none, some (.long (((sS S1 0 1) - 1).toInt64)), none]) x131_10 rfl rfl rfl rfl rfl (e_llo x97_0 rfl (e_llo x97_1 rfl (e_lcmp x97_2 (e_lt0 x97_3 (fun c2 => ?_) (fun c2 => ?_))))))))))))))))
  · replace H := H.1 c2
    refine e_ic x97_17 (e_rz x97_18 (by decide) (e_ne0 x131_13 (fun _ => ?_) (fun z9 => absurd (by decide) z9)))
    refine e_ic x131_16 (e_goto x131_17 (e_rz x131_21 (by decide) (e_eq0 x136_10 (fun z9 => absurd z9 (by decide)) (fun _ => ?_))))
    exact e_ic x136_13 (e_ri x136_14 H)
  · replace H := H.2 c2
    refine e_llo x97_6 rfl (e_llo x97_7 rfl (e_lcmp x97_9 (e_gt0 x97_10 (fun c3 => ?_) (fun c3 => ?_))))
    · replace H := H.1 c3
      refine e_ic x97_17 (e_rz x97_18 (by decide) (e_ne0 x131_13 (fun _ => ?_) (fun z9 => absurd (by decide) z9)))
      refine e_ic x131_16 (e_goto x131_17 (e_rz x131_21 (by decide) (e_eq0 x136_10 (fun z9 => absurd z9 (by decide)) (fun _ => ?_))))
      exact e_ic x136_13 (e_ri x136_14 H)
    · replace H := H.2 c3
      refine e_ic x97_13 (e_goto x97_14 (e_rz x97_18 (by decide) (e_ne0 x131_13 (fun z9 => absurd z9 (by decide)) (fun _ => ?_))))
      refine e_ic x131_20 (e_rz x131_21 (by decide) (e_eq0 x136_10 (fun _ => ?_) (fun z9 => absurd (by decide) z9)))
      have c4 := H.1
      replace H := H.2
      refine e_al x136_15 rfl (e_PS x136_16 rfl (e_il x136_19 rfl (e_baS x136_20 (by decide) rfl c4 (e_ne0 x136_21 (fun c5 => ?_) (fun c5 => ?_)))))
      · replace H := H.1 c5
        refine e_al x136_24 rfl (e_gS x136_25 (by decide) rfl (e_ne0 x136_28 (fun c6 => ?_) (fun c6 => ?_)))
        · replace H := H.1 c6
          exact e_ic x136_31 (e_ri x136_33 H)
        · replace H := H.2 c6
          exact e_ic x136_34 (e_ist (l' := [some (.ref (aS E 0)), some (.int a1), some (.int 0), none, none, none, none, none]) x136_35 rfl rfl (e_ic x136_36 (e_ist (l' := [some (.ref (aS E 0)), some (.int a1), some (.int 0), some (.int 1), none, none, none, none]) x136_37 rfl rfl (H))))
      · replace H := H.2 c5
        exact e_ic x136_31 (e_ri x136_33 H)

-- Model.catchUp(I)I, from 38
set_option maxRecDepth 8000 in
theorem T136_38 {E : mE} {v1 : Int32} {v2 : Int32} {v3 : Int32} {S : mS} {K : Option Value → mS → Prop}  (H : (v3 = 0 → ((v2 ≤ 0 → (K (some (.int v2)) S)) ∧ (¬ v2 ≤ 0 → ((¬ v1 < 0 ∧ (v1.toNatClampNeg) < 10) ∧ (((40 : Int32) < (sS S 2 (v1.toNatClampNeg)) → (K (some (.int v2)) S)) ∧ (¬ (40 : Int32) < (sS S 2 (v1.toNatClampNeg)) → (ES E 99 0 [some (.ref (aS E 0)), some (.int v1), some (.int 0), none] [] S (fun r S5 => r = none ∧ (ES E 111 0 [some (.ref (aS E 0)), some (.int v1), none] [] S5 (fun r S6 => r = none ∧ (K (some (.int v2)) S6))))))))))) ∧ (¬ v3 = 0 → ((¬ v1 < 0 ∧ (v1.toNatClampNeg) < 10) ∧ (ES E 136 55 [some (.ref (aS E 0)), some (.int v1), some (.int v2), some (.int 0), some (.int (sS S 2 (v1.toNatClampNeg))), some (.int 0), none, none] [] S K)))) : ES E 136 38 [some (.ref (aS E 0)), some (.int v1), some (.int v2), some (.int v3), none, none, none, none] [] S K := by
  refine e_il x136_38 rfl (e_eq0 x136_39 (fun c1 => ?_) (fun c1 => ?_))
  · replace H := H.1 c1
    refine e_il x136_201 rfl (e_le0 x136_202 (fun c2 => ?_) (fun c2 => ?_))
    · replace H := H.1 c2
      exact e_il x136_227 rfl (e_ri x136_228 H)
    · replace H := H.2 c2
      have c3 := H.1
      replace H := H.2
      refine e_al x136_205 rfl (e_PS x136_206 rfl (e_il x136_209 rfl (e_iaS x136_210 (by decide) rfl c3 (e_ic x136_211 (e_gt x136_213 (fun c4 => ?_) (fun c4 => ?_))))))
      · replace H := H.1 c4
        exact e_il x136_227 rfl (e_ri x136_228 H)
      · replace H := H.2 c4
        refine e_al x136_216 rfl (e_il x136_217 rfl (e_ic x136_218 (e_cV (l0 := [some (.ref (aS E 0)), some (.int v1), some (.int 0), none]) x136_219 rfl rfl rfl rfl rfl (fun h hh => hh.tS (by decide)) (ES.mono H ?_))))
        rintro _ S5 ⟨rfl, H⟩
        refine e_al x136_222 rfl (e_il x136_223 rfl (e_cV (l0 := [some (.ref (aS E 0)), some (.int v1), none]) x136_224 rfl rfl rfl rfl rfl (fun h hh => hh.tS (by decide)) (ES.mono H ?_)))
        rintro _ S6 ⟨rfl, H⟩
        exact e_il x136_227 rfl (e_ri x136_228 H)
  · replace H := H.2 c1
    have c7 := H.1
    replace H := H.2
    exact e_ic x136_42 (e_ist (l' := [some (.ref (aS E 0)), some (.int v1), some (.int v2), some (.int 0), none, none, none, none]) x136_43 rfl rfl (e_al x136_44 rfl (e_PS x136_45 rfl (e_il x136_48 rfl (e_iaS x136_49 (by decide) rfl c7 (e_ist (l' := [some (.ref (aS E 0)), some (.int v1), some (.int v2), some (.int 0), some (.int (sS S 2 (v1.toNatClampNeg))), none, none, none]) x136_50 rfl rfl (e_ic x136_52 (e_ist (l' := [some (.ref (aS E 0)), some (.int v1), some (.int v2), some (.int 0), some (.int (sS S 2 (v1.toNatClampNeg))), some (.int 0), none, none]) x136_53 rfl rfl (H)))))))))

-- Model.catchUp(I)I, from 55
set_option maxRecDepth 8000 in
theorem T136_55 {E : mE} {v1 : Int32} {v2 : Int32} {v3 : Int32} {v4 : Int32} {v5 : Int32} {S : mS} {K : Option Value → mS → Prop}  (H : ((sS S 0 1) ≤ v5 → (ES E 136 38 [some (.ref (aS E 0)), some (.int v1), some (.int v2), some (.int v3), none, none, none, none] [] S K)) ∧ (¬ (sS S 0 1) ≤ v5 → ((v3 = 0 → (((40 : Int32) < v4 → (ES E 136 38 [some (.ref (aS E 0)), some (.int v1), some (.int v2), some (.int v3), none, none, none, none] [] S K)) ∧ (¬ (40 : Int32) < v4 → ((v5 = v1 → (ES E 136 55 [some (.ref (aS E 0)), some (.int v1), some (.int v2), some (.int v3), some (.int v4), some (.int (v5 + 1)), none, none] [] S K)) ∧ (¬ v5 = v1 → ((¬ v5 < 0 ∧ (v5.toNatClampNeg) < 10) ∧ (((sS S 10 (v5.toNatClampNeg)) = 0 → ((¬ ((10 * v4) + v5) < 0 ∧ (((10 * v4) + v5).toNatClampNeg) < 410) ∧ (((sS S 21 (((10 * v4) + v5).toNatClampNeg)) ≤ 0 → (ES E 136 55 [some (.ref (aS E 0)), some (.int v1), some (.int v2), some (.int v3), some (.int v4), some (.int (v5 + 1)), none, none] [] S K)) ∧ (¬ (sS S 21 (((10 * v4) + v5).toNatClampNeg)) ≤ 0 → ((¬ ((10 * v4) + v1) < 0 ∧ (((10 * v4) + v1).toNatClampNeg) < 410) ∧ (∀ S10, S10 = uS S 21 (((10 * v4) + v1).toNatClampNeg) (sS S 21 (((10 * v4) + v5).toNatClampNeg)) → (∀ S11, S11 = uS S10 22 (((10 * v4) + v1).toNatClampNeg) (sS S10 22 (((10 * v4) + v5).toNatClampNeg)) → (∀ S12, S12 = uS S11 23 (((10 * v4) + v1).toNatClampNeg) (sS S11 23 (((10 * v4) + v5).toNatClampNeg)) → (∀ S13, S13 = uW S12 (((10 * v4) + v1).toNatClampNeg) (sW S (((10 * v4) + v5).toNatClampNeg)) → (ES E 118 0 [some (.ref (aS E 0)), some (.int v1), none] [] S13 (fun r S14 => r = none ∧ (ES E 136 55 [some (.ref (aS E 0)), some (.int v1), some (.int (v2 + 1)), some (.int 1), some (.int v4), some (.int (v5 + 1)), none, none] [] S14 K)))))))))))) ∧ (¬ (sS S 10 (v5.toNatClampNeg)) = 0 → (ES E 136 55 [some (.ref (aS E 0)), some (.int v1), some (.int v2), some (.int v3), some (.int v4), some (.int (v5 + 1)), none, none] [] S K))))))))) ∧ (¬ v3 = 0 → (ES E 136 38 [some (.ref (aS E 0)), some (.int v1), some (.int v2), some (.int v3), none, none, none, none] [] S K))))) : ES E 136 55 [some (.ref (aS E 0)), some (.int v1), some (.int v2), some (.int v3), some (.int v4), some (.int v5), none, none] [] S K := by
  refine e_il x136_55 rfl (e_al x136_57 rfl (e_gS x136_58 (by decide) rfl (e_ge x136_61 (fun c1 => ?_) (fun c1 => ?_))))
  · replace H := H.1 c1
    exact e_back (l' := [some (.ref (aS E 0)), some (.int v1), some (.int v2), some (.int v3), none, none, none, none]) x136_198 rfl (H)
  · replace H := H.2 c1
    refine e_il x136_64 rfl (e_ne0 x136_65 (fun c2 => ?_) (fun c2 => ?_))
    · replace H := H.1 c2
      refine e_il x136_68 rfl (e_ic x136_70 (e_gt x136_72 (fun c3 => ?_) (fun c3 => ?_)))
      · replace H := H.1 c3
        exact e_back (l' := [some (.ref (aS E 0)), some (.int v1), some (.int v2), some (.int v3), none, none, none, none]) x136_198 rfl (H)
      · replace H := H.2 c3
        refine e_il x136_75 rfl (e_il x136_77 rfl (e_eq x136_78 (fun c4 => ?_) (fun c4 => ?_)))
        · replace H := H.1 c4
          exact e_inc (l' := [some (.ref (aS E 0)), some (.int v1), some (.int v2), some (.int v3), some (.int v4), some (.int (v5 + 1)), none, none]) x136_192 rfl rfl rfl (e_back (l' := [some (.ref (aS E 0)), some (.int v1), some (.int v2), some (.int v3), some (.int v4), some (.int (v5 + 1)), none, none]) x136_195 rfl (H))
        · replace H := H.2 c4
          have c5 := H.1
          replace H := H.2
          refine e_al x136_81 rfl (e_PS x136_82 rfl (e_il x136_85 rfl (e_baS x136_87 (by decide) rfl c5 (e_ne0 x136_88 (fun c6 => ?_) (fun c6 => ?_)))))
          · replace H := H.1 c6
            have c7 := H.1
            replace H := H.2
            refine e_al x136_91 rfl (e_PS x136_92 rfl (e_ic x136_95 (e_il x136_97 rfl (e_ii (v := (10 * v4)) x136_99 rfl (e_il x136_100 rfl (e_ii (v := ((10 * v4) + v5)) x136_102 rfl (e_iaS x136_103 (by decide) rfl c7 (e_le0 x136_104 (fun c8 => ?_) (fun c8 => ?_)))))))))
            · replace H := H.1 c8
              exact e_inc (l' := [some (.ref (aS E 0)), some (.int v1), some (.int v2), some (.int v3), some (.int v4), some (.int (v5 + 1)), none, none]) x136_192 rfl rfl rfl (e_back (l' := [some (.ref (aS E 0)), some (.int v1), some (.int v2), some (.int v3), some (.int v4), some (.int (v5 + 1)), none, none]) x136_195 rfl (H))
            · replace H := H.2 c8
              have c9 := H.1
              replace H := H.2
              refine e_ic x136_107 (e_il x136_109 rfl (e_ii (v := (10 * v4)) x136_111 rfl (e_il x136_112 rfl (e_ii (v := ((10 * v4) + v1)) x136_113 rfl (e_ist (l' := [some (.ref (aS E 0)), some (.int v1), some (.int v2), some (.int v3), some (.int v4), some (.int v5), some (.int ((10 * v4) + v1)), none]) x136_114 rfl rfl (e_ic x136_116 (e_il x136_118 rfl (e_ii (v := (10 * v4)) x136_120 rfl (e_il x136_121 rfl (e_ii (v := ((10 * v4) + v5)) x136_123 rfl (e_ist (l' := [some (.ref (aS E 0)), some (.int v1), some (.int v2), some (.int v3), some (.int v4), some (.int v5), some (.int ((10 * v4) + v1)), some (.int ((10 * v4) + v5))]) x136_124 rfl rfl (e_al x136_126 rfl (e_PS x136_127 rfl (e_il x136_130 rfl (e_al x136_132 rfl (e_PS x136_133 rfl (e_il x136_136 rfl (e_iaS x136_138 (by decide) rfl c7 (e_waS x136_139 (by decide) rfl c9 ?_)))))))))))))))))))
              let S10 : mS := uS S 21 (((10 * v4) + v1).toNatClampNeg) (sS S 21 (((10 * v4) + v5).toNatClampNeg))
              replace H := H S10 rfl
              show ES _ _ _ _ _ S10 _
              refine e_al x136_140 rfl (e_PS x136_141 rfl (e_il x136_144 rfl (e_al x136_146 rfl (e_PS x136_147 rfl (e_il x136_150 rfl (e_iaS x136_152 (by decide) rfl c7 (e_waS x136_153 (by decide) rfl c9 ?_)))))))
              let S11 : mS := uS S10 22 (((10 * v4) + v1).toNatClampNeg) (sS S10 22 (((10 * v4) + v5).toNatClampNeg))
              replace H := H S11 rfl
              show ES _ _ _ _ _ S11 _
              refine e_al x136_154 rfl (e_PS x136_155 rfl (e_il x136_158 rfl (e_al x136_160 rfl (e_PS x136_161 rfl (e_il x136_164 rfl (e_iaS x136_166 (by decide) rfl c7 (e_waS x136_167 (by decide) rfl c9 ?_)))))))
              let S12 : mS := uS S11 23 (((10 * v4) + v1).toNatClampNeg) (sS S11 23 (((10 * v4) + v5).toNatClampNeg))
              replace H := H S12 rfl
              show ES _ _ _ _ _ S12 _
              refine e_al x136_168 rfl (e_PS x136_169 rfl (e_il x136_172 rfl (e_al x136_174 rfl (e_PS x136_175 rfl (e_il x136_178 rfl (e_la x136_180 c7 (e_wl x136_181 c9 ?_)))))))
              let S13 : mS := uW S12 (((10 * v4) + v1).toNatClampNeg) (sW S (((10 * v4) + v5).toNatClampNeg))
              replace H := H S13 rfl
              show ES _ _ _ _ _ S13 _
              refine e_al x136_182 rfl (e_il x136_183 rfl (e_cV (l0 := [some (.ref (aS E 0)), some (.int v1), none]) x136_184 rfl rfl rfl rfl rfl (fun h hh => hh.tS (by decide)) (ES.mono H ?_)))
              rintro _ S14 ⟨rfl, H⟩
              exact e_inc (l' := [some (.ref (aS E 0)), some (.int v1), some (.int (v2 + 1)), some (.int v3), some (.int v4), some (.int v5), some (.int ((10 * v4) + v1)), some (.int ((10 * v4) + v5))]) x136_187 rfl rfl rfl (e_ic x136_190 (e_ist (l' := [some (.ref (aS E 0)), some (.int v1), some (.int (v2 + 1)), some (.int 1), some (.int v4), some (.int v5), some (.int ((10 * v4) + v1)), some (.int ((10 * v4) + v5))]) x136_191 rfl rfl (e_inc (l' := [some (.ref (aS E 0)), some (.int v1), some (.int (v2 + 1)), some (.int 1), some (.int v4), some (.int (v5 + 1)), some (.int ((10 * v4) + v1)), some (.int ((10 * v4) + v5))]) x136_192 rfl rfl rfl (e_back (l' := [some (.ref (aS E 0)), some (.int v1), some (.int (v2 + 1)), some (.int 1), some (.int v4), some (.int (v5 + 1)), none, none]) x136_195 rfl (H)))))
          · replace H := H.2 c6
            exact e_inc (l' := [some (.ref (aS E 0)), some (.int v1), some (.int v2), some (.int v3), some (.int v4), some (.int (v5 + 1)), none, none]) x136_192 rfl rfl rfl (e_back (l' := [some (.ref (aS E 0)), some (.int v1), some (.int v2), some (.int v3), some (.int v4), some (.int (v5 + 1)), none, none]) x136_195 rfl (H))
    · replace H := H.2 c2
      exact e_back (l' := [some (.ref (aS E 0)), some (.int v1), some (.int v2), some (.int v3), none, none, none, none]) x136_198 rfl (H)

-- Model.node(II)I, from 0
set_option maxRecDepth 8000 in
theorem T137 {E : mE} {a1 : Int32} {a2 : Int32} {S : mS} {K : Option Value → mS → Prop}  (H : ∀ S1, S1 = uS S 0 0 0 → (((lg_cmp (a1.toInt64) 0) < 0 → (K (some (.int (-1))) S1)) ∧ (¬ (lg_cmp (a1.toInt64) 0) < 0 → (((0 : Int32) < (lg_cmp (a1.toInt64) (((sS S1 0 1) - 1).toInt64)) → (K (some (.int (-1))) S1)) ∧ (¬ (0 : Int32) < (lg_cmp (a1.toInt64) (((sS S1 0 1) - 1).toInt64)) → (((lg_cmp (a2.toInt64) 0) < 0 → (K (some (.int (-1))) S1)) ∧ (¬ (lg_cmp (a2.toInt64) 0) < 0 → (((0 : Int32) < (lg_cmp (a2.toInt64) 12) → (K (some (.int (-1))) S1)) ∧ (¬ (0 : Int32) < (lg_cmp (a2.toInt64) 12) → ((a2 = 0 → ((¬ a1 < 0 ∧ (a1.toNatClampNeg) < 10) ∧ (K (some (.int (sS S1 2 (a1.toNatClampNeg)))) S1))) ∧ (a2 = 1 → ((¬ a1 < 0 ∧ (a1.toNatClampNeg) < 10) ∧ (K (some (.int (sS S1 3 (a1.toNatClampNeg)))) S1))) ∧ (a2 = 2 → ((¬ a1 < 0 ∧ (a1.toNatClampNeg) < 10) ∧ (K (some (.int (sS S1 4 (a1.toNatClampNeg)))) S1))) ∧ (a2 = 3 → ((¬ a1 < 0 ∧ (a1.toNatClampNeg) < 10) ∧ (K (some (.int (sS S1 5 (a1.toNatClampNeg)))) S1))) ∧ (a2 = 4 → ((¬ a1 < 0 ∧ (a1.toNatClampNeg) < 10) ∧ (K (some (.int (sS S1 6 (a1.toNatClampNeg)))) S1))) ∧ (a2 = 5 → ((¬ a1 < 0 ∧ (a1.toNatClampNeg) < 10) ∧ (K (some (.int (sS S1 7 (a1.toNatClampNeg)))) S1))) ∧ (a2 = 6 → ((¬ a1 < 0 ∧ (a1.toNatClampNeg) < 10) ∧ (K (some (.int (sS S1 8 (a1.toNatClampNeg)))) S1))) ∧ (a2 = 7 → ((¬ a1 < 0 ∧ (a1.toNatClampNeg) < 10) ∧ (((sS S1 10 (a1.toNatClampNeg)) = 0 → (K (some (.int 0)) S1)) ∧ (¬ (sS S1 10 (a1.toNatClampNeg)) = 0 → (K (some (.int ((sS S1 9 (a1.toNatClampNeg)) - (sS S1 0 3)))) S1))))) ∧ (a2 = 8 → ((¬ a1 < 0 ∧ (a1.toNatClampNeg) < 10) ∧ (K (some (.int (sS S1 11 (a1.toNatClampNeg)))) S1))) ∧ (a2 = 9 → ((¬ (((3 * a1) + a2) - 9) < 0 ∧ ((((3 * a1) + a2) - 9).toNatClampNeg) < 30) ∧ (K (some (.int (sS S1 12 ((((3 * a1) + a2) - 9).toNatClampNeg)))) S1))) ∧ (a2 = 10 → ((¬ (((3 * a1) + a2) - 9) < 0 ∧ ((((3 * a1) + a2) - 9).toNatClampNeg) < 30) ∧ (K (some (.int (sS S1 12 ((((3 * a1) + a2) - 9).toNatClampNeg)))) S1))) ∧ (a2 = 11 → ((¬ (((3 * a1) + a2) - 9) < 0 ∧ ((((3 * a1) + a2) - 9).toNatClampNeg) < 30) ∧ (K (some (.int (sS S1 12 ((((3 * a1) + a2) - 9).toNatClampNeg)))) S1))) ∧ (a2 = 12 → ((¬ a1 < 0 ∧ (a1.toNatClampNeg) < 10) ∧ (K (some (.int (sS S1 16 (a1.toNatClampNeg)))) S1))) ∧ (¬ a2 = 0 → ((¬ a2 = 1 → ((¬ a2 = 2 → ((¬ a2 = 3 → ((¬ a2 = 4 → ((¬ a2 = 5 → ((¬ a2 = 6 → ((¬ a2 = 7 → ((¬ a2 = 8 → ((¬ a2 = 9 → ((¬ a2 = 10 → ((¬ a2 = 11 → ((¬ a2 = 12 → ((¬ (((3 * a1) + a2) - 9) < 0 ∧ ((((3 * a1) + a2) - 9).toNatClampNeg) < 30) ∧ (K (some (.int (sS S1 12 ((((3 * a1) + a2) - 9).toNatClampNeg)))) S1))))))))))))))))))))))))))))))))))))) : ES E 137 0 [some (.ref (aS E 0)), some (.int a1), some (.int a2)] [] S K := by
  refine e_al x137_0 rfl (e_ic x137_1 (e_pS x137_2 (by decide) rfl ?_))
  let S1 : mS := uS S 0 0 0
  replace H := H S1 rfl
  show ES _ _ _ _ _ S1 _
  refine e_al x137_5 rfl (e_il x137_6 rfl (e_cV (l0 := [some (.ref (aS E 0)), some (.int a1)]) x137_7 rfl rfl rfl rfl rfl (fun h hh => hh.tS (by decide)) (e_il x131_0 rfl (e_i2l x131_1 (e_lc x131_2 (e_al x131_3 rfl (e_gS x131_4 (by decide) rfl (e_ic x131_7 (e_ii (v := ((sS S1 0 1) - 1)) x131_8 rfl (e_i2l x131_9 (e_cS (l0 := [some (.long (a1.toInt64)), none, some (.long 0), none, some (.long (((sS S1 0 1) - 1).toInt64)), none]) x131_10 rfl rfl rfl rfl rfl (e_llo x97_0 rfl (e_llo x97_1 rfl (e_lcmp x97_2 (e_lt0 x97_3 (fun c2 => ?_) (fun c2 => ?_))))))))))))))))
  · replace H := H.1 c2
    refine e_ic x97_17 (e_rz x97_18 (by decide) (e_ne0 x131_13 (fun _ => ?_) (fun z9 => absurd (by decide) z9)))
    refine e_ic x131_16 (e_goto x131_17 (e_rz x131_21 (by decide) (e_ne0 x137_10 (fun z9 => absurd z9 (by decide)) (fun _ => ?_))))
    exact e_ic x137_25 (e_ri x137_26 H)
  · replace H := H.2 c2
    refine e_llo x97_6 rfl (e_llo x97_7 rfl (e_lcmp x97_9 (e_gt0 x97_10 (fun c3 => ?_) (fun c3 => ?_))))
    · replace H := H.1 c3
      refine e_ic x97_17 (e_rz x97_18 (by decide) (e_ne0 x131_13 (fun _ => ?_) (fun z9 => absurd (by decide) z9)))
      refine e_ic x131_16 (e_goto x131_17 (e_rz x131_21 (by decide) (e_ne0 x137_10 (fun z9 => absurd z9 (by decide)) (fun _ => ?_))))
      exact e_ic x137_25 (e_ri x137_26 H)
    · replace H := H.2 c3
      refine e_ic x97_13 (e_goto x97_14 (e_rz x97_18 (by decide) (e_ne0 x131_13 (fun z9 => absurd z9 (by decide)) (fun _ => ?_))))
      refine e_ic x131_20 (e_rz x131_21 (by decide) (e_ne0 x137_10 (fun _ => ?_) (fun z9 => absurd (by decide) z9)))
      refine e_il x137_13 rfl (e_i2l x137_14 (e_lc x137_15 (e_lc x137_16 (e_cS (l0 := [some (.long (a2.toInt64)), none, some (.long 0), none, some (.long 12), none]) x137_19 rfl rfl rfl rfl rfl (e_llo x97_0 rfl (e_llo x97_1 rfl (e_lcmp x97_2 (e_lt0 x97_3 (fun c4 => ?_) (fun c4 => ?_)))))))))
      · replace H := H.1 c4
        refine e_ic x97_17 (e_rz x97_18 (by decide) (e_ne0 x137_22 (fun _ => ?_) (fun z9 => absurd (by decide) z9)))
        exact e_ic x137_25 (e_ri x137_26 H)
      · replace H := H.2 c4
        refine e_llo x97_6 rfl (e_llo x97_7 rfl (e_lcmp x97_9 (e_gt0 x97_10 (fun c5 => ?_) (fun c5 => ?_))))
        · replace H := H.1 c5
          refine e_ic x97_17 (e_rz x97_18 (by decide) (e_ne0 x137_22 (fun _ => ?_) (fun z9 => absurd (by decide) z9)))
          exact e_ic x137_25 (e_ri x137_26 H)
        · replace H := H.2 c5
          refine e_ic x97_13 (e_goto x97_14 (e_rz x97_18 (by decide) (e_ne0 x137_22 (fun z9 => absurd z9 (by decide)) (fun _ => ?_))))
          refine e_il x137_27 rfl ?_
          by_cases c6 : a2 = 0
          · replace H := H.1 c6
            have c7 := H.1
            replace H := H.2
            exact e_tswI (j := 0) x137_28 c6 (by decide) (by decide) rfl (e_al x137_96 rfl (e_PS x137_97 rfl (e_il x137_100 rfl (e_iaS x137_101 (by decide) rfl c7 (e_ri x137_102 H)))))
          replace H := H.2
          by_cases c8 : a2 = 1
          · replace H := H.1 c8
            have c9 := H.1
            replace H := H.2
            exact e_tswI (j := 1) x137_28 c8 (by decide) (by decide) rfl (e_al x137_103 rfl (e_PS x137_104 rfl (e_il x137_107 rfl (e_iaS x137_108 (by decide) rfl c9 (e_ri x137_109 H)))))
          replace H := H.2
          by_cases c10 : a2 = 2
          · replace H := H.1 c10
            have c11 := H.1
            replace H := H.2
            exact e_tswI (j := 2) x137_28 c10 (by decide) (by decide) rfl (e_al x137_110 rfl (e_PS x137_111 rfl (e_il x137_114 rfl (e_iaS x137_115 (by decide) rfl c11 (e_ri x137_116 H)))))
          replace H := H.2
          by_cases c12 : a2 = 3
          · replace H := H.1 c12
            have c13 := H.1
            replace H := H.2
            exact e_tswI (j := 3) x137_28 c12 (by decide) (by decide) rfl (e_al x137_117 rfl (e_PS x137_118 rfl (e_il x137_121 rfl (e_iaS x137_122 (by decide) rfl c13 (e_ri x137_123 H)))))
          replace H := H.2
          by_cases c14 : a2 = 4
          · replace H := H.1 c14
            have c15 := H.1
            replace H := H.2
            exact e_tswI (j := 4) x137_28 c14 (by decide) (by decide) rfl (e_al x137_124 rfl (e_PS x137_125 rfl (e_il x137_128 rfl (e_iaS x137_129 (by decide) rfl c15 (e_ri x137_130 H)))))
          replace H := H.2
          by_cases c16 : a2 = 5
          · replace H := H.1 c16
            have c17 := H.1
            replace H := H.2
            exact e_tswI (j := 5) x137_28 c16 (by decide) (by decide) rfl (e_al x137_131 rfl (e_PS x137_132 rfl (e_il x137_135 rfl (e_iaS x137_136 (by decide) rfl c17 (e_ri x137_137 H)))))
          replace H := H.2
          by_cases c18 : a2 = 6
          · replace H := H.1 c18
            have c19 := H.1
            replace H := H.2
            exact e_tswI (j := 6) x137_28 c18 (by decide) (by decide) rfl (e_al x137_138 rfl (e_PS x137_139 rfl (e_il x137_142 rfl (e_iaS x137_143 (by decide) rfl c19 (e_ri x137_144 H)))))
          replace H := H.2
          by_cases c20 : a2 = 7
          · replace H := H.1 c20
            have c21 := H.1
            replace H := H.2
            refine e_tswI (j := 7) x137_28 c20 (by decide) (by decide) rfl (e_al x137_145 rfl (e_PS x137_146 rfl (e_il x137_149 rfl (e_baS x137_150 (by decide) rfl c21 (e_eq0 x137_151 (fun c22 => ?_) (fun c22 => ?_))))))
            · replace H := H.1 c22
              exact e_ic x137_168 (e_ri x137_169 H)
            · replace H := H.2 c22
              exact e_al x137_154 rfl (e_PS x137_155 rfl (e_il x137_158 rfl (e_iaS x137_159 (by decide) rfl c21 (e_al x137_160 rfl (e_gS x137_161 (by decide) rfl (e_ii (v := ((sS S1 9 (a1.toNatClampNeg)) - (sS S1 0 3))) x137_164 rfl (e_goto x137_165 (e_ri x137_169 H))))))))
          replace H := H.2
          by_cases c23 : a2 = 8
          · replace H := H.1 c23
            have c24 := H.1
            replace H := H.2
            exact e_tswI (j := 8) x137_28 c23 (by decide) (by decide) rfl (e_al x137_170 rfl (e_PS x137_171 rfl (e_il x137_174 rfl (e_iaS x137_175 (by decide) rfl c24 (e_ri x137_176 H)))))
          replace H := H.2
          by_cases c25 : a2 = 9
          · replace H := H.1 c25
            have c26 := H.1
            replace H := H.2
            exact e_tswI (j := 9) x137_28 c25 (by decide) (by decide) rfl (e_al x137_184 rfl (e_PS x137_185 rfl (e_ic x137_188 (e_il x137_189 rfl (e_ii (v := (3 * a1)) x137_190 rfl (e_il x137_191 rfl (e_ii (v := ((3 * a1) + a2)) x137_192 rfl (e_ic x137_193 (e_ii (v := (((3 * a1) + a2) - 9)) x137_195 rfl (e_iaS x137_196 (by decide) rfl c26 (e_ri x137_197 H)))))))))))
          replace H := H.2
          by_cases c27 : a2 = 10
          · replace H := H.1 c27
            have c28 := H.1
            replace H := H.2
            exact e_tswI (j := 10) x137_28 c27 (by decide) (by decide) rfl (e_al x137_184 rfl (e_PS x137_185 rfl (e_ic x137_188 (e_il x137_189 rfl (e_ii (v := (3 * a1)) x137_190 rfl (e_il x137_191 rfl (e_ii (v := ((3 * a1) + a2)) x137_192 rfl (e_ic x137_193 (e_ii (v := (((3 * a1) + a2) - 9)) x137_195 rfl (e_iaS x137_196 (by decide) rfl c28 (e_ri x137_197 H)))))))))))
          replace H := H.2
          by_cases c29 : a2 = 11
          · replace H := H.1 c29
            have c30 := H.1
            replace H := H.2
            exact e_tswI (j := 11) x137_28 c29 (by decide) (by decide) rfl (e_al x137_184 rfl (e_PS x137_185 rfl (e_ic x137_188 (e_il x137_189 rfl (e_ii (v := (3 * a1)) x137_190 rfl (e_il x137_191 rfl (e_ii (v := ((3 * a1) + a2)) x137_192 rfl (e_ic x137_193 (e_ii (v := (((3 * a1) + a2) - 9)) x137_195 rfl (e_iaS x137_196 (by decide) rfl c30 (e_ri x137_197 H)))))))))))
          replace H := H.2
          by_cases c31 : a2 = 12
          · replace H := H.1 c31
            have c32 := H.1
            replace H := H.2
            exact e_tswI (j := 12) x137_28 c31 (by decide) (by decide) rfl (e_al x137_177 rfl (e_PS x137_178 rfl (e_il x137_181 rfl (e_iaS x137_182 (by decide) rfl c32 (e_ri x137_183 H)))))
          replace H := H.2
          replace H := H c6
          replace H := H c8
          replace H := H c10
          replace H := H c12
          replace H := H c14
          replace H := H c16
          replace H := H c18
          replace H := H c20
          replace H := H c23
          replace H := H c25
          replace H := H c27
          replace H := H c29
          replace H := H c31
          have hs : ∀ j, j < 13 → ¬ a2 = nI j := fun j hj => match j, hj with
            | 0, _ => c6
            | 1, _ => c8
            | 2, _ => c10
            | 3, _ => c12
            | 4, _ => c14
            | 5, _ => c16
            | 6, _ => c18
            | 7, _ => c20
            | 8, _ => c23
            | 9, _ => c25
            | 10, _ => c27
            | 11, _ => c29
            | 12, _ => c31
            | j + 13, hj => absurd hj (by omega)
          have c33 := H.1
          replace H := H.2
          exact e_tswO x137_28 hs (by decide) (e_al x137_184 rfl (e_PS x137_185 rfl (e_ic x137_188 (e_il x137_189 rfl (e_ii (v := (3 * a1)) x137_190 rfl (e_il x137_191 rfl (e_ii (v := ((3 * a1) + a2)) x137_192 rfl (e_ic x137_193 (e_ii (v := (((3 * a1) + a2) - 9)) x137_195 rfl (e_iaS x137_196 (by decide) rfl c33 (e_ri x137_197 H)))))))))))

-- Model.vote(IIII)I, from 0
set_option maxRecDepth 8000 in
theorem T138 {E : mE} {a1 : Int32} {a2 : Int32} {a3 : Int32} {a4 : Int32} {S : mS} {K : Option Value → mS → Prop}  (H : ∀ S1, S1 = uS S 0 0 0 → (((lg_cmp (a1.toInt64) 0) < 0 → (K (some (.int (-1))) S1)) ∧ (¬ (lg_cmp (a1.toInt64) 0) < 0 → (((0 : Int32) < (lg_cmp (a1.toInt64) (((sS S1 0 1) - 1).toInt64)) → (K (some (.int (-1))) S1)) ∧ (¬ (0 : Int32) < (lg_cmp (a1.toInt64) (((sS S1 0 1) - 1).toInt64)) → (((lg_cmp (a3.toInt64) 0) < 0 → (K (some (.int (-1))) S1)) ∧ (¬ (lg_cmp (a3.toInt64) 0) < 0 → (((0 : Int32) < (lg_cmp (a3.toInt64) (((sS S1 0 1) - 1).toInt64)) → (K (some (.int (-1))) S1)) ∧ (¬ (0 : Int32) < (lg_cmp (a3.toInt64) (((sS S1 0 1) - 1).toInt64)) → (((lg_cmp (a2.toInt64) 0) < 0 → (K (some (.int (-1))) S1)) ∧ (¬ (lg_cmp (a2.toInt64) 0) < 0 → (((0 : Int32) < (lg_cmp (a2.toInt64) 29) → (K (some (.int (-1))) S1)) ∧ (¬ (0 : Int32) < (lg_cmp (a2.toInt64) 29) → (((lg_cmp (a4.toInt64) 0) < 0 → (K (some (.int (-1))) S1)) ∧ (¬ (lg_cmp (a4.toInt64) 0) < 0 → (((0 : Int32) < (lg_cmp (a4.toInt64) 3) → (K (some (.int (-1))) S1)) ∧ (¬ (0 : Int32) < (lg_cmp (a4.toInt64) 3) → ((a4 = 3 → ((¬ a1 < 0 ∧ (a1.toNatClampNeg) < 10) ∧ ((¬ (2 : Int32) = 0) ∧ ((¬ ((((((2 * a1) + ((sS S1 2 (a1.toNatClampNeg)) - (sS S1 2 (a1.toNatClampNeg)) / 2 * 2)) * 30) + a2) * 10) + a3) < 0 ∧ (((((((2 * a1) + ((sS S1 2 (a1.toNatClampNeg)) - (sS S1 2 (a1.toNatClampNeg)) / 2 * 2)) * 30) + a2) * 10) + a3).toNatClampNeg) < 6000) ∧ (K (some (.int (sS S1 18 (((((((2 * a1) + ((sS S1 2 (a1.toNatClampNeg)) - (sS S1 2 (a1.toNatClampNeg)) / 2 * 2)) * 30) + a2) * 10) + a3).toNatClampNeg)))) S1))))) ∧ (¬ a4 = 3 → ((¬ a1 < 0 ∧ (a1.toNatClampNeg) < 10) ∧ ((¬ (2 : Int32) = 0) ∧ ((¬ ((((((((2 * a1) + ((sS S1 2 (a1.toNatClampNeg)) - (sS S1 2 (a1.toNatClampNeg)) / 2 * 2)) * 30) + a2) * 10) + a3) * 3) + a4) < 0 ∧ (((((((((2 * a1) + ((sS S1 2 (a1.toNatClampNeg)) - (sS S1 2 (a1.toNatClampNeg)) / 2 * 2)) * 30) + a2) * 10) + a3) * 3) + a4).toNatClampNeg) < 18000) ∧ (((0 : Int32) ≤ (sS S1 17 (((((((((2 * a1) + ((sS S1 2 (a1.toNatClampNeg)) - (sS S1 2 (a1.toNatClampNeg)) / 2 * 2)) * 30) + a2) * 10) + a3) * 3) + a4).toNatClampNeg)) → (K (some (.int (sS S1 17 (((((((((2 * a1) + ((sS S1 2 (a1.toNatClampNeg)) - (sS S1 2 (a1.toNatClampNeg)) / 2 * 2)) * 30) + a2) * 10) + a3) * 3) + a4).toNatClampNeg)))) S1)) ∧ (¬ (0 : Int32) ≤ (sS S1 17 (((((((((2 * a1) + ((sS S1 2 (a1.toNatClampNeg)) - (sS S1 2 (a1.toNatClampNeg)) / 2 * 2)) * 30) + a2) * 10) + a3) * 3) + a4).toNatClampNeg)) → (K (some (.int (-2))) S1))))))))))))))))))))))))) : ES E 138 0 [some (.ref (aS E 0)), some (.int a1), some (.int a2), some (.int a3), some (.int a4), none] [] S K := by
  refine e_al x138_0 rfl (e_ic x138_1 (e_pS x138_2 (by decide) rfl ?_))
  let S1 : mS := uS S 0 0 0
  replace H := H S1 rfl
  show ES _ _ _ _ _ S1 _
  refine e_al x138_5 rfl (e_il x138_6 rfl (e_cV (l0 := [some (.ref (aS E 0)), some (.int a1)]) x138_7 rfl rfl rfl rfl rfl (fun h hh => hh.tS (by decide)) (e_il x131_0 rfl (e_i2l x131_1 (e_lc x131_2 (e_al x131_3 rfl (e_gS x131_4 (by decide) rfl (e_ic x131_7 (e_ii (v := ((sS S1 0 1) - 1)) x131_8 rfl (e_i2l x131_9 (e_cS (l0 := [some (.long (a1.toInt64)), none, some (.long 0), none, some (.long (((sS S1 0 1) - 1).toInt64)), none]) x131_10 rfl rfl rfl rfl rfl (e_llo x97_0 rfl (e_llo x97_1 rfl (e_lcmp x97_2 (e_lt0 x97_3 (fun c2 => ?_) (fun c2 => ?_))))))))))))))))
  · replace H := H.1 c2
    refine e_ic x97_17 (e_rz x97_18 (by decide) (e_ne0 x131_13 (fun _ => ?_) (fun z9 => absurd (by decide) z9)))
    refine e_ic x131_16 (e_goto x131_17 (e_rz x131_21 (by decide) (e_ne0 x138_10 (fun z9 => absurd z9 (by decide)) (fun _ => ?_))))
    exact e_ic x138_46 (e_ri x138_47 H)
  · replace H := H.2 c2
    refine e_llo x97_6 rfl (e_llo x97_7 rfl (e_lcmp x97_9 (e_gt0 x97_10 (fun c3 => ?_) (fun c3 => ?_))))
    · replace H := H.1 c3
      refine e_ic x97_17 (e_rz x97_18 (by decide) (e_ne0 x131_13 (fun _ => ?_) (fun z9 => absurd (by decide) z9)))
      refine e_ic x131_16 (e_goto x131_17 (e_rz x131_21 (by decide) (e_ne0 x138_10 (fun z9 => absurd z9 (by decide)) (fun _ => ?_))))
      exact e_ic x138_46 (e_ri x138_47 H)
    · replace H := H.2 c3
      refine e_ic x97_13 (e_goto x97_14 (e_rz x97_18 (by decide) (e_ne0 x131_13 (fun z9 => absurd z9 (by decide)) (fun _ => ?_))))
      refine e_ic x131_20 (e_rz x131_21 (by decide) (e_ne0 x138_10 (fun _ => ?_) (fun z9 => absurd (by decide) z9)))
      refine e_al x138_13 rfl (e_il x138_14 rfl (e_cV (l0 := [some (.ref (aS E 0)), some (.int a3)]) x138_15 rfl rfl rfl rfl rfl (fun h hh => hh.tS (by decide)) (e_il x131_0 rfl (e_i2l x131_1 (e_lc x131_2 (e_al x131_3 rfl (e_gS x131_4 (by decide) rfl (e_ic x131_7 (e_ii (v := ((sS S1 0 1) - 1)) x131_8 rfl (e_i2l x131_9 (e_cS (l0 := [some (.long (a3.toInt64)), none, some (.long 0), none, some (.long (((sS S1 0 1) - 1).toInt64)), none]) x131_10 rfl rfl rfl rfl rfl (e_llo x97_0 rfl (e_llo x97_1 rfl (e_lcmp x97_2 (e_lt0 x97_3 (fun c4 => ?_) (fun c4 => ?_))))))))))))))))
      · replace H := H.1 c4
        refine e_ic x97_17 (e_rz x97_18 (by decide) (e_ne0 x131_13 (fun _ => ?_) (fun z9 => absurd (by decide) z9)))
        refine e_ic x131_16 (e_goto x131_17 (e_rz x131_21 (by decide) (e_ne0 x138_18 (fun z9 => absurd z9 (by decide)) (fun _ => ?_))))
        exact e_ic x138_46 (e_ri x138_47 H)
      · replace H := H.2 c4
        refine e_llo x97_6 rfl (e_llo x97_7 rfl (e_lcmp x97_9 (e_gt0 x97_10 (fun c5 => ?_) (fun c5 => ?_))))
        · replace H := H.1 c5
          refine e_ic x97_17 (e_rz x97_18 (by decide) (e_ne0 x131_13 (fun _ => ?_) (fun z9 => absurd (by decide) z9)))
          refine e_ic x131_16 (e_goto x131_17 (e_rz x131_21 (by decide) (e_ne0 x138_18 (fun z9 => absurd z9 (by decide)) (fun _ => ?_))))
          exact e_ic x138_46 (e_ri x138_47 H)
        · replace H := H.2 c5
          refine e_ic x97_13 (e_goto x97_14 (e_rz x97_18 (by decide) (e_ne0 x131_13 (fun z9 => absurd z9 (by decide)) (fun _ => ?_))))
          refine e_ic x131_20 (e_rz x131_21 (by decide) (e_ne0 x138_18 (fun _ => ?_) (fun z9 => absurd (by decide) z9)))
          refine e_il x138_21 rfl (e_i2l x138_22 (e_lc x138_23 (e_lc x138_24 (e_cS (l0 := [some (.long (a2.toInt64)), none, some (.long 0), none, some (.long 29), none]) x138_27 rfl rfl rfl rfl rfl (e_llo x97_0 rfl (e_llo x97_1 rfl (e_lcmp x97_2 (e_lt0 x97_3 (fun c6 => ?_) (fun c6 => ?_)))))))))
          · replace H := H.1 c6
            refine e_ic x97_17 (e_rz x97_18 (by decide) (e_eq0 x138_30 (fun _ => ?_) (fun z9 => absurd (by decide) z9)))
            exact e_ic x138_46 (e_ri x138_47 H)
          · replace H := H.2 c6
            refine e_llo x97_6 rfl (e_llo x97_7 rfl (e_lcmp x97_9 (e_gt0 x97_10 (fun c7 => ?_) (fun c7 => ?_))))
            · replace H := H.1 c7
              refine e_ic x97_17 (e_rz x97_18 (by decide) (e_eq0 x138_30 (fun _ => ?_) (fun z9 => absurd (by decide) z9)))
              exact e_ic x138_46 (e_ri x138_47 H)
            · replace H := H.2 c7
              refine e_ic x97_13 (e_goto x97_14 (e_rz x97_18 (by decide) (e_eq0 x138_30 (fun z9 => absurd z9 (by decide)) (fun _ => ?_))))
              refine e_il x138_33 rfl (e_i2l x138_35 (e_lc x138_36 (e_lc x138_37 (e_cS (l0 := [some (.long (a4.toInt64)), none, some (.long 0), none, some (.long 3), none]) x138_40 rfl rfl rfl rfl rfl (e_llo x97_0 rfl (e_llo x97_1 rfl (e_lcmp x97_2 (e_lt0 x97_3 (fun c8 => ?_) (fun c8 => ?_)))))))))
              · replace H := H.1 c8
                refine e_ic x97_17 (e_rz x97_18 (by decide) (e_ne0 x138_43 (fun _ => ?_) (fun z9 => absurd (by decide) z9)))
                exact e_ic x138_46 (e_ri x138_47 H)
              · replace H := H.2 c8
                refine e_llo x97_6 rfl (e_llo x97_7 rfl (e_lcmp x97_9 (e_gt0 x97_10 (fun c9 => ?_) (fun c9 => ?_))))
                · replace H := H.1 c9
                  refine e_ic x97_17 (e_rz x97_18 (by decide) (e_ne0 x138_43 (fun _ => ?_) (fun z9 => absurd (by decide) z9)))
                  exact e_ic x138_46 (e_ri x138_47 H)
                · replace H := H.2 c9
                  refine e_ic x97_13 (e_goto x97_14 (e_rz x97_18 (by decide) (e_ne0 x138_43 (fun z9 => absurd z9 (by decide)) (fun _ => ?_))))
                  refine e_il x138_48 rfl (e_ic x138_50 (e_ne x138_51 (fun c10 => ?_) (fun c10 => ?_)))
                  · replace H := H.1 c10
                    have c11 := H.1
                    have c12 := H.2.1
                    have c13 := H.2.2.1
                    replace H := H.2.2.2
                    exact e_al x138_54 rfl (e_PS x138_55 rfl (e_al x138_58 rfl (e_il x138_59 rfl (e_al x138_60 rfl (e_PS x138_61 rfl (e_il x138_64 rfl (e_iaS x138_65 (by decide) rfl c11 (e_il x138_66 rfl (e_il x138_67 rfl (e_cV (l0 := [some (.ref (aS E 0)), some (.int a1), some (.int (sS S1 2 (a1.toNatClampNeg))), some (.int a2), some (.int a3)]) x138_68 rfl rfl rfl rfl rfl (fun h hh => hh.tS (by decide)) (e_ic x94_0 (e_il x94_1 rfl (e_ii (v := (2 * a1)) x94_2 rfl (e_il x94_3 rfl (e_ic x94_4 (e_rem x94_5 c12 (e_ii (v := ((2 * a1) + ((sS S1 2 (a1.toNatClampNeg)) - (sS S1 2 (a1.toNatClampNeg)) / 2 * 2))) x94_6 rfl (e_ic x94_7 (e_ii (v := (((2 * a1) + ((sS S1 2 (a1.toNatClampNeg)) - (sS S1 2 (a1.toNatClampNeg)) / 2 * 2)) * 30)) x94_9 rfl (e_il x94_10 rfl (e_ii (v := ((((2 * a1) + ((sS S1 2 (a1.toNatClampNeg)) - (sS S1 2 (a1.toNatClampNeg)) / 2 * 2)) * 30) + a2)) x94_11 rfl (e_ic x94_12 (e_ii (v := (((((2 * a1) + ((sS S1 2 (a1.toNatClampNeg)) - (sS S1 2 (a1.toNatClampNeg)) / 2 * 2)) * 30) + a2) * 10)) x94_14 rfl (e_il x94_15 rfl (e_ii (v := ((((((2 * a1) + ((sS S1 2 (a1.toNatClampNeg)) - (sS S1 2 (a1.toNatClampNeg)) / 2 * 2)) * 30) + a2) * 10) + a3)) x94_17 rfl (e_ri x94_18 (e_iaS x138_71 (by decide) rfl c13 (e_ri x138_72 H))))))))))))))))))))))))))))
                  · replace H := H.2 c10
                    have c14 := H.1
                    have c15 := H.2.1
                    have c16 := H.2.2.1
                    replace H := H.2.2.2
                    refine e_al x138_73 rfl (e_il x138_74 rfl (e_il x138_75 rfl (e_il x138_76 rfl (e_il x138_77 rfl (e_cV (l0 := [some (.ref (aS E 0)), some (.int a1), some (.int a2), some (.int a3), some (.int a4)]) x138_79 rfl rfl rfl rfl rfl (fun h hh => hh.tS (by decide)) (e_al x114_0 rfl (e_PS x114_1 rfl (e_al x114_4 rfl (e_il x114_5 rfl (e_al x114_6 rfl (e_PS x114_7 rfl (e_il x114_10 rfl (e_iaS x114_11 (by decide) rfl c14 (e_il x114_12 rfl (e_il x114_13 rfl (e_il x114_14 rfl (e_cV (l0 := [some (.ref (aS E 0)), some (.int a1), some (.int (sS S1 2 (a1.toNatClampNeg))), some (.int a2), some (.int a3), some (.int a4)]) x114_16 rfl rfl rfl rfl rfl (fun h hh => hh.tS (by decide)) (e_ic x93_0 (e_il x93_1 rfl (e_ii (v := (2 * a1)) x93_2 rfl (e_il x93_3 rfl (e_ic x93_4 (e_rem x93_5 c15 (e_ii (v := ((2 * a1) + ((sS S1 2 (a1.toNatClampNeg)) - (sS S1 2 (a1.toNatClampNeg)) / 2 * 2))) x93_6 rfl (e_ic x93_7 (e_ii (v := (((2 * a1) + ((sS S1 2 (a1.toNatClampNeg)) - (sS S1 2 (a1.toNatClampNeg)) / 2 * 2)) * 30)) x93_9 rfl (e_il x93_10 rfl (e_ii (v := ((((2 * a1) + ((sS S1 2 (a1.toNatClampNeg)) - (sS S1 2 (a1.toNatClampNeg)) / 2 * 2)) * 30) + a2)) x93_11 rfl (e_ic x93_12 (e_ii (v := (((((2 * a1) + ((sS S1 2 (a1.toNatClampNeg)) - (sS S1 2 (a1.toNatClampNeg)) / 2 * 2)) * 30) + a2) * 10)) x93_14 rfl (e_il x93_15 rfl (e_ii (v := ((((((2 * a1) + ((sS S1 2 (a1.toNatClampNeg)) - (sS S1 2 (a1.toNatClampNeg)) / 2 * 2)) * 30) + a2) * 10) + a3)) x93_17 rfl (e_ic x93_18 (e_ii (v := (((((((2 * a1) + ((sS S1 2 (a1.toNatClampNeg)) - (sS S1 2 (a1.toNatClampNeg)) / 2 * 2)) * 30) + a2) * 10) + a3) * 3)) x93_19 rfl (e_il x93_20 rfl (e_ii (v := ((((((((2 * a1) + ((sS S1 2 (a1.toNatClampNeg)) - (sS S1 2 (a1.toNatClampNeg)) / 2 * 2)) * 30) + a2) * 10) + a3) * 3) + a4)) x93_22 rfl (e_ri x93_23 (e_iaS x114_19 (by decide) rfl c16 (e_ri x114_20 (e_ist (l' := [some (.ref (aS E 0)), some (.int a1), some (.int a2), some (.int a3), some (.int a4), some (.int (sS S1 17 (((((((((2 * a1) + ((sS S1 2 (a1.toNatClampNeg)) - (sS S1 2 (a1.toNatClampNeg)) / 2 * 2)) * 30) + a2) * 10) + a3) * 3) + a4).toNatClampNeg)))]) x138_82 rfl rfl (e_il x138_84 rfl (e_ge0 x138_86 (fun c17 => ?_) (fun c17 => ?_)))))))))))))))))))))))))))))))))))))))))))
                    · replace H := H.1 c17
                      exact e_il x138_94 rfl (e_ri x138_96 H)
                    · replace H := H.2 c17
                      exact e_ic x138_89 (e_goto x138_91 (e_ri x138_96 H))

-- Model.decided(III)I, from 0
set_option maxRecDepth 8000 in
theorem T139 {E : mE} {a1 : Int32} {a2 : Int32} {a3 : Int32} {S : mS} {K : Option Value → mS → Prop}  (H : ∀ S1, S1 = uS S 0 0 0 → (((lg_cmp (a1.toInt64) 0) < 0 → (K (some (.int (-1))) S1)) ∧ (¬ (lg_cmp (a1.toInt64) 0) < 0 → (((0 : Int32) < (lg_cmp (a1.toInt64) (((sS S1 0 1) - 1).toInt64)) → (K (some (.int (-1))) S1)) ∧ (¬ (0 : Int32) < (lg_cmp (a1.toInt64) (((sS S1 0 1) - 1).toInt64)) → (((lg_cmp (a2.toInt64) 1) < 0 → (K (some (.int (-1))) S1)) ∧ (¬ (lg_cmp (a2.toInt64) 1) < 0 → (((0 : Int32) < (lg_cmp (a2.toInt64) 40) → (K (some (.int (-1))) S1)) ∧ (¬ (0 : Int32) < (lg_cmp (a2.toInt64) 40) → (((lg_cmp (a3.toInt64) 0) < 0 → (K (some (.int (-1))) S1)) ∧ (¬ (lg_cmp (a3.toInt64) 0) < 0 → (((0 : Int32) < (lg_cmp (a3.toInt64) 3) → (K (some (.int (-1))) S1)) ∧ (¬ (0 : Int32) < (lg_cmp (a3.toInt64) 3) → ((¬ ((10 * a2) + a1) < 0 ∧ (((10 * a2) + a1).toNatClampNeg) < 410) ∧ (((sS S1 21 (((10 * a2) + a1).toNatClampNeg)) = 0 → (K (some (.int (-2))) S1)) ∧ (¬ (sS S1 21 (((10 * a2) + a1).toNatClampNeg)) = 0 → ((a3 = 0 → (K (some (.int (sS S1 21 (((10 * a2) + a1).toNatClampNeg)))) S1)) ∧ (a3 = 1 → (K (some (.int (sS S1 22 (((10 * a2) + a1).toNatClampNeg)))) S1)) ∧ (a3 = 2 → (K (some (.int (sS S1 23 (((10 * a2) + a1).toNatClampNeg)))) S1)) ∧ (¬ a3 = 0 → ((¬ a3 = 1 → ((¬ a3 = 2 → (K (some (.int (((sW S (((10 * a2) + a1).toNatClampNeg)) : Int64).toInt32))) S1))))))))))))))))))))))) : ES E 139 0 [some (.ref (aS E 0)), some (.int a1), some (.int a2), some (.int a3), none] [] S K := by
  refine e_al x139_0 rfl (e_ic x139_1 (e_pS x139_2 (by decide) rfl ?_))
  let S1 : mS := uS S 0 0 0
  replace H := H S1 rfl
  show ES _ _ _ _ _ S1 _
  refine e_al x139_5 rfl (e_il x139_6 rfl (e_cV (l0 := [some (.ref (aS E 0)), some (.int a1)]) x139_7 rfl rfl rfl rfl rfl (fun h hh => hh.tS (by decide)) (e_il x131_0 rfl (e_i2l x131_1 (e_lc x131_2 (e_al x131_3 rfl (e_gS x131_4 (by decide) rfl (e_ic x131_7 (e_ii (v := ((sS S1 0 1) - 1)) x131_8 rfl (e_i2l x131_9 (e_cS (l0 := [some (.long (a1.toInt64)), none, some (.long 0), none, some (.long (((sS S1 0 1) - 1).toInt64)), none]) x131_10 rfl rfl rfl rfl rfl (e_llo x97_0 rfl (e_llo x97_1 rfl (e_lcmp x97_2 (e_lt0 x97_3 (fun c2 => ?_) (fun c2 => ?_))))))))))))))))
  · replace H := H.1 c2
    refine e_ic x97_17 (e_rz x97_18 (by decide) (e_ne0 x131_13 (fun _ => ?_) (fun z9 => absurd (by decide) z9)))
    refine e_ic x131_16 (e_goto x131_17 (e_rz x131_21 (by decide) (e_ne0 x139_10 (fun z9 => absurd z9 (by decide)) (fun _ => ?_))))
    exact e_ic x139_37 (e_ri x139_38 H)
  · replace H := H.2 c2
    refine e_llo x97_6 rfl (e_llo x97_7 rfl (e_lcmp x97_9 (e_gt0 x97_10 (fun c3 => ?_) (fun c3 => ?_))))
    · replace H := H.1 c3
      refine e_ic x97_17 (e_rz x97_18 (by decide) (e_ne0 x131_13 (fun _ => ?_) (fun z9 => absurd (by decide) z9)))
      refine e_ic x131_16 (e_goto x131_17 (e_rz x131_21 (by decide) (e_ne0 x139_10 (fun z9 => absurd z9 (by decide)) (fun _ => ?_))))
      exact e_ic x139_37 (e_ri x139_38 H)
    · replace H := H.2 c3
      refine e_ic x97_13 (e_goto x97_14 (e_rz x97_18 (by decide) (e_ne0 x131_13 (fun z9 => absurd z9 (by decide)) (fun _ => ?_))))
      refine e_ic x131_20 (e_rz x131_21 (by decide) (e_ne0 x139_10 (fun _ => ?_) (fun z9 => absurd (by decide) z9)))
      refine e_il x139_13 rfl (e_i2l x139_14 (e_lc x139_15 (e_lc x139_16 (e_cS (l0 := [some (.long (a2.toInt64)), none, some (.long 1), none, some (.long 40), none]) x139_19 rfl rfl rfl rfl rfl (e_llo x97_0 rfl (e_llo x97_1 rfl (e_lcmp x97_2 (e_lt0 x97_3 (fun c4 => ?_) (fun c4 => ?_)))))))))
      · replace H := H.1 c4
        refine e_ic x97_17 (e_rz x97_18 (by decide) (e_eq0 x139_22 (fun _ => ?_) (fun z9 => absurd (by decide) z9)))
        exact e_ic x139_37 (e_ri x139_38 H)
      · replace H := H.2 c4
        refine e_llo x97_6 rfl (e_llo x97_7 rfl (e_lcmp x97_9 (e_gt0 x97_10 (fun c5 => ?_) (fun c5 => ?_))))
        · replace H := H.1 c5
          refine e_ic x97_17 (e_rz x97_18 (by decide) (e_eq0 x139_22 (fun _ => ?_) (fun z9 => absurd (by decide) z9)))
          exact e_ic x139_37 (e_ri x139_38 H)
        · replace H := H.2 c5
          refine e_ic x97_13 (e_goto x97_14 (e_rz x97_18 (by decide) (e_eq0 x139_22 (fun z9 => absurd z9 (by decide)) (fun _ => ?_))))
          refine e_il x139_25 rfl (e_i2l x139_26 (e_lc x139_27 (e_lc x139_28 (e_cS (l0 := [some (.long (a3.toInt64)), none, some (.long 0), none, some (.long 3), none]) x139_31 rfl rfl rfl rfl rfl (e_llo x97_0 rfl (e_llo x97_1 rfl (e_lcmp x97_2 (e_lt0 x97_3 (fun c6 => ?_) (fun c6 => ?_)))))))))
          · replace H := H.1 c6
            refine e_ic x97_17 (e_rz x97_18 (by decide) (e_ne0 x139_34 (fun _ => ?_) (fun z9 => absurd (by decide) z9)))
            exact e_ic x139_37 (e_ri x139_38 H)
          · replace H := H.2 c6
            refine e_llo x97_6 rfl (e_llo x97_7 rfl (e_lcmp x97_9 (e_gt0 x97_10 (fun c7 => ?_) (fun c7 => ?_))))
            · replace H := H.1 c7
              refine e_ic x97_17 (e_rz x97_18 (by decide) (e_ne0 x139_34 (fun _ => ?_) (fun z9 => absurd (by decide) z9)))
              exact e_ic x139_37 (e_ri x139_38 H)
            · replace H := H.2 c7
              refine e_ic x97_13 (e_goto x97_14 (e_rz x97_18 (by decide) (e_ne0 x139_34 (fun z9 => absurd z9 (by decide)) (fun _ => ?_))))
              have c8 := H.1
              replace H := H.2
              refine e_ic x139_39 (e_il x139_41 rfl (e_ii (v := (10 * a2)) x139_42 rfl (e_il x139_43 rfl (e_ii (v := ((10 * a2) + a1)) x139_44 rfl (e_ist (l' := [some (.ref (aS E 0)), some (.int a1), some (.int a2), some (.int a3), some (.int ((10 * a2) + a1))]) x139_45 rfl rfl (e_al x139_47 rfl (e_PS x139_48 rfl (e_il x139_51 rfl (e_iaS x139_53 (by decide) rfl c8 (e_ne0 x139_54 (fun c9 => ?_) (fun c9 => ?_)))))))))))
              · replace H := H.1 c9
                exact e_ic x139_57 (e_ri x139_59 H)
              · replace H := H.2 c9
                refine e_il x139_60 rfl ?_
                by_cases c10 : a3 = 0
                · replace H := H.1 c10
                  exact e_tswI (j := 0) x139_61 c10 (by decide) (by decide) rfl (e_al x139_88 rfl (e_PS x139_89 rfl (e_il x139_92 rfl (e_iaS x139_94 (by decide) rfl c8 (e_ri x139_95 H)))))
                replace H := H.2
                by_cases c11 : a3 = 1
                · replace H := H.1 c11
                  exact e_tswI (j := 1) x139_61 c11 (by decide) (by decide) rfl (e_al x139_96 rfl (e_PS x139_97 rfl (e_il x139_100 rfl (e_iaS x139_102 (by decide) rfl c8 (e_ri x139_103 H)))))
                replace H := H.2
                by_cases c12 : a3 = 2
                · replace H := H.1 c12
                  exact e_tswI (j := 2) x139_61 c12 (by decide) (by decide) rfl (e_al x139_104 rfl (e_PS x139_105 rfl (e_il x139_108 rfl (e_iaS x139_110 (by decide) rfl c8 (e_ri x139_111 H)))))
                replace H := H.2
                replace H := H c10
                replace H := H c11
                replace H := H c12
                have hs : ∀ j, j < 3 → ¬ a3 = nI j := fun j hj => match j, hj with
                  | 0, _ => c10
                  | 1, _ => c11
                  | 2, _ => c12
                  | j + 3, hj => absurd hj (by omega)
                exact e_tswO x139_61 hs (by decide) (e_al x139_112 rfl (e_PS x139_113 rfl (e_il x139_116 rfl (e_la x139_118 c8 (e_l2i x139_119 (e_ri x139_120 H))))))

-- Model.unlike(I)I, from 0
set_option maxRecDepth 8000 in
theorem T140 {E : mE} {a1 : Int32} {S : mS} {K : Option Value → mS → Prop}  (H : ∀ S1, S1 = uS S 0 0 0 → (((lg_cmp (a1.toInt64) 1) < 0 → (K (some (.int (-1))) S1)) ∧ (¬ (lg_cmp (a1.toInt64) 1) < 0 → (((0 : Int32) < (lg_cmp (a1.toInt64) 40) → (K (some (.int (-1))) S1)) ∧ (¬ (0 : Int32) < (lg_cmp (a1.toInt64) 40) → (ES E 140 23 [some (.ref (aS E 0)), some (.int a1), some (.int 0), some (.int 0), none] [] S1 K)))))) : ES E 140 0 [some (.ref (aS E 0)), some (.int a1), none, none, none] [] S K := by
  refine e_al x140_0 rfl (e_ic x140_1 (e_pS x140_2 (by decide) rfl ?_))
  let S1 : mS := uS S 0 0 0
  replace H := H S1 rfl
  show ES _ _ _ _ _ S1 _
  refine e_il x140_5 rfl (e_i2l x140_6 (e_lc x140_7 (e_lc x140_8 (e_cS (l0 := [some (.long (a1.toInt64)), none, some (.long 1), none, some (.long 40), none]) x140_11 rfl rfl rfl rfl rfl (e_llo x97_0 rfl (e_llo x97_1 rfl (e_lcmp x97_2 (e_lt0 x97_3 (fun c2 => ?_) (fun c2 => ?_)))))))))
  · replace H := H.1 c2
    refine e_ic x97_17 (e_rz x97_18 (by decide) (e_ne0 x140_14 (fun _ => ?_) (fun z9 => absurd (by decide) z9)))
    exact e_ic x140_17 (e_ri x140_18 H)
  · replace H := H.2 c2
    refine e_llo x97_6 rfl (e_llo x97_7 rfl (e_lcmp x97_9 (e_gt0 x97_10 (fun c3 => ?_) (fun c3 => ?_))))
    · replace H := H.1 c3
      refine e_ic x97_17 (e_rz x97_18 (by decide) (e_ne0 x140_14 (fun _ => ?_) (fun z9 => absurd (by decide) z9)))
      exact e_ic x140_17 (e_ri x140_18 H)
    · replace H := H.2 c3
      refine e_ic x97_13 (e_goto x97_14 (e_rz x97_18 (by decide) (e_ne0 x140_14 (fun z9 => absurd z9 (by decide)) (fun _ => ?_))))
      exact e_ic x140_19 (e_ist (l' := [some (.ref (aS E 0)), some (.int a1), some (.int 0), none, none]) x140_20 rfl rfl (e_ic x140_21 (e_ist (l' := [some (.ref (aS E 0)), some (.int a1), some (.int 0), some (.int 0), none]) x140_22 rfl rfl (H))))

-- Model.unlike(I)I, from 23
set_option maxRecDepth 8000 in
theorem T140_23 {E : mE} {v1 : Int32} {v2 : Int32} {v3 : Int32} {S : mS} {K : Option Value → mS → Prop}  (H : ((sS S 0 1) ≤ v3 → (K (some (.int 0)) S)) ∧ (¬ (sS S 0 1) ≤ v3 → ((¬ ((10 * v1) + v3) < 0 ∧ (((10 * v1) + v3).toNatClampNeg) < 410) ∧ (((sS S 21 (((10 * v1) + v3).toNatClampNeg)) ≤ 0 → (ES E 140 23 [some (.ref (aS E 0)), some (.int v1), some (.int v2), some (.int (v3 + 1)), none] [] S K)) ∧ (¬ (sS S 21 (((10 * v1) + v3).toNatClampNeg)) ≤ 0 → ((v2 ≤ 0 → (ES E 140 23 [some (.ref (aS E 0)), some (.int v1), some (.int (sS S 21 (((10 * v1) + v3).toNatClampNeg))), some (.int (v3 + 1)), none] [] S K)) ∧ (¬ v2 ≤ 0 → (((sS S 21 (((10 * v1) + v3).toNatClampNeg)) = v2 → (ES E 140 23 [some (.ref (aS E 0)), some (.int v1), some (.int (sS S 21 (((10 * v1) + v3).toNatClampNeg))), some (.int (v3 + 1)), none] [] S K)) ∧ (¬ (sS S 21 (((10 * v1) + v3).toNatClampNeg)) = v2 → (K (some (.int 1)) S)))))))))) : ES E 140 23 [some (.ref (aS E 0)), some (.int v1), some (.int v2), some (.int v3), none] [] S K := by
  refine e_il x140_23 rfl (e_al x140_24 rfl (e_gS x140_25 (by decide) rfl (e_ge x140_28 (fun c1 => ?_) (fun c1 => ?_))))
  · replace H := H.1 c1
    exact e_ic x140_79 (e_ri x140_80 H)
  · replace H := H.2 c1
    have c2 := H.1
    replace H := H.2
    refine e_al x140_31 rfl (e_PS x140_32 rfl (e_ic x140_35 (e_il x140_37 rfl (e_ii (v := (10 * v1)) x140_38 rfl (e_il x140_39 rfl (e_ii (v := ((10 * v1) + v3)) x140_40 rfl (e_iaS x140_41 (by decide) rfl c2 (e_ist (l' := [some (.ref (aS E 0)), some (.int v1), some (.int v2), some (.int v3), some (.int (sS S 21 (((10 * v1) + v3).toNatClampNeg)))]) x140_42 rfl rfl (e_il x140_44 rfl (e_le0 x140_46 (fun c3 => ?_) (fun c3 => ?_)))))))))))
    · replace H := H.1 c3
      refine e_il x140_61 rfl (e_le0 x140_63 (fun _ => ?_) (fun z9 => absurd c3 z9))
      exact e_il x140_71 rfl (e_ist (l' := [some (.ref (aS E 0)), some (.int v1), some (.int v2), some (.int v3), some (.int (sS S 21 (((10 * v1) + v3).toNatClampNeg)))]) x140_72 rfl rfl (e_inc (l' := [some (.ref (aS E 0)), some (.int v1), some (.int v2), some (.int (v3 + 1)), some (.int (sS S 21 (((10 * v1) + v3).toNatClampNeg)))]) x140_73 rfl rfl rfl (e_back (l' := [some (.ref (aS E 0)), some (.int v1), some (.int v2), some (.int (v3 + 1)), none]) x140_76 rfl (H))))
    · replace H := H.2 c3
      refine e_il x140_49 rfl (e_le0 x140_50 (fun c4 => ?_) (fun c4 => ?_))
      · replace H := H.1 c4
        refine e_il x140_61 rfl (e_le0 x140_63 (fun z9 => absurd z9 c3) (fun _ => ?_))
        exact e_il x140_66 rfl (e_goto x140_68 (e_ist (l' := [some (.ref (aS E 0)), some (.int v1), some (.int (sS S 21 (((10 * v1) + v3).toNatClampNeg))), some (.int v3), some (.int (sS S 21 (((10 * v1) + v3).toNatClampNeg)))]) x140_72 rfl rfl (e_inc (l' := [some (.ref (aS E 0)), some (.int v1), some (.int (sS S 21 (((10 * v1) + v3).toNatClampNeg))), some (.int (v3 + 1)), some (.int (sS S 21 (((10 * v1) + v3).toNatClampNeg)))]) x140_73 rfl rfl rfl (e_back (l' := [some (.ref (aS E 0)), some (.int v1), some (.int (sS S 21 (((10 * v1) + v3).toNatClampNeg))), some (.int (v3 + 1)), none]) x140_76 rfl (H)))))
      · replace H := H.2 c4
        refine e_il x140_53 rfl (e_il x140_55 rfl (e_eq x140_56 (fun c5 => ?_) (fun c5 => ?_)))
        · replace H := H.1 c5
          refine e_il x140_61 rfl (e_le0 x140_63 (fun z9 => absurd z9 c3) (fun _ => ?_))
          exact e_il x140_66 rfl (e_goto x140_68 (e_ist (l' := [some (.ref (aS E 0)), some (.int v1), some (.int (sS S 21 (((10 * v1) + v3).toNatClampNeg))), some (.int v3), some (.int (sS S 21 (((10 * v1) + v3).toNatClampNeg)))]) x140_72 rfl rfl (e_inc (l' := [some (.ref (aS E 0)), some (.int v1), some (.int (sS S 21 (((10 * v1) + v3).toNatClampNeg))), some (.int (v3 + 1)), some (.int (sS S 21 (((10 * v1) + v3).toNatClampNeg)))]) x140_73 rfl rfl rfl (e_back (l' := [some (.ref (aS E 0)), some (.int v1), some (.int (sS S 21 (((10 * v1) + v3).toNatClampNeg))), some (.int (v3 + 1)), none]) x140_76 rfl (H)))))
        · replace H := H.2 c5
          exact e_ic x140_59 (e_ri x140_60 H)

-- Model.evidence(II)I, from 0
set_option maxRecDepth 8000 in
theorem T141 {E : mE} {a1 : Int32} {a2 : Int32} {S : mS} {K : Option Value → mS → Prop}  (H : ∀ S1, S1 = uS S 0 0 0 → ((a1 = (-1) → ((a2 = 0 → (K (some (.int (sS S1 0 50))) S1)) ∧ (¬ a2 = 0 → (ES E 141 19 [some (.ref (aS E 0)), some (.int a1), some (.int a2)] [] S1 K)))) ∧ (¬ a1 = (-1) → (ES E 141 19 [some (.ref (aS E 0)), some (.int a1), some (.int a2)] [] S1 K)))) : ES E 141 0 [some (.ref (aS E 0)), some (.int a1), some (.int a2)] [] S K := by
  refine e_al x141_0 rfl (e_ic x141_1 (e_pS x141_2 (by decide) rfl ?_))
  let S1 : mS := uS S 0 0 0
  replace H := H S1 rfl
  show ES _ _ _ _ _ S1 _
  refine e_il x141_5 rfl (e_ic x141_6 (e_ne x141_7 (fun c2 => ?_) (fun c2 => ?_)))
  · replace H := H.1 c2
    refine e_il x141_10 rfl (e_ne0 x141_11 (fun c3 => ?_) (fun c3 => ?_))
    · replace H := H.1 c3
      exact e_al x141_14 rfl (e_gS x141_15 (by decide) rfl (e_ri x141_18 H))
    · replace H := H.2 c3
      exact H
  · replace H := H.2 c2
    exact H

-- Model.evidence(II)I, from 19
set_option maxRecDepth 8000 in
theorem T141_19 {E : mE} {v1 : Int32} {v2 : Int32} {S : mS} {K : Option Value → mS → Prop}  (H : ((lg_cmp (v1.toInt64) 0) < 0 → (ES E 141 47 [some (.ref (aS E 0)), some (.int v1), some (.int v2)] [] S K)) ∧ (¬ (lg_cmp (v1.toInt64) 0) < 0 → (((0 : Int32) < (lg_cmp (v1.toInt64) (((sS S 0 50) - 1).toInt64)) → (ES E 141 47 [some (.ref (aS E 0)), some (.int v1), some (.int v2)] [] S K)) ∧ (¬ (0 : Int32) < (lg_cmp (v1.toInt64) (((sS S 0 50) - 1).toInt64)) → (((lg_cmp (v2.toInt64) 0) < 0 → (ES E 141 47 [some (.ref (aS E 0)), some (.int v1), some (.int v2)] [] S K)) ∧ (¬ (lg_cmp (v2.toInt64) 0) < 0 → (((0 : Int32) < (lg_cmp (v2.toInt64) 5) → (ES E 141 47 [some (.ref (aS E 0)), some (.int v1), some (.int v2)] [] S K)) ∧ (¬ (0 : Int32) < (lg_cmp (v2.toInt64) 5) → ((¬ ((6 * v1) + v2) < 0 ∧ (((6 * v1) + v2).toNatClampNeg) < 1200) ∧ (K (some (.int (sS S 37 (((6 * v1) + v2).toNatClampNeg)))) S)))))))))) : ES E 141 19 [some (.ref (aS E 0)), some (.int v1), some (.int v2)] [] S K := by
  refine e_il x141_19 rfl (e_i2l x141_20 (e_lc x141_21 (e_al x141_22 rfl (e_gS x141_23 (by decide) rfl (e_ic x141_26 (e_ii (v := ((sS S 0 50) - 1)) x141_27 rfl (e_i2l x141_28 (e_cS (l0 := [some (.long (v1.toInt64)), none, some (.long 0), none, some (.long (((sS S 0 50) - 1).toInt64)), none]) x141_29 rfl rfl rfl rfl rfl (e_llo x97_0 rfl (e_llo x97_1 rfl (e_lcmp x97_2 (e_lt0 x97_3 (fun c1 => ?_) (fun c1 => ?_)))))))))))))
  · replace H := H.1 c1
    refine e_ic x97_17 (e_rz x97_18 (by decide) (e_eq0 x141_32 (fun _ => ?_) (fun z9 => absurd (by decide) z9)))
    exact H
  · replace H := H.2 c1
    refine e_llo x97_6 rfl (e_llo x97_7 rfl (e_lcmp x97_9 (e_gt0 x97_10 (fun c2 => ?_) (fun c2 => ?_))))
    · replace H := H.1 c2
      refine e_ic x97_17 (e_rz x97_18 (by decide) (e_eq0 x141_32 (fun _ => ?_) (fun z9 => absurd (by decide) z9)))
      exact H
    · replace H := H.2 c2
      refine e_ic x97_13 (e_goto x97_14 (e_rz x97_18 (by decide) (e_eq0 x141_32 (fun z9 => absurd z9 (by decide)) (fun _ => ?_))))
      refine e_il x141_35 rfl (e_i2l x141_36 (e_lc x141_37 (e_lc x141_38 (e_cS (l0 := [some (.long (v2.toInt64)), none, some (.long 0), none, some (.long 5), none]) x141_41 rfl rfl rfl rfl rfl (e_llo x97_0 rfl (e_llo x97_1 rfl (e_lcmp x97_2 (e_lt0 x97_3 (fun c3 => ?_) (fun c3 => ?_)))))))))
      · replace H := H.1 c3
        refine e_ic x97_17 (e_rz x97_18 (by decide) (e_ne0 x141_44 (fun _ => ?_) (fun z9 => absurd (by decide) z9)))
        exact H
      · replace H := H.2 c3
        refine e_llo x97_6 rfl (e_llo x97_7 rfl (e_lcmp x97_9 (e_gt0 x97_10 (fun c4 => ?_) (fun c4 => ?_))))
        · replace H := H.1 c4
          refine e_ic x97_17 (e_rz x97_18 (by decide) (e_ne0 x141_44 (fun _ => ?_) (fun z9 => absurd (by decide) z9)))
          exact H
        · replace H := H.2 c4
          refine e_ic x97_13 (e_goto x97_14 (e_rz x97_18 (by decide) (e_ne0 x141_44 (fun z9 => absurd z9 (by decide)) (fun _ => ?_))))
          have c5 := H.1
          replace H := H.2
          exact e_al x141_51 rfl (e_PS x141_52 rfl (e_ic x141_55 (e_il x141_57 rfl (e_ii (v := (6 * v1)) x141_58 rfl (e_il x141_59 rfl (e_ii (v := ((6 * v1) + v2)) x141_60 rfl (e_iaS x141_61 (by decide) rfl c5 (e_ri x141_62 H))))))))

-- Model.evidence(II)I, from 47
set_option maxRecDepth 8000 in
theorem T141_47 {E : mE} {v1 : Int32} {v2 : Int32} {S : mS} {K : Option Value → mS → Prop}  (H : K (some (.int (-1))) S) : ES E 141 47 [some (.ref (aS E 0)), some (.int v1), some (.int v2)] [] S K := by
  exact e_ic x141_47 (e_goto x141_48 (e_ri x141_62 H))

-- Model.against(I)I, from 0
set_option maxRecDepth 8000 in
theorem T142 {E : mE} {a1 : Int32} {S : mS} {K : Option Value → mS → Prop}  (H : ∀ S1, S1 = uS S 0 0 0 → (((lg_cmp (a1.toInt64) 0) < 0 → (K (some (.int (-1))) S1)) ∧ (¬ (lg_cmp (a1.toInt64) 0) < 0 → (((0 : Int32) < (lg_cmp (a1.toInt64) (((sS S1 0 1) - 1).toInt64)) → (K (some (.int (-1))) S1)) ∧ (¬ (0 : Int32) < (lg_cmp (a1.toInt64) (((sS S1 0 1) - 1).toInt64)) → (ES E 142 26 [some (.ref (aS E 0)), some (.int a1), some (.int 0), some (.int ((((((41 * a1) + 0) * 30) + 0) * 3) + 0))] [] S1 K)))))) : ES E 142 0 [some (.ref (aS E 0)), some (.int a1), none, none] [] S K := by
  refine e_al x142_0 rfl (e_ic x142_1 (e_pS x142_2 (by decide) rfl ?_))
  let S1 : mS := uS S 0 0 0
  replace H := H S1 rfl
  show ES _ _ _ _ _ S1 _
  refine e_al x142_5 rfl (e_il x142_6 rfl (e_cV (l0 := [some (.ref (aS E 0)), some (.int a1)]) x142_7 rfl rfl rfl rfl rfl (fun h hh => hh.tS (by decide)) (e_il x131_0 rfl (e_i2l x131_1 (e_lc x131_2 (e_al x131_3 rfl (e_gS x131_4 (by decide) rfl (e_ic x131_7 (e_ii (v := ((sS S1 0 1) - 1)) x131_8 rfl (e_i2l x131_9 (e_cS (l0 := [some (.long (a1.toInt64)), none, some (.long 0), none, some (.long (((sS S1 0 1) - 1).toInt64)), none]) x131_10 rfl rfl rfl rfl rfl (e_llo x97_0 rfl (e_llo x97_1 rfl (e_lcmp x97_2 (e_lt0 x97_3 (fun c2 => ?_) (fun c2 => ?_))))))))))))))))
  · replace H := H.1 c2
    refine e_ic x97_17 (e_rz x97_18 (by decide) (e_ne0 x131_13 (fun _ => ?_) (fun z9 => absurd (by decide) z9)))
    refine e_ic x131_16 (e_goto x131_17 (e_rz x131_21 (by decide) (e_eq0 x142_10 (fun z9 => absurd z9 (by decide)) (fun _ => ?_))))
    exact e_ic x142_13 (e_ri x142_14 H)
  · replace H := H.2 c2
    refine e_llo x97_6 rfl (e_llo x97_7 rfl (e_lcmp x97_9 (e_gt0 x97_10 (fun c3 => ?_) (fun c3 => ?_))))
    · replace H := H.1 c3
      refine e_ic x97_17 (e_rz x97_18 (by decide) (e_ne0 x131_13 (fun _ => ?_) (fun z9 => absurd (by decide) z9)))
      refine e_ic x131_16 (e_goto x131_17 (e_rz x131_21 (by decide) (e_eq0 x142_10 (fun z9 => absurd z9 (by decide)) (fun _ => ?_))))
      exact e_ic x142_13 (e_ri x142_14 H)
    · replace H := H.2 c3
      refine e_ic x97_13 (e_goto x97_14 (e_rz x97_18 (by decide) (e_ne0 x131_13 (fun z9 => absurd z9 (by decide)) (fun _ => ?_))))
      refine e_ic x131_20 (e_rz x131_21 (by decide) (e_eq0 x142_10 (fun _ => ?_) (fun z9 => absurd (by decide) z9)))
      exact e_ic x142_15 (e_ist (l' := [some (.ref (aS E 0)), some (.int a1), some (.int 0), none]) x142_16 rfl rfl (e_al x142_17 rfl (e_il x142_18 rfl (e_ic x142_19 (e_ic x142_20 (e_ic x142_21 (e_cV (l0 := [some (.ref (aS E 0)), some (.int a1), some (.int 0), some (.int 0), some (.int 0)]) x142_22 rfl rfl rfl rfl rfl (fun h hh => hh.tS (by decide)) (e_ic x107_0 (e_il x107_2 rfl (e_ii (v := (41 * a1)) x107_3 rfl (e_il x107_4 rfl (e_ii (v := ((41 * a1) + 0)) x107_5 rfl (e_ic x107_6 (e_ii (v := (((41 * a1) + 0) * 30)) x107_8 rfl (e_il x107_9 rfl (e_ii (v := ((((41 * a1) + 0) * 30) + 0)) x107_10 rfl (e_ic x107_11 (e_ii (v := (((((41 * a1) + 0) * 30) + 0) * 3)) x107_12 rfl (e_il x107_13 rfl (e_ii (v := ((((((41 * a1) + 0) * 30) + 0) * 3) + 0)) x107_15 rfl (e_ri x107_16 (e_ist (l' := [some (.ref (aS E 0)), some (.int a1), some (.int 0), some (.int ((((((41 * a1) + 0) * 30) + 0) * 3) + 0))]) x142_25 rfl rfl (H)))))))))))))))))))))))

-- Model.against(I)I, from 26
set_option maxRecDepth 8000 in
theorem T142_26 {E : mE} {v1 : Int32} {v2 : Int32} {v3 : Int32} {S : mS} {K : Option Value → mS → Prop}  (H : (((((((41 * (v1 + 1)) + 0) * 30) + 0) * 3) + 0) ≤ v3 → (K (some (.int v2)) S)) ∧ (¬ ((((((41 * (v1 + 1)) + 0) * 30) + 0) * 3) + 0) ≤ v3 → ((¬ v3 < 0 ∧ (v3.toNatClampNeg) < 36900) ∧ (((sS S 39 (v3.toNatClampNeg)) = 0 → (ES E 142 26 [some (.ref (aS E 0)), some (.int v1), some (.int (v2 + 0)), some (.int (v3 + 1))] [] S K)) ∧ (¬ (sS S 39 (v3.toNatClampNeg)) = 0 → (ES E 142 26 [some (.ref (aS E 0)), some (.int v1), some (.int (v2 + 1)), some (.int (v3 + 1))] [] S K)))))) : ES E 142 26 [some (.ref (aS E 0)), some (.int v1), some (.int v2), some (.int v3)] [] S K := by
  refine e_il x142_26 rfl (e_al x142_27 rfl (e_il x142_28 rfl (e_ic x142_29 (e_ii (v := (v1 + 1)) x142_30 rfl (e_ic x142_31 (e_ic x142_32 (e_ic x142_33 (e_cV (l0 := [some (.ref (aS E 0)), some (.int (v1 + 1)), some (.int 0), some (.int 0), some (.int 0)]) x142_34 rfl rfl rfl rfl rfl (fun h hh => hh.tS (by decide)) (e_ic x107_0 (e_il x107_2 rfl (e_ii (v := (41 * (v1 + 1))) x107_3 rfl (e_il x107_4 rfl (e_ii (v := ((41 * (v1 + 1)) + 0)) x107_5 rfl (e_ic x107_6 (e_ii (v := (((41 * (v1 + 1)) + 0) * 30)) x107_8 rfl (e_il x107_9 rfl (e_ii (v := ((((41 * (v1 + 1)) + 0) * 30) + 0)) x107_10 rfl (e_ic x107_11 (e_ii (v := (((((41 * (v1 + 1)) + 0) * 30) + 0) * 3)) x107_12 rfl (e_il x107_13 rfl (e_ii (v := ((((((41 * (v1 + 1)) + 0) * 30) + 0) * 3) + 0)) x107_15 rfl (e_ri x107_16 (e_ge x142_37 (fun c1 => ?_) (fun c1 => ?_))))))))))))))))))))))))
  · replace H := H.1 c1
    exact e_il x142_63 rfl (e_ri x142_64 H)
  · replace H := H.2 c1
    have c2 := H.1
    replace H := H.2
    refine e_il x142_40 rfl (e_al x142_41 rfl (e_PS x142_42 rfl (e_il x142_45 rfl (e_baS x142_46 (by decide) rfl c2 (e_eq0 x142_47 (fun c3 => ?_) (fun c3 => ?_))))))
    · replace H := H.1 c3
      exact e_ic x142_54 (e_ii (v := (v2 + 0)) x142_55 rfl (e_ist (l' := [some (.ref (aS E 0)), some (.int v1), some (.int (v2 + 0)), some (.int v3)]) x142_56 rfl rfl (e_inc (l' := [some (.ref (aS E 0)), some (.int v1), some (.int (v2 + 0)), some (.int (v3 + 1))]) x142_57 rfl rfl rfl (e_back (l' := [some (.ref (aS E 0)), some (.int v1), some (.int (v2 + 0)), some (.int (v3 + 1))]) x142_60 rfl (H)))))
    · replace H := H.2 c3
      exact e_ic x142_50 (e_goto x142_51 (e_ii (v := (v2 + 1)) x142_55 rfl (e_ist (l' := [some (.ref (aS E 0)), some (.int v1), some (.int (v2 + 1)), some (.int v3)]) x142_56 rfl rfl (e_inc (l' := [some (.ref (aS E 0)), some (.int v1), some (.int (v2 + 1)), some (.int (v3 + 1))]) x142_57 rfl rfl rfl (e_back (l' := [some (.ref (aS E 0)), some (.int v1), some (.int (v2 + 1)), some (.int (v3 + 1))]) x142_60 rfl (H))))))

-- Model.count(I)I, from 0
set_option maxRecDepth 8000 in
theorem T143 {E : mE} {a1 : Int32} {S : mS} {K : Option Value → mS → Prop}  (H : ∀ S1, S1 = uS S 0 0 0 → ((a1 = 0 → (K (some (.int (sS S1 0 3))) S1)) ∧ (a1 = 1 → (K (some (.int (sS S1 0 39))) S1)) ∧ (a1 = 2 → (K (some (.int (sS S1 0 40))) S1)) ∧ (a1 = 3 → (K (some (.int (sS S1 0 41))) S1)) ∧ (a1 = 4 → (K (some (.int (sS S1 0 38))) S1)) ∧ (a1 = 5 → (ES E 143 85 [some (.ref (aS E 0)), some (.int a1), some (.int 0), some (.int 1), none] [] S1 K)) ∧ (a1 = 6 → (K (some (.int (sS S1 0 1))) S1)) ∧ (a1 = 7 → (ES E 117 0 [some (.ref (aS E 0)), some (.int 1), none, none, none] [] S1 (fun r S10 => ∃ x11 : Int64, r = some (.long x11) ∧ (K (some (.int ((x11 : Int64).toInt32))) S10)))) ∧ (a1 = 8 → (((sS S1 0 48) ≤ (sS S1 0 3) → (K (some (.int 0)) S1)) ∧ (¬ (sS S1 0 48) ≤ (sS S1 0 3) → (K (some (.int ((sS S1 0 48) - (sS S1 0 3)))) S1)))) ∧ (¬ a1 = 0 → ((¬ a1 = 1 → ((¬ a1 = 2 → ((¬ a1 = 3 → ((¬ a1 = 4 → ((¬ a1 = 5 → ((¬ a1 = 6 → ((¬ a1 = 7 → ((¬ a1 = 8 → (K (some (.int (-1))) S1)))))))))))))))))))) : ES E 143 0 [some (.ref (aS E 0)), some (.int a1), none, none, none] [] S K := by
  refine e_al x143_0 rfl (e_ic x143_1 (e_pS x143_2 (by decide) rfl ?_))
  let S1 : mS := uS S 0 0 0
  replace H := H S1 rfl
  show ES _ _ _ _ _ S1 _
  refine e_il x143_5 rfl ?_
  by_cases c2 : a1 = 0
  · replace H := H.1 c2
    exact e_tswI (j := 0) x143_6 c2 (by decide) (by decide) rfl (e_al x143_56 rfl (e_gS x143_57 (by decide) rfl (e_ri x143_60 H)))
  replace H := H.2
  by_cases c3 : a1 = 1
  · replace H := H.1 c3
    exact e_tswI (j := 1) x143_6 c3 (by decide) (by decide) rfl (e_al x143_61 rfl (e_gS x143_62 (by decide) rfl (e_ri x143_65 H)))
  replace H := H.2
  by_cases c4 : a1 = 2
  · replace H := H.1 c4
    exact e_tswI (j := 2) x143_6 c4 (by decide) (by decide) rfl (e_al x143_66 rfl (e_gS x143_67 (by decide) rfl (e_ri x143_70 H)))
  replace H := H.2
  by_cases c5 : a1 = 3
  · replace H := H.1 c5
    exact e_tswI (j := 3) x143_6 c5 (by decide) (by decide) rfl (e_al x143_71 rfl (e_gS x143_72 (by decide) rfl (e_ri x143_75 H)))
  replace H := H.2
  by_cases c6 : a1 = 4
  · replace H := H.1 c6
    exact e_tswI (j := 4) x143_6 c6 (by decide) (by decide) rfl (e_al x143_76 rfl (e_gS x143_77 (by decide) rfl (e_ri x143_80 H)))
  replace H := H.2
  by_cases c7 : a1 = 5
  · replace H := H.1 c7
    exact e_tswI (j := 5) x143_6 c7 (by decide) (by decide) rfl (e_ic x143_81 (e_ist (l' := [some (.ref (aS E 0)), some (.int a1), some (.int 0), none, none]) x143_82 rfl rfl (e_ic x143_83 (e_ist (l' := [some (.ref (aS E 0)), some (.int a1), some (.int 0), some (.int 1), none]) x143_84 rfl rfl (H)))))
  replace H := H.2
  by_cases c8 : a1 = 6
  · replace H := H.1 c8
    exact e_tswI (j := 6) x143_6 c8 (by decide) (by decide) rfl (e_al x143_138 rfl (e_gS x143_139 (by decide) rfl (e_ri x143_142 H)))
  replace H := H.2
  by_cases c9 : a1 = 7
  · replace H := H.1 c9
    refine e_tswI (j := 7) x143_6 c9 (by decide) (by decide) rfl (e_al x143_143 rfl (e_ic x143_144 (e_cV (l0 := [some (.ref (aS E 0)), some (.int 1), none, none, none]) x143_145 rfl rfl rfl rfl rfl (fun h hh => hh.tS (by decide)) (ES.mono H ?_))))
    rintro _ S10 ⟨x11, rfl, H⟩
    exact e_l2i x143_148 (e_ri x143_149 H)
  replace H := H.2
  by_cases c12 : a1 = 8
  · replace H := H.1 c12
    refine e_tswI (j := 8) x143_6 c12 (by decide) (by decide) rfl (e_al x143_150 rfl (e_gS x143_151 (by decide) rfl (e_al x143_154 rfl (e_gS x143_155 (by decide) rfl (e_le x143_158 (fun c13 => ?_) (fun c13 => ?_))))))
    · replace H := H.1 c13
      exact e_ic x143_173 (e_ri x143_174 H)
    · replace H := H.2 c13
      exact e_al x143_161 rfl (e_gS x143_162 (by decide) rfl (e_al x143_165 rfl (e_gS x143_166 (by decide) rfl (e_ii (v := ((sS S1 0 48) - (sS S1 0 3))) x143_169 rfl (e_goto x143_170 (e_ri x143_174 H))))))
  replace H := H.2
  replace H := H c2
  replace H := H c3
  replace H := H c4
  replace H := H c5
  replace H := H c6
  replace H := H c7
  replace H := H c8
  replace H := H c9
  replace H := H c12
  have hs : ∀ j, j < 9 → ¬ a1 = nI j := fun j hj => match j, hj with
    | 0, _ => c2
    | 1, _ => c3
    | 2, _ => c4
    | 3, _ => c5
    | 4, _ => c6
    | 5, _ => c7
    | 6, _ => c8
    | 7, _ => c9
    | 8, _ => c12
    | j + 9, hj => absurd hj (by omega)
  exact e_tswO x143_6 hs (by decide) (e_ic x143_175 (e_ri x143_176 H))

-- Model.count(I)I, from 85
set_option maxRecDepth 8000 in
theorem T143_85 {E : mE} {v1 : Int32} {v2 : Int32} {v3 : Int32} {S : mS} {K : Option Value → mS → Prop}  (H : ((40 : Int32) < v3 → (K (some (.int v2)) S)) ∧ (¬ (40 : Int32) < v3 → (ES E 143 94 [some (.ref (aS E 0)), some (.int v1), some (.int v2), some (.int v3), some (.int 0)] [] S K))) : ES E 143 85 [some (.ref (aS E 0)), some (.int v1), some (.int v2), some (.int v3), none] [] S K := by
  refine e_il x143_85 rfl (e_ic x143_86 (e_gt x143_88 (fun c1 => ?_) (fun c1 => ?_)))
  · replace H := H.1 c1
    exact e_il x143_136 rfl (e_ri x143_137 H)
  · replace H := H.2 c1
    exact e_ic x143_91 (e_ist (l' := [some (.ref (aS E 0)), some (.int v1), some (.int v2), some (.int v3), some (.int 0)]) x143_92 rfl rfl (H))

-- Model.count(I)I, from 94
set_option maxRecDepth 8000 in
theorem T143_94 {E : mE} {v1 : Int32} {v2 : Int32} {v3 : Int32} {v4 : Int32} {S : mS} {K : Option Value → mS → Prop}  (H : ((sS S 0 1) ≤ v4 → (ES E 143 85 [some (.ref (aS E 0)), some (.int v1), some (.int v2), some (.int (v3 + 1)), none] [] S K)) ∧ (¬ (sS S 0 1) ≤ v4 → ((¬ ((10 * v3) + v4) < 0 ∧ (((10 * v3) + v4).toNatClampNeg) < 410) ∧ (((sS S 21 (((10 * v3) + v4).toNatClampNeg)) ≤ 0 → (ES E 143 94 [some (.ref (aS E 0)), some (.int v1), some (.int v2), some (.int v3), some (.int (v4 + 1))] [] S K)) ∧ (¬ (sS S 21 (((10 * v3) + v4).toNatClampNeg)) ≤ 0 → (ES E 143 94 [some (.ref (aS E 0)), some (.int v1), some (.int v3), some (.int v3), some (.int (v4 + 1))] [] S K)))))) : ES E 143 94 [some (.ref (aS E 0)), some (.int v1), some (.int v2), some (.int v3), some (.int v4)] [] S K := by
  refine e_il x143_94 rfl (e_al x143_96 rfl (e_gS x143_97 (by decide) rfl (e_ge x143_100 (fun c1 => ?_) (fun c1 => ?_))))
  · replace H := H.1 c1
    exact e_inc (l' := [some (.ref (aS E 0)), some (.int v1), some (.int v2), some (.int (v3 + 1)), some (.int v4)]) x143_130 rfl rfl rfl (e_back (l' := [some (.ref (aS E 0)), some (.int v1), some (.int v2), some (.int (v3 + 1)), none]) x143_133 rfl (H))
  · replace H := H.2 c1
    have c2 := H.1
    replace H := H.2
    refine e_al x143_103 rfl (e_PS x143_104 rfl (e_ic x143_107 (e_il x143_109 rfl (e_ii (v := (10 * v3)) x143_110 rfl (e_il x143_111 rfl (e_ii (v := ((10 * v3) + v4)) x143_113 rfl (e_iaS x143_114 (by decide) rfl c2 (e_le0 x143_115 (fun c3 => ?_) (fun c3 => ?_)))))))))
    · replace H := H.1 c3
      exact e_il x143_122 rfl (e_ist (l' := [some (.ref (aS E 0)), some (.int v1), some (.int v2), some (.int v3), some (.int v4)]) x143_123 rfl rfl (e_inc (l' := [some (.ref (aS E 0)), some (.int v1), some (.int v2), some (.int v3), some (.int (v4 + 1))]) x143_124 rfl rfl rfl (e_back (l' := [some (.ref (aS E 0)), some (.int v1), some (.int v2), some (.int v3), some (.int (v4 + 1))]) x143_127 rfl (H))))
    · replace H := H.2 c3
      exact e_il x143_118 rfl (e_goto x143_119 (e_ist (l' := [some (.ref (aS E 0)), some (.int v1), some (.int v3), some (.int v3), some (.int v4)]) x143_123 rfl rfl (e_inc (l' := [some (.ref (aS E 0)), some (.int v1), some (.int v3), some (.int v3), some (.int (v4 + 1))]) x143_124 rfl rfl rfl (e_back (l' := [some (.ref (aS E 0)), some (.int v1), some (.int v3), some (.int v3), some (.int (v4 + 1))]) x143_127 rfl (H)))))

-- Model.weightOf(II)I, from 0
set_option maxRecDepth 8000 in
theorem T144 {E : mE} {a1 : Int32} {a2 : Int32} {S : mS} {K : Option Value → mS → Prop}  (H : ∀ S1, S1 = uS S 0 0 0 → (((lg_cmp (a2.toInt64) 1) < 0 → (K (some (.int (-1))) S1)) ∧ (¬ (lg_cmp (a2.toInt64) 1) < 0 → (((0 : Int32) < (lg_cmp (a2.toInt64) 40) → (K (some (.int (-1))) S1)) ∧ (¬ (0 : Int32) < (lg_cmp (a2.toInt64) 40) → ((a1 = (-1) → (ES E 117 0 [some (.ref (aS E 0)), some (.int a2), none, none, none] [] S1 (fun r S5 => ∃ x6 : Int64, r = some (.long x6) ∧ (K (some (.int ((x6 : Int64).toInt32))) S5)))) ∧ (¬ a1 = (-1) → (((lg_cmp (a1.toInt64) 0) < 0 → (K (some (.int (-1))) S1)) ∧ (¬ (lg_cmp (a1.toInt64) 0) < 0 → (((0 : Int32) < (lg_cmp (a1.toInt64) (((sS S1 0 1) - 1).toInt64)) → (K (some (.int (-1))) S1)) ∧ (¬ (0 : Int32) < (lg_cmp (a1.toInt64) (((sS S1 0 1) - 1).toInt64)) → ((¬ ((10 * a2) + a1) < 0 ∧ (((10 * a2) + a1).toNatClampNeg) < 420) ∧ (K (some (.int (sS S1 1 (((10 * a2) + a1).toNatClampNeg)))) S1))))))))))))) : ES E 144 0 [some (.ref (aS E 0)), some (.int a1), some (.int a2)] [] S K := by
  refine e_al x144_0 rfl (e_ic x144_1 (e_pS x144_2 (by decide) rfl ?_))
  let S1 : mS := uS S 0 0 0
  replace H := H S1 rfl
  show ES _ _ _ _ _ S1 _
  refine e_il x144_5 rfl (e_i2l x144_6 (e_lc x144_7 (e_lc x144_8 (e_cS (l0 := [some (.long (a2.toInt64)), none, some (.long 1), none, some (.long 40), none]) x144_11 rfl rfl rfl rfl rfl (e_llo x97_0 rfl (e_llo x97_1 rfl (e_lcmp x97_2 (e_lt0 x97_3 (fun c2 => ?_) (fun c2 => ?_)))))))))
  · replace H := H.1 c2
    refine e_ic x97_17 (e_rz x97_18 (by decide) (e_eq0 x144_14 (fun _ => ?_) (fun z9 => absurd (by decide) z9)))
    exact e_ic x144_30 (e_ri x144_31 H)
  · replace H := H.2 c2
    refine e_llo x97_6 rfl (e_llo x97_7 rfl (e_lcmp x97_9 (e_gt0 x97_10 (fun c3 => ?_) (fun c3 => ?_))))
    · replace H := H.1 c3
      refine e_ic x97_17 (e_rz x97_18 (by decide) (e_eq0 x144_14 (fun _ => ?_) (fun z9 => absurd (by decide) z9)))
      exact e_ic x144_30 (e_ri x144_31 H)
    · replace H := H.2 c3
      refine e_ic x97_13 (e_goto x97_14 (e_rz x97_18 (by decide) (e_eq0 x144_14 (fun z9 => absurd z9 (by decide)) (fun _ => ?_))))
      refine e_il x144_17 rfl (e_ic x144_18 (e_eq x144_19 (fun c4 => ?_) (fun c4 => ?_)))
      · replace H := H.1 c4
        refine e_il x144_32 rfl (e_ic x144_33 (e_ne x144_34 (fun _ => ?_) (fun z9 => absurd c4 z9)))
        refine e_al x144_37 rfl (e_il x144_38 rfl (e_cV (l0 := [some (.ref (aS E 0)), some (.int a2), none, none, none]) x144_39 rfl rfl rfl rfl rfl (fun h hh => hh.tS (by decide)) (ES.mono H ?_)))
        rintro _ S5 ⟨x6, rfl, H⟩
        exact e_l2i x144_42 (e_goto x144_43 (e_ri x144_57 H))
      · replace H := H.2 c4
        refine e_al x144_22 rfl (e_il x144_23 rfl (e_cV (l0 := [some (.ref (aS E 0)), some (.int a1)]) x144_24 rfl rfl rfl rfl rfl (fun h hh => hh.tS (by decide)) (e_il x131_0 rfl (e_i2l x131_1 (e_lc x131_2 (e_al x131_3 rfl (e_gS x131_4 (by decide) rfl (e_ic x131_7 (e_ii (v := ((sS S1 0 1) - 1)) x131_8 rfl (e_i2l x131_9 (e_cS (l0 := [some (.long (a1.toInt64)), none, some (.long 0), none, some (.long (((sS S1 0 1) - 1).toInt64)), none]) x131_10 rfl rfl rfl rfl rfl (e_llo x97_0 rfl (e_llo x97_1 rfl (e_lcmp x97_2 (e_lt0 x97_3 (fun c7 => ?_) (fun c7 => ?_))))))))))))))))
        · replace H := H.1 c7
          refine e_ic x97_17 (e_rz x97_18 (by decide) (e_ne0 x131_13 (fun _ => ?_) (fun z9 => absurd (by decide) z9)))
          refine e_ic x131_16 (e_goto x131_17 (e_rz x131_21 (by decide) (e_eq0 x144_27 (fun z9 => absurd z9 (by decide)) (fun _ => ?_))))
          exact e_ic x144_30 (e_ri x144_31 H)
        · replace H := H.2 c7
          refine e_llo x97_6 rfl (e_llo x97_7 rfl (e_lcmp x97_9 (e_gt0 x97_10 (fun c8 => ?_) (fun c8 => ?_))))
          · replace H := H.1 c8
            refine e_ic x97_17 (e_rz x97_18 (by decide) (e_ne0 x131_13 (fun _ => ?_) (fun z9 => absurd (by decide) z9)))
            refine e_ic x131_16 (e_goto x131_17 (e_rz x131_21 (by decide) (e_eq0 x144_27 (fun z9 => absurd z9 (by decide)) (fun _ => ?_))))
            exact e_ic x144_30 (e_ri x144_31 H)
          · replace H := H.2 c8
            refine e_ic x97_13 (e_goto x97_14 (e_rz x97_18 (by decide) (e_ne0 x131_13 (fun z9 => absurd z9 (by decide)) (fun _ => ?_))))
            refine e_ic x131_20 (e_rz x131_21 (by decide) (e_eq0 x144_27 (fun _ => ?_) (fun z9 => absurd (by decide) z9)))
            refine e_il x144_32 rfl (e_ic x144_33 (e_ne x144_34 (fun z9 => absurd z9 c4) (fun _ => ?_)))
            have c9 := H.1
            replace H := H.2
            exact e_al x144_46 rfl (e_PS x144_47 rfl (e_ic x144_50 (e_il x144_52 rfl (e_ii (v := (10 * a2)) x144_53 rfl (e_il x144_54 rfl (e_ii (v := ((10 * a2) + a1)) x144_55 rfl (e_iaS x144_56 (by decide) rfl c9 (e_ri x144_57 H))))))))

