/-! ===== what the runs need, over states ===== -/
-- RV.weight(II)I, from 0
set_option maxRecDepth 8000 in
theorem T62 {E : mE} {a1 : Int32} {a2 : Int32} {S : mS} {K : Option Value → mS → Prop}  (H : (a1 < 0 → (K (some (.int (-1))) S)) ∧ (¬ a1 < 0 → (((sK S 9 0) ≤ a1 → (K (some (.int (-1))) S)) ∧ (¬ (sK S 9 0) ≤ a1 → ((a2 < 1 → (K (some (.int (-1))) S)) ∧ (¬ a2 < 1 → ((a2 ≤ 1000000 → (((sK S 0 5) = 0 → (ES E 27 0 [some (.ref (aK E 9)), some (.int a1), some (.int a2), some (.int 1), none] [] S (fun r S6 => r = none ∧ (K (some (.int 1)) S6)))) ∧ (¬ (sK S 0 5) = 0 → (ES E 64 0 [some (.ref (aK E 0)), none, none] [] S (fun r S7 => ∃ x8 : Int32, r = some (.int x8) ∧ (ES E 27 0 [some (.ref (aK E 9)), some (.int a1), some (.int a2), some (.int (x8 + 1)), none] [] S7 (fun r S9 => r = none ∧ (K (some (.int (x8 + 1))) S9)))))))) ∧ (¬ a2 ≤ 1000000 → (K (some (.int (-1))) S))))))))) : ES E 62 0 [some (.ref (aK E 0)), some (.int a1), some (.int a2), none] [] S K := by
  refine e_al x62_0 rfl (e_il x62_1 rfl (e_cV (l0 := [some (.ref (aK E 0)), some (.int a1)]) x62_2 rfl rfl rfl rfl rfl (fun h hh => hh.tK (by decide)) (e_il x63_0 rfl (e_lt0 x63_1 (fun c1 => ?_) (fun c1 => ?_)))))
  · replace H := H.1 c1
    refine e_ic x63_19 (e_rz x63_20 (by decide) (e_eq0 x62_5 (fun _ => ?_) (fun z9 => absurd (by decide) z9)))
    exact e_ic x62_19 (e_ri x62_20 H)
  · replace H := H.2 c1
    refine e_il x63_4 rfl (e_al x63_5 rfl (e_PK x63_6 (by decide) rfl rfl (e_gK x63_9 (by decide) rfl (e_ge x63_12 (fun c2 => ?_) (fun c2 => ?_)))))
    · replace H := H.1 c2
      refine e_ic x63_19 (e_rz x63_20 (by decide) (e_eq0 x62_5 (fun _ => ?_) (fun z9 => absurd (by decide) z9)))
      exact e_ic x62_19 (e_ri x62_20 H)
    · replace H := H.2 c2
      refine e_ic x63_15 (e_goto x63_16 (e_rz x63_20 (by decide) (e_eq0 x62_5 (fun z9 => absurd z9 (by decide)) (fun _ => ?_))))
      refine e_il x62_8 rfl (e_ic x62_9 (e_lt x62_10 (fun c3 => ?_) (fun c3 => ?_)))
      · replace H := H.1 c3
        exact e_ic x62_19 (e_ri x62_20 H)
      · replace H := H.2 c3
        refine e_il x62_13 rfl (e_ic x62_14 (e_le x62_16 (fun c4 => ?_) (fun c4 => ?_)))
        · replace H := H.1 c4
          refine e_al x62_21 rfl (e_gK x62_22 (by decide) rfl (e_ne0 x62_25 (fun c5 => ?_) (fun c5 => ?_)))
          · replace H := H.1 c5
            refine e_ic x62_28 (e_goto x62_29 (e_ist (l' := [some (.ref (aK E 0)), some (.int a1), some (.int a2), some (.int 1)]) x62_38 rfl rfl (e_al x62_39 rfl (e_PK x62_40 (by decide) rfl rfl (e_il x62_43 rfl (e_il x62_44 rfl (e_il x62_45 rfl (e_cV (l0 := [some (.ref (aK E 9)), some (.int a1), some (.int a2), some (.int 1), none]) x62_46 rfl rfl rfl rfl rfl (fun h hh => hh.tK (by decide)) (ES.mono H ?_)))))))))
            rintro _ S6 ⟨rfl, H⟩
            exact e_il x62_49 rfl (e_ri x62_50 H)
          · replace H := H.2 c5
            refine e_al x62_32 rfl (e_cV (l0 := [some (.ref (aK E 0)), none, none]) x62_33 rfl rfl rfl rfl rfl (fun h hh => hh.tK (by decide)) (ES.mono H ?_))
            rintro _ S7 ⟨x8, rfl, H⟩
            refine e_ic x62_36 (e_ii (v := (x8 + 1)) x62_37 rfl (e_ist (l' := [some (.ref (aK E 0)), some (.int a1), some (.int a2), some (.int (x8 + 1))]) x62_38 rfl rfl (e_al x62_39 rfl (e_PK x62_40 (by decide) rfl rfl (e_il x62_43 rfl (e_il x62_44 rfl (e_il x62_45 rfl (e_cV (l0 := [some (.ref (aK E 9)), some (.int a1), some (.int a2), some (.int (x8 + 1)), none]) x62_46 rfl rfl rfl rfl rfl (fun h hh => hh.tK (by decide)) (ES.mono H ?_)))))))))
            rintro _ S9 ⟨rfl, H⟩
            exact e_il x62_49 rfl (e_ri x62_50 H)
        · replace H := H.2 c4
          exact e_ic x62_19 (e_ri x62_20 H)

-- RV.greatestHeight()I, from 0
set_option maxRecDepth 8000 in
theorem T64 {E : mE}  {S : mS} {K : Option Value → mS → Prop}  (H : ES E 64 4 [some (.ref (aK E 0)), some (.int 1), some (.int 0)] [] S K) : ES E 64 0 [some (.ref (aK E 0)), none, none] [] S K := by
  exact e_ic x64_0 (e_ist (l' := [some (.ref (aK E 0)), some (.int 1), none]) x64_1 rfl rfl (e_ic x64_2 (e_ist (l' := [some (.ref (aK E 0)), some (.int 1), some (.int 0)]) x64_3 rfl rfl (H))))

-- RV.greatestHeight()I, from 4
set_option maxRecDepth 8000 in
theorem T64_4 {E : mE} {v1 : Int32} {v2 : Int32} {S : mS} {K : Option Value → mS → Prop}  (H : ((sK S 9 0) ≤ v2 → (K (some (.int v1)) S)) ∧ (¬ (sK S 9 0) ≤ v2 → ((¬ v2 < 0 ∧ (v2.toNatClampNeg) < eN E) ∧ (ES E 64 4 [some (.ref (aK E 0)), some (.int (if v1 < (sN S (v2.toNatClampNeg) 0 2) then (sN S (v2.toNatClampNeg) 0 2) else v1)), some (.int (v2 + 1))] [] S K)))) : ES E 64 4 [some (.ref (aK E 0)), some (.int v1), some (.int v2)] [] S K := by
  refine e_il x64_4 rfl (e_al x64_5 rfl (e_PK x64_6 (by decide) rfl rfl (e_gK x64_9 (by decide) rfl (e_ge x64_12 (fun c1 => ?_) (fun c1 => ?_)))))
  · replace H := H.1 c1
    exact e_il x64_35 rfl (e_ri x64_36 H)
  · replace H := H.2 c1
    have c2 := H.1
    replace H := H.2
    exact e_il x64_15 rfl (e_al x64_16 rfl (e_PK x64_17 (by decide) rfl rfl (e_il x64_20 rfl (e_aaN x64_21 c2 (e_gN x64_22 c2.2 (by decide) rfl (e_max x64_25 rfl (e_ist (l' := [some (.ref (aK E 0)), some (.int (if v1 < (sN S (v2.toNatClampNeg) 0 2) then (sN S (v2.toNatClampNeg) 0 2) else v1)), some (.int v2)]) x64_28 rfl rfl (e_inc (l' := [some (.ref (aK E 0)), some (.int (if v1 < (sN S (v2.toNatClampNeg) 0 2) then (sN S (v2.toNatClampNeg) 0 2) else v1)), some (.int (v2 + 1))]) x64_29 rfl rfl rfl (e_back (l' := [some (.ref (aK E 0)), some (.int (if v1 < (sN S (v2.toNatClampNeg) 0 2) then (sN S (v2.toNatClampNeg) 0 2) else v1)), some (.int (v2 + 1))]) x64_32 rfl (H))))))))))

-- RV.behave(II)I, from 0
set_option maxRecDepth 8000 in
theorem T65 {E : mE} {a1 : Int32} {a2 : Int32} {S : mS} {K : Option Value → mS → Prop}  (H : (a1 < 0 → (K (some (.int (-1))) S)) ∧ (¬ a1 < 0 → (((sK S 9 0) ≤ a1 → (K (some (.int (-1))) S)) ∧ (¬ (sK S 9 0) ≤ a1 → ((a2 < 0 → (K (some (.int (-1))) S)) ∧ (¬ a2 < 0 → ((a2 ≤ 5 → ((¬ a1 < 0 ∧ (a1.toNatClampNeg) < eN E) ∧ (∀ S6, S6 = uN S (a1.toNatClampNeg) 0 7 a2 → (K (some (.int (sN S (a1.toNatClampNeg) 0 7))) S6)))) ∧ (¬ a2 ≤ 5 → (K (some (.int (-1))) S))))))))) : ES E 65 0 [some (.ref (aK E 0)), some (.int a1), some (.int a2), none] [] S K := by
  refine e_al x65_0 rfl (e_il x65_1 rfl (e_cV (l0 := [some (.ref (aK E 0)), some (.int a1)]) x65_2 rfl rfl rfl rfl rfl (fun h hh => hh.tK (by decide)) (e_il x63_0 rfl (e_lt0 x63_1 (fun c1 => ?_) (fun c1 => ?_)))))
  · replace H := H.1 c1
    refine e_ic x63_19 (e_rz x63_20 (by decide) (e_eq0 x65_5 (fun _ => ?_) (fun z9 => absurd (by decide) z9)))
    exact e_ic x65_17 (e_ri x65_18 H)
  · replace H := H.2 c1
    refine e_il x63_4 rfl (e_al x63_5 rfl (e_PK x63_6 (by decide) rfl rfl (e_gK x63_9 (by decide) rfl (e_ge x63_12 (fun c2 => ?_) (fun c2 => ?_)))))
    · replace H := H.1 c2
      refine e_ic x63_19 (e_rz x63_20 (by decide) (e_eq0 x65_5 (fun _ => ?_) (fun z9 => absurd (by decide) z9)))
      exact e_ic x65_17 (e_ri x65_18 H)
    · replace H := H.2 c2
      refine e_ic x63_15 (e_goto x63_16 (e_rz x63_20 (by decide) (e_eq0 x65_5 (fun z9 => absurd z9 (by decide)) (fun _ => ?_))))
      refine e_il x65_8 rfl (e_lt0 x65_9 (fun c3 => ?_) (fun c3 => ?_))
      · replace H := H.1 c3
        exact e_ic x65_17 (e_ri x65_18 H)
      · replace H := H.2 c3
        refine e_il x65_12 rfl (e_ic x65_13 (e_le x65_14 (fun c4 => ?_) (fun c4 => ?_)))
        · replace H := H.1 c4
          have c5 := H.1
          replace H := H.2
          refine e_al x65_19 rfl (e_PK x65_20 (by decide) rfl rfl (e_il x65_23 rfl (e_aaN x65_24 c5 (e_gN x65_25 c5.2 (by decide) rfl (e_ist (l' := [some (.ref (aK E 0)), some (.int a1), some (.int a2), some (.int (sN S (a1.toNatClampNeg) 0 7))]) x65_28 rfl rfl (e_al x65_29 rfl (e_PK x65_30 (by decide) rfl rfl (e_il x65_33 rfl (e_aaN x65_34 c5 (e_il x65_35 rfl (e_pN x65_36 c5.2 (by decide) rfl ?_)))))))))))
          let S6 : mS := uN S (a1.toNatClampNeg) 0 7 a2
          replace H := H S6 rfl
          show ES _ _ _ _ _ S6 _
          exact e_il x65_39 rfl (e_ri x65_40 H)
        · replace H := H.2 c4
          exact e_ic x65_17 (e_ri x65_18 H)

-- RV.disturb(III)I, from 0
set_option maxRecDepth 8000 in
theorem T66 {E : mE} {a1 : Int32} {a2 : Int32} {a3 : Int32} {S : mS} {K : Option Value → mS → Prop}  (H : (a1 < (sK S 0 6) → (K (some (.int (-1))) S)) ∧ (¬ a1 < (sK S 0 6) → ((a2 < 0 → (K (some (.int (-1))) S)) ∧ (¬ a2 < 0 → (((2 : Int32) < a2 → (K (some (.int (-1))) S)) ∧ (¬ (2 : Int32) < a2 → (ES E 23 0 [some (.ref (aK E 3)), some (.int a1), none] [] S (fun r S4 => ∃ x5 : Int32, r = some (.int x5) ∧ ((x5 < 0 → ((a2 = 2 → ((a3 < 1 → (K (some (.int (-1))) S4)) ∧ (¬ a3 < 1 → ((a3 ≤ 20 → (ES E 24 0 [some (.ref (aK E 3)), some (.int a1), some (.int a2), some (.int a3)] [] S4 (fun r S10 => ∃ x11 : Int32, r = some (.int x11) ∧ ((x11 = 0 → (K (some (.int (-3))) S10)) ∧ (¬ x11 = 0 → (K (some (.int (sK S10 3 3))) S10)))))) ∧ (¬ a3 ≤ 20 → (K (some (.int (-1))) S4)))))) ∧ (¬ a2 = 2 → (ES E 24 0 [some (.ref (aK E 3)), some (.int a1), some (.int a2), some (.int a3)] [] S4 (fun r S13 => ∃ x14 : Int32, r = some (.int x14) ∧ ((x14 = 0 → (K (some (.int (-3))) S13)) ∧ (¬ x14 = 0 → (K (some (.int (sK S13 3 3))) S13)))))))) ∧ (¬ x5 < 0 → (K (some (.int (-1))) S4))))))))))) : ES E 66 0 [some (.ref (aK E 0)), some (.int a1), some (.int a2), some (.int a3)] [] S K := by
  refine e_il x66_0 rfl (e_al x66_1 rfl (e_gK x66_2 (by decide) rfl (e_lt x66_5 (fun c1 => ?_) (fun c1 => ?_))))
  · replace H := H.1 c1
    exact e_ic x66_28 (e_ri x66_29 H)
  · replace H := H.2 c1
    refine e_il x66_8 rfl (e_lt0 x66_9 (fun c2 => ?_) (fun c2 => ?_))
    · replace H := H.1 c2
      exact e_ic x66_28 (e_ri x66_29 H)
    · replace H := H.2 c2
      refine e_il x66_12 rfl (e_ic x66_13 (e_gt x66_14 (fun c3 => ?_) (fun c3 => ?_)))
      · replace H := H.1 c3
        exact e_ic x66_28 (e_ri x66_29 H)
      · replace H := H.2 c3
        refine e_al x66_17 rfl (e_PK x66_18 (by decide) rfl rfl (e_il x66_21 rfl (e_cV (l0 := [some (.ref (aK E 3)), some (.int a1), none]) x66_22 rfl rfl rfl rfl rfl (fun h hh => hh.tK (by decide)) (ES.mono H ?_))))
        rintro _ S4 ⟨x5, rfl, H⟩
        refine e_lt0 x66_25 (fun c6 => ?_) (fun c6 => ?_)
        · replace H := H.1 c6
          refine e_il x66_30 rfl (e_ic x66_31 (e_ne x66_32 (fun c7 => ?_) (fun c7 => ?_)))
          · replace H := H.1 c7
            refine e_il x66_35 rfl (e_ic x66_36 (e_lt x66_37 (fun c8 => ?_) (fun c8 => ?_)))
            · replace H := H.1 c8
              exact e_ic x66_46 (e_ri x66_47 H)
            · replace H := H.2 c8
              refine e_il x66_40 rfl (e_ic x66_41 (e_le x66_43 (fun c9 => ?_) (fun c9 => ?_)))
              · replace H := H.1 c9
                refine e_al x66_48 rfl (e_PK x66_49 (by decide) rfl rfl (e_il x66_52 rfl (e_il x66_53 rfl (e_il x66_54 rfl (e_cV (l0 := [some (.ref (aK E 3)), some (.int a1), some (.int a2), some (.int a3)]) x66_55 rfl rfl rfl rfl rfl (fun h hh => hh.tK (by decide)) (ES.mono H ?_))))))
                rintro _ S10 ⟨x11, rfl, H⟩
                refine e_eq0 x66_58 (fun c12 => ?_) (fun c12 => ?_)
                · replace H := H.1 c12
                  exact e_ic x66_71 (e_ri x66_73 H)
                · replace H := H.2 c12
                  exact e_al x66_61 rfl (e_PK x66_62 (by decide) rfl rfl (e_gK x66_65 (by decide) rfl (e_goto x66_68 (e_ri x66_73 H))))
              · replace H := H.2 c9
                exact e_ic x66_46 (e_ri x66_47 H)
          · replace H := H.2 c7
            refine e_al x66_48 rfl (e_PK x66_49 (by decide) rfl rfl (e_il x66_52 rfl (e_il x66_53 rfl (e_il x66_54 rfl (e_cV (l0 := [some (.ref (aK E 3)), some (.int a1), some (.int a2), some (.int a3)]) x66_55 rfl rfl rfl rfl rfl (fun h hh => hh.tK (by decide)) (ES.mono H ?_))))))
            rintro _ S13 ⟨x14, rfl, H⟩
            refine e_eq0 x66_58 (fun c15 => ?_) (fun c15 => ?_)
            · replace H := H.1 c15
              exact e_ic x66_71 (e_ri x66_73 H)
            · replace H := H.2 c15
              exact e_al x66_61 rfl (e_PK x66_62 (by decide) rfl rfl (e_gK x66_65 (by decide) rfl (e_goto x66_68 (e_ri x66_73 H))))
        · replace H := H.2 c6
          exact e_ic x66_28 (e_ri x66_29 H)

-- RV.sides(II)I, from 0
set_option maxRecDepth 8000 in
theorem T67 {E : mE} {a1 : Int32} {a2 : Int32} {S : mS} {K : Option Value → mS → Prop}  (H : (a2 < 1 → (K (some (.int (-1))) S)) ∧ (¬ a2 < 1 → ((a2 ≤ 100 → (∀ S3, S3 = uK S 0 9 a1 → (∀ S4, S4 = uK S3 0 10 ((sK S3 0 5) + 1) → (∀ S5, S5 = uK S4 0 11 ((sK S4 0 5) + a2) → (K (some (.int 1)) S5))))) ∧ (¬ a2 ≤ 100 → (K (some (.int (-1))) S))))) : ES E 67 0 [some (.ref (aK E 0)), some (.int a1), some (.int a2)] [] S K := by
  refine e_il x67_0 rfl (e_ic x67_1 (e_lt x67_2 (fun c1 => ?_) (fun c1 => ?_)))
  · replace H := H.1 c1
    exact e_ic x67_11 (e_ri x67_12 H)
  · replace H := H.2 c1
    refine e_il x67_5 rfl (e_ic x67_6 (e_le x67_8 (fun c2 => ?_) (fun c2 => ?_)))
    · replace H := H.1 c2
      refine e_al x67_13 rfl (e_il x67_14 rfl (e_pK x67_15 (by decide) rfl ?_))
      let S3 : mS := uK S 0 9 a1
      replace H := H S3 rfl
      show ES _ _ _ _ _ S3 _
      refine e_al x67_18 rfl (e_al x67_19 rfl (e_gK x67_20 (by decide) rfl (e_ic x67_23 (e_ii (v := ((sK S3 0 5) + 1)) x67_24 rfl (e_pK x67_25 (by decide) rfl ?_)))))
      let S4 : mS := uK S3 0 10 ((sK S3 0 5) + 1)
      replace H := H S4 rfl
      show ES _ _ _ _ _ S4 _
      refine e_al x67_28 rfl (e_al x67_29 rfl (e_gK x67_30 (by decide) rfl (e_il x67_33 rfl (e_ii (v := ((sK S4 0 5) + a2)) x67_34 rfl (e_pK x67_35 (by decide) rfl ?_)))))
      let S5 : mS := uK S4 0 11 ((sK S4 0 5) + a2)
      replace H := H S5 rfl
      show ES _ _ _ _ _ S5 _
      exact e_ic x67_38 (e_ri x67_39 H)
    · replace H := H.2 c2
      exact e_ic x67_11 (e_ri x67_12 H)

-- RV.cut(II)I, from 0
set_option maxRecDepth 8000 in
theorem T68 {E : mE} {a1 : Int32} {a2 : Int32} {S : mS} {K : Option Value → mS → Prop}  (H : (a1 < 0 → (K (some (.int (-1))) S)) ∧ (¬ a1 < 0 → (((sK S 9 0) ≤ a1 → (K (some (.int (-1))) S)) ∧ (¬ (sK S 9 0) ≤ a1 → ((a2 < 1 → (K (some (.int (-1))) S)) ∧ (¬ a2 < 1 → ((a2 ≤ 50 → (((sK S 0 5) = 0 → (K (some (.int (-2))) S)) ∧ (¬ (sK S 0 5) = 0 → ((¬ a1 < 0 ∧ (a1.toNatClampNeg) < eN E) ∧ (((sN S (a1.toNatClampNeg) 0 8) ≤ 0 → (∀ S8, S8 = uN S (a1.toNatClampNeg) 0 8 ((sK S 0 5) + a2) → (K (some (.int 1)) S8))) ∧ (¬ (sN S (a1.toNatClampNeg) 0 8) ≤ 0 → (K (some (.int (-2))) S))))))) ∧ (¬ a2 ≤ 50 → (K (some (.int (-1))) S))))))))) : ES E 68 0 [some (.ref (aK E 0)), some (.int a1), some (.int a2)] [] S K := by
  refine e_al x68_0 rfl (e_il x68_1 rfl (e_cV (l0 := [some (.ref (aK E 0)), some (.int a1)]) x68_2 rfl rfl rfl rfl rfl (fun h hh => hh.tK (by decide)) (e_il x63_0 rfl (e_lt0 x63_1 (fun c1 => ?_) (fun c1 => ?_)))))
  · replace H := H.1 c1
    refine e_ic x63_19 (e_rz x63_20 (by decide) (e_eq0 x68_5 (fun _ => ?_) (fun z9 => absurd (by decide) z9)))
    exact e_ic x68_19 (e_ri x68_20 H)
  · replace H := H.2 c1
    refine e_il x63_4 rfl (e_al x63_5 rfl (e_PK x63_6 (by decide) rfl rfl (e_gK x63_9 (by decide) rfl (e_ge x63_12 (fun c2 => ?_) (fun c2 => ?_)))))
    · replace H := H.1 c2
      refine e_ic x63_19 (e_rz x63_20 (by decide) (e_eq0 x68_5 (fun _ => ?_) (fun z9 => absurd (by decide) z9)))
      exact e_ic x68_19 (e_ri x68_20 H)
    · replace H := H.2 c2
      refine e_ic x63_15 (e_goto x63_16 (e_rz x63_20 (by decide) (e_eq0 x68_5 (fun z9 => absurd z9 (by decide)) (fun _ => ?_))))
      refine e_il x68_8 rfl (e_ic x68_9 (e_lt x68_10 (fun c3 => ?_) (fun c3 => ?_)))
      · replace H := H.1 c3
        exact e_ic x68_19 (e_ri x68_20 H)
      · replace H := H.2 c3
        refine e_il x68_13 rfl (e_ic x68_14 (e_le x68_16 (fun c4 => ?_) (fun c4 => ?_)))
        · replace H := H.1 c4
          refine e_al x68_21 rfl (e_gK x68_22 (by decide) rfl (e_eq0 x68_25 (fun c5 => ?_) (fun c5 => ?_)))
          · replace H := H.1 c5
            exact e_ic x68_40 (e_ri x68_42 H)
          · replace H := H.2 c5
            have c6 := H.1
            replace H := H.2
            refine e_al x68_28 rfl (e_PK x68_29 (by decide) rfl rfl (e_il x68_32 rfl (e_aaN x68_33 c6 (e_cV (l0 := [some (.ref (aN E (a1.toNatClampNeg) 0))]) x68_34 rfl rfl rfl rfl rfl (fun h hh => hh.tN c6.2 (by decide)) (e_al x37_0 rfl (e_gN x37_1 c6.2 (by decide) rfl (e_le0 x37_4 (fun c7 => ?_) (fun c7 => ?_))))))))
            · replace H := H.1 c7
              refine e_ic x37_11 (e_rz x37_12 (by decide) (e_eq0 x68_37 (fun _ => ?_) (fun z9 => absurd (by decide) z9)))
              refine e_al x68_43 rfl (e_PK x68_44 (by decide) rfl rfl (e_il x68_47 rfl (e_aaN x68_48 c6 (e_al x68_49 rfl (e_gK x68_50 (by decide) rfl (e_il x68_53 rfl (e_ii (v := ((sK S 0 5) + a2)) x68_54 rfl (e_pN x68_55 c6.2 (by decide) rfl ?_))))))))
              let S8 : mS := uN S (a1.toNatClampNeg) 0 8 ((sK S 0 5) + a2)
              replace H := H S8 rfl
              show ES _ _ _ _ _ S8 _
              exact e_ic x68_58 (e_ri x68_59 H)
            · replace H := H.2 c7
              refine e_ic x37_7 (e_goto x37_8 (e_rz x37_12 (by decide) (e_eq0 x68_37 (fun z9 => absurd z9 (by decide)) (fun _ => ?_))))
              exact e_ic x68_40 (e_ri x68_42 H)
        · replace H := H.2 c4
          exact e_ic x68_19 (e_ri x68_20 H)

-- RV.turn(I)I, from 0
set_option maxRecDepth 8000 in
theorem T69 {E : mE} {a1 : Int32} {S : mS} {K : Option Value → mS → Prop}  (H : (a1 < 1 → (K (some (.int (-1))) S)) ∧ (¬ a1 < 1 → ((a1 ≤ 100 → (ES E 69 15 [some (.ref (aK E 0)), some (.int a1), some (.int 0)] [] S K)) ∧ (¬ a1 ≤ 100 → (K (some (.int (-1))) S))))) : ES E 69 0 [some (.ref (aK E 0)), some (.int a1), none] [] S K := by
  refine e_il x69_0 rfl (e_ic x69_1 (e_lt x69_2 (fun c1 => ?_) (fun c1 => ?_)))
  · replace H := H.1 c1
    exact e_ic x69_11 (e_ri x69_12 H)
  · replace H := H.2 c1
    refine e_il x69_5 rfl (e_ic x69_6 (e_le x69_8 (fun c2 => ?_) (fun c2 => ?_)))
    · replace H := H.1 c2
      exact e_ic x69_13 (e_ist (l' := [some (.ref (aK E 0)), some (.int a1), some (.int 0)]) x69_14 rfl rfl (H))
    · replace H := H.2 c2
      exact e_ic x69_11 (e_ri x69_12 H)

-- RV.turn(I)I, from 15
set_option maxRecDepth 8000 in
theorem T69_15 {E : mE} {v1 : Int32} {v2 : Int32} {S : mS} {K : Option Value → mS → Prop}  (H : (v1 ≤ v2 → (K (some (.int (sK S 0 5))) S)) ∧ (¬ v1 ≤ v2 → (∀ S2, S2 = uK S 0 5 ((sK S 0 5) + 1) → (((sK S2 0 5) = 1 → (ES E 70 0 [some (.ref (aK E 0)), none] [] S2 (fun r S4 => r = none ∧ (ES E 75 0 [some (.ref (aK E 0)), none, none] [] S4 (fun r S5 => r = none ∧ (ES E 76 0 [some (.ref (aK E 0)), none, none, none, none] [] S5 (fun r S6 => r = none ∧ (ES E 78 0 [some (.ref (aK E 0)), none, none, none] [] S6 (fun r S7 => r = none ∧ (ES E 69 15 [some (.ref (aK E 0)), some (.int v1), some (.int (v2 + 1))] [] S7 K)))))))))) ∧ (¬ (sK S2 0 5) = 1 → (ES E 75 0 [some (.ref (aK E 0)), none, none] [] S2 (fun r S8 => r = none ∧ (ES E 76 0 [some (.ref (aK E 0)), none, none, none, none] [] S8 (fun r S9 => r = none ∧ (ES E 78 0 [some (.ref (aK E 0)), none, none, none] [] S9 (fun r S10 => r = none ∧ (ES E 69 15 [some (.ref (aK E 0)), some (.int v1), some (.int (v2 + 1))] [] S10 K)))))))))))) : ES E 69 15 [some (.ref (aK E 0)), some (.int v1), some (.int v2)] [] S K := by
  refine e_il x69_15 rfl (e_il x69_16 rfl (e_ge x69_17 (fun c1 => ?_) (fun c1 => ?_)))
  · replace H := H.1 c1
    exact e_al x69_60 rfl (e_gK x69_61 (by decide) rfl (e_ri x69_64 H))
  · replace H := H.2 c1
    refine e_al x69_20 rfl (e_dupr x69_21 (e_gK x69_22 (by decide) rfl (e_ic x69_25 (e_ii (v := ((sK S 0 5) + 1)) x69_26 rfl (e_pK x69_27 (by decide) rfl ?_)))))
    let S2 : mS := uK S 0 5 ((sK S 0 5) + 1)
    replace H := H S2 rfl
    show ES _ _ _ _ _ S2 _
    refine e_al x69_30 rfl (e_gK x69_31 (by decide) rfl (e_ic x69_34 (e_ne x69_35 (fun c3 => ?_) (fun c3 => ?_))))
    · replace H := H.1 c3
      refine e_al x69_38 rfl (e_cV (l0 := [some (.ref (aK E 0)), none]) x69_39 rfl rfl rfl rfl rfl (fun h hh => hh.tK (by decide)) (ES.mono H ?_))
      rintro _ S4 ⟨rfl, H⟩
      refine e_al x69_42 rfl (e_cV (l0 := [some (.ref (aK E 0)), none, none]) x69_43 rfl rfl rfl rfl rfl (fun h hh => hh.tK (by decide)) (ES.mono H ?_))
      rintro _ S5 ⟨rfl, H⟩
      refine e_al x69_46 rfl (e_cV (l0 := [some (.ref (aK E 0)), none, none, none, none]) x69_47 rfl rfl rfl rfl rfl (fun h hh => hh.tK (by decide)) (ES.mono H ?_))
      rintro _ S6 ⟨rfl, H⟩
      refine e_al x69_50 rfl (e_cV (l0 := [some (.ref (aK E 0)), none, none, none]) x69_51 rfl rfl rfl rfl rfl (fun h hh => hh.tK (by decide)) (ES.mono H ?_))
      rintro _ S7 ⟨rfl, H⟩
      exact e_inc (l' := [some (.ref (aK E 0)), some (.int v1), some (.int (v2 + 1))]) x69_54 rfl rfl rfl (e_back (l' := [some (.ref (aK E 0)), some (.int v1), some (.int (v2 + 1))]) x69_57 rfl (H))
    · replace H := H.2 c3
      refine e_al x69_42 rfl (e_cV (l0 := [some (.ref (aK E 0)), none, none]) x69_43 rfl rfl rfl rfl rfl (fun h hh => hh.tK (by decide)) (ES.mono H ?_))
      rintro _ S8 ⟨rfl, H⟩
      refine e_al x69_46 rfl (e_cV (l0 := [some (.ref (aK E 0)), none, none, none, none]) x69_47 rfl rfl rfl rfl rfl (fun h hh => hh.tK (by decide)) (ES.mono H ?_))
      rintro _ S9 ⟨rfl, H⟩
      refine e_al x69_50 rfl (e_cV (l0 := [some (.ref (aK E 0)), none, none, none]) x69_51 rfl rfl rfl rfl rfl (fun h hh => hh.tK (by decide)) (ES.mono H ?_))
      rintro _ S10 ⟨rfl, H⟩
      exact e_inc (l' := [some (.ref (aK E 0)), some (.int v1), some (.int (v2 + 1))]) x69_54 rfl rfl rfl (e_back (l' := [some (.ref (aK E 0)), some (.int v1), some (.int (v2 + 1))]) x69_57 rfl (H))

-- RV.beginAll()V, from 0
set_option maxRecDepth 8000 in
theorem T70 {E : mE}  {S : mS} {K : Option Value → mS → Prop}  (H : ES E 70 2 [some (.ref (aK E 0)), some (.int 0)] [] S K) : ES E 70 0 [some (.ref (aK E 0)), none] [] S K := by
  exact e_ic x70_0 (e_ist (l' := [some (.ref (aK E 0)), some (.int 0)]) x70_1 rfl rfl (H))

-- RV.beginAll()V, from 2
set_option maxRecDepth 8000 in
theorem T70_2 {E : mE} {v1 : Int32} {S : mS} {K : Option Value → mS → Prop}  (H : ((sK S 9 0) ≤ v1 → (K none S)) ∧ (¬ (sK S 9 0) ≤ v1 → ((¬ v1 < 0 ∧ (v1.toNatClampNeg) < eN E) ∧ (ES E 38 0 [some (.ref (aN E (v1.toNatClampNeg) 0)), some (.int 0), some (.int (sK S 0 5)), none] [] S (fun r S3 => r = none ∧ (ES E 71 0 [some (.ref (aK E 0)), some (.ref (aN E (v1.toNatClampNeg) 0)), none] [] S3 (fun r S4 => r = none ∧ (ES E 70 2 [some (.ref (aK E 0)), some (.int (v1 + 1))] [] S4 K)))))))) : ES E 70 2 [some (.ref (aK E 0)), some (.int v1)] [] S K := by
  refine e_il x70_2 rfl (e_al x70_3 rfl (e_PK x70_4 (by decide) rfl rfl (e_gK x70_7 (by decide) rfl (e_ge x70_10 (fun c1 => ?_) (fun c1 => ?_)))))
  · replace H := H.1 c1
    exact e_rv x70_43 H
  · replace H := H.2 c1
    have c2 := H.1
    replace H := H.2
    refine e_al x70_13 rfl (e_PK x70_14 (by decide) rfl rfl (e_il x70_17 rfl (e_aaN x70_18 c2 (e_ic x70_19 (e_al x70_20 rfl (e_gK x70_21 (by decide) rfl (e_cV (l0 := [some (.ref (aN E (v1.toNatClampNeg) 0)), some (.int 0), some (.int (sK S 0 5)), none]) x70_24 rfl rfl rfl rfl rfl (fun h hh => hh.tN c2.2 (by decide)) (ES.mono H ?_))))))))
    rintro _ S3 ⟨rfl, H⟩
    refine e_al x70_27 rfl (e_al x70_28 rfl (e_PK x70_29 (by decide) rfl rfl (e_il x70_32 rfl (e_aaN x70_33 c2 (e_cV (l0 := [some (.ref (aK E 0)), some (.ref (aN E (v1.toNatClampNeg) 0)), none]) x70_34 rfl rfl rfl rfl rfl (fun h hh => hh.tK (by decide)) (ES.mono H ?_))))))
    rintro _ S4 ⟨rfl, H⟩
    exact e_inc (l' := [some (.ref (aK E 0)), some (.int (v1 + 1))]) x70_37 rfl rfl rfl (e_back (l' := [some (.ref (aK E 0)), some (.int (v1 + 1))]) x70_40 rfl (H))

-- RV.settle(LRoundVotes$Node;)V, from 0
set_option maxRecDepth 8000 in
theorem T71 {E : mE} {i : Nat} {S : mS} {K : Option Value → mS → Prop} (hi : i < eN E) (H : ((sN S i 0 8) ≤ 0 → (ES E 71 10 [some (.ref (aK E 0)), some (.ref (aN E i 0)), some (.int 0)] [] S K)) ∧ (¬ (sN S i 0 8) ≤ 0 → (K none S))) : ES E 71 0 [some (.ref (aK E 0)), some (.ref (aN E i 0)), none] [] S K := by
  refine e_al x71_0 rfl (e_cV (l0 := [some (.ref (aN E i 0))]) x71_1 rfl rfl rfl rfl rfl (fun h hh => hh.tN hi (by decide)) (e_al x37_0 rfl (e_gN x37_1 hi (by decide) rfl (e_le0 x37_4 (fun c1 => ?_) (fun c1 => ?_)))))
  · replace H := H.1 c1
    refine e_ic x37_11 (e_rz x37_12 (by decide) (e_eq0 x71_4 (fun _ => ?_) (fun z9 => absurd (by decide) z9)))
    exact e_ic x71_8 (e_ist (l' := [some (.ref (aK E 0)), some (.ref (aN E i 0)), some (.int 0)]) x71_9 rfl rfl (H))
  · replace H := H.2 c1
    refine e_ic x37_7 (e_goto x37_8 (e_rz x37_12 (by decide) (e_eq0 x71_4 (fun z9 => absurd z9 (by decide)) (fun _ => ?_))))
    exact e_rv x71_7 H

-- RV.settle(LRoundVotes$Node;)V, from 10
set_option maxRecDepth 8000 in
theorem T71_10 {E : mE} {i : Nat} {v2 : Int32} {S : mS} {K : Option Value → mS → Prop} (hi : i < eN E) (H : ((10000 : Int32) ≤ v2 → (K none S)) ∧ (¬ (10000 : Int32) ≤ v2 → (ES E 72 0 [some (.ref (aK E 0)), some (.ref (aN E i 0)), none, none, none, none, none, none] [] S (fun r S2 => r = none ∧ (ES E 43 0 [some (.ref (aN E i 0)), some (.int (sK S2 0 5)), none, none] [] S2 (fun r S3 => ∃ x4 : Int32, r = some (.int x4) ∧ ((x4 = 0 → (K none S3)) ∧ (¬ x4 = 0 → (ES E 71 10 [some (.ref (aK E 0)), some (.ref (aN E i 0)), some (.int (v2 + 1))] [] S3 K))))))))) : ES E 71 10 [some (.ref (aK E 0)), some (.ref (aN E i 0)), some (.int v2)] [] S K := by
  refine e_il x71_10 rfl (e_ic x71_11 (e_ge x71_14 (fun c1 => ?_) (fun c1 => ?_)))
  · replace H := H.1 c1
    exact e_rv x71_40 H
  · replace H := H.2 c1
    refine e_al x71_17 rfl (e_al x71_18 rfl (e_cV (l0 := [some (.ref (aK E 0)), some (.ref (aN E i 0)), none, none, none, none, none, none]) x71_19 rfl rfl rfl rfl rfl (fun h hh => hh.tK (by decide)) (ES.mono H ?_)))
    rintro _ S2 ⟨rfl, H⟩
    refine e_al x71_22 rfl (e_al x71_23 rfl (e_gK x71_24 (by decide) rfl (e_cV (l0 := [some (.ref (aN E i 0)), some (.int (sK S2 0 5)), none, none]) x71_27 rfl rfl rfl rfl rfl (fun h hh => hh.tN hi (by decide)) (ES.mono H ?_))))
    rintro _ S3 ⟨x4, rfl, H⟩
    refine e_ne0 x71_30 (fun c5 => ?_) (fun c5 => ?_)
    · replace H := H.1 c5
      exact e_rv x71_33 H
    · replace H := H.2 c5
      exact e_inc (l' := [some (.ref (aK E 0)), some (.ref (aN E i 0)), some (.int (v2 + 1))]) x71_34 rfl rfl rfl (e_back (l' := [some (.ref (aK E 0)), some (.ref (aN E i 0)), some (.int (v2 + 1))]) x71_37 rfl (H))

-- RV.dispatch(LRoundVotes$Node;)V, from 0
set_option maxRecDepth 8000 in
theorem T72 {E : mE} {i : Nat} {S : mS} {K : Option Value → mS → Prop} (hi : i < eN E) (H : ((sN S i 0 17) = 0 → (K none S)) ∧ (¬ (sN S i 0 17) = 0 → (∀ S2, S2 = uN S i 0 17 0 → (((sN S2 i 16 4) = 0 → (((sN S2 i 0 7) = 1 → (ES E 72 38 [some (.ref (aK E 0)), some (.ref (aN E i 0)), some (.ref (aN E i 16)), some (.int (sN S2 i 16 5)), some (.int ((sN S2 i 16 5) + 1)), some (.int 0), some (.int 0), none] [] S2 K)) ∧ (¬ (sN S2 i 0 7) = 1 → (((sN S2 i 0 7) = 3 → (ES E 72 38 [some (.ref (aK E 0)), some (.ref (aN E i 0)), some (.ref (aN E i 16)), some (.int (sN S2 i 16 5)), some (.int ((sN S2 i 16 5) + 1)), some (.int 2), some (.int 0), none] [] S2 K)) ∧ (¬ (sN S2 i 0 7) = 3 → (ES E 72 38 [some (.ref (aK E 0)), some (.ref (aN E i 0)), some (.ref (aN E i 16)), some (.int (sN S2 i 16 5)), some (.int ((sN S2 i 16 5) + 1)), some (.int 1), some (.int 0), none] [] S2 K)))))) ∧ (¬ (sN S2 i 16 4) = 0 → (((sN S2 i 16 5) = 0 → (((sN S2 i 0 7) = 1 → (ES E 72 38 [some (.ref (aK E 0)), some (.ref (aN E i 0)), some (.ref (aN E i 16)), some (.int (sN S2 i 16 5)), some (.int 1), some (.int 0), some (.int 0), none] [] S2 K)) ∧ (¬ (sN S2 i 0 7) = 1 → (((sN S2 i 0 7) = 3 → (ES E 72 38 [some (.ref (aK E 0)), some (.ref (aN E i 0)), some (.ref (aN E i 16)), some (.int (sN S2 i 16 5)), some (.int 1), some (.int 2), some (.int 0), none] [] S2 K)) ∧ (¬ (sN S2 i 0 7) = 3 → (ES E 72 38 [some (.ref (aK E 0)), some (.ref (aN E i 0)), some (.ref (aN E i 16)), some (.int (sN S2 i 16 5)), some (.int 1), some (.int 1), some (.int 0), none] [] S2 K)))))) ∧ (¬ (sN S2 i 16 5) = 0 → (((sN S2 i 0 7) = 1 → (ES E 72 38 [some (.ref (aK E 0)), some (.ref (aN E i 0)), some (.ref (aN E i 16)), some (.int (sN S2 i 16 5)), some (.int 0), some (.int 0), some (.int 0), none] [] S2 K)) ∧ (¬ (sN S2 i 0 7) = 1 → (((sN S2 i 0 7) = 3 → (ES E 72 38 [some (.ref (aK E 0)), some (.ref (aN E i 0)), some (.ref (aN E i 16)), some (.int (sN S2 i 16 5)), some (.int 0), some (.int 2), some (.int 0), none] [] S2 K)) ∧ (¬ (sN S2 i 0 7) = 3 → (ES E 72 38 [some (.ref (aK E 0)), some (.ref (aN E i 0)), some (.ref (aN E i 16)), some (.int (sN S2 i 16 5)), some (.int 0), some (.int 1), some (.int 0), none] [] S2 K)))))))))))) : ES E 72 0 [some (.ref (aK E 0)), some (.ref (aN E i 0)), none, none, none, none, none, none] [] S K := by
  refine e_al x72_0 rfl (e_gN x72_1 hi (by decide) rfl (e_ne0 x72_4 (fun c1 => ?_) (fun c1 => ?_)))
  · replace H := H.1 c1
    exact e_rv x72_7 H
  · replace H := H.2 c1
    refine e_al x72_8 rfl (e_ic x72_9 (e_zN x72_10 hi (by decide) rfl (by decide) ?_))
    let S2 : mS := uN S i 0 17 0
    replace H := H S2 rfl
    show ES _ _ _ _ _ S2 _
    refine e_al x72_13 rfl (e_PN x72_14 hi (by decide) rfl rfl (e_ast (l' := [some (.ref (aK E 0)), some (.ref (aN E i 0)), some (.ref (aN E i 16)), none, none, none, none, none]) x72_17 rfl rfl (e_al x72_18 rfl (e_gN x72_19 hi (by decide) rfl (e_ist (l' := [some (.ref (aK E 0)), some (.ref (aN E i 0)), some (.ref (aN E i 16)), some (.int (sN S2 i 16 5)), none, none, none, none]) x72_22 rfl rfl (e_al x72_23 rfl (e_cV (l0 := [some (.ref (aN E i 16))]) x72_24 rfl rfl rfl rfl rfl (fun h hh => hh.tN hi (by decide)) (e_al x5_0 rfl (e_gN x5_1 hi (by decide) rfl (e_ne0 x5_4 (fun c3 => ?_) (fun c3 => ?_)))))))))))
    · replace H := H.1 c3
      refine e_al x5_7 rfl (e_gN x5_8 hi (by decide) rfl (e_ic x5_11 (e_ii (v := ((sN S2 i 16 5) + 1)) x5_12 rfl (e_ri x5_13 (e_ist (l' := [some (.ref (aK E 0)), some (.ref (aN E i 0)), some (.ref (aN E i 16)), some (.int (sN S2 i 16 5)), some (.int ((sN S2 i 16 5) + 1)), none, none, none]) x72_27 rfl rfl (e_al x72_29 rfl (e_cV (l0 := [some (.ref (aN E i 0))]) x72_30 rfl rfl rfl rfl rfl (fun h hh => hh.tN hi (by decide)) (e_al x41_0 rfl (e_gN x41_1 hi (by decide) rfl (e_ic x41_4 (e_ne x41_5 (fun c4 => ?_) (fun c4 => ?_))))))))))))
      · replace H := H.1 c4
        exact e_ic x41_8 (e_ri x41_9 (e_ist (l' := [some (.ref (aK E 0)), some (.ref (aN E i 0)), some (.ref (aN E i 16)), some (.int (sN S2 i 16 5)), some (.int ((sN S2 i 16 5) + 1)), some (.int 0), none, none]) x72_33 rfl rfl (e_ic x72_35 (e_ist (l' := [some (.ref (aK E 0)), some (.ref (aN E i 0)), some (.ref (aN E i 16)), some (.int (sN S2 i 16 5)), some (.int ((sN S2 i 16 5) + 1)), some (.int 0), some (.int 0), none]) x72_36 rfl rfl (H)))))
      · replace H := H.2 c4
        refine e_al x41_10 rfl (e_gN x41_11 hi (by decide) rfl (e_ic x41_14 (e_ne x41_15 (fun c5 => ?_) (fun c5 => ?_))))
        · replace H := H.1 c5
          exact e_ic x41_18 (e_goto x41_19 (e_ri x41_23 (e_ist (l' := [some (.ref (aK E 0)), some (.ref (aN E i 0)), some (.ref (aN E i 16)), some (.int (sN S2 i 16 5)), some (.int ((sN S2 i 16 5) + 1)), some (.int 2), none, none]) x72_33 rfl rfl (e_ic x72_35 (e_ist (l' := [some (.ref (aK E 0)), some (.ref (aN E i 0)), some (.ref (aN E i 16)), some (.int (sN S2 i 16 5)), some (.int ((sN S2 i 16 5) + 1)), some (.int 2), some (.int 0), none]) x72_36 rfl rfl (H))))))
        · replace H := H.2 c5
          exact e_ic x41_22 (e_ri x41_23 (e_ist (l' := [some (.ref (aK E 0)), some (.ref (aN E i 0)), some (.ref (aN E i 16)), some (.int (sN S2 i 16 5)), some (.int ((sN S2 i 16 5) + 1)), some (.int 1), none, none]) x72_33 rfl rfl (e_ic x72_35 (e_ist (l' := [some (.ref (aK E 0)), some (.ref (aN E i 0)), some (.ref (aN E i 16)), some (.int (sN S2 i 16 5)), some (.int ((sN S2 i 16 5) + 1)), some (.int 1), some (.int 0), none]) x72_36 rfl rfl (H)))))
    · replace H := H.2 c3
      refine e_al x5_14 rfl (e_gN x5_15 hi (by decide) rfl (e_ne0 x5_18 (fun c6 => ?_) (fun c6 => ?_)))
      · replace H := H.1 c6
        refine e_ic x5_21 (e_goto x5_22 (e_ri x5_26 (e_ist (l' := [some (.ref (aK E 0)), some (.ref (aN E i 0)), some (.ref (aN E i 16)), some (.int (sN S2 i 16 5)), some (.int 1), none, none, none]) x72_27 rfl rfl (e_al x72_29 rfl (e_cV (l0 := [some (.ref (aN E i 0))]) x72_30 rfl rfl rfl rfl rfl (fun h hh => hh.tN hi (by decide)) (e_al x41_0 rfl (e_gN x41_1 hi (by decide) rfl (e_ic x41_4 (e_ne x41_5 (fun c7 => ?_) (fun c7 => ?_))))))))))
        · replace H := H.1 c7
          exact e_ic x41_8 (e_ri x41_9 (e_ist (l' := [some (.ref (aK E 0)), some (.ref (aN E i 0)), some (.ref (aN E i 16)), some (.int (sN S2 i 16 5)), some (.int 1), some (.int 0), none, none]) x72_33 rfl rfl (e_ic x72_35 (e_ist (l' := [some (.ref (aK E 0)), some (.ref (aN E i 0)), some (.ref (aN E i 16)), some (.int (sN S2 i 16 5)), some (.int 1), some (.int 0), some (.int 0), none]) x72_36 rfl rfl (H)))))
        · replace H := H.2 c7
          refine e_al x41_10 rfl (e_gN x41_11 hi (by decide) rfl (e_ic x41_14 (e_ne x41_15 (fun c8 => ?_) (fun c8 => ?_))))
          · replace H := H.1 c8
            exact e_ic x41_18 (e_goto x41_19 (e_ri x41_23 (e_ist (l' := [some (.ref (aK E 0)), some (.ref (aN E i 0)), some (.ref (aN E i 16)), some (.int (sN S2 i 16 5)), some (.int 1), some (.int 2), none, none]) x72_33 rfl rfl (e_ic x72_35 (e_ist (l' := [some (.ref (aK E 0)), some (.ref (aN E i 0)), some (.ref (aN E i 16)), some (.int (sN S2 i 16 5)), some (.int 1), some (.int 2), some (.int 0), none]) x72_36 rfl rfl (H))))))
          · replace H := H.2 c8
            exact e_ic x41_22 (e_ri x41_23 (e_ist (l' := [some (.ref (aK E 0)), some (.ref (aN E i 0)), some (.ref (aN E i 16)), some (.int (sN S2 i 16 5)), some (.int 1), some (.int 1), none, none]) x72_33 rfl rfl (e_ic x72_35 (e_ist (l' := [some (.ref (aK E 0)), some (.ref (aN E i 0)), some (.ref (aN E i 16)), some (.int (sN S2 i 16 5)), some (.int 1), some (.int 1), some (.int 0), none]) x72_36 rfl rfl (H)))))
      · replace H := H.2 c6
        refine e_ic x5_25 (e_ri x5_26 (e_ist (l' := [some (.ref (aK E 0)), some (.ref (aN E i 0)), some (.ref (aN E i 16)), some (.int (sN S2 i 16 5)), some (.int 0), none, none, none]) x72_27 rfl rfl (e_al x72_29 rfl (e_cV (l0 := [some (.ref (aN E i 0))]) x72_30 rfl rfl rfl rfl rfl (fun h hh => hh.tN hi (by decide)) (e_al x41_0 rfl (e_gN x41_1 hi (by decide) rfl (e_ic x41_4 (e_ne x41_5 (fun c9 => ?_) (fun c9 => ?_)))))))))
        · replace H := H.1 c9
          exact e_ic x41_8 (e_ri x41_9 (e_ist (l' := [some (.ref (aK E 0)), some (.ref (aN E i 0)), some (.ref (aN E i 16)), some (.int (sN S2 i 16 5)), some (.int 0), some (.int 0), none, none]) x72_33 rfl rfl (e_ic x72_35 (e_ist (l' := [some (.ref (aK E 0)), some (.ref (aN E i 0)), some (.ref (aN E i 16)), some (.int (sN S2 i 16 5)), some (.int 0), some (.int 0), some (.int 0), none]) x72_36 rfl rfl (H)))))
        · replace H := H.2 c9
          refine e_al x41_10 rfl (e_gN x41_11 hi (by decide) rfl (e_ic x41_14 (e_ne x41_15 (fun c10 => ?_) (fun c10 => ?_))))
          · replace H := H.1 c10
            exact e_ic x41_18 (e_goto x41_19 (e_ri x41_23 (e_ist (l' := [some (.ref (aK E 0)), some (.ref (aN E i 0)), some (.ref (aN E i 16)), some (.int (sN S2 i 16 5)), some (.int 0), some (.int 2), none, none]) x72_33 rfl rfl (e_ic x72_35 (e_ist (l' := [some (.ref (aK E 0)), some (.ref (aN E i 0)), some (.ref (aN E i 16)), some (.int (sN S2 i 16 5)), some (.int 0), some (.int 2), some (.int 0), none]) x72_36 rfl rfl (H))))))
          · replace H := H.2 c10
            exact e_ic x41_22 (e_ri x41_23 (e_ist (l' := [some (.ref (aK E 0)), some (.ref (aN E i 0)), some (.ref (aN E i 16)), some (.int (sN S2 i 16 5)), some (.int 0), some (.int 1), none, none]) x72_33 rfl rfl (e_ic x72_35 (e_ist (l' := [some (.ref (aK E 0)), some (.ref (aN E i 0)), some (.ref (aN E i 16)), some (.int (sN S2 i 16 5)), some (.int 0), some (.int 1), some (.int 0), none]) x72_36 rfl rfl (H)))))

-- RV.dispatch(LRoundVotes$Node;)V, from 38
set_option maxRecDepth 8000 in
theorem T72_38 {E : mE} {i : Nat} {v3 : Int32} {v4 : Int32} {v5 : Int32} {v6 : Int32} {S : mS} {K : Option Value → mS → Prop} (hi : i < eN E) (H : (v5 ≤ v6 → (K none S)) ∧ (¬ v5 ≤ v6 → (ES E 72 48 [some (.ref (aK E 0)), some (.ref (aN E i 0)), some (.ref (aN E i 16)), some (.int v3), some (.int v4), some (.int v5), some (.int v6), some (.int 0)] [] S K))) : ES E 72 38 [some (.ref (aK E 0)), some (.ref (aN E i 0)), some (.ref (aN E i 16)), some (.int v3), some (.int v4), some (.int v5), some (.int v6), none] [] S K := by
  refine e_il x72_38 rfl (e_il x72_40 rfl (e_ge x72_42 (fun c1 => ?_) (fun c1 => ?_)))
  · replace H := H.1 c1
    exact e_rv x72_125 H
  · replace H := H.2 c1
    exact e_ic x72_45 (e_ist (l' := [some (.ref (aK E 0)), some (.ref (aN E i 0)), some (.ref (aN E i 16)), some (.int v3), some (.int v4), some (.int v5), some (.int v6), some (.int 0)]) x72_46 rfl rfl (H))

-- RV.dispatch(LRoundVotes$Node;)V, from 48
set_option maxRecDepth 8000 in
theorem T72_48 {E : mE} {i : Nat} {v3 : Int32} {v4 : Int32} {v5 : Int32} {v6 : Int32} {v7 : Int32} {S : mS} {K : Option Value → mS → Prop} (hi : i < eN E) (H : ((sK S 9 0) ≤ v7 → (ES E 72 38 [some (.ref (aK E 0)), some (.ref (aN E i 0)), some (.ref (aN E i 16)), some (.int v3), some (.int v4), some (.int v5), some (.int (v6 + 1)), none] [] S K)) ∧ (¬ (sK S 9 0) ≤ v7 → ((v7 = (sN S i 0 0) → (ES E 72 48 [some (.ref (aK E 0)), some (.ref (aN E i 0)), some (.ref (aN E i 16)), some (.int v3), some (.int v4), some (.int v5), some (.int v6), some (.int (v7 + 1))] [] S K)) ∧ (¬ v7 = (sN S i 0 0) → (∀ S3, S3 = uN S i 16 1 v7 → ((v6 = 1 → (∀ S5, S5 = uN S3 i 16 5 v4 → (ES E 35 0 [some (.ref (aN E i 12)), some (.ref (aN E i 16)), none] [] S5 (fun r S6 => r = none ∧ (ES E 73 0 [some (.ref (aK E 0)), some (.ref (aN E i 16)), none, none, none] [] S6 (fun r S7 => r = none ∧ (ES E 72 48 [some (.ref (aK E 0)), some (.ref (aN E i 0)), some (.ref (aN E i 16)), some (.int v3), some (.int v4), some (.int v5), some (.int v6), some (.int (v7 + 1))] [] S7 K))))))) ∧ (¬ v6 = 1 → (((sN S3 i 0 7) = 2 → ((¬ (2 : Int32) = 0) ∧ (((v7 - v7 / 2 * 2) = 1 → (∀ S11, S11 = uN S3 i 16 5 v4 → (ES E 35 0 [some (.ref (aN E i 12)), some (.ref (aN E i 16)), none] [] S11 (fun r S12 => r = none ∧ (ES E 73 0 [some (.ref (aK E 0)), some (.ref (aN E i 16)), none, none, none] [] S12 (fun r S13 => r = none ∧ (ES E 72 48 [some (.ref (aK E 0)), some (.ref (aN E i 0)), some (.ref (aN E i 16)), some (.int v3), some (.int v4), some (.int v5), some (.int v6), some (.int (v7 + 1))] [] S13 K))))))) ∧ (¬ (v7 - v7 / 2 * 2) = 1 → (∀ S14, S14 = uN S3 i 16 5 v3 → (ES E 35 0 [some (.ref (aN E i 12)), some (.ref (aN E i 16)), none] [] S14 (fun r S15 => r = none ∧ (ES E 73 0 [some (.ref (aK E 0)), some (.ref (aN E i 16)), none, none, none] [] S15 (fun r S16 => r = none ∧ (ES E 72 48 [some (.ref (aK E 0)), some (.ref (aN E i 0)), some (.ref (aN E i 16)), some (.int v3), some (.int v4), some (.int v5), some (.int v6), some (.int (v7 + 1))] [] S16 K)))))))))) ∧ (¬ (sN S3 i 0 7) = 2 → (∀ S17, S17 = uN S3 i 16 5 v3 → (ES E 35 0 [some (.ref (aN E i 12)), some (.ref (aN E i 16)), none] [] S17 (fun r S18 => r = none ∧ (ES E 73 0 [some (.ref (aK E 0)), some (.ref (aN E i 16)), none, none, none] [] S18 (fun r S19 => r = none ∧ (ES E 72 48 [some (.ref (aK E 0)), some (.ref (aN E i 0)), some (.ref (aN E i 16)), some (.int v3), some (.int v4), some (.int v5), some (.int v6), some (.int (v7 + 1))] [] S19 K))))))))))))))) : ES E 72 48 [some (.ref (aK E 0)), some (.ref (aN E i 0)), some (.ref (aN E i 16)), some (.int v3), some (.int v4), some (.int v5), some (.int v6), some (.int v7)] [] S K := by
  refine e_il x72_48 rfl (e_al x72_50 rfl (e_PK x72_51 (by decide) rfl rfl (e_gK x72_54 (by decide) rfl (e_ge x72_57 (fun c1 => ?_) (fun c1 => ?_)))))
  · replace H := H.1 c1
    exact e_inc (l' := [some (.ref (aK E 0)), some (.ref (aN E i 0)), some (.ref (aN E i 16)), some (.int v3), some (.int v4), some (.int v5), some (.int (v6 + 1)), some (.int v7)]) x72_119 rfl rfl rfl (e_back (l' := [some (.ref (aK E 0)), some (.ref (aN E i 0)), some (.ref (aN E i 16)), some (.int v3), some (.int v4), some (.int v5), some (.int (v6 + 1)), none]) x72_122 rfl (H))
  · replace H := H.2 c1
    refine e_il x72_60 rfl (e_al x72_62 rfl (e_gN x72_63 hi (by decide) rfl (e_eq x72_66 (fun c2 => ?_) (fun c2 => ?_))))
    · replace H := H.1 c2
      exact e_inc (l' := [some (.ref (aK E 0)), some (.ref (aN E i 0)), some (.ref (aN E i 16)), some (.int v3), some (.int v4), some (.int v5), some (.int v6), some (.int (v7 + 1))]) x72_113 rfl rfl rfl (e_back (l' := [some (.ref (aK E 0)), some (.ref (aN E i 0)), some (.ref (aN E i 16)), some (.int v3), some (.int v4), some (.int v5), some (.int v6), some (.int (v7 + 1))]) x72_116 rfl (H))
    · replace H := H.2 c2
      refine e_al x72_69 rfl (e_il x72_70 rfl (e_pN x72_72 hi (by decide) rfl ?_))
      let S3 : mS := uN S i 16 1 v7
      replace H := H S3 rfl
      show ES _ _ _ _ _ S3 _
      refine e_al x72_75 rfl (e_il x72_76 rfl (e_ic x72_78 (e_eq x72_79 (fun c4 => ?_) (fun c4 => ?_))))
      · replace H := H.1 c4
        refine e_il x72_91 rfl (e_goto x72_93 (e_pN x72_97 hi (by decide) rfl ?_))
        let S5 : mS := uN S3 i 16 5 v4
        replace H := H S5 rfl
        show ES _ _ _ _ _ S5 _
        refine e_al x72_100 rfl (e_PN x72_101 hi (by decide) rfl rfl (e_al x72_104 rfl (e_cV (l0 := [some (.ref (aN E i 12)), some (.ref (aN E i 16)), none]) x72_105 rfl rfl rfl rfl rfl (fun h hh => hh.tN hi (by decide)) (ES.mono H ?_))))
        rintro _ S6 ⟨rfl, H⟩
        refine e_al x72_108 rfl (e_al x72_109 rfl (e_cV (l0 := [some (.ref (aK E 0)), some (.ref (aN E i 16)), none, none, none]) x72_110 rfl rfl rfl rfl rfl (fun h hh => hh.tK (by decide)) (ES.mono H ?_)))
        rintro _ S7 ⟨rfl, H⟩
        exact e_inc (l' := [some (.ref (aK E 0)), some (.ref (aN E i 0)), some (.ref (aN E i 16)), some (.int v3), some (.int v4), some (.int v5), some (.int v6), some (.int (v7 + 1))]) x72_113 rfl rfl rfl (e_back (l' := [some (.ref (aK E 0)), some (.ref (aN E i 0)), some (.ref (aN E i 16)), some (.int v3), some (.int v4), some (.int v5), some (.int v6), some (.int (v7 + 1))]) x72_116 rfl (H))
      · replace H := H.2 c4
        refine e_al x72_82 rfl (e_il x72_83 rfl (e_cV (l0 := [some (.ref (aN E i 0)), some (.int v7)]) x72_85 rfl rfl rfl rfl rfl (fun h hh => hh.tN hi (by decide)) (e_al x42_0 rfl (e_gN x42_1 hi (by decide) rfl (e_ic x42_4 (e_ne x42_5 (fun c8 => ?_) (fun c8 => ?_)))))))
        · replace H := H.1 c8
          have c9 := H.1
          replace H := H.2
          refine e_il x42_8 rfl (e_ic x42_9 (e_rem x42_10 c9 (e_ic x42_11 (e_ne x42_12 (fun c10 => ?_) (fun c10 => ?_)))))
          · replace H := H.1 c10
            refine e_ic x42_15 (e_goto x42_16 (e_rz x42_20 (by decide) (e_eq0 x72_88 (fun z9 => absurd z9 (by decide)) (fun _ => ?_))))
            refine e_il x72_91 rfl (e_goto x72_93 (e_pN x72_97 hi (by decide) rfl ?_))
            let S11 : mS := uN S3 i 16 5 v4
            replace H := H S11 rfl
            show ES _ _ _ _ _ S11 _
            refine e_al x72_100 rfl (e_PN x72_101 hi (by decide) rfl rfl (e_al x72_104 rfl (e_cV (l0 := [some (.ref (aN E i 12)), some (.ref (aN E i 16)), none]) x72_105 rfl rfl rfl rfl rfl (fun h hh => hh.tN hi (by decide)) (ES.mono H ?_))))
            rintro _ S12 ⟨rfl, H⟩
            refine e_al x72_108 rfl (e_al x72_109 rfl (e_cV (l0 := [some (.ref (aK E 0)), some (.ref (aN E i 16)), none, none, none]) x72_110 rfl rfl rfl rfl rfl (fun h hh => hh.tK (by decide)) (ES.mono H ?_)))
            rintro _ S13 ⟨rfl, H⟩
            exact e_inc (l' := [some (.ref (aK E 0)), some (.ref (aN E i 0)), some (.ref (aN E i 16)), some (.int v3), some (.int v4), some (.int v5), some (.int v6), some (.int (v7 + 1))]) x72_113 rfl rfl rfl (e_back (l' := [some (.ref (aK E 0)), some (.ref (aN E i 0)), some (.ref (aN E i 16)), some (.int v3), some (.int v4), some (.int v5), some (.int v6), some (.int (v7 + 1))]) x72_116 rfl (H))
          · replace H := H.2 c10
            refine e_ic x42_19 (e_rz x42_20 (by decide) (e_eq0 x72_88 (fun _ => ?_) (fun z9 => absurd (by decide) z9)))
            refine e_il x72_96 rfl (e_pN x72_97 hi (by decide) rfl ?_)
            let S14 : mS := uN S3 i 16 5 v3
            replace H := H S14 rfl
            show ES _ _ _ _ _ S14 _
            refine e_al x72_100 rfl (e_PN x72_101 hi (by decide) rfl rfl (e_al x72_104 rfl (e_cV (l0 := [some (.ref (aN E i 12)), some (.ref (aN E i 16)), none]) x72_105 rfl rfl rfl rfl rfl (fun h hh => hh.tN hi (by decide)) (ES.mono H ?_))))
            rintro _ S15 ⟨rfl, H⟩
            refine e_al x72_108 rfl (e_al x72_109 rfl (e_cV (l0 := [some (.ref (aK E 0)), some (.ref (aN E i 16)), none, none, none]) x72_110 rfl rfl rfl rfl rfl (fun h hh => hh.tK (by decide)) (ES.mono H ?_)))
            rintro _ S16 ⟨rfl, H⟩
            exact e_inc (l' := [some (.ref (aK E 0)), some (.ref (aN E i 0)), some (.ref (aN E i 16)), some (.int v3), some (.int v4), some (.int v5), some (.int v6), some (.int (v7 + 1))]) x72_113 rfl rfl rfl (e_back (l' := [some (.ref (aK E 0)), some (.ref (aN E i 0)), some (.ref (aN E i 16)), some (.int v3), some (.int v4), some (.int v5), some (.int v6), some (.int (v7 + 1))]) x72_116 rfl (H))
        · replace H := H.2 c8
          refine e_ic x42_19 (e_rz x42_20 (by decide) (e_eq0 x72_88 (fun _ => ?_) (fun z9 => absurd (by decide) z9)))
          refine e_il x72_96 rfl (e_pN x72_97 hi (by decide) rfl ?_)
          let S17 : mS := uN S3 i 16 5 v3
          replace H := H S17 rfl
          show ES _ _ _ _ _ S17 _
          refine e_al x72_100 rfl (e_PN x72_101 hi (by decide) rfl rfl (e_al x72_104 rfl (e_cV (l0 := [some (.ref (aN E i 12)), some (.ref (aN E i 16)), none]) x72_105 rfl rfl rfl rfl rfl (fun h hh => hh.tN hi (by decide)) (ES.mono H ?_))))
          rintro _ S18 ⟨rfl, H⟩
          refine e_al x72_108 rfl (e_al x72_109 rfl (e_cV (l0 := [some (.ref (aK E 0)), some (.ref (aN E i 16)), none, none, none]) x72_110 rfl rfl rfl rfl rfl (fun h hh => hh.tK (by decide)) (ES.mono H ?_)))
          rintro _ S19 ⟨rfl, H⟩
          exact e_inc (l' := [some (.ref (aK E 0)), some (.ref (aN E i 0)), some (.ref (aN E i 16)), some (.int v3), some (.int v4), some (.int v5), some (.int v6), some (.int (v7 + 1))]) x72_113 rfl rfl rfl (e_back (l' := [some (.ref (aK E 0)), some (.ref (aN E i 0)), some (.ref (aN E i 16)), some (.int v3), some (.int v4), some (.int v5), some (.int v6), some (.int (v7 + 1))]) x72_116 rfl (H))

-- RV.sendCopy(LRoundVotes$Message;)V, from 0
set_option maxRecDepth 8000 in
theorem T73 {E : mE} {i : Nat} {S : mS} {K : Option Value → mS → Prop} (hi : i < eN E) (H : ES E 23 0 [some (.ref (aK E 3)), some (.int (sK S 0 6)), none] [] S (fun r S1 => ∃ x2 : Int32, r = some (.int x2) ∧ (((0 : Int32) ≤ x2 → ((¬ x2 < 0 ∧ (x2.toNatClampNeg) < 60) ∧ (((sK S1 5 (x2.toNatClampNeg)) = 2 → (ES E 25 0 [some (.ref (aK E 3)), some (.int x2)] [] S1 (fun r S6 => r = none ∧ (∀ S7, S7 = uK S6 0 6 ((sK S6 0 6) + 1) → (((sK S1 5 (x2.toNatClampNeg)) = 0 → (∀ S9, S9 = uK S7 0 8 ((sK S7 0 8) + 1) → (K none S9))) ∧ (¬ (sK S1 5 (x2.toNatClampNeg)) = 0 → (ES E 74 0 [some (.ref (aK E 0)), some (.int (sN S6 i 16 0)), some (.int (sN S6 i 16 1)), none] [] S7 (fun r S10 => ∃ x11 : Int32, r = some (.int x11) ∧ ((x11 = 0 → (ES E 32 0 [some (.ref (aK E 1)), some (.ref (aN E i 16)), some (.int (((sK S10 0 5) + 1) + (sK S1 6 (x2.toNatClampNeg)))), some (.int 0), none] [] S10 (fun r S13 => ∃ x14 : Int32, r = some (.int x14) ∧ ((x14 = 0 → (∀ S16, S16 = uK S13 0 8 ((sK S13 0 8) + 1) → (K none S16))) ∧ (¬ x14 = 0 → (((sK S1 5 (x2.toNatClampNeg)) = 1 → (ES E 32 0 [some (.ref (aK E 1)), some (.ref (aN E i 16)), some (.int ((sK S13 0 5) + 2)), some (.int 1), none] [] S13 (fun r S18 => ∃ x19 : Int32, r = some (.int x19) ∧ ((x19 = 0 → (∀ S21, S21 = uK S18 0 8 ((sK S18 0 8) + 1) → (K none S21))) ∧ (¬ x19 = 0 → (K none S18)))))) ∧ (¬ (sK S1 5 (x2.toNatClampNeg)) = 1 → (K none S13)))))))) ∧ (¬ x11 = 0 → (∀ S22, S22 = uK S10 0 8 ((sK S10 0 8) + 1) → (K none S22)))))))))))) ∧ (¬ (sK S1 5 (x2.toNatClampNeg)) = 2 → (ES E 25 0 [some (.ref (aK E 3)), some (.int x2)] [] S1 (fun r S23 => r = none ∧ (∀ S24, S24 = uK S23 0 6 ((sK S23 0 6) + 1) → (((sK S1 5 (x2.toNatClampNeg)) = 0 → (∀ S26, S26 = uK S24 0 8 ((sK S24 0 8) + 1) → (K none S26))) ∧ (¬ (sK S1 5 (x2.toNatClampNeg)) = 0 → (ES E 74 0 [some (.ref (aK E 0)), some (.int (sN S23 i 16 0)), some (.int (sN S23 i 16 1)), none] [] S24 (fun r S27 => ∃ x28 : Int32, r = some (.int x28) ∧ ((x28 = 0 → (ES E 32 0 [some (.ref (aK E 1)), some (.ref (aN E i 16)), some (.int (((sK S27 0 5) + 1) + 0)), some (.int 0), none] [] S27 (fun r S30 => ∃ x31 : Int32, r = some (.int x31) ∧ ((x31 = 0 → (∀ S33, S33 = uK S30 0 8 ((sK S30 0 8) + 1) → (K none S33))) ∧ (¬ x31 = 0 → (((sK S1 5 (x2.toNatClampNeg)) = 1 → (ES E 32 0 [some (.ref (aK E 1)), some (.ref (aN E i 16)), some (.int ((sK S30 0 5) + 2)), some (.int 1), none] [] S30 (fun r S35 => ∃ x36 : Int32, r = some (.int x36) ∧ ((x36 = 0 → (∀ S38, S38 = uK S35 0 8 ((sK S35 0 8) + 1) → (K none S38))) ∧ (¬ x36 = 0 → (K none S35)))))) ∧ (¬ (sK S1 5 (x2.toNatClampNeg)) = 1 → (K none S30)))))))) ∧ (¬ x28 = 0 → (∀ S39, S39 = uK S27 0 8 ((sK S27 0 8) + 1) → (K none S39))))))))))))))) ∧ (¬ (0 : Int32) ≤ x2 → (ES E 25 0 [some (.ref (aK E 3)), some (.int x2)] [] S1 (fun r S40 => r = none ∧ (∀ S41, S41 = uK S40 0 6 ((sK S40 0 6) + 1) → (ES E 74 0 [some (.ref (aK E 0)), some (.int (sN S40 i 16 0)), some (.int (sN S40 i 16 1)), none] [] S41 (fun r S42 => ∃ x43 : Int32, r = some (.int x43) ∧ ((x43 = 0 → (ES E 32 0 [some (.ref (aK E 1)), some (.ref (aN E i 16)), some (.int (((sK S42 0 5) + 1) + 0)), some (.int 0), none] [] S42 (fun r S45 => ∃ x46 : Int32, r = some (.int x46) ∧ ((x46 = 0 → (∀ S48, S48 = uK S45 0 8 ((sK S45 0 8) + 1) → (K none S48))) ∧ (¬ x46 = 0 → (K none S45)))))) ∧ (¬ x43 = 0 → (∀ S49, S49 = uK S42 0 8 ((sK S42 0 8) + 1) → (K none S49))))))))))))) : ES E 73 0 [some (.ref (aK E 0)), some (.ref (aN E i 16)), none, none, none] [] S K := by
  refine e_al x73_0 rfl (e_PK x73_1 (by decide) rfl rfl (e_al x73_4 rfl (e_gK x73_5 (by decide) rfl (e_cV (l0 := [some (.ref (aK E 3)), some (.int (sK S 0 6)), none]) x73_8 rfl rfl rfl rfl rfl (fun h hh => hh.tK (by decide)) (ES.mono H ?_)))))
  rintro _ S1 ⟨x2, rfl, H⟩
  refine e_ist (l' := [some (.ref (aK E 0)), some (.ref (aN E i 16)), some (.int x2), none, none]) x73_11 rfl rfl (e_il x73_12 rfl (e_ge0 x73_13 (fun c3 => ?_) (fun c3 => ?_)))
  · replace H := H.1 c3
    have c4 := H.1
    replace H := H.2
    refine e_al x73_21 rfl (e_PK x73_22 (by decide) rfl rfl (e_PK x73_25 (by decide) rfl rfl (e_il x73_28 rfl (e_iaK x73_29 (by decide) rfl c4 (e_ist (l' := [some (.ref (aK E 0)), some (.ref (aN E i 16)), some (.int x2), some (.int (sK S1 5 (x2.toNatClampNeg))), none]) x73_30 rfl rfl (e_il x73_31 rfl (e_ic x73_32 (e_ne x73_33 (fun c5 => ?_) (fun c5 => ?_)))))))))
    · replace H := H.1 c5
      refine e_al x73_36 rfl (e_PK x73_37 (by decide) rfl rfl (e_PK x73_40 (by decide) rfl rfl (e_il x73_43 rfl (e_iaK x73_44 (by decide) rfl c4 (e_goto x73_45 (e_ist (l' := [some (.ref (aK E 0)), some (.ref (aN E i 16)), some (.int x2), some (.int (sK S1 5 (x2.toNatClampNeg))), some (.int (sK S1 6 (x2.toNatClampNeg)))]) x73_49 rfl rfl (e_al x73_51 rfl (e_PK x73_52 (by decide) rfl rfl (e_il x73_55 rfl (e_cV (l0 := [some (.ref (aK E 3)), some (.int x2)]) x73_56 rfl rfl rfl rfl rfl (fun h hh => hh.tK (by decide)) (ES.mono H ?_)))))))))))
      rintro _ S6 ⟨rfl, H⟩
      refine e_al x73_59 rfl (e_dupr x73_60 (e_gK x73_61 (by decide) rfl (e_ic x73_64 (e_ii (v := ((sK S6 0 6) + 1)) x73_65 rfl (e_pK x73_66 (by decide) rfl ?_)))))
      let S7 : mS := uK S6 0 6 ((sK S6 0 6) + 1)
      replace H := H S7 rfl
      show ES _ _ _ _ _ S7 _
      refine e_il x73_69 rfl (e_eq0 x73_70 (fun c8 => ?_) (fun c8 => ?_))
      · replace H := H.1 c8
        refine e_al x73_88 rfl (e_dupr x73_89 (e_gK x73_90 (by decide) rfl (e_ic x73_93 (e_ii (v := ((sK S7 0 8) + 1)) x73_94 rfl (e_pK x73_95 (by decide) rfl ?_)))))
        let S9 : mS := uK S7 0 8 ((sK S7 0 8) + 1)
        replace H := H S9 rfl
        show ES _ _ _ _ _ S9 _
        exact e_rv x73_98 H
      · replace H := H.2 c8
        refine e_al x73_73 rfl (e_al x73_74 rfl (e_gN x73_75 hi (by decide) rfl (e_al x73_78 rfl (e_gN x73_79 hi (by decide) rfl (e_cV (l0 := [some (.ref (aK E 0)), some (.int (sN S6 i 16 0)), some (.int (sN S6 i 16 1)), none]) x73_82 rfl rfl rfl rfl rfl (fun h hh => hh.tK (by decide)) (ES.mono H ?_))))))
        rintro _ S10 ⟨x11, rfl, H⟩
        refine e_eq0 x73_85 (fun c12 => ?_) (fun c12 => ?_)
        · replace H := H.1 c12
          refine e_al x73_99 rfl (e_PK x73_100 (by decide) rfl rfl (e_al x73_103 rfl (e_al x73_104 rfl (e_gK x73_105 (by decide) rfl (e_ic x73_108 (e_ii (v := ((sK S10 0 5) + 1)) x73_109 rfl (e_il x73_110 rfl (e_ii (v := (((sK S10 0 5) + 1) + (sK S1 6 (x2.toNatClampNeg)))) x73_112 rfl (e_ic x73_113 (e_cV (l0 := [some (.ref (aK E 1)), some (.ref (aN E i 16)), some (.int (((sK S10 0 5) + 1) + (sK S1 6 (x2.toNatClampNeg)))), some (.int 0), none]) x73_114 rfl rfl rfl rfl rfl (fun h hh => hh.tK (by decide)) (ES.mono H ?_)))))))))))
          rintro _ S13 ⟨x14, rfl, H⟩
          refine e_ne0 x73_117 (fun c15 => ?_) (fun c15 => ?_)
          · replace H := H.1 c15
            refine e_al x73_120 rfl (e_dupr x73_121 (e_gK x73_122 (by decide) rfl (e_ic x73_125 (e_ii (v := ((sK S13 0 8) + 1)) x73_126 rfl (e_pK x73_127 (by decide) rfl ?_)))))
            let S16 : mS := uK S13 0 8 ((sK S13 0 8) + 1)
            replace H := H S16 rfl
            show ES _ _ _ _ _ S16 _
            exact e_rv x73_130 H
          · replace H := H.2 c15
            refine e_il x73_131 rfl (e_ic x73_132 (e_ne x73_133 (fun c17 => ?_) (fun c17 => ?_)))
            · replace H := H.1 c17
              refine e_al x73_136 rfl (e_PK x73_137 (by decide) rfl rfl (e_al x73_140 rfl (e_al x73_141 rfl (e_gK x73_142 (by decide) rfl (e_ic x73_145 (e_ii (v := ((sK S13 0 5) + 2)) x73_146 rfl (e_ic x73_147 (e_cV (l0 := [some (.ref (aK E 1)), some (.ref (aN E i 16)), some (.int ((sK S13 0 5) + 2)), some (.int 1), none]) x73_148 rfl rfl rfl rfl rfl (fun h hh => hh.tK (by decide)) (ES.mono H ?_)))))))))
              rintro _ S18 ⟨x19, rfl, H⟩
              refine e_ne0 x73_151 (fun c20 => ?_) (fun c20 => ?_)
              · replace H := H.1 c20
                refine e_al x73_154 rfl (e_dupr x73_155 (e_gK x73_156 (by decide) rfl (e_ic x73_159 (e_ii (v := ((sK S18 0 8) + 1)) x73_160 rfl (e_pK x73_161 (by decide) rfl ?_)))))
                let S21 : mS := uK S18 0 8 ((sK S18 0 8) + 1)
                replace H := H S21 rfl
                show ES _ _ _ _ _ S21 _
                exact e_rv x73_164 H
              · replace H := H.2 c20
                exact e_rv x73_164 H
            · replace H := H.2 c17
              exact e_rv x73_164 H
        · replace H := H.2 c12
          refine e_al x73_88 rfl (e_dupr x73_89 (e_gK x73_90 (by decide) rfl (e_ic x73_93 (e_ii (v := ((sK S10 0 8) + 1)) x73_94 rfl (e_pK x73_95 (by decide) rfl ?_)))))
          let S22 : mS := uK S10 0 8 ((sK S10 0 8) + 1)
          replace H := H S22 rfl
          show ES _ _ _ _ _ S22 _
          exact e_rv x73_98 H
    · replace H := H.2 c5
      refine e_ic x73_48 (e_ist (l' := [some (.ref (aK E 0)), some (.ref (aN E i 16)), some (.int x2), some (.int (sK S1 5 (x2.toNatClampNeg))), some (.int 0)]) x73_49 rfl rfl (e_al x73_51 rfl (e_PK x73_52 (by decide) rfl rfl (e_il x73_55 rfl (e_cV (l0 := [some (.ref (aK E 3)), some (.int x2)]) x73_56 rfl rfl rfl rfl rfl (fun h hh => hh.tK (by decide)) (ES.mono H ?_))))))
      rintro _ S23 ⟨rfl, H⟩
      refine e_al x73_59 rfl (e_dupr x73_60 (e_gK x73_61 (by decide) rfl (e_ic x73_64 (e_ii (v := ((sK S23 0 6) + 1)) x73_65 rfl (e_pK x73_66 (by decide) rfl ?_)))))
      let S24 : mS := uK S23 0 6 ((sK S23 0 6) + 1)
      replace H := H S24 rfl
      show ES _ _ _ _ _ S24 _
      refine e_il x73_69 rfl (e_eq0 x73_70 (fun c25 => ?_) (fun c25 => ?_))
      · replace H := H.1 c25
        refine e_al x73_88 rfl (e_dupr x73_89 (e_gK x73_90 (by decide) rfl (e_ic x73_93 (e_ii (v := ((sK S24 0 8) + 1)) x73_94 rfl (e_pK x73_95 (by decide) rfl ?_)))))
        let S26 : mS := uK S24 0 8 ((sK S24 0 8) + 1)
        replace H := H S26 rfl
        show ES _ _ _ _ _ S26 _
        exact e_rv x73_98 H
      · replace H := H.2 c25
        refine e_al x73_73 rfl (e_al x73_74 rfl (e_gN x73_75 hi (by decide) rfl (e_al x73_78 rfl (e_gN x73_79 hi (by decide) rfl (e_cV (l0 := [some (.ref (aK E 0)), some (.int (sN S23 i 16 0)), some (.int (sN S23 i 16 1)), none]) x73_82 rfl rfl rfl rfl rfl (fun h hh => hh.tK (by decide)) (ES.mono H ?_))))))
        rintro _ S27 ⟨x28, rfl, H⟩
        refine e_eq0 x73_85 (fun c29 => ?_) (fun c29 => ?_)
        · replace H := H.1 c29
          refine e_al x73_99 rfl (e_PK x73_100 (by decide) rfl rfl (e_al x73_103 rfl (e_al x73_104 rfl (e_gK x73_105 (by decide) rfl (e_ic x73_108 (e_ii (v := ((sK S27 0 5) + 1)) x73_109 rfl (e_il x73_110 rfl (e_ii (v := (((sK S27 0 5) + 1) + 0)) x73_112 rfl (e_ic x73_113 (e_cV (l0 := [some (.ref (aK E 1)), some (.ref (aN E i 16)), some (.int (((sK S27 0 5) + 1) + 0)), some (.int 0), none]) x73_114 rfl rfl rfl rfl rfl (fun h hh => hh.tK (by decide)) (ES.mono H ?_)))))))))))
          rintro _ S30 ⟨x31, rfl, H⟩
          refine e_ne0 x73_117 (fun c32 => ?_) (fun c32 => ?_)
          · replace H := H.1 c32
            refine e_al x73_120 rfl (e_dupr x73_121 (e_gK x73_122 (by decide) rfl (e_ic x73_125 (e_ii (v := ((sK S30 0 8) + 1)) x73_126 rfl (e_pK x73_127 (by decide) rfl ?_)))))
            let S33 : mS := uK S30 0 8 ((sK S30 0 8) + 1)
            replace H := H S33 rfl
            show ES _ _ _ _ _ S33 _
            exact e_rv x73_130 H
          · replace H := H.2 c32
            refine e_il x73_131 rfl (e_ic x73_132 (e_ne x73_133 (fun c34 => ?_) (fun c34 => ?_)))
            · replace H := H.1 c34
              refine e_al x73_136 rfl (e_PK x73_137 (by decide) rfl rfl (e_al x73_140 rfl (e_al x73_141 rfl (e_gK x73_142 (by decide) rfl (e_ic x73_145 (e_ii (v := ((sK S30 0 5) + 2)) x73_146 rfl (e_ic x73_147 (e_cV (l0 := [some (.ref (aK E 1)), some (.ref (aN E i 16)), some (.int ((sK S30 0 5) + 2)), some (.int 1), none]) x73_148 rfl rfl rfl rfl rfl (fun h hh => hh.tK (by decide)) (ES.mono H ?_)))))))))
              rintro _ S35 ⟨x36, rfl, H⟩
              refine e_ne0 x73_151 (fun c37 => ?_) (fun c37 => ?_)
              · replace H := H.1 c37
                refine e_al x73_154 rfl (e_dupr x73_155 (e_gK x73_156 (by decide) rfl (e_ic x73_159 (e_ii (v := ((sK S35 0 8) + 1)) x73_160 rfl (e_pK x73_161 (by decide) rfl ?_)))))
                let S38 : mS := uK S35 0 8 ((sK S35 0 8) + 1)
                replace H := H S38 rfl
                show ES _ _ _ _ _ S38 _
                exact e_rv x73_164 H
              · replace H := H.2 c37
                exact e_rv x73_164 H
            · replace H := H.2 c34
              exact e_rv x73_164 H
        · replace H := H.2 c29
          refine e_al x73_88 rfl (e_dupr x73_89 (e_gK x73_90 (by decide) rfl (e_ic x73_93 (e_ii (v := ((sK S27 0 8) + 1)) x73_94 rfl (e_pK x73_95 (by decide) rfl ?_)))))
          let S39 : mS := uK S27 0 8 ((sK S27 0 8) + 1)
          replace H := H S39 rfl
          show ES _ _ _ _ _ S39 _
          exact e_rv x73_98 H
  · replace H := H.2 c3
    refine e_ic x73_16 (e_goto x73_18 (e_ist (l' := [some (.ref (aK E 0)), some (.ref (aN E i 16)), some (.int x2), some (.int (-2)), none]) x73_30 rfl rfl (e_il x73_31 rfl (e_ic x73_32 (e_ne x73_33 (fun z9 => absurd z9 (by decide)) (fun _ => ?_))))))
    refine e_ic x73_48 (e_ist (l' := [some (.ref (aK E 0)), some (.ref (aN E i 16)), some (.int x2), some (.int (-2)), some (.int 0)]) x73_49 rfl rfl (e_al x73_51 rfl (e_PK x73_52 (by decide) rfl rfl (e_il x73_55 rfl (e_cV (l0 := [some (.ref (aK E 3)), some (.int x2)]) x73_56 rfl rfl rfl rfl rfl (fun h hh => hh.tK (by decide)) (ES.mono H ?_))))))
    rintro _ S40 ⟨rfl, H⟩
    refine e_al x73_59 rfl (e_dupr x73_60 (e_gK x73_61 (by decide) rfl (e_ic x73_64 (e_ii (v := ((sK S40 0 6) + 1)) x73_65 rfl (e_pK x73_66 (by decide) rfl ?_)))))
    let S41 : mS := uK S40 0 6 ((sK S40 0 6) + 1)
    replace H := H S41 rfl
    show ES _ _ _ _ _ S41 _
    refine e_il x73_69 rfl (e_eq0 x73_70 (fun z9 => absurd z9 (by decide)) (fun _ => ?_))
    refine e_al x73_73 rfl (e_al x73_74 rfl (e_gN x73_75 hi (by decide) rfl (e_al x73_78 rfl (e_gN x73_79 hi (by decide) rfl (e_cV (l0 := [some (.ref (aK E 0)), some (.int (sN S40 i 16 0)), some (.int (sN S40 i 16 1)), none]) x73_82 rfl rfl rfl rfl rfl (fun h hh => hh.tK (by decide)) (ES.mono H ?_))))))
    rintro _ S42 ⟨x43, rfl, H⟩
    refine e_eq0 x73_85 (fun c44 => ?_) (fun c44 => ?_)
    · replace H := H.1 c44
      refine e_al x73_99 rfl (e_PK x73_100 (by decide) rfl rfl (e_al x73_103 rfl (e_al x73_104 rfl (e_gK x73_105 (by decide) rfl (e_ic x73_108 (e_ii (v := ((sK S42 0 5) + 1)) x73_109 rfl (e_il x73_110 rfl (e_ii (v := (((sK S42 0 5) + 1) + 0)) x73_112 rfl (e_ic x73_113 (e_cV (l0 := [some (.ref (aK E 1)), some (.ref (aN E i 16)), some (.int (((sK S42 0 5) + 1) + 0)), some (.int 0), none]) x73_114 rfl rfl rfl rfl rfl (fun h hh => hh.tK (by decide)) (ES.mono H ?_)))))))))))
      rintro _ S45 ⟨x46, rfl, H⟩
      refine e_ne0 x73_117 (fun c47 => ?_) (fun c47 => ?_)
      · replace H := H.1 c47
        refine e_al x73_120 rfl (e_dupr x73_121 (e_gK x73_122 (by decide) rfl (e_ic x73_125 (e_ii (v := ((sK S45 0 8) + 1)) x73_126 rfl (e_pK x73_127 (by decide) rfl ?_)))))
        let S48 : mS := uK S45 0 8 ((sK S45 0 8) + 1)
        replace H := H S48 rfl
        show ES _ _ _ _ _ S48 _
        exact e_rv x73_130 H
      · replace H := H.2 c47
        refine e_il x73_131 rfl (e_ic x73_132 (e_ne x73_133 (fun z9 => absurd z9 (by decide)) (fun _ => ?_)))
        exact e_rv x73_164 H
    · replace H := H.2 c44
      refine e_al x73_88 rfl (e_dupr x73_89 (e_gK x73_90 (by decide) rfl (e_ic x73_93 (e_ii (v := ((sK S42 0 8) + 1)) x73_94 rfl (e_pK x73_95 (by decide) rfl ?_)))))
      let S49 : mS := uK S42 0 8 ((sK S42 0 8) + 1)
      replace H := H S49 rfl
      show ES _ _ _ _ _ S49 _
      exact e_rv x73_98 H

-- RV.areOnUnlikeSides(II)Z, from 0
set_option maxRecDepth 8000 in
theorem T74 {E : mE} {a1 : Int32} {a2 : Int32} {S : mS} {K : Option Value → mS → Prop}  (H : ((sK S 0 5) < (sK S 0 10) → (K (some (.int 0)) S)) ∧ (¬ (sK S 0 5) < (sK S 0 10) → (((sK S 0 11) < (sK S 0 5) → (K (some (.int 0)) S)) ∧ (¬ (sK S 0 11) < (sK S 0 5) → (((((sK S 0 9) >>> (a1 &&& 31)) &&& 1) = (((sK S 0 9) >>> (a2 &&& 31)) &&& 1) → (K (some (.int 0)) S)) ∧ (¬ (((sK S 0 9) >>> (a1 &&& 31)) &&& 1) = (((sK S 0 9) >>> (a2 &&& 31)) &&& 1) → (K (some (.int 1)) S))))))) : ES E 74 0 [some (.ref (aK E 0)), some (.int a1), some (.int a2), none] [] S K := by
  refine e_al x74_0 rfl (e_gK x74_1 (by decide) rfl (e_al x74_4 rfl (e_gK x74_5 (by decide) rfl (e_lt x74_8 (fun c1 => ?_) (fun c1 => ?_)))))
  · replace H := H.1 c1
    refine e_ic x74_26 (e_ist (l' := [some (.ref (aK E 0)), some (.int a1), some (.int a2), some (.int 0)]) x74_27 rfl rfl (e_il x74_28 rfl (e_eq0 x74_29 (fun _ => ?_) (fun z9 => absurd (by decide) z9))))
    exact e_ic x74_55 (e_rz x74_56 (by decide) H)
  · replace H := H.2 c1
    refine e_al x74_11 rfl (e_gK x74_12 (by decide) rfl (e_al x74_15 rfl (e_gK x74_16 (by decide) rfl (e_gt x74_19 (fun c2 => ?_) (fun c2 => ?_)))))
    · replace H := H.1 c2
      refine e_ic x74_26 (e_ist (l' := [some (.ref (aK E 0)), some (.int a1), some (.int a2), some (.int 0)]) x74_27 rfl rfl (e_il x74_28 rfl (e_eq0 x74_29 (fun _ => ?_) (fun z9 => absurd (by decide) z9))))
      exact e_ic x74_55 (e_rz x74_56 (by decide) H)
    · replace H := H.2 c2
      refine e_ic x74_22 (e_goto x74_23 (e_ist (l' := [some (.ref (aK E 0)), some (.int a1), some (.int a2), some (.int 1)]) x74_27 rfl rfl (e_il x74_28 rfl (e_eq0 x74_29 (fun z9 => absurd z9 (by decide)) (fun _ => ?_)))))
      refine e_al x74_32 rfl (e_gK x74_33 (by decide) rfl (e_il x74_36 rfl (e_ii (v := ((sK S 0 9) >>> (a1 &&& 31))) x74_37 rfl (e_ic x74_38 (e_ii (v := (((sK S 0 9) >>> (a1 &&& 31)) &&& 1)) x74_39 rfl (e_al x74_40 rfl (e_gK x74_41 (by decide) rfl (e_il x74_44 rfl (e_ii (v := ((sK S 0 9) >>> (a2 &&& 31))) x74_45 rfl (e_ic x74_46 (e_ii (v := (((sK S 0 9) >>> (a2 &&& 31)) &&& 1)) x74_47 rfl (e_eq x74_48 (fun c3 => ?_) (fun c3 => ?_)))))))))))))
      · replace H := H.1 c3
        exact e_ic x74_55 (e_rz x74_56 (by decide) H)
      · replace H := H.2 c3
        exact e_ic x74_51 (e_goto x74_52 (e_rz x74_56 (by decide) H))

-- RV.bringNodesBack()V, from 0
set_option maxRecDepth 8000 in
theorem T75 {E : mE}  {S : mS} {K : Option Value → mS → Prop}  (H : ES E 75 2 [some (.ref (aK E 0)), some (.int 0), none] [] S K) : ES E 75 0 [some (.ref (aK E 0)), none, none] [] S K := by
  exact e_ic x75_0 (e_ist (l' := [some (.ref (aK E 0)), some (.int 0), none]) x75_1 rfl rfl (H))

-- RV.bringNodesBack()V, from 2
set_option maxRecDepth 8000 in
theorem T75_2 {E : mE} {v1 : Int32} {S : mS} {K : Option Value → mS → Prop}  (H : ((sK S 9 0) ≤ v1 → (K none S)) ∧ (¬ (sK S 9 0) ≤ v1 → ((¬ v1 < 0 ∧ (v1.toNatClampNeg) < eN E) ∧ (((sN S (v1.toNatClampNeg) 0 8) ≤ 0 → (ES E 75 2 [some (.ref (aK E 0)), some (.int (v1 + 1)), none] [] S K)) ∧ (¬ (sN S (v1.toNatClampNeg) 0 8) ≤ 0 → (((sK S 0 5) ≤ (sN S (v1.toNatClampNeg) 0 8) → (ES E 75 2 [some (.ref (aK E 0)), some (.int (v1 + 1)), none] [] S K)) ∧ (¬ (sK S 0 5) ≤ (sN S (v1.toNatClampNeg) 0 8) → (ES E 57 0 [some (.ref (aN E (v1.toNatClampNeg) 0)), some (.int (sK S 0 5)), none, none, none] [] S (fun r S5 => r = none ∧ (ES E 71 0 [some (.ref (aK E 0)), some (.ref (aN E (v1.toNatClampNeg) 0)), none] [] S5 (fun r S6 => r = none ∧ (ES E 75 2 [some (.ref (aK E 0)), some (.int (v1 + 1)), none] [] S6 K)))))))))))) : ES E 75 2 [some (.ref (aK E 0)), some (.int v1), none] [] S K := by
  refine e_il x75_2 rfl (e_al x75_3 rfl (e_PK x75_4 (by decide) rfl rfl (e_gK x75_7 (by decide) rfl (e_ge x75_10 (fun c1 => ?_) (fun c1 => ?_)))))
  · replace H := H.1 c1
    exact e_rv x75_57 H
  · replace H := H.2 c1
    have c2 := H.1
    replace H := H.2
    refine e_al x75_13 rfl (e_PK x75_14 (by decide) rfl rfl (e_il x75_17 rfl (e_aaN x75_18 c2 (e_ast (l' := [some (.ref (aK E 0)), some (.int v1), some (.ref (aN E (v1.toNatClampNeg) 0))]) x75_19 rfl rfl (e_al x75_20 rfl (e_cV (l0 := [some (.ref (aN E (v1.toNatClampNeg) 0))]) x75_21 rfl rfl rfl rfl rfl (fun h hh => hh.tN c2.2 (by decide)) (e_al x37_0 rfl (e_gN x37_1 c2.2 (by decide) rfl (e_le0 x37_4 (fun c3 => ?_) (fun c3 => ?_))))))))))
    · replace H := H.1 c3
      refine e_ic x37_11 (e_rz x37_12 (by decide) (e_eq0 x75_24 (fun _ => ?_) (fun z9 => absurd (by decide) z9)))
      exact e_inc (l' := [some (.ref (aK E 0)), some (.int (v1 + 1)), some (.ref (aN E (v1.toNatClampNeg) 0))]) x75_51 rfl rfl rfl (e_back (l' := [some (.ref (aK E 0)), some (.int (v1 + 1)), none]) x75_54 rfl (H))
    · replace H := H.2 c3
      refine e_ic x37_7 (e_goto x37_8 (e_rz x37_12 (by decide) (e_eq0 x75_24 (fun z9 => absurd z9 (by decide)) (fun _ => ?_))))
      refine e_al x75_27 rfl (e_gK x75_28 (by decide) rfl (e_al x75_31 rfl (e_gN x75_32 c2.2 (by decide) rfl (e_le x75_35 (fun c4 => ?_) (fun c4 => ?_)))))
      · replace H := H.1 c4
        exact e_inc (l' := [some (.ref (aK E 0)), some (.int (v1 + 1)), some (.ref (aN E (v1.toNatClampNeg) 0))]) x75_51 rfl rfl rfl (e_back (l' := [some (.ref (aK E 0)), some (.int (v1 + 1)), none]) x75_54 rfl (H))
      · replace H := H.2 c4
        refine e_al x75_38 rfl (e_al x75_39 rfl (e_gK x75_40 (by decide) rfl (e_cV (l0 := [some (.ref (aN E (v1.toNatClampNeg) 0)), some (.int (sK S 0 5)), none, none, none]) x75_43 rfl rfl rfl rfl rfl (fun h hh => hh.tN c2.2 (by decide)) (ES.mono H ?_))))
        rintro _ S5 ⟨rfl, H⟩
        refine e_al x75_46 rfl (e_al x75_47 rfl (e_cV (l0 := [some (.ref (aK E 0)), some (.ref (aN E (v1.toNatClampNeg) 0)), none]) x75_48 rfl rfl rfl rfl rfl (fun h hh => hh.tK (by decide)) (ES.mono H ?_)))
        rintro _ S6 ⟨rfl, H⟩
        exact e_inc (l' := [some (.ref (aK E 0)), some (.int (v1 + 1)), some (.ref (aN E (v1.toNatClampNeg) 0))]) x75_51 rfl rfl rfl (e_back (l' := [some (.ref (aK E 0)), some (.int (v1 + 1)), none]) x75_54 rfl (H))

-- RV.bringCopies()V, from 0
set_option maxRecDepth 8000 in
theorem T76 {E : mE}  {S : mS} {K : Option Value → mS → Prop}  (H : ES E 76 10 [some (.ref (aK E 0)), some (.int (sK S 1 1)), some (.int 0), none, none] [] S K) : ES E 76 0 [some (.ref (aK E 0)), none, none, none, none] [] S K := by
  exact e_al x76_0 rfl (e_PK x76_1 (by decide) rfl rfl (e_gK x76_4 (by decide) rfl (e_ist (l' := [some (.ref (aK E 0)), some (.int (sK S 1 1)), none, none, none]) x76_7 rfl rfl (e_ic x76_8 (e_ist (l' := [some (.ref (aK E 0)), some (.int (sK S 1 1)), some (.int 0), none, none]) x76_9 rfl rfl (H))))))

-- RV.bringCopies()V, from 10
set_option maxRecDepth 8000 in
theorem T76_10 {E : mE} {v1 : Int32} {v2 : Int32} {S : mS} {K : Option Value → mS → Prop}  (H : ((2 : Int32) ≤ v2 → (ES E 33 0 [some (.ref (aK E 1)), some (.int (sK S 0 5)), none, none, none] [] S (fun r S2 => r = none ∧ (K none S2)))) ∧ (¬ (2 : Int32) ≤ v2 → (ES E 76 17 [some (.ref (aK E 0)), some (.int v1), some (.int v2), some (.int 0), none] [] S K))) : ES E 76 10 [some (.ref (aK E 0)), some (.int v1), some (.int v2), none, none] [] S K := by
  refine e_il x76_10 rfl (e_ic x76_11 (e_ge x76_12 (fun c1 => ?_) (fun c1 => ?_)))
  · replace H := H.1 c1
    refine e_al x76_100 rfl (e_PK x76_101 (by decide) rfl rfl (e_al x76_104 rfl (e_gK x76_105 (by decide) rfl (e_cV (l0 := [some (.ref (aK E 1)), some (.int (sK S 0 5)), none, none, none]) x76_108 rfl rfl rfl rfl rfl (fun h hh => hh.tK (by decide)) (ES.mono H ?_)))))
    rintro _ S2 ⟨rfl, H⟩
    exact e_rv x76_111 H
  · replace H := H.2 c1
    exact e_ic x76_15 (e_ist (l' := [some (.ref (aK E 0)), some (.int v1), some (.int v2), some (.int 0), none]) x76_16 rfl rfl (H))

-- RV.bringCopies()V, from 17
set_option maxRecDepth 8000 in
theorem T76_17 {E : mE} {v1 : Int32} {v2 : Int32} {v3 : Int32} {S : mS} {K : Option Value → mS → Prop}  (H : (v1 ≤ v3 → (ES E 76 10 [some (.ref (aK E 0)), some (.int v1), some (.int (v2 + 1)), none, none] [] S K)) ∧ (¬ v1 ≤ v3 → ((¬ v3 < 0 ∧ (v3.toNatClampNeg) < 12000) ∧ (∃ q3, sQ S (v3.toNatClampNeg) = some q3 ∧ (((sM S q3 7) = (sK S 0 5) → ((v2 = 1 → (((sM S q3 8) = 1 → (ES E 77 0 [some (.ref (aK E 0)), some (.ref (aM E q3)), none] [] S (fun r S9 => r = none ∧ ((q3 < sU S9) ∧ ((¬ (sM S9 q3 1) < 0 ∧ ((sM S9 q3 1).toNatClampNeg) < eN E) ∧ (ES E 71 0 [some (.ref (aK E 0)), some (.ref (aN E ((sM S9 q3 1).toNatClampNeg) 0)), none] [] S9 (fun r S12 => r = none ∧ (ES E 76 17 [some (.ref (aK E 0)), some (.int v1), some (.int v2), some (.int (v3 + 1)), none] [] S12 K)))))))) ∧ (¬ (sM S q3 8) = 1 → (ES E 76 17 [some (.ref (aK E 0)), some (.int v1), some (.int v2), some (.int (v3 + 1)), none] [] S K)))) ∧ (¬ v2 = 1 → (((sM S q3 8) = 0 → (ES E 77 0 [some (.ref (aK E 0)), some (.ref (aM E q3)), none] [] S (fun r S14 => r = none ∧ ((q3 < sU S14) ∧ ((¬ (sM S14 q3 1) < 0 ∧ ((sM S14 q3 1).toNatClampNeg) < eN E) ∧ (ES E 71 0 [some (.ref (aK E 0)), some (.ref (aN E ((sM S14 q3 1).toNatClampNeg) 0)), none] [] S14 (fun r S17 => r = none ∧ (ES E 76 17 [some (.ref (aK E 0)), some (.int v1), some (.int v2), some (.int (v3 + 1)), none] [] S17 K)))))))) ∧ (¬ (sM S q3 8) = 0 → (ES E 76 17 [some (.ref (aK E 0)), some (.int v1), some (.int v2), some (.int (v3 + 1)), none] [] S K)))))) ∧ (¬ (sM S q3 7) = (sK S 0 5) → (ES E 76 17 [some (.ref (aK E 0)), some (.int v1), some (.int v2), some (.int (v3 + 1)), none] [] S K))))))) : ES E 76 17 [some (.ref (aK E 0)), some (.int v1), some (.int v2), some (.int v3), none] [] S K := by
  refine e_il x76_17 rfl (e_il x76_18 rfl (e_ge x76_19 (fun c1 => ?_) (fun c1 => ?_)))
  · replace H := H.1 c1
    exact e_inc (l' := [some (.ref (aK E 0)), some (.int v1), some (.int (v2 + 1)), some (.int v3), none]) x76_94 rfl rfl rfl (e_back (l' := [some (.ref (aK E 0)), some (.int v1), some (.int (v2 + 1)), none, none]) x76_97 rfl (H))
  · replace H := H.2 c1
    have c2 := H.1
    replace H := H.2
    refine e_al x76_22 rfl (e_PK x76_23 (by decide) rfl rfl (e_PK x76_26 (by decide) rfl rfl (e_il x76_29 rfl ?_)))
    obtain ⟨q3, c5, H⟩ := H
    refine e_aaQ x76_30 c2 (fun z9 => absurd (z9.symm.trans c5) (by intro z8; cases z8)) (fun z7 c4 z9 => ?_)
    obtain rfl : q3 = z7 := Option.some.inj (c5.symm.trans z9)
    refine e_ast (l' := [some (.ref (aK E 0)), some (.int v1), some (.int v2), some (.int v3), some (.ref (aM E q3))]) x76_31 rfl rfl (e_al x76_33 rfl (e_nulR x76_35 (e_al x76_38 rfl (e_gM x76_40 c4 (e_al x76_43 rfl (e_gK x76_44 (by decide) rfl (e_ne x76_47 (fun c6 => ?_) (fun c6 => ?_))))))))
    · replace H := H.1 c6
      refine e_al x76_50 rfl (e_gM x76_52 c4 (e_il x76_55 rfl (e_ic x76_56 (e_ne x76_57 (fun c7 => ?_) (fun c7 => ?_)))))
      · replace H := H.1 c7
        refine e_ic x76_60 (e_goto x76_61 (e_ne x76_65 (fun c8 => ?_) (fun c8 => ?_)))
        · replace H := H.1 c8
          refine e_al x76_68 rfl (e_al x76_69 rfl (e_cV (l0 := [some (.ref (aK E 0)), some (.ref (aM E q3)), none]) x76_71 rfl rfl rfl rfl rfl (fun h hh => hh.tK (by decide)) (ES.mono H ?_)))
          rintro _ S9 ⟨rfl, H⟩
          have c10 := H.1
          have c11 := H.2.1
          replace H := H.2.2
          refine e_al x76_74 rfl (e_al x76_75 rfl (e_PK x76_76 (by decide) rfl rfl (e_al x76_79 rfl (e_gM x76_81 c10 (e_aaN x76_84 c11 (e_cV (l0 := [some (.ref (aK E 0)), some (.ref (aN E ((sM S9 q3 1).toNatClampNeg) 0)), none]) x76_85 rfl rfl rfl rfl rfl (fun h hh => hh.tK (by decide)) (ES.mono H ?_)))))))
          rintro _ S12 ⟨rfl, H⟩
          exact e_inc (l' := [some (.ref (aK E 0)), some (.int v1), some (.int v2), some (.int (v3 + 1)), some (.ref (aM E q3))]) x76_88 rfl rfl rfl (e_back (l' := [some (.ref (aK E 0)), some (.int v1), some (.int v2), some (.int (v3 + 1)), none]) x76_91 rfl (H))
        · replace H := H.2 c8
          exact e_inc (l' := [some (.ref (aK E 0)), some (.int v1), some (.int v2), some (.int (v3 + 1)), some (.ref (aM E q3))]) x76_88 rfl rfl rfl (e_back (l' := [some (.ref (aK E 0)), some (.int v1), some (.int v2), some (.int (v3 + 1)), none]) x76_91 rfl (H))
      · replace H := H.2 c7
        refine e_ic x76_64 (e_ne x76_65 (fun c13 => ?_) (fun c13 => ?_))
        · replace H := H.1 c13
          refine e_al x76_68 rfl (e_al x76_69 rfl (e_cV (l0 := [some (.ref (aK E 0)), some (.ref (aM E q3)), none]) x76_71 rfl rfl rfl rfl rfl (fun h hh => hh.tK (by decide)) (ES.mono H ?_)))
          rintro _ S14 ⟨rfl, H⟩
          have c15 := H.1
          have c16 := H.2.1
          replace H := H.2.2
          refine e_al x76_74 rfl (e_al x76_75 rfl (e_PK x76_76 (by decide) rfl rfl (e_al x76_79 rfl (e_gM x76_81 c15 (e_aaN x76_84 c16 (e_cV (l0 := [some (.ref (aK E 0)), some (.ref (aN E ((sM S14 q3 1).toNatClampNeg) 0)), none]) x76_85 rfl rfl rfl rfl rfl (fun h hh => hh.tK (by decide)) (ES.mono H ?_)))))))
          rintro _ S17 ⟨rfl, H⟩
          exact e_inc (l' := [some (.ref (aK E 0)), some (.int v1), some (.int v2), some (.int (v3 + 1)), some (.ref (aM E q3))]) x76_88 rfl rfl rfl (e_back (l' := [some (.ref (aK E 0)), some (.int v1), some (.int v2), some (.int (v3 + 1)), none]) x76_91 rfl (H))
        · replace H := H.2 c13
          exact e_inc (l' := [some (.ref (aK E 0)), some (.int v1), some (.int v2), some (.int (v3 + 1)), some (.ref (aM E q3))]) x76_88 rfl rfl rfl (e_back (l' := [some (.ref (aK E 0)), some (.int v1), some (.int v2), some (.int (v3 + 1)), none]) x76_91 rfl (H))
    · replace H := H.2 c6
      exact e_inc (l' := [some (.ref (aK E 0)), some (.int v1), some (.int v2), some (.int (v3 + 1)), some (.ref (aM E q3))]) x76_88 rfl rfl rfl (e_back (l' := [some (.ref (aK E 0)), some (.int v1), some (.int v2), some (.int (v3 + 1)), none]) x76_91 rfl (H))

-- RV.handOver(LRoundVotes$Message;)V, from 0
set_option maxRecDepth 8000 in
theorem T77 {E : mE} {q : Nat} {S : mS} {K : Option Value → mS → Prop} (hq : q < sU S) (H : ∀ S1, S1 = uK S 1 2 ((sK S 1 2) - 1) → ((¬ (sM S q 1) < 0 ∧ ((sM S q 1).toNatClampNeg) < eN E) ∧ (((sN S ((sM S q 1).toNatClampNeg) 0 8) ≤ 0 → (∀ S4, S4 = uK S1 0 7 ((sK S1 0 7) + 1) → (ES E 58 0 [some (.ref (aN E ((sM S q 1).toNatClampNeg) 0)), some (.ref (aM E q)), none] [] S4 (fun r S5 => ∃ x6 : Int32, r = some (.int x6) ∧ ((x6 = 0 → (ES E 19 0 [some (.ref (aK E 7)), some (.ref (aM E q)), some (.int (sK S5 0 5)), none] [] S5 (fun r S8 => r = none ∧ (K none S8)))) ∧ (¬ x6 = 0 → (K none S5))))))) ∧ (¬ (sN S ((sM S q 1).toNatClampNeg) 0 8) ≤ 0 → (∀ S9, S9 = uK S1 0 8 ((sK S1 0 8) + 1) → (K none S9)))))) : ES E 77 0 [some (.ref (aK E 0)), some (.ref (aM E q)), none] [] S K := by
  refine e_al x77_0 rfl (e_PK x77_1 (by decide) rfl rfl (e_dupr x77_4 (e_gK x77_5 (by decide) rfl (e_ic x77_8 (e_ii (v := ((sK S 1 2) - 1)) x77_9 rfl (e_pK x77_10 (by decide) rfl ?_))))))
  let S1 : mS := uK S 1 2 ((sK S 1 2) - 1)
  replace H := H S1 rfl
  show ES _ _ _ _ _ S1 _
  have c2 := H.1
  replace H := H.2
  refine e_al x77_13 rfl (e_PK x77_14 (by decide) rfl rfl (e_al x77_17 rfl (e_gM x77_18 hq (e_aaN x77_21 c2 (e_ast (l' := [some (.ref (aK E 0)), some (.ref (aM E q)), some (.ref (aN E ((sM S q 1).toNatClampNeg) 0))]) x77_22 rfl rfl (e_al x77_23 rfl (e_cV (l0 := [some (.ref (aN E ((sM S q 1).toNatClampNeg) 0))]) x77_24 rfl rfl rfl rfl rfl (fun h hh => hh.tN c2.2 (by decide)) (e_al x37_0 rfl (e_gN x37_1 c2.2 (by decide) rfl (e_le0 x37_4 (fun c3 => ?_) (fun c3 => ?_)))))))))))
  · replace H := H.1 c3
    refine e_ic x37_11 (e_rz x37_12 (by decide) (e_eq0 x77_27 (fun _ => ?_) (fun z9 => absurd (by decide) z9)))
    refine e_al x77_41 rfl (e_dupr x77_42 (e_gK x77_43 (by decide) rfl (e_ic x77_46 (e_ii (v := ((sK S1 0 7) + 1)) x77_47 rfl (e_pK x77_48 (by decide) rfl ?_)))))
    let S4 : mS := uK S1 0 7 ((sK S1 0 7) + 1)
    replace H := H S4 rfl
    show ES _ _ _ _ _ S4 _
    refine e_al x77_51 rfl (e_al x77_52 rfl (e_cV (l0 := [some (.ref (aN E ((sM S q 1).toNatClampNeg) 0)), some (.ref (aM E q)), none]) x77_53 rfl rfl rfl rfl rfl (fun h hh => hh.tN c2.2 (by decide)) (ES.mono H ?_)))
    rintro _ S5 ⟨x6, rfl, H⟩
    refine e_ne0 x77_56 (fun c7 => ?_) (fun c7 => ?_)
    · replace H := H.1 c7
      refine e_al x77_59 rfl (e_PK x77_60 (by decide) rfl rfl (e_al x77_63 rfl (e_al x77_64 rfl (e_gK x77_65 (by decide) rfl (e_cV (l0 := [some (.ref (aK E 7)), some (.ref (aM E q)), some (.int (sK S5 0 5)), none]) x77_68 rfl rfl rfl rfl rfl (fun h hh => hh.tK (by decide)) (ES.mono H ?_))))))
      rintro _ S8 ⟨rfl, H⟩
      exact e_rv x77_71 H
    · replace H := H.2 c7
      exact e_rv x77_71 H
  · replace H := H.2 c3
    refine e_ic x37_7 (e_goto x37_8 (e_rz x37_12 (by decide) (e_eq0 x77_27 (fun z9 => absurd z9 (by decide)) (fun _ => ?_))))
    refine e_al x77_30 rfl (e_dupr x77_31 (e_gK x77_32 (by decide) rfl (e_ic x77_35 (e_ii (v := ((sK S1 0 8) + 1)) x77_36 rfl (e_pK x77_37 (by decide) rfl ?_)))))
    let S9 : mS := uK S1 0 8 ((sK S1 0 8) + 1)
    replace H := H S9 rfl
    show ES _ _ _ _ _ S9 _
    exact e_rv x77_40 H

-- RV.endTimers()V, from 0
set_option maxRecDepth 8000 in
theorem T78 {E : mE}  {S : mS} {K : Option Value → mS → Prop}  (H : ES E 78 2 [some (.ref (aK E 0)), some (.int 0), none, none] [] S K) : ES E 78 0 [some (.ref (aK E 0)), none, none, none] [] S K := by
  exact e_ic x78_0 (e_ist (l' := [some (.ref (aK E 0)), some (.int 0), none, none]) x78_1 rfl rfl (H))

-- RV.endTimers()V, from 2
set_option maxRecDepth 8000 in
theorem T78_2 {E : mE} {v1 : Int32} {S : mS} {K : Option Value → mS → Prop}  (H : ((sK S 9 0) ≤ v1 → (K none S)) ∧ (¬ (sK S 9 0) ≤ v1 → ((¬ v1 < 0 ∧ (v1.toNatClampNeg) < eN E) ∧ (ES E 78 22 [some (.ref (aK E 0)), some (.int v1), some (.ref (aN E (v1.toNatClampNeg) 0)), some (.int 0)] [] S K)))) : ES E 78 2 [some (.ref (aK E 0)), some (.int v1), none, none] [] S K := by
  refine e_il x78_2 rfl (e_al x78_3 rfl (e_PK x78_4 (by decide) rfl rfl (e_gK x78_7 (by decide) rfl (e_ge x78_10 (fun c1 => ?_) (fun c1 => ?_)))))
  · replace H := H.1 c1
    exact e_rv x78_73 H
  · replace H := H.2 c1
    have c2 := H.1
    replace H := H.2
    exact e_al x78_13 rfl (e_PK x78_14 (by decide) rfl rfl (e_il x78_17 rfl (e_aaN x78_18 c2 (e_ast (l' := [some (.ref (aK E 0)), some (.int v1), some (.ref (aN E (v1.toNatClampNeg) 0)), none]) x78_19 rfl rfl (e_ic x78_20 (e_ist (l' := [some (.ref (aK E 0)), some (.int v1), some (.ref (aN E (v1.toNatClampNeg) 0)), some (.int 0)]) x78_21 rfl rfl (H)))))))

-- RV.endTimers()V, from 22
set_option maxRecDepth 8000 in
theorem T78_22 {E : mE} {v1 : Int32} {i2 : Nat} {v3 : Int32} {S : mS} {K : Option Value → mS → Prop} (hi2 : i2 < eN E) (H : ((3 : Int32) ≤ v3 → (ES E 78 2 [some (.ref (aK E 0)), some (.int (v1 + 1)), none, none] [] S K)) ∧ (¬ (3 : Int32) ≤ v3 → (((sN S i2 0 8) ≤ 0 → ((¬ v3 < 0 ∧ (v3.toNatClampNeg) < 3) ∧ (((sN S i2 3 (v3.toNatClampNeg)) = (sK S 0 5) → (ES E 59 0 [some (.ref (aN E i2 0)), some (.int v3), some (.int (sK S 0 5))] [] S (fun r S5 => r = none ∧ (ES E 71 0 [some (.ref (aK E 0)), some (.ref (aN E i2 0)), none] [] S5 (fun r S6 => r = none ∧ (ES E 78 22 [some (.ref (aK E 0)), some (.int v1), some (.ref (aN E i2 0)), some (.int (v3 + 1))] [] S6 K)))))) ∧ (¬ (sN S i2 3 (v3.toNatClampNeg)) = (sK S 0 5) → (ES E 78 22 [some (.ref (aK E 0)), some (.int v1), some (.ref (aN E i2 0)), some (.int (v3 + 1))] [] S K))))) ∧ (¬ (sN S i2 0 8) ≤ 0 → (ES E 78 22 [some (.ref (aK E 0)), some (.int v1), some (.ref (aN E i2 0)), some (.int (v3 + 1))] [] S K))))) : ES E 78 22 [some (.ref (aK E 0)), some (.int v1), some (.ref (aN E i2 0)), some (.int v3)] [] S K := by
  refine e_il x78_22 rfl (e_ic x78_23 (e_ge x78_24 (fun c1 => ?_) (fun c1 => ?_)))
  · replace H := H.1 c1
    exact e_inc (l' := [some (.ref (aK E 0)), some (.int (v1 + 1)), some (.ref (aN E i2 0)), some (.int v3)]) x78_67 rfl rfl rfl (e_back (l' := [some (.ref (aK E 0)), some (.int (v1 + 1)), none, none]) x78_70 rfl (H))
  · replace H := H.2 c1
    refine e_al x78_27 rfl (e_cV (l0 := [some (.ref (aN E i2 0))]) x78_28 rfl rfl rfl rfl rfl (fun h hh => hh.tN hi2 (by decide)) (e_al x37_0 rfl (e_gN x37_1 hi2 (by decide) rfl (e_le0 x37_4 (fun c2 => ?_) (fun c2 => ?_)))))
    · replace H := H.1 c2
      refine e_ic x37_11 (e_rz x37_12 (by decide) (e_ne0 x78_31 (fun _ => ?_) (fun z9 => absurd (by decide) z9)))
      have c3 := H.1
      replace H := H.2
      refine e_al x78_34 rfl (e_PN x78_35 hi2 (by decide) rfl rfl (e_il x78_38 rfl (e_iaN x78_39 hi2 (by decide) rfl c3 (e_al x78_40 rfl (e_gK x78_41 (by decide) rfl (e_ne x78_44 (fun c4 => ?_) (fun c4 => ?_)))))))
      · replace H := H.1 c4
        refine e_al x78_47 rfl (e_il x78_48 rfl (e_al x78_49 rfl (e_gK x78_50 (by decide) rfl (e_cV (l0 := [some (.ref (aN E i2 0)), some (.int v3), some (.int (sK S 0 5))]) x78_53 rfl rfl rfl rfl rfl (fun h hh => hh.tN hi2 (by decide)) (ES.mono H ?_)))))
        rintro _ S5 ⟨rfl, H⟩
        refine e_al x78_56 rfl (e_al x78_57 rfl (e_cV (l0 := [some (.ref (aK E 0)), some (.ref (aN E i2 0)), none]) x78_58 rfl rfl rfl rfl rfl (fun h hh => hh.tK (by decide)) (ES.mono H ?_)))
        rintro _ S6 ⟨rfl, H⟩
        exact e_inc (l' := [some (.ref (aK E 0)), some (.int v1), some (.ref (aN E i2 0)), some (.int (v3 + 1))]) x78_61 rfl rfl rfl (e_back (l' := [some (.ref (aK E 0)), some (.int v1), some (.ref (aN E i2 0)), some (.int (v3 + 1))]) x78_64 rfl (H))
      · replace H := H.2 c4
        exact e_inc (l' := [some (.ref (aK E 0)), some (.int v1), some (.ref (aN E i2 0)), some (.int (v3 + 1))]) x78_61 rfl rfl rfl (e_back (l' := [some (.ref (aK E 0)), some (.int v1), some (.ref (aN E i2 0)), some (.int (v3 + 1))]) x78_64 rfl (H))
    · replace H := H.2 c2
      refine e_ic x37_7 (e_goto x37_8 (e_rz x37_12 (by decide) (e_ne0 x78_31 (fun z9 => absurd z9 (by decide)) (fun _ => ?_))))
      exact e_inc (l' := [some (.ref (aK E 0)), some (.int v1), some (.ref (aN E i2 0)), some (.int (v3 + 1))]) x78_61 rfl rfl rfl (e_back (l' := [some (.ref (aK E 0)), some (.int v1), some (.ref (aN E i2 0)), some (.int (v3 + 1))]) x78_64 rfl (H))

-- RV.catchUp(I)I, from 0
set_option maxRecDepth 8000 in
theorem T79 {E : mE} {a1 : Int32} {S : mS} {K : Option Value → mS → Prop}  (H : (a1 < 0 → (K (some (.int (-1))) S)) ∧ (¬ a1 < 0 → (((sK S 9 0) ≤ a1 → (K (some (.int (-1))) S)) ∧ (¬ (sK S 9 0) ≤ a1 → ((¬ a1 < 0 ∧ (a1.toNatClampNeg) < eN E) ∧ (((sK S 0 5) = 0 → (K (some (.int (-2))) S)) ∧ (¬ (sK S 0 5) = 0 → (((sN S (a1.toNatClampNeg) 0 8) ≤ 0 → (ES E 79 42 [some (.ref (aK E 0)), some (.int a1), some (.ref (aN E (a1.toNatClampNeg) 0)), some (.int 0), some (.int (sN S (a1.toNatClampNeg) 0 2)), none] [] S K)) ∧ (¬ (sN S (a1.toNatClampNeg) 0 8) ≤ 0 → (K (some (.int (-2))) S)))))))))) : ES E 79 0 [some (.ref (aK E 0)), some (.int a1), none, none, none, none] [] S K := by
  refine e_al x79_0 rfl (e_il x79_1 rfl (e_cV (l0 := [some (.ref (aK E 0)), some (.int a1)]) x79_2 rfl rfl rfl rfl rfl (fun h hh => hh.tK (by decide)) (e_il x63_0 rfl (e_lt0 x63_1 (fun c1 => ?_) (fun c1 => ?_)))))
  · replace H := H.1 c1
    refine e_ic x63_19 (e_rz x63_20 (by decide) (e_ne0 x79_5 (fun _ => ?_) (fun z9 => absurd (by decide) z9)))
    exact e_ic x79_8 (e_ri x79_9 H)
  · replace H := H.2 c1
    refine e_il x63_4 rfl (e_al x63_5 rfl (e_PK x63_6 (by decide) rfl rfl (e_gK x63_9 (by decide) rfl (e_ge x63_12 (fun c2 => ?_) (fun c2 => ?_)))))
    · replace H := H.1 c2
      refine e_ic x63_19 (e_rz x63_20 (by decide) (e_ne0 x79_5 (fun _ => ?_) (fun z9 => absurd (by decide) z9)))
      exact e_ic x79_8 (e_ri x79_9 H)
    · replace H := H.2 c2
      refine e_ic x63_15 (e_goto x63_16 (e_rz x63_20 (by decide) (e_ne0 x79_5 (fun z9 => absurd z9 (by decide)) (fun _ => ?_))))
      have c3 := H.1
      replace H := H.2
      refine e_al x79_10 rfl (e_PK x79_11 (by decide) rfl rfl (e_il x79_14 rfl (e_aaN x79_15 c3 (e_ast (l' := [some (.ref (aK E 0)), some (.int a1), some (.ref (aN E (a1.toNatClampNeg) 0)), none, none, none]) x79_16 rfl rfl (e_al x79_17 rfl (e_gK x79_18 (by decide) rfl (e_eq0 x79_21 (fun c4 => ?_) (fun c4 => ?_))))))))
      · replace H := H.1 c4
        exact e_ic x79_31 (e_ri x79_33 H)
      · replace H := H.2 c4
        refine e_al x79_24 rfl (e_cV (l0 := [some (.ref (aN E (a1.toNatClampNeg) 0))]) x79_25 rfl rfl rfl rfl rfl (fun h hh => hh.tN c3.2 (by decide)) (e_al x37_0 rfl (e_gN x37_1 c3.2 (by decide) rfl (e_le0 x37_4 (fun c5 => ?_) (fun c5 => ?_)))))
        · replace H := H.1 c5
          refine e_ic x37_11 (e_rz x37_12 (by decide) (e_eq0 x79_28 (fun _ => ?_) (fun z9 => absurd (by decide) z9)))
          exact e_ic x79_34 (e_ist (l' := [some (.ref (aK E 0)), some (.int a1), some (.ref (aN E (a1.toNatClampNeg) 0)), some (.int 0), none, none]) x79_35 rfl rfl (e_al x79_36 rfl (e_gN x79_37 c3.2 (by decide) rfl (e_ist (l' := [some (.ref (aK E 0)), some (.int a1), some (.ref (aN E (a1.toNatClampNeg) 0)), some (.int 0), some (.int (sN S (a1.toNatClampNeg) 0 2)), none]) x79_40 rfl rfl (H)))))
        · replace H := H.2 c5
          refine e_ic x37_7 (e_goto x37_8 (e_rz x37_12 (by decide) (e_eq0 x79_28 (fun z9 => absurd z9 (by decide)) (fun _ => ?_))))
          exact e_ic x79_31 (e_ri x79_33 H)

-- RV.catchUp(I)I, from 42
set_option maxRecDepth 8000 in
theorem T79_42 {E : mE} {v1 : Int32} {i2 : Nat} {v3 : Int32} {v4 : Int32} {S : mS} {K : Option Value → mS → Prop} (hi2 : i2 < eN E) (H : ((40 : Int32) < v4 → ((v3 ≤ 0 → (K (some (.int v3)) S)) ∧ (¬ v3 ≤ 0 → (ES E 38 0 [some (.ref (aN E i2 0)), some (.int 0), some (.int (sK S 0 5)), none] [] S (fun r S3 => r = none ∧ (ES E 71 0 [some (.ref (aK E 0)), some (.ref (aN E i2 0)), none] [] S3 (fun r S4 => r = none ∧ (K (some (.int v3)) S4)))))))) ∧ (¬ (40 : Int32) < v4 → (ES E 80 0 [some (.ref (aK E 0)), some (.int v1), some (.int v4), none] [] S (fun r S5 => ∃ x6 : Int32, r = some (.int x6) ∧ (((0 : Int32) ≤ x6 → ((¬ x6 < 0 ∧ (x6.toNatClampNeg) < eN E) ∧ (ES E 60 0 [some (.ref (aN E i2 0)), some (.ref (aN E (x6.toNatClampNeg) 0)), none] [] S5 (fun r S9 => r = none ∧ (ES E 79 42 [some (.ref (aK E 0)), some (.int v1), some (.ref (aN E i2 0)), some (.int (v3 + 1)), some (.int (v4 + 1)), none] [] S9 K))))) ∧ (¬ (0 : Int32) ≤ x6 → ((v3 ≤ 0 → (K (some (.int v3)) S5)) ∧ (¬ v3 ≤ 0 → (ES E 38 0 [some (.ref (aN E i2 0)), some (.int 0), some (.int (sK S5 0 5)), none] [] S5 (fun r S11 => r = none ∧ (ES E 71 0 [some (.ref (aK E 0)), some (.ref (aN E i2 0)), none] [] S11 (fun r S12 => r = none ∧ (K (some (.int v3)) S12))))))))))))) : ES E 79 42 [some (.ref (aK E 0)), some (.int v1), some (.ref (aN E i2 0)), some (.int v3), some (.int v4), none] [] S K := by
  refine e_il x79_42 rfl (e_ic x79_44 (e_gt x79_46 (fun c1 => ?_) (fun c1 => ?_)))
  · replace H := H.1 c1
    refine e_il x79_86 rfl (e_le0 x79_87 (fun c2 => ?_) (fun c2 => ?_))
    · replace H := H.1 c2
      exact e_il x79_104 rfl (e_ri x79_105 H)
    · replace H := H.2 c2
      refine e_al x79_90 rfl (e_ic x79_91 (e_al x79_92 rfl (e_gK x79_93 (by decide) rfl (e_cV (l0 := [some (.ref (aN E i2 0)), some (.int 0), some (.int (sK S 0 5)), none]) x79_96 rfl rfl rfl rfl rfl (fun h hh => hh.tN hi2 (by decide)) (ES.mono H ?_)))))
      rintro _ S3 ⟨rfl, H⟩
      refine e_al x79_99 rfl (e_al x79_100 rfl (e_cV (l0 := [some (.ref (aK E 0)), some (.ref (aN E i2 0)), none]) x79_101 rfl rfl rfl rfl rfl (fun h hh => hh.tK (by decide)) (ES.mono H ?_)))
      rintro _ S4 ⟨rfl, H⟩
      exact e_il x79_104 rfl (e_ri x79_105 H)
  · replace H := H.2 c1
    refine e_al x79_49 rfl (e_il x79_50 rfl (e_il x79_51 rfl (e_cV (l0 := [some (.ref (aK E 0)), some (.int v1), some (.int v4), none]) x79_53 rfl rfl rfl rfl rfl (fun h hh => hh.tK (by decide)) (ES.mono H ?_))))
    rintro _ S5 ⟨x6, rfl, H⟩
    refine e_ist (l' := [some (.ref (aK E 0)), some (.int v1), some (.ref (aN E i2 0)), some (.int v3), some (.int v4), some (.int x6)]) x79_56 rfl rfl (e_il x79_58 rfl (e_ge0 x79_60 (fun c7 => ?_) (fun c7 => ?_)))
    · replace H := H.1 c7
      have c8 := H.1
      replace H := H.2
      refine e_al x79_66 rfl (e_al x79_67 rfl (e_PK x79_68 (by decide) rfl rfl (e_il x79_71 rfl (e_aaN x79_73 c8 (e_cV (l0 := [some (.ref (aN E i2 0)), some (.ref (aN E (x6.toNatClampNeg) 0)), none]) x79_74 rfl rfl rfl rfl rfl (fun h hh => hh.tN hi2 (by decide)) (ES.mono H ?_))))))
      rintro _ S9 ⟨rfl, H⟩
      exact e_inc (l' := [some (.ref (aK E 0)), some (.int v1), some (.ref (aN E i2 0)), some (.int (v3 + 1)), some (.int v4), some (.int x6)]) x79_77 rfl rfl rfl (e_inc (l' := [some (.ref (aK E 0)), some (.int v1), some (.ref (aN E i2 0)), some (.int (v3 + 1)), some (.int (v4 + 1)), some (.int x6)]) x79_80 rfl rfl rfl (e_back (l' := [some (.ref (aK E 0)), some (.int v1), some (.ref (aN E i2 0)), some (.int (v3 + 1)), some (.int (v4 + 1)), none]) x79_83 rfl (H)))
    · replace H := H.2 c7
      refine e_goto x79_63 (e_il x79_86 rfl (e_le0 x79_87 (fun c10 => ?_) (fun c10 => ?_)))
      · replace H := H.1 c10
        exact e_il x79_104 rfl (e_ri x79_105 H)
      · replace H := H.2 c10
        refine e_al x79_90 rfl (e_ic x79_91 (e_al x79_92 rfl (e_gK x79_93 (by decide) rfl (e_cV (l0 := [some (.ref (aN E i2 0)), some (.int 0), some (.int (sK S5 0 5)), none]) x79_96 rfl rfl rfl rfl rfl (fun h hh => hh.tN hi2 (by decide)) (ES.mono H ?_)))))
        rintro _ S11 ⟨rfl, H⟩
        refine e_al x79_99 rfl (e_al x79_100 rfl (e_cV (l0 := [some (.ref (aK E 0)), some (.ref (aN E i2 0)), none]) x79_101 rfl rfl rfl rfl rfl (fun h hh => hh.tK (by decide)) (ES.mono H ?_)))
        rintro _ S12 ⟨rfl, H⟩
        exact e_il x79_104 rfl (e_ri x79_105 H)

-- RV.tellerOf(II)I, from 0
set_option maxRecDepth 8000 in
theorem T80 {E : mE} {a1 : Int32} {a2 : Int32} {S : mS} {K : Option Value → mS → Prop}  (H : ES E 80 2 [some (.ref (aK E 0)), some (.int a1), some (.int a2), some (.int 0)] [] S K) : ES E 80 0 [some (.ref (aK E 0)), some (.int a1), some (.int a2), none] [] S K := by
  exact e_ic x80_0 (e_ist (l' := [some (.ref (aK E 0)), some (.int a1), some (.int a2), some (.int 0)]) x80_1 rfl rfl (H))

-- RV.tellerOf(II)I, from 2
set_option maxRecDepth 8000 in
theorem T80_2 {E : mE} {v1 : Int32} {v2 : Int32} {v3 : Int32} {S : mS} {K : Option Value → mS → Prop}  (H : ((sK S 9 0) ≤ v3 → (K (some (.int (-1))) S)) ∧ (¬ (sK S 9 0) ≤ v3 → ((v3 = v1 → (ES E 80 2 [some (.ref (aK E 0)), some (.int v1), some (.int v2), some (.int (v3 + 1))] [] S K)) ∧ (¬ v3 = v1 → ((¬ v3 < 0 ∧ (v3.toNatClampNeg) < eN E) ∧ (((sN S (v3.toNatClampNeg) 0 8) ≤ 0 → ((¬ v2 < 0 ∧ (v2.toNatClampNeg) < 41) ∧ (((sN S (v3.toNatClampNeg) 6 (v2.toNatClampNeg)) = 0 → (ES E 80 2 [some (.ref (aK E 0)), some (.int v1), some (.int v2), some (.int (v3 + 1))] [] S K)) ∧ (¬ (sN S (v3.toNatClampNeg) 6 (v2.toNatClampNeg)) = 0 → (K (some (.int v3)) S))))) ∧ (¬ (sN S (v3.toNatClampNeg) 0 8) ≤ 0 → (ES E 80 2 [some (.ref (aK E 0)), some (.int v1), some (.int v2), some (.int (v3 + 1))] [] S K)))))))) : ES E 80 2 [some (.ref (aK E 0)), some (.int v1), some (.int v2), some (.int v3)] [] S K := by
  refine e_il x80_2 rfl (e_al x80_3 rfl (e_PK x80_4 (by decide) rfl rfl (e_gK x80_7 (by decide) rfl (e_ge x80_10 (fun c1 => ?_) (fun c1 => ?_)))))
  · replace H := H.1 c1
    exact e_ic x80_54 (e_ri x80_55 H)
  · replace H := H.2 c1
    refine e_il x80_13 rfl (e_il x80_14 rfl (e_eq x80_15 (fun c2 => ?_) (fun c2 => ?_)))
    · replace H := H.1 c2
      exact e_inc (l' := [some (.ref (aK E 0)), some (.int v1), some (.int v2), some (.int (v3 + 1))]) x80_48 rfl rfl rfl (e_back (l' := [some (.ref (aK E 0)), some (.int v1), some (.int v2), some (.int (v3 + 1))]) x80_51 rfl (H))
    · replace H := H.2 c2
      have c3 := H.1
      replace H := H.2
      refine e_al x80_18 rfl (e_PK x80_19 (by decide) rfl rfl (e_il x80_22 rfl (e_aaN x80_23 c3 (e_cV (l0 := [some (.ref (aN E (v3.toNatClampNeg) 0))]) x80_24 rfl rfl rfl rfl rfl (fun h hh => hh.tN c3.2 (by decide)) (e_al x37_0 rfl (e_gN x37_1 c3.2 (by decide) rfl (e_le0 x37_4 (fun c4 => ?_) (fun c4 => ?_))))))))
      · replace H := H.1 c4
        refine e_ic x37_11 (e_rz x37_12 (by decide) (e_ne0 x80_27 (fun _ => ?_) (fun z9 => absurd (by decide) z9)))
        have c5 := H.1
        replace H := H.2
        refine e_al x80_30 rfl (e_PK x80_31 (by decide) rfl rfl (e_il x80_34 rfl (e_aaN x80_35 c3 (e_PN x80_36 c3.2 (by decide) rfl rfl (e_il x80_39 rfl (e_cV (l0 := [some (.ref (aN E (v3.toNatClampNeg) 5)), some (.int v2)]) x80_40 rfl rfl rfl rfl rfl (fun h hh => hh.tN c3.2 (by decide)) (e_al x17_0 rfl (e_PN x17_1 c3.2 (by decide) rfl rfl (e_il x17_4 rfl (e_iaN x17_5 c3.2 (by decide) rfl c5 (e_eq0 x17_6 (fun c6 => ?_) (fun c6 => ?_))))))))))))
        · replace H := H.1 c6
          refine e_ic x17_13 (e_rz x17_14 (by decide) (e_eq0 x80_43 (fun _ => ?_) (fun z9 => absurd (by decide) z9)))
          exact e_inc (l' := [some (.ref (aK E 0)), some (.int v1), some (.int v2), some (.int (v3 + 1))]) x80_48 rfl rfl rfl (e_back (l' := [some (.ref (aK E 0)), some (.int v1), some (.int v2), some (.int (v3 + 1))]) x80_51 rfl (H))
        · replace H := H.2 c6
          refine e_ic x17_9 (e_goto x17_10 (e_rz x17_14 (by decide) (e_eq0 x80_43 (fun z9 => absurd z9 (by decide)) (fun _ => ?_))))
          exact e_il x80_46 rfl (e_ri x80_47 H)
      · replace H := H.2 c4
        refine e_ic x37_7 (e_goto x37_8 (e_rz x37_12 (by decide) (e_ne0 x80_27 (fun z9 => absurd z9 (by decide)) (fun _ => ?_))))
        exact e_inc (l' := [some (.ref (aK E 0)), some (.int v1), some (.int v2), some (.int (v3 + 1))]) x80_48 rfl rfl rfl (e_back (l' := [some (.ref (aK E 0)), some (.int v1), some (.int v2), some (.int (v3 + 1))]) x80_51 rfl (H))

-- RV.node(II)I, from 0
set_option maxRecDepth 8000 in
theorem T81 {E : mE} {a1 : Int32} {a2 : Int32} {S : mS} {K : Option Value → mS → Prop}  (H : (a1 < 0 → (K (some (.int (-1))) S)) ∧ (¬ a1 < 0 → (((sK S 9 0) ≤ a1 → (K (some (.int (-1))) S)) ∧ (¬ (sK S 9 0) ≤ a1 → ((¬ a1 < 0 ∧ (a1.toNatClampNeg) < eN E) ∧ ((a2 = 0 → (K (some (.int (sN S (a1.toNatClampNeg) 0 2))) S)) ∧ (a2 = 1 → (K (some (.int (sN S (a1.toNatClampNeg) 0 3))) S)) ∧ (a2 = 2 → (K (some (.int (sN S (a1.toNatClampNeg) 0 4))) S)) ∧ (a2 = 3 → (K (some (.int (sN S (a1.toNatClampNeg) 1 0))) S)) ∧ (a2 = 4 → (K (some (.int (sN S (a1.toNatClampNeg) 1 1))) S)) ∧ (a2 = 5 → (K (some (.int (sN S (a1.toNatClampNeg) 2 0))) S)) ∧ (a2 = 6 → (K (some (.int (sN S (a1.toNatClampNeg) 2 1))) S)) ∧ (a2 = 7 → (K (some (.int (if (0 : Int32) < ((sN S (a1.toNatClampNeg) 0 8) - (sK S 0 5)) then ((sN S (a1.toNatClampNeg) 0 8) - (sK S 0 5)) else 0))) S)) ∧ (a2 = 8 → (K (some (.int (sN S (a1.toNatClampNeg) 0 7))) S)) ∧ (a2 = 9 → ((¬ (0 : Int32) < 0 ∧ ((0 : Int32).toNatClampNeg) < 3) ∧ (K (some (.int (sN S (a1.toNatClampNeg) 3 ((0 : Int32).toNatClampNeg)))) S))) ∧ (a2 = 10 → ((¬ (1 : Int32) < 0 ∧ ((1 : Int32).toNatClampNeg) < 3) ∧ (K (some (.int (sN S (a1.toNatClampNeg) 3 ((1 : Int32).toNatClampNeg)))) S))) ∧ (a2 = 11 → ((¬ (2 : Int32) < 0 ∧ ((2 : Int32).toNatClampNeg) < 3) ∧ (K (some (.int (sN S (a1.toNatClampNeg) 3 ((2 : Int32).toNatClampNeg)))) S))) ∧ (a2 = 12 → (K (some (.int (sN S (a1.toNatClampNeg) 12 0))) S)) ∧ (¬ a2 = 0 → ((¬ a2 = 1 → ((¬ a2 = 2 → ((¬ a2 = 3 → ((¬ a2 = 4 → ((¬ a2 = 5 → ((¬ a2 = 6 → ((¬ a2 = 7 → ((¬ a2 = 8 → ((¬ a2 = 9 → ((¬ a2 = 10 → ((¬ a2 = 11 → ((¬ a2 = 12 → (K (some (.int (-1))) S)))))))))))))))))))))))))))))))) : ES E 81 0 [some (.ref (aK E 0)), some (.int a1), some (.int a2), none] [] S K := by
  refine e_al x81_0 rfl (e_il x81_1 rfl (e_cV (l0 := [some (.ref (aK E 0)), some (.int a1)]) x81_2 rfl rfl rfl rfl rfl (fun h hh => hh.tK (by decide)) (e_il x63_0 rfl (e_lt0 x63_1 (fun c1 => ?_) (fun c1 => ?_)))))
  · replace H := H.1 c1
    refine e_ic x63_19 (e_rz x63_20 (by decide) (e_ne0 x81_5 (fun _ => ?_) (fun z9 => absurd (by decide) z9)))
    exact e_ic x81_8 (e_ri x81_9 H)
  · replace H := H.2 c1
    refine e_il x63_4 rfl (e_al x63_5 rfl (e_PK x63_6 (by decide) rfl rfl (e_gK x63_9 (by decide) rfl (e_ge x63_12 (fun c2 => ?_) (fun c2 => ?_)))))
    · replace H := H.1 c2
      refine e_ic x63_19 (e_rz x63_20 (by decide) (e_ne0 x81_5 (fun _ => ?_) (fun z9 => absurd (by decide) z9)))
      exact e_ic x81_8 (e_ri x81_9 H)
    · replace H := H.2 c2
      refine e_ic x63_15 (e_goto x63_16 (e_rz x63_20 (by decide) (e_ne0 x81_5 (fun z9 => absurd z9 (by decide)) (fun _ => ?_))))
      have c3 := H.1
      replace H := H.2
      refine e_al x81_10 rfl (e_PK x81_11 (by decide) rfl rfl (e_il x81_14 rfl (e_aaN x81_15 c3 (e_ast (l' := [some (.ref (aK E 0)), some (.int a1), some (.int a2), some (.ref (aN E (a1.toNatClampNeg) 0))]) x81_16 rfl rfl (e_il x81_17 rfl ?_)))))
      by_cases c4 : a2 = 0
      · replace H := H.1 c4
        exact e_tswI (j := 0) x81_18 c4 (by decide) (by decide) rfl (e_al x81_84 rfl (e_gN x81_85 c3.2 (by decide) rfl (e_ri x81_88 H)))
      replace H := H.2
      by_cases c5 : a2 = 1
      · replace H := H.1 c5
        exact e_tswI (j := 1) x81_18 c5 (by decide) (by decide) rfl (e_al x81_89 rfl (e_gN x81_90 c3.2 (by decide) rfl (e_ri x81_93 H)))
      replace H := H.2
      by_cases c6 : a2 = 2
      · replace H := H.1 c6
        exact e_tswI (j := 2) x81_18 c6 (by decide) (by decide) rfl (e_al x81_94 rfl (e_gN x81_95 c3.2 (by decide) rfl (e_ri x81_98 H)))
      replace H := H.2
      by_cases c7 : a2 = 3
      · replace H := H.1 c7
        exact e_tswI (j := 3) x81_18 c7 (by decide) (by decide) rfl (e_al x81_99 rfl (e_PN x81_100 c3.2 (by decide) rfl rfl (e_gN x81_103 c3.2 (by decide) rfl (e_ri x81_106 H))))
      replace H := H.2
      by_cases c8 : a2 = 4
      · replace H := H.1 c8
        exact e_tswI (j := 4) x81_18 c8 (by decide) (by decide) rfl (e_al x81_107 rfl (e_PN x81_108 c3.2 (by decide) rfl rfl (e_gN x81_111 c3.2 (by decide) rfl (e_ri x81_114 H))))
      replace H := H.2
      by_cases c9 : a2 = 5
      · replace H := H.1 c9
        exact e_tswI (j := 5) x81_18 c9 (by decide) (by decide) rfl (e_al x81_115 rfl (e_PN x81_116 c3.2 (by decide) rfl rfl (e_gN x81_119 c3.2 (by decide) rfl (e_ri x81_122 H))))
      replace H := H.2
      by_cases c10 : a2 = 6
      · replace H := H.1 c10
        exact e_tswI (j := 6) x81_18 c10 (by decide) (by decide) rfl (e_al x81_123 rfl (e_PN x81_124 c3.2 (by decide) rfl rfl (e_gN x81_127 c3.2 (by decide) rfl (e_ri x81_130 H))))
      replace H := H.2
      by_cases c11 : a2 = 7
      · replace H := H.1 c11
        exact e_tswI (j := 7) x81_18 c11 (by decide) (by decide) rfl (e_ic x81_131 (e_al x81_132 rfl (e_gN x81_133 c3.2 (by decide) rfl (e_al x81_136 rfl (e_gK x81_137 (by decide) rfl (e_ii (v := ((sN S (a1.toNatClampNeg) 0 8) - (sK S 0 5))) x81_140 rfl (e_max x81_141 rfl (e_ri x81_144 H))))))))
      replace H := H.2
      by_cases c12 : a2 = 8
      · replace H := H.1 c12
        exact e_tswI (j := 8) x81_18 c12 (by decide) (by decide) rfl (e_al x81_145 rfl (e_gN x81_146 c3.2 (by decide) rfl (e_ri x81_149 H)))
      replace H := H.2
      by_cases c13 : a2 = 9
      · replace H := H.1 c13
        have c14 := H.1
        replace H := H.2
        exact e_tswI (j := 9) x81_18 c13 (by decide) (by decide) rfl (e_al x81_150 rfl (e_PN x81_151 c3.2 (by decide) rfl rfl (e_ic x81_154 (e_iaN x81_155 c3.2 (by decide) rfl c14 (e_ri x81_156 H)))))
      replace H := H.2
      by_cases c15 : a2 = 10
      · replace H := H.1 c15
        have c16 := H.1
        replace H := H.2
        exact e_tswI (j := 10) x81_18 c15 (by decide) (by decide) rfl (e_al x81_157 rfl (e_PN x81_158 c3.2 (by decide) rfl rfl (e_ic x81_161 (e_iaN x81_162 c3.2 (by decide) rfl c16 (e_ri x81_163 H)))))
      replace H := H.2
      by_cases c17 : a2 = 11
      · replace H := H.1 c17
        have c18 := H.1
        replace H := H.2
        exact e_tswI (j := 11) x81_18 c17 (by decide) (by decide) rfl (e_al x81_164 rfl (e_PN x81_165 c3.2 (by decide) rfl rfl (e_ic x81_168 (e_iaN x81_169 c3.2 (by decide) rfl c18 (e_ri x81_170 H)))))
      replace H := H.2
      by_cases c19 : a2 = 12
      · replace H := H.1 c19
        exact e_tswI (j := 12) x81_18 c19 (by decide) (by decide) rfl (e_al x81_171 rfl (e_PN x81_172 c3.2 (by decide) rfl rfl (e_gN x81_175 c3.2 (by decide) rfl (e_ri x81_178 H))))
      replace H := H.2
      replace H := H c4
      replace H := H c5
      replace H := H c6
      replace H := H c7
      replace H := H c8
      replace H := H c9
      replace H := H c10
      replace H := H c11
      replace H := H c12
      replace H := H c13
      replace H := H c15
      replace H := H c17
      replace H := H c19
      have hs : ∀ j, j < 13 → ¬ a2 = nI j := fun j hj => match j, hj with
        | 0, _ => c4
        | 1, _ => c5
        | 2, _ => c6
        | 3, _ => c7
        | 4, _ => c8
        | 5, _ => c9
        | 6, _ => c10
        | 7, _ => c11
        | 8, _ => c12
        | 9, _ => c13
        | 10, _ => c15
        | 11, _ => c17
        | 12, _ => c19
        | j + 13, hj => absurd hj (by omega)
      exact e_tswO x81_18 hs (by decide) (e_ic x81_179 (e_ri x81_180 H))

-- RV.vote(IIII)I, from 0
set_option maxRecDepth 8000 in
theorem T82 {E : mE} {a1 : Int32} {a2 : Int32} {a3 : Int32} {a4 : Int32} {S : mS} {K : Option Value → mS → Prop}  (H : (a1 < 0 → (K (some (.int (-1))) S)) ∧ (¬ a1 < 0 → (((sK S 9 0) ≤ a1 → (K (some (.int (-1))) S)) ∧ (¬ (sK S 9 0) ≤ a1 → ((a3 < 0 → (K (some (.int (-1))) S)) ∧ (¬ a3 < 0 → (((sK S 9 0) ≤ a3 → (K (some (.int (-1))) S)) ∧ (¬ (sK S 9 0) ≤ a3 → ((a2 < 0 → (K (some (.int (-1))) S)) ∧ (¬ a2 < 0 → (((30 : Int32) ≤ a2 → (K (some (.int (-1))) S)) ∧ (¬ (30 : Int32) ≤ a2 → ((a4 < 0 → (K (some (.int (-1))) S)) ∧ (¬ a4 < 0 → ((a4 ≤ 3 → ((¬ a1 < 0 ∧ (a1.toNatClampNeg) < eN E) ∧ ((RB (sR S (a1.toNatClampNeg) 0)) ∧ ((a4 = 3 → ((¬ ((((a2 * (sN S (a1.toNatClampNeg) (sR S (a1.toNatClampNeg) 0) 0)) + a3) * 3) + 0) < 0 ∧ (((((a2 * (sN S (a1.toNatClampNeg) (sR S (a1.toNatClampNeg) 0) 0)) + a3) * 3) + 0).toNatClampNeg) < lnB (eN E) (sR S (a1.toNatClampNeg) 0)) ∧ (((sN S (a1.toNatClampNeg) ((sR S (a1.toNatClampNeg) 0) + 2) (((((a2 * (sN S (a1.toNatClampNeg) (sR S (a1.toNatClampNeg) 0) 0)) + a3) * 3) + 0).toNatClampNeg)) = (-2) → (K (some (.int (-9))) S)) ∧ (¬ (sN S (a1.toNatClampNeg) ((sR S (a1.toNatClampNeg) 0) + 2) (((((a2 * (sN S (a1.toNatClampNeg) (sR S (a1.toNatClampNeg) 0) 0)) + a3) * 3) + 0).toNatClampNeg)) = (-2) → ((¬ a2 < 0 ∧ (a2.toNatClampNeg) < 30) ∧ (K (some (.int (sN S (a1.toNatClampNeg) ((sR S (a1.toNatClampNeg) 0) + 1) (a2.toNatClampNeg)))) S)))))) ∧ (¬ a4 = 3 → ((¬ ((((a2 * (sN S (a1.toNatClampNeg) (sR S (a1.toNatClampNeg) 0) 0)) + a3) * 3) + a4) < 0 ∧ (((((a2 * (sN S (a1.toNatClampNeg) (sR S (a1.toNatClampNeg) 0) 0)) + a3) * 3) + a4).toNatClampNeg) < lnB (eN E) (sR S (a1.toNatClampNeg) 0)) ∧ (K (some (.int (sN S (a1.toNatClampNeg) ((sR S (a1.toNatClampNeg) 0) + 2) (((((a2 * (sN S (a1.toNatClampNeg) (sR S (a1.toNatClampNeg) 0) 0)) + a3) * 3) + a4).toNatClampNeg)))) S))))))) ∧ (¬ a4 ≤ 3 → (K (some (.int (-1))) S))))))))))))))))) : ES E 82 0 [some (.ref (aK E 0)), some (.int a1), some (.int a2), some (.int a3), some (.int a4), none] [] S K := by
  refine e_al x82_0 rfl (e_il x82_1 rfl (e_cV (l0 := [some (.ref (aK E 0)), some (.int a1)]) x82_2 rfl rfl rfl rfl rfl (fun h hh => hh.tK (by decide)) (e_il x63_0 rfl (e_lt0 x63_1 (fun c1 => ?_) (fun c1 => ?_)))))
  · replace H := H.1 c1
    refine e_ic x63_19 (e_rz x63_20 (by decide) (e_eq0 x82_5 (fun _ => ?_) (fun z9 => absurd (by decide) z9)))
    exact e_ic x82_37 (e_ri x82_38 H)
  · replace H := H.2 c1
    refine e_il x63_4 rfl (e_al x63_5 rfl (e_PK x63_6 (by decide) rfl rfl (e_gK x63_9 (by decide) rfl (e_ge x63_12 (fun c2 => ?_) (fun c2 => ?_)))))
    · replace H := H.1 c2
      refine e_ic x63_19 (e_rz x63_20 (by decide) (e_eq0 x82_5 (fun _ => ?_) (fun z9 => absurd (by decide) z9)))
      exact e_ic x82_37 (e_ri x82_38 H)
    · replace H := H.2 c2
      refine e_ic x63_15 (e_goto x63_16 (e_rz x63_20 (by decide) (e_eq0 x82_5 (fun z9 => absurd z9 (by decide)) (fun _ => ?_))))
      refine e_al x82_8 rfl (e_il x82_9 rfl (e_cV (l0 := [some (.ref (aK E 0)), some (.int a3)]) x82_10 rfl rfl rfl rfl rfl (fun h hh => hh.tK (by decide)) (e_il x63_0 rfl (e_lt0 x63_1 (fun c3 => ?_) (fun c3 => ?_)))))
      · replace H := H.1 c3
        refine e_ic x63_19 (e_rz x63_20 (by decide) (e_eq0 x82_13 (fun _ => ?_) (fun z9 => absurd (by decide) z9)))
        exact e_ic x82_37 (e_ri x82_38 H)
      · replace H := H.2 c3
        refine e_il x63_4 rfl (e_al x63_5 rfl (e_PK x63_6 (by decide) rfl rfl (e_gK x63_9 (by decide) rfl (e_ge x63_12 (fun c4 => ?_) (fun c4 => ?_)))))
        · replace H := H.1 c4
          refine e_ic x63_19 (e_rz x63_20 (by decide) (e_eq0 x82_13 (fun _ => ?_) (fun z9 => absurd (by decide) z9)))
          exact e_ic x82_37 (e_ri x82_38 H)
        · replace H := H.2 c4
          refine e_ic x63_15 (e_goto x63_16 (e_rz x63_20 (by decide) (e_eq0 x82_13 (fun z9 => absurd z9 (by decide)) (fun _ => ?_))))
          refine e_il x82_16 rfl (e_lt0 x82_17 (fun c5 => ?_) (fun c5 => ?_))
          · replace H := H.1 c5
            exact e_ic x82_37 (e_ri x82_38 H)
          · replace H := H.2 c5
            refine e_il x82_20 rfl (e_ic x82_21 (e_ge x82_23 (fun c6 => ?_) (fun c6 => ?_)))
            · replace H := H.1 c6
              exact e_ic x82_37 (e_ri x82_38 H)
            · replace H := H.2 c6
              refine e_il x82_26 rfl (e_lt0 x82_28 (fun c7 => ?_) (fun c7 => ?_))
              · replace H := H.1 c7
                exact e_ic x82_37 (e_ri x82_38 H)
              · replace H := H.2 c7
                refine e_il x82_31 rfl (e_ic x82_33 (e_le x82_34 (fun c8 => ?_) (fun c8 => ?_)))
                · replace H := H.1 c8
                  have c9 := H.1
                  have c10 := H.2.1
                  replace H := H.2.2
                  refine e_al x82_39 rfl (e_PK x82_40 (by decide) rfl rfl (e_il x82_43 rfl (e_aaN x82_44 c9 (e_PNp x82_45 c9.2 (e_ast (l' := [some (.ref (aK E 0)), some (.int a1), some (.int a2), some (.int a3), some (.int a4), some (.ref (aN E (a1.toNatClampNeg) (sR S (a1.toNatClampNeg) 0)))]) x82_48 rfl rfl (e_il x82_50 rfl (e_ic x82_52 (e_eq x82_53 (fun c11 => ?_) (fun c11 => ?_)))))))))
                  · replace H := H.1 c11
                    have c12 := H.1
                    replace H := H.2
                    refine e_al x82_66 rfl (e_il x82_68 rfl (e_il x82_69 rfl (e_ic x82_70 (e_cV (l0 := [some (.ref (aN E (a1.toNatClampNeg) (sR S (a1.toNatClampNeg) 0))), some (.int a2), some (.int a3), some (.int 0)]) x82_71 rfl rfl rfl rfl rfl (fun h hh => (hh.tN c9.2 (Bal.l (RB.b c10))).trans (Bal.t (RB.b c10))) (e_al x8_0 rfl (e_PBv x8_1 c9.2 (RB.b c10) (e_il x8_4 rfl (e_al x8_5 rfl (e_gN x8_6 c9.2 (Bal.l (RB.b c10)) (Bal.t (RB.b c10)) (e_ii (v := (a2 * (sN S (a1.toNatClampNeg) (sR S (a1.toNatClampNeg) 0) 0))) x8_9 rfl (e_il x8_10 rfl (e_ii (v := ((a2 * (sN S (a1.toNatClampNeg) (sR S (a1.toNatClampNeg) 0) 0)) + a3)) x8_11 rfl (e_ic x8_12 (e_ii (v := (((a2 * (sN S (a1.toNatClampNeg) (sR S (a1.toNatClampNeg) 0) 0)) + a3) * 3)) x8_13 rfl (e_il x8_14 rfl (e_ii (v := ((((a2 * (sN S (a1.toNatClampNeg) (sR S (a1.toNatClampNeg) 0) 0)) + a3) * 3) + 0)) x8_15 rfl (e_iaBv x8_16 c9.2 (RB.b c10) c12 (e_ic x8_17 (e_eq x8_19 (fun c13 => ?_) (fun c13 => ?_))))))))))))))))))))
                    · replace H := H.1 c13
                      refine e_ic x8_26 (e_rz x8_27 (by decide) (e_eq0 x82_74 (fun _ => ?_) (fun z9 => absurd (by decide) z9)))
                      exact e_ic x82_86 (e_ri x82_88 H)
                    · replace H := H.2 c13
                      refine e_ic x8_22 (e_goto x8_23 (e_rz x8_27 (by decide) (e_eq0 x82_74 (fun z9 => absurd z9 (by decide)) (fun _ => ?_))))
                      have c14 := H.1
                      replace H := H.2
                      exact e_al x82_77 rfl (e_il x82_79 rfl (e_cV (l0 := [some (.ref (aN E (a1.toNatClampNeg) (sR S (a1.toNatClampNeg) 0))), some (.int a2)]) x82_80 rfl rfl rfl rfl rfl (fun h hh => (hh.tN c9.2 (Bal.l (RB.b c10))).trans (Bal.t (RB.b c10))) (e_al x10_0 rfl (e_PBs x10_1 c9.2 (RB.b c10) (e_il x10_4 rfl (e_iaBs x10_5 c9.2 (RB.b c10) c14 (e_ri x10_6 (e_goto x82_83 (e_ri x82_88 H)))))))))
                  · replace H := H.2 c11
                    have c15 := H.1
                    replace H := H.2
                    exact e_al x82_56 rfl (e_il x82_58 rfl (e_il x82_59 rfl (e_il x82_60 rfl (e_cV (l0 := [some (.ref (aN E (a1.toNatClampNeg) (sR S (a1.toNatClampNeg) 0))), some (.int a2), some (.int a3), some (.int a4)]) x82_62 rfl rfl rfl rfl rfl (fun h hh => (hh.tN c9.2 (Bal.l (RB.b c10))).trans (Bal.t (RB.b c10))) (e_al x9_0 rfl (e_PBv x9_1 c9.2 (RB.b c10) (e_il x9_4 rfl (e_al x9_5 rfl (e_gN x9_6 c9.2 (Bal.l (RB.b c10)) (Bal.t (RB.b c10)) (e_ii (v := (a2 * (sN S (a1.toNatClampNeg) (sR S (a1.toNatClampNeg) 0) 0))) x9_9 rfl (e_il x9_10 rfl (e_ii (v := ((a2 * (sN S (a1.toNatClampNeg) (sR S (a1.toNatClampNeg) 0) 0)) + a3)) x9_11 rfl (e_ic x9_12 (e_ii (v := (((a2 * (sN S (a1.toNatClampNeg) (sR S (a1.toNatClampNeg) 0) 0)) + a3) * 3)) x9_13 rfl (e_il x9_14 rfl (e_ii (v := ((((a2 * (sN S (a1.toNatClampNeg) (sR S (a1.toNatClampNeg) 0) 0)) + a3) * 3) + a4)) x9_15 rfl (e_iaBv x9_16 c9.2 (RB.b c10) c15 (e_ri x9_17 (e_ri x82_65 H)))))))))))))))))))
                · replace H := H.2 c8
                  exact e_ic x82_37 (e_ri x82_38 H)

-- RV.decided(III)I, from 0
set_option maxRecDepth 8000 in
theorem T83 {E : mE} {a1 : Int32} {a2 : Int32} {a3 : Int32} {S : mS} {K : Option Value → mS → Prop}  (H : (a1 < 0 → (K (some (.int (-1))) S)) ∧ (¬ a1 < 0 → (((sK S 9 0) ≤ a1 → (K (some (.int (-1))) S)) ∧ (¬ (sK S 9 0) ≤ a1 → ((a2 < 1 → (K (some (.int (-1))) S)) ∧ (¬ a2 < 1 → (((40 : Int32) < a2 → (K (some (.int (-1))) S)) ∧ (¬ (40 : Int32) < a2 → ((a3 < 0 → (K (some (.int (-1))) S)) ∧ (¬ a3 < 0 → ((a3 ≤ 3 → ((¬ a1 < 0 ∧ (a1.toNatClampNeg) < eN E) ∧ ((¬ a2 < 0 ∧ (a2.toNatClampNeg) < 41) ∧ (((sN S (a1.toNatClampNeg) 6 (a2.toNatClampNeg)) = 0 → (K (some (.int (-2))) S)) ∧ (¬ (sN S (a1.toNatClampNeg) 6 (a2.toNatClampNeg)) = 0 → ((a3 = 0 → (K (some (.int (sN S (a1.toNatClampNeg) 6 (a2.toNatClampNeg)))) S)) ∧ (a3 = 1 → (K (some (.int (sN S (a1.toNatClampNeg) 7 (a2.toNatClampNeg)))) S)) ∧ (a3 = 2 → (K (some (.int (sN S (a1.toNatClampNeg) 8 (a2.toNatClampNeg)))) S)) ∧ (¬ a3 = 0 → ((¬ a3 = 1 → ((¬ a3 = 2 → (ES E 30 0 [some (.ref (aK E 9)), some (.int (sN S (a1.toNatClampNeg) 8 (a2.toNatClampNeg))), some (.int a2), none, none] [] S (fun r S13 => ∃ x14 : Int32, r = some (.int x14) ∧ (K (some (.int x14)) S13)))))))))))))) ∧ (¬ a3 ≤ 3 → (K (some (.int (-1))) S))))))))))))) : ES E 83 0 [some (.ref (aK E 0)), some (.int a1), some (.int a2), some (.int a3), none] [] S K := by
  refine e_al x83_0 rfl (e_il x83_1 rfl (e_cV (l0 := [some (.ref (aK E 0)), some (.int a1)]) x83_2 rfl rfl rfl rfl rfl (fun h hh => hh.tK (by decide)) (e_il x63_0 rfl (e_lt0 x63_1 (fun c1 => ?_) (fun c1 => ?_)))))
  · replace H := H.1 c1
    refine e_ic x63_19 (e_rz x63_20 (by decide) (e_eq0 x83_5 (fun _ => ?_) (fun z9 => absurd (by decide) z9)))
    exact e_ic x83_24 (e_ri x83_25 H)
  · replace H := H.2 c1
    refine e_il x63_4 rfl (e_al x63_5 rfl (e_PK x63_6 (by decide) rfl rfl (e_gK x63_9 (by decide) rfl (e_ge x63_12 (fun c2 => ?_) (fun c2 => ?_)))))
    · replace H := H.1 c2
      refine e_ic x63_19 (e_rz x63_20 (by decide) (e_eq0 x83_5 (fun _ => ?_) (fun z9 => absurd (by decide) z9)))
      exact e_ic x83_24 (e_ri x83_25 H)
    · replace H := H.2 c2
      refine e_ic x63_15 (e_goto x63_16 (e_rz x63_20 (by decide) (e_eq0 x83_5 (fun z9 => absurd z9 (by decide)) (fun _ => ?_))))
      refine e_il x83_8 rfl (e_cS (l0 := [some (.int a2)]) x83_9 rfl rfl rfl rfl rfl (e_il x84_0 rfl (e_ic x84_1 (e_lt x84_2 (fun c3 => ?_) (fun c3 => ?_)))))
      · replace H := H.1 c3
        refine e_ic x84_15 (e_rz x84_16 (by decide) (e_eq0 x83_12 (fun _ => ?_) (fun z9 => absurd (by decide) z9)))
        exact e_ic x83_24 (e_ri x83_25 H)
      · replace H := H.2 c3
        refine e_il x84_5 rfl (e_ic x84_6 (e_gt x84_8 (fun c4 => ?_) (fun c4 => ?_)))
        · replace H := H.1 c4
          refine e_ic x84_15 (e_rz x84_16 (by decide) (e_eq0 x83_12 (fun _ => ?_) (fun z9 => absurd (by decide) z9)))
          exact e_ic x83_24 (e_ri x83_25 H)
        · replace H := H.2 c4
          refine e_ic x84_11 (e_goto x84_12 (e_rz x84_16 (by decide) (e_eq0 x83_12 (fun z9 => absurd z9 (by decide)) (fun _ => ?_))))
          refine e_il x83_15 rfl (e_lt0 x83_16 (fun c5 => ?_) (fun c5 => ?_))
          · replace H := H.1 c5
            exact e_ic x83_24 (e_ri x83_25 H)
          · replace H := H.2 c5
            refine e_il x83_19 rfl (e_ic x83_20 (e_le x83_21 (fun c6 => ?_) (fun c6 => ?_)))
            · replace H := H.1 c6
              have c7 := H.1
              have c8 := H.2.1
              replace H := H.2.2
              refine e_al x83_26 rfl (e_PK x83_27 (by decide) rfl rfl (e_il x83_30 rfl (e_aaN x83_31 c7 (e_PN x83_32 c7.2 (by decide) rfl rfl (e_ast (l' := [some (.ref (aK E 0)), some (.int a1), some (.int a2), some (.int a3), some (.ref (aN E (a1.toNatClampNeg) 5))]) x83_35 rfl rfl (e_al x83_37 rfl (e_il x83_39 rfl (e_cV (l0 := [some (.ref (aN E (a1.toNatClampNeg) 5)), some (.int a2)]) x83_40 rfl rfl rfl rfl rfl (fun h hh => hh.tN c7.2 (by decide)) (e_al x17_0 rfl (e_PN x17_1 c7.2 (by decide) rfl rfl (e_il x17_4 rfl (e_iaN x17_5 c7.2 (by decide) rfl c8 (e_eq0 x17_6 (fun c9 => ?_) (fun c9 => ?_))))))))))))))
              · replace H := H.1 c9
                refine e_ic x17_13 (e_rz x17_14 (by decide) (e_ne0 x83_43 (fun _ => ?_) (fun z9 => absurd (by decide) z9)))
                exact e_ic x83_46 (e_ri x83_48 H)
              · replace H := H.2 c9
                refine e_ic x17_9 (e_goto x17_10 (e_rz x17_14 (by decide) (e_ne0 x83_43 (fun z9 => absurd z9 (by decide)) (fun _ => ?_))))
                refine e_il x83_49 rfl ?_
                by_cases c10 : a3 = 0
                · replace H := H.1 c10
                  exact e_tswI (j := 0) x83_50 c10 (by decide) (by decide) rfl (e_al x83_76 rfl (e_PN x83_78 c7.2 (by decide) rfl rfl (e_il x83_81 rfl (e_iaN x83_82 c7.2 (by decide) rfl c8 (e_ri x83_83 H)))))
                replace H := H.2
                by_cases c11 : a3 = 1
                · replace H := H.1 c11
                  exact e_tswI (j := 1) x83_50 c11 (by decide) (by decide) rfl (e_al x83_84 rfl (e_PN x83_86 c7.2 (by decide) rfl rfl (e_il x83_89 rfl (e_iaN x83_90 c7.2 (by decide) rfl c8 (e_ri x83_91 H)))))
                replace H := H.2
                by_cases c12 : a3 = 2
                · replace H := H.1 c12
                  exact e_tswI (j := 2) x83_50 c12 (by decide) (by decide) rfl (e_al x83_92 rfl (e_PN x83_94 c7.2 (by decide) rfl rfl (e_il x83_97 rfl (e_iaN x83_98 c7.2 (by decide) rfl c8 (e_ri x83_99 H)))))
                replace H := H.2
                replace H := H c10
                replace H := H c11
                replace H := H c12
                have hs : ∀ j, j < 3 → ¬ a3 = nI j := fun j hj => match j, hj with
                  | 0, _ => c10
                  | 1, _ => c11
                  | 2, _ => c12
                  | j + 3, hj => absurd hj (by omega)
                refine e_tswO x83_50 hs (by decide) (e_al x83_100 rfl (e_PK x83_101 (by decide) rfl rfl (e_al x83_104 rfl (e_PN x83_106 c7.2 (by decide) rfl rfl (e_il x83_109 rfl (e_iaN x83_110 c7.2 (by decide) rfl c8 (e_il x83_111 rfl (e_cV (l0 := [some (.ref (aK E 9)), some (.int (sN S (a1.toNatClampNeg) 8 (a2.toNatClampNeg))), some (.int a2), none, none]) x83_112 rfl rfl rfl rfl rfl (fun h hh => hh.tK (by decide)) (ES.mono H ?_)))))))))
                rintro _ S13 ⟨x14, rfl, H⟩
                exact e_ri x83_115 H
            · replace H := H.2 c6
              exact e_ic x83_24 (e_ri x83_25 H)

-- RV.unlike(I)I, from 0
set_option maxRecDepth 8000 in
theorem T85 {E : mE} {a1 : Int32} {S : mS} {K : Option Value → mS → Prop}  (H : (a1 < 1 → (K (some (.int (-1))) S)) ∧ (¬ a1 < 1 → (((40 : Int32) < a1 → (K (some (.int (-1))) S)) ∧ (¬ (40 : Int32) < a1 → (ES E 85 13 [some (.ref (aK E 0)), some (.int a1), some (.int 0), some (.int 0), none] [] S K))))) : ES E 85 0 [some (.ref (aK E 0)), some (.int a1), none, none, none] [] S K := by
  refine e_il x85_0 rfl (e_cS (l0 := [some (.int a1)]) x85_1 rfl rfl rfl rfl rfl (e_il x84_0 rfl (e_ic x84_1 (e_lt x84_2 (fun c1 => ?_) (fun c1 => ?_)))))
  · replace H := H.1 c1
    refine e_ic x84_15 (e_rz x84_16 (by decide) (e_ne0 x85_4 (fun _ => ?_) (fun z9 => absurd (by decide) z9)))
    exact e_ic x85_7 (e_ri x85_8 H)
  · replace H := H.2 c1
    refine e_il x84_5 rfl (e_ic x84_6 (e_gt x84_8 (fun c2 => ?_) (fun c2 => ?_)))
    · replace H := H.1 c2
      refine e_ic x84_15 (e_rz x84_16 (by decide) (e_ne0 x85_4 (fun _ => ?_) (fun z9 => absurd (by decide) z9)))
      exact e_ic x85_7 (e_ri x85_8 H)
    · replace H := H.2 c2
      refine e_ic x84_11 (e_goto x84_12 (e_rz x84_16 (by decide) (e_ne0 x85_4 (fun z9 => absurd z9 (by decide)) (fun _ => ?_))))
      exact e_ic x85_9 (e_ist (l' := [some (.ref (aK E 0)), some (.int a1), some (.int 0), none, none]) x85_10 rfl rfl (e_ic x85_11 (e_ist (l' := [some (.ref (aK E 0)), some (.int a1), some (.int 0), some (.int 0), none]) x85_12 rfl rfl (H))))

-- RV.unlike(I)I, from 13
set_option maxRecDepth 8000 in
theorem T85_13 {E : mE} {v1 : Int32} {v2 : Int32} {v3 : Int32} {S : mS} {K : Option Value → mS → Prop}  (H : ((sK S 9 0) ≤ v3 → (K (some (.int 0)) S)) ∧ (¬ (sK S 9 0) ≤ v3 → ((¬ v3 < 0 ∧ (v3.toNatClampNeg) < eN E) ∧ ((¬ v1 < 0 ∧ (v1.toNatClampNeg) < 41) ∧ (((sN S (v3.toNatClampNeg) 6 (v1.toNatClampNeg)) = 0 → (ES E 85 13 [some (.ref (aK E 0)), some (.int v1), some (.int v2), some (.int (v3 + 1)), none] [] S K)) ∧ (¬ (sN S (v3.toNatClampNeg) 6 (v1.toNatClampNeg)) = 0 → ((v2 = 0 → (ES E 85 13 [some (.ref (aK E 0)), some (.int v1), some (.int (sN S (v3.toNatClampNeg) 6 (v1.toNatClampNeg))), some (.int (v3 + 1)), none] [] S K)) ∧ (¬ v2 = 0 → (((sN S (v3.toNatClampNeg) 6 (v1.toNatClampNeg)) = v2 → (ES E 85 13 [some (.ref (aK E 0)), some (.int v1), some (.int (sN S (v3.toNatClampNeg) 6 (v1.toNatClampNeg))), some (.int (v3 + 1)), none] [] S K)) ∧ (¬ (sN S (v3.toNatClampNeg) 6 (v1.toNatClampNeg)) = v2 → (K (some (.int 1)) S))))))))))) : ES E 85 13 [some (.ref (aK E 0)), some (.int v1), some (.int v2), some (.int v3), none] [] S K := by
  refine e_il x85_13 rfl (e_al x85_14 rfl (e_PK x85_15 (by decide) rfl rfl (e_gK x85_18 (by decide) rfl (e_ge x85_21 (fun c1 => ?_) (fun c1 => ?_)))))
  · replace H := H.1 c1
    exact e_ic x85_71 (e_ri x85_72 H)
  · replace H := H.2 c1
    have c2 := H.1
    have c3 := H.2.1
    replace H := H.2.2
    refine e_al x85_24 rfl (e_PK x85_25 (by decide) rfl rfl (e_il x85_28 rfl (e_aaN x85_29 c2 (e_PN x85_30 c2.2 (by decide) rfl rfl (e_PN x85_33 c2.2 (by decide) rfl rfl (e_il x85_36 rfl (e_iaN x85_37 c2.2 (by decide) rfl c3 (e_ist (l' := [some (.ref (aK E 0)), some (.int v1), some (.int v2), some (.int v3), some (.int (sN S (v3.toNatClampNeg) 6 (v1.toNatClampNeg)))]) x85_38 rfl rfl (e_il x85_40 rfl (e_eq0 x85_42 (fun c4 => ?_) (fun c4 => ?_)))))))))))
    · replace H := H.1 c4
      refine e_il x85_57 rfl (e_eq0 x85_59 (fun _ => ?_) (fun z9 => absurd c4 z9))
      exact e_inc (l' := [some (.ref (aK E 0)), some (.int v1), some (.int v2), some (.int (v3 + 1)), some (.int (sN S (v3.toNatClampNeg) 6 (v1.toNatClampNeg)))]) x85_65 rfl rfl rfl (e_back (l' := [some (.ref (aK E 0)), some (.int v1), some (.int v2), some (.int (v3 + 1)), none]) x85_68 rfl (H))
    · replace H := H.2 c4
      refine e_il x85_45 rfl (e_eq0 x85_46 (fun c5 => ?_) (fun c5 => ?_))
      · replace H := H.1 c5
        refine e_il x85_57 rfl (e_eq0 x85_59 (fun z9 => absurd z9 c4) (fun _ => ?_))
        exact e_il x85_62 rfl (e_ist (l' := [some (.ref (aK E 0)), some (.int v1), some (.int (sN S (v3.toNatClampNeg) 6 (v1.toNatClampNeg))), some (.int v3), some (.int (sN S (v3.toNatClampNeg) 6 (v1.toNatClampNeg)))]) x85_64 rfl rfl (e_inc (l' := [some (.ref (aK E 0)), some (.int v1), some (.int (sN S (v3.toNatClampNeg) 6 (v1.toNatClampNeg))), some (.int (v3 + 1)), some (.int (sN S (v3.toNatClampNeg) 6 (v1.toNatClampNeg)))]) x85_65 rfl rfl rfl (e_back (l' := [some (.ref (aK E 0)), some (.int v1), some (.int (sN S (v3.toNatClampNeg) 6 (v1.toNatClampNeg))), some (.int (v3 + 1)), none]) x85_68 rfl (H))))
      · replace H := H.2 c5
        refine e_il x85_49 rfl (e_il x85_51 rfl (e_eq x85_52 (fun c6 => ?_) (fun c6 => ?_)))
        · replace H := H.1 c6
          refine e_il x85_57 rfl (e_eq0 x85_59 (fun z9 => absurd z9 c4) (fun _ => ?_))
          exact e_il x85_62 rfl (e_ist (l' := [some (.ref (aK E 0)), some (.int v1), some (.int (sN S (v3.toNatClampNeg) 6 (v1.toNatClampNeg))), some (.int v3), some (.int (sN S (v3.toNatClampNeg) 6 (v1.toNatClampNeg)))]) x85_64 rfl rfl (e_inc (l' := [some (.ref (aK E 0)), some (.int v1), some (.int (sN S (v3.toNatClampNeg) 6 (v1.toNatClampNeg))), some (.int (v3 + 1)), some (.int (sN S (v3.toNatClampNeg) 6 (v1.toNatClampNeg)))]) x85_65 rfl rfl rfl (e_back (l' := [some (.ref (aK E 0)), some (.int v1), some (.int (sN S (v3.toNatClampNeg) 6 (v1.toNatClampNeg))), some (.int (v3 + 1)), none]) x85_68 rfl (H))))
        · replace H := H.2 c6
          exact e_ic x85_55 (e_ri x85_56 H)

-- RV.evidence(II)I, from 0
set_option maxRecDepth 8000 in
theorem T86 {E : mE} {a1 : Int32} {a2 : Int32} {S : mS} {K : Option Value → mS → Prop}  (H : (a1 = (-1) → ((a2 = 0 → (K (some (.int (sK S 7 1))) S)) ∧ (¬ a2 = 0 → ((a1 < 0 → (K (some (.int (-1))) S)) ∧ (¬ a1 < 0 → (((sK S 7 1) ≤ a1 → (K (some (.int (-1))) S)) ∧ (¬ (sK S 7 1) ≤ a1 → ((a2 < 0 → (K (some (.int (-1))) S)) ∧ (¬ a2 < 0 → ((a2 < 6 → ((¬ ((a1 * 6) + a2) < 0 ∧ (((a1 * 6) + a2).toNatClampNeg) < 1200) ∧ (K (some (.int (sK S 8 (((a1 * 6) + a2).toNatClampNeg)))) S))) ∧ (¬ a2 < 6 → (K (some (.int (-1))) S)))))))))))) ∧ (¬ a1 = (-1) → ((a1 < 0 → (K (some (.int (-1))) S)) ∧ (¬ a1 < 0 → (((sK S 7 1) ≤ a1 → (K (some (.int (-1))) S)) ∧ (¬ (sK S 7 1) ≤ a1 → ((a2 < 0 → (K (some (.int (-1))) S)) ∧ (¬ a2 < 0 → ((a2 < 6 → ((¬ ((a1 * 6) + a2) < 0 ∧ (((a1 * 6) + a2).toNatClampNeg) < 1200) ∧ (K (some (.int (sK S 8 (((a1 * 6) + a2).toNatClampNeg)))) S))) ∧ (¬ a2 < 6 → (K (some (.int (-1))) S))))))))))) : ES E 86 0 [some (.ref (aK E 0)), some (.int a1), some (.int a2)] [] S K := by
  refine e_il x86_0 rfl (e_ic x86_1 (e_ne x86_2 (fun c1 => ?_) (fun c1 => ?_)))
  · replace H := H.1 c1
    refine e_il x86_5 rfl (e_ne0 x86_6 (fun c2 => ?_) (fun c2 => ?_))
    · replace H := H.1 c2
      exact e_al x86_9 rfl (e_PK x86_10 (by decide) rfl rfl (e_gK x86_13 (by decide) rfl (e_ri x86_16 H)))
    · replace H := H.2 c2
      refine e_il x86_17 rfl (e_lt0 x86_18 (fun c3 => ?_) (fun c3 => ?_))
      · replace H := H.1 c3
        exact e_ic x86_42 (e_ri x86_43 H)
      · replace H := H.2 c3
        refine e_il x86_21 rfl (e_al x86_22 rfl (e_PK x86_23 (by decide) rfl rfl (e_gK x86_26 (by decide) rfl (e_ge x86_29 (fun c4 => ?_) (fun c4 => ?_)))))
        · replace H := H.1 c4
          exact e_ic x86_42 (e_ri x86_43 H)
        · replace H := H.2 c4
          refine e_il x86_32 rfl (e_lt0 x86_33 (fun c5 => ?_) (fun c5 => ?_))
          · replace H := H.1 c5
            exact e_ic x86_42 (e_ri x86_43 H)
          · replace H := H.2 c5
            refine e_il x86_36 rfl (e_ic x86_37 (e_lt x86_39 (fun c6 => ?_) (fun c6 => ?_)))
            · replace H := H.1 c6
              have c7 := H.1
              replace H := H.2
              exact e_al x86_44 rfl (e_PK x86_45 (by decide) rfl rfl (e_il x86_48 rfl (e_il x86_49 rfl (e_cV (l0 := [some (.ref (aK E 7)), some (.int a1), some (.int a2)]) x86_50 rfl rfl rfl rfl rfl (fun h hh => hh.tK (by decide)) (e_al x21_0 rfl (e_PK x21_1 (by decide) rfl rfl (e_il x21_4 rfl (e_ic x21_5 (e_ii (v := (a1 * 6)) x21_7 rfl (e_il x21_8 rfl (e_ii (v := ((a1 * 6) + a2)) x21_9 rfl (e_iaK x21_10 (by decide) rfl c7 (e_ri x21_11 (e_ri x86_53 H))))))))))))))
            · replace H := H.2 c6
              exact e_ic x86_42 (e_ri x86_43 H)
  · replace H := H.2 c1
    refine e_il x86_17 rfl (e_lt0 x86_18 (fun c8 => ?_) (fun c8 => ?_))
    · replace H := H.1 c8
      exact e_ic x86_42 (e_ri x86_43 H)
    · replace H := H.2 c8
      refine e_il x86_21 rfl (e_al x86_22 rfl (e_PK x86_23 (by decide) rfl rfl (e_gK x86_26 (by decide) rfl (e_ge x86_29 (fun c9 => ?_) (fun c9 => ?_)))))
      · replace H := H.1 c9
        exact e_ic x86_42 (e_ri x86_43 H)
      · replace H := H.2 c9
        refine e_il x86_32 rfl (e_lt0 x86_33 (fun c10 => ?_) (fun c10 => ?_))
        · replace H := H.1 c10
          exact e_ic x86_42 (e_ri x86_43 H)
        · replace H := H.2 c10
          refine e_il x86_36 rfl (e_ic x86_37 (e_lt x86_39 (fun c11 => ?_) (fun c11 => ?_)))
          · replace H := H.1 c11
            have c12 := H.1
            replace H := H.2
            exact e_al x86_44 rfl (e_PK x86_45 (by decide) rfl rfl (e_il x86_48 rfl (e_il x86_49 rfl (e_cV (l0 := [some (.ref (aK E 7)), some (.int a1), some (.int a2)]) x86_50 rfl rfl rfl rfl rfl (fun h hh => hh.tK (by decide)) (e_al x21_0 rfl (e_PK x21_1 (by decide) rfl rfl (e_il x21_4 rfl (e_ic x21_5 (e_ii (v := (a1 * 6)) x21_7 rfl (e_il x21_8 rfl (e_ii (v := ((a1 * 6) + a2)) x21_9 rfl (e_iaK x21_10 (by decide) rfl c12 (e_ri x21_11 (e_ri x86_53 H))))))))))))))
          · replace H := H.2 c11
            exact e_ic x86_42 (e_ri x86_43 H)

-- RV.against(I)I, from 0
set_option maxRecDepth 8000 in
theorem T87 {E : mE} {a1 : Int32} {S : mS} {K : Option Value → mS → Prop}  (H : (a1 < 0 → (K (some (.int (-1))) S)) ∧ (¬ a1 < 0 → (((sK S 9 0) ≤ a1 → (K (some (.int (-1))) S)) ∧ (¬ (sK S 9 0) ≤ a1 → ((¬ a1 < 0 ∧ (a1.toNatClampNeg) < eN E) ∧ (K (some (.int (sN S (a1.toNatClampNeg) 12 1))) S)))))) : ES E 87 0 [some (.ref (aK E 0)), some (.int a1)] [] S K := by
  refine e_al x87_0 rfl (e_il x87_1 rfl (e_cV (l0 := [some (.ref (aK E 0)), some (.int a1)]) x87_2 rfl rfl rfl rfl rfl (fun h hh => hh.tK (by decide)) (e_il x63_0 rfl (e_lt0 x63_1 (fun c1 => ?_) (fun c1 => ?_)))))
  · replace H := H.1 c1
    refine e_ic x63_19 (e_rz x63_20 (by decide) (e_eq0 x87_5 (fun _ => ?_) (fun z9 => absurd (by decide) z9)))
    exact e_ic x87_23 (e_ri x87_24 H)
  · replace H := H.2 c1
    refine e_il x63_4 rfl (e_al x63_5 rfl (e_PK x63_6 (by decide) rfl rfl (e_gK x63_9 (by decide) rfl (e_ge x63_12 (fun c2 => ?_) (fun c2 => ?_)))))
    · replace H := H.1 c2
      refine e_ic x63_19 (e_rz x63_20 (by decide) (e_eq0 x87_5 (fun _ => ?_) (fun z9 => absurd (by decide) z9)))
      exact e_ic x87_23 (e_ri x87_24 H)
    · replace H := H.2 c2
      refine e_ic x63_15 (e_goto x63_16 (e_rz x63_20 (by decide) (e_eq0 x87_5 (fun z9 => absurd z9 (by decide)) (fun _ => ?_))))
      have c3 := H.1
      replace H := H.2
      exact e_al x87_8 rfl (e_PK x87_9 (by decide) rfl rfl (e_il x87_12 rfl (e_aaN x87_13 c3 (e_PN x87_14 c3.2 (by decide) rfl rfl (e_gN x87_17 c3.2 (by decide) rfl (e_goto x87_20 (e_ri x87_24 H)))))))

-- RV.count(I)I, from 0
set_option maxRecDepth 8000 in
theorem T88 {E : mE} {a1 : Int32} {S : mS} {K : Option Value → mS → Prop}  (H : (a1 = 0 → (K (some (.int (sK S 0 5))) S)) ∧ (a1 = 1 → (K (some (.int (sK S 0 6))) S)) ∧ (a1 = 2 → (K (some (.int (sK S 0 7))) S)) ∧ (a1 = 3 → (K (some (.int (sK S 0 8))) S)) ∧ (a1 = 4 → (K (some (.int (sK S 1 2))) S)) ∧ (a1 = 5 → (ES E 64 0 [some (.ref (aK E 0)), none, none] [] S (fun r S7 => ∃ x8 : Int32, r = some (.int x8) ∧ (K (some (.int (x8 - 1))) S7)))) ∧ (a1 = 6 → (K (some (.int (sK S 9 0))) S)) ∧ (a1 = 7 → ((¬ (1 : Int32) < 0 ∧ ((1 : Int32).toNatClampNeg) < 41) ∧ (K (some (.int (sK S 10 ((1 : Int32).toNatClampNeg)))) S))) ∧ (a1 = 8 → (K (some (.int (if (0 : Int32) < ((sK S 0 11) - (sK S 0 5)) then ((sK S 0 11) - (sK S 0 5)) else 0))) S)) ∧ (¬ a1 = 0 → ((¬ a1 = 1 → ((¬ a1 = 2 → ((¬ a1 = 3 → ((¬ a1 = 4 → ((¬ a1 = 5 → ((¬ a1 = 6 → ((¬ a1 = 7 → ((¬ a1 = 8 → (K (some (.int (-1))) S))))))))))))))))))) : ES E 88 0 [some (.ref (aK E 0)), some (.int a1)] [] S K := by
  refine e_il x88_0 rfl ?_
  by_cases c1 : a1 = 0
  · replace H := H.1 c1
    exact e_tswI (j := 0) x88_1 c1 (by decide) (by decide) rfl (e_al x88_52 rfl (e_gK x88_53 (by decide) rfl (e_ri x88_56 H)))
  replace H := H.2
  by_cases c2 : a1 = 1
  · replace H := H.1 c2
    exact e_tswI (j := 1) x88_1 c2 (by decide) (by decide) rfl (e_al x88_57 rfl (e_gK x88_58 (by decide) rfl (e_ri x88_61 H)))
  replace H := H.2
  by_cases c3 : a1 = 2
  · replace H := H.1 c3
    exact e_tswI (j := 2) x88_1 c3 (by decide) (by decide) rfl (e_al x88_62 rfl (e_gK x88_63 (by decide) rfl (e_ri x88_66 H)))
  replace H := H.2
  by_cases c4 : a1 = 3
  · replace H := H.1 c4
    exact e_tswI (j := 3) x88_1 c4 (by decide) (by decide) rfl (e_al x88_67 rfl (e_gK x88_68 (by decide) rfl (e_ri x88_71 H)))
  replace H := H.2
  by_cases c5 : a1 = 4
  · replace H := H.1 c5
    exact e_tswI (j := 4) x88_1 c5 (by decide) (by decide) rfl (e_al x88_72 rfl (e_PK x88_73 (by decide) rfl rfl (e_gK x88_76 (by decide) rfl (e_ri x88_79 H))))
  replace H := H.2
  by_cases c6 : a1 = 5
  · replace H := H.1 c6
    refine e_tswI (j := 5) x88_1 c6 (by decide) (by decide) rfl (e_al x88_80 rfl (e_cV (l0 := [some (.ref (aK E 0))]) x88_81 rfl rfl rfl rfl rfl (fun h hh => hh.tK (by decide)) (e_al x89_0 rfl (e_cV (l0 := [some (.ref (aK E 0)), none, none]) x89_1 rfl rfl rfl rfl rfl (fun h hh => hh.tK (by decide)) (ES.mono H ?_)))))
    rintro _ S7 ⟨x8, rfl, H⟩
    exact e_ic x89_4 (e_ii (v := (x8 - 1)) x89_5 rfl (e_ri x89_6 (e_ri x88_84 H)))
  replace H := H.2
  by_cases c9 : a1 = 6
  · replace H := H.1 c9
    exact e_tswI (j := 6) x88_1 c9 (by decide) (by decide) rfl (e_al x88_85 rfl (e_PK x88_86 (by decide) rfl rfl (e_gK x88_89 (by decide) rfl (e_ri x88_92 H))))
  replace H := H.2
  by_cases c10 : a1 = 7
  · replace H := H.1 c10
    have c11 := H.1
    replace H := H.2
    exact e_tswI (j := 7) x88_1 c10 (by decide) (by decide) rfl (e_al x88_93 rfl (e_PK x88_94 (by decide) rfl rfl (e_PK x88_97 (by decide) rfl rfl (e_ic x88_100 (e_iaK x88_101 (by decide) rfl c11 (e_ri x88_102 H))))))
  replace H := H.2
  by_cases c12 : a1 = 8
  · replace H := H.1 c12
    exact e_tswI (j := 8) x88_1 c12 (by decide) (by decide) rfl (e_ic x88_103 (e_al x88_104 rfl (e_gK x88_105 (by decide) rfl (e_al x88_108 rfl (e_gK x88_109 (by decide) rfl (e_ii (v := ((sK S 0 11) - (sK S 0 5))) x88_112 rfl (e_max x88_113 rfl (e_ri x88_116 H))))))))
  replace H := H.2
  replace H := H c1
  replace H := H c2
  replace H := H c3
  replace H := H c4
  replace H := H c5
  replace H := H c6
  replace H := H c9
  replace H := H c10
  replace H := H c12
  have hs : ∀ j, j < 9 → ¬ a1 = nI j := fun j hj => match j, hj with
    | 0, _ => c1
    | 1, _ => c2
    | 2, _ => c3
    | 3, _ => c4
    | 4, _ => c5
    | 5, _ => c6
    | 6, _ => c9
    | 7, _ => c10
    | 8, _ => c12
    | j + 9, hj => absurd hj (by omega)
  exact e_tswO x88_1 hs (by decide) (e_ic x88_117 (e_ri x88_118 H))

-- RV.weightOf(II)I, from 0
set_option maxRecDepth 8000 in
theorem T90 {E : mE} {a1 : Int32} {a2 : Int32} {S : mS} {K : Option Value → mS → Prop}  (H : (a2 < 1 → (K (some (.int (-1))) S)) ∧ (¬ a2 < 1 → (((40 : Int32) < a2 → (K (some (.int (-1))) S)) ∧ (¬ (40 : Int32) < a2 → ((a1 = (-1) → ((¬ a2 < 0 ∧ (a2.toNatClampNeg) < 41) ∧ (K (some (.int (sK S 10 (a2.toNatClampNeg)))) S))) ∧ (¬ a1 = (-1) → ((a1 < 0 → (K (some (.int (-1))) S)) ∧ (¬ a1 < 0 → (((sK S 9 0) ≤ a1 → (K (some (.int (-1))) S)) ∧ (¬ (sK S 9 0) ≤ a1 → ((¬ a2 < 0 ∧ (a2.toNatClampNeg) < 41) ∧ ((¬ a1 < 0 ∧ (a1.toNatClampNeg) < eN E) ∧ (K (some (.int (sK S (12 + (a2.toNatClampNeg)) (a1.toNatClampNeg)))) S))))))))))))) : ES E 90 0 [some (.ref (aK E 0)), some (.int a1), some (.int a2)] [] S K := by
  refine e_il x90_0 rfl (e_cS (l0 := [some (.int a2)]) x90_1 rfl rfl rfl rfl rfl (e_il x84_0 rfl (e_ic x84_1 (e_lt x84_2 (fun c1 => ?_) (fun c1 => ?_)))))
  · replace H := H.1 c1
    refine e_ic x84_15 (e_rz x84_16 (by decide) (e_eq0 x90_4 (fun _ => ?_) (fun z9 => absurd (by decide) z9)))
    exact e_ic x90_20 (e_ri x90_21 H)
  · replace H := H.2 c1
    refine e_il x84_5 rfl (e_ic x84_6 (e_gt x84_8 (fun c2 => ?_) (fun c2 => ?_)))
    · replace H := H.1 c2
      refine e_ic x84_15 (e_rz x84_16 (by decide) (e_eq0 x90_4 (fun _ => ?_) (fun z9 => absurd (by decide) z9)))
      exact e_ic x90_20 (e_ri x90_21 H)
    · replace H := H.2 c2
      refine e_ic x84_11 (e_goto x84_12 (e_rz x84_16 (by decide) (e_eq0 x90_4 (fun z9 => absurd z9 (by decide)) (fun _ => ?_))))
      refine e_il x90_7 rfl (e_ic x90_8 (e_eq x90_9 (fun c3 => ?_) (fun c3 => ?_)))
      · replace H := H.1 c3
        refine e_il x90_22 rfl (e_ic x90_23 (e_ne x90_24 (fun _ => ?_) (fun z9 => absurd c3 z9)))
        have c4 := H.1
        replace H := H.2
        exact e_al x90_27 rfl (e_PK x90_28 (by decide) rfl rfl (e_PK x90_31 (by decide) rfl rfl (e_il x90_34 rfl (e_iaK x90_35 (by decide) rfl c4 (e_goto x90_36 (e_ri x90_50 H))))))
      · replace H := H.2 c3
        refine e_al x90_12 rfl (e_il x90_13 rfl (e_cV (l0 := [some (.ref (aK E 0)), some (.int a1)]) x90_14 rfl rfl rfl rfl rfl (fun h hh => hh.tK (by decide)) (e_il x63_0 rfl (e_lt0 x63_1 (fun c5 => ?_) (fun c5 => ?_)))))
        · replace H := H.1 c5
          refine e_ic x63_19 (e_rz x63_20 (by decide) (e_ne0 x90_17 (fun _ => ?_) (fun z9 => absurd (by decide) z9)))
          exact e_ic x90_20 (e_ri x90_21 H)
        · replace H := H.2 c5
          refine e_il x63_4 rfl (e_al x63_5 rfl (e_PK x63_6 (by decide) rfl rfl (e_gK x63_9 (by decide) rfl (e_ge x63_12 (fun c6 => ?_) (fun c6 => ?_)))))
          · replace H := H.1 c6
            refine e_ic x63_19 (e_rz x63_20 (by decide) (e_ne0 x90_17 (fun _ => ?_) (fun z9 => absurd (by decide) z9)))
            exact e_ic x90_20 (e_ri x90_21 H)
          · replace H := H.2 c6
            refine e_ic x63_15 (e_goto x63_16 (e_rz x63_20 (by decide) (e_ne0 x90_17 (fun z9 => absurd z9 (by decide)) (fun _ => ?_))))
            refine e_il x90_22 rfl (e_ic x90_23 (e_ne x90_24 (fun z9 => absurd z9 c3) (fun _ => ?_)))
            have c7 := H.1
            have c8 := H.2.1
            replace H := H.2.2
            exact e_al x90_39 rfl (e_PK x90_40 (by decide) rfl rfl (e_PK x90_43 (by decide) rfl rfl (e_il x90_46 rfl (e_aaW x90_47 c7 (e_il x90_48 rfl (e_iaR x90_49 c7.2 c8 (e_ri x90_50 H)))))))

