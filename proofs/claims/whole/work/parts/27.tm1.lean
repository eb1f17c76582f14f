/-! ===== what the runs need, over states ===== -/
-- Model.clearHeight(II)V, from 0
set_option maxRecDepth 8000 in
theorem T92 {E : mE} {a1 : Int32} {a2 : Int32} {S : mS} {K : Option Value → mS → Prop}  (H : ES E 92 2 [some (.ref (aS E 0)), some (.int a1), some (.int a2), some (.int 0), none, none] [] S K) : ES E 92 0 [some (.ref (aS E 0)), some (.int a1), some (.int a2), none, none, none] [] S K := by
  exact e_ic x92_0 (e_ist (l' := [some (.ref (aS E 0)), some (.int a1), some (.int a2), some (.int 0), none, none]) x92_1 rfl rfl (H))

-- Model.clearHeight(II)V, from 2
set_option maxRecDepth 8000 in
theorem T92_2 {E : mE} {v1 : Int32} {v2 : Int32} {v3 : Int32} {S : mS} {K : Option Value → mS → Prop}  (H : ((30 : Int32) ≤ v3 → (K none S)) ∧ (¬ (30 : Int32) ≤ v3 → (ES E 92 11 [some (.ref (aS E 0)), some (.int v1), some (.int v2), some (.int v3), some (.int 0), none] [] S K))) : ES E 92 2 [some (.ref (aS E 0)), some (.int v1), some (.int v2), some (.int v3), none, none] [] S K := by
  refine e_il x92_2 rfl (e_ic x92_3 (e_ge x92_5 (fun c1 => ?_) (fun c1 => ?_)))
  · replace H := H.1 c1
    exact e_rv x92_78 H
  · replace H := H.2 c1
    exact e_ic x92_8 (e_ist (l' := [some (.ref (aS E 0)), some (.int v1), some (.int v2), some (.int v3), some (.int 0), none]) x92_9 rfl rfl (H))

-- Model.clearHeight(II)V, from 11
set_option maxRecDepth 8000 in
theorem T92_11 {E : mE} {v1 : Int32} {v2 : Int32} {v3 : Int32} {v4 : Int32} {S : mS} {K : Option Value → mS → Prop}  (H : ((10 : Int32) ≤ v4 → (ES E 92 2 [some (.ref (aS E 0)), some (.int v1), some (.int v2), some (.int (v3 + 1)), none, none] [] S K)) ∧ (¬ (10 : Int32) ≤ v4 → (ES E 92 21 [some (.ref (aS E 0)), some (.int v1), some (.int v2), some (.int v3), some (.int v4), some (.int 0)] [] S K))) : ES E 92 11 [some (.ref (aS E 0)), some (.int v1), some (.int v2), some (.int v3), some (.int v4), none] [] S K := by
  refine e_il x92_11 rfl (e_ic x92_13 (e_ge x92_15 (fun c1 => ?_) (fun c1 => ?_)))
  · replace H := H.1 c1
    exact e_inc (l' := [some (.ref (aS E 0)), some (.int v1), some (.int v2), some (.int (v3 + 1)), some (.int v4), none]) x92_72 rfl rfl rfl (e_back (l' := [some (.ref (aS E 0)), some (.int v1), some (.int v2), some (.int (v3 + 1)), none, none]) x92_75 rfl (H))
  · replace H := H.2 c1
    exact e_ic x92_18 (e_ist (l' := [some (.ref (aS E 0)), some (.int v1), some (.int v2), some (.int v3), some (.int v4), some (.int 0)]) x92_19 rfl rfl (H))

-- Model.clearHeight(II)V, from 21
set_option maxRecDepth 8000 in
theorem T92_21 {E : mE} {v1 : Int32} {v2 : Int32} {v3 : Int32} {v4 : Int32} {v5 : Int32} {S : mS} {K : Option Value → mS → Prop}  (H : ((3 : Int32) ≤ v5 → ((¬ (2 : Int32) = 0) ∧ ((¬ ((((((2 * v1) + (v2 - v2 / 2 * 2)) * 30) + v3) * 10) + v4) < 0 ∧ (((((((2 * v1) + (v2 - v2 / 2 * 2)) * 30) + v3) * 10) + v4).toNatClampNeg) < 6000) ∧ (∀ S4, S4 = uS S 18 (((((((2 * v1) + (v2 - v2 / 2 * 2)) * 30) + v3) * 10) + v4).toNatClampNeg) (-9) → (ES E 92 11 [some (.ref (aS E 0)), some (.int v1), some (.int v2), some (.int v3), some (.int (v4 + 1)), none] [] S4 K))))) ∧ (¬ (3 : Int32) ≤ v5 → ((¬ (2 : Int32) = 0) ∧ ((¬ ((((((((2 * v1) + (v2 - v2 / 2 * 2)) * 30) + v3) * 10) + v4) * 3) + v5) < 0 ∧ (((((((((2 * v1) + (v2 - v2 / 2 * 2)) * 30) + v3) * 10) + v4) * 3) + v5).toNatClampNeg) < 18000) ∧ (∀ S7, S7 = uS S 17 (((((((((2 * v1) + (v2 - v2 / 2 * 2)) * 30) + v3) * 10) + v4) * 3) + v5).toNatClampNeg) (-1) → (ES E 92 21 [some (.ref (aS E 0)), some (.int v1), some (.int v2), some (.int v3), some (.int v4), some (.int (v5 + 1))] [] S7 K)))))) : ES E 92 21 [some (.ref (aS E 0)), some (.int v1), some (.int v2), some (.int v3), some (.int v4), some (.int v5)] [] S K := by
  refine e_il x92_21 rfl (e_ic x92_23 (e_ge x92_24 (fun c1 => ?_) (fun c1 => ?_)))
  · replace H := H.1 c1
    have c2 := H.1
    have c3 := H.2.1
    replace H := H.2.2
    refine e_al x92_50 rfl (e_PS x92_51 rfl (e_al x92_54 rfl (e_il x92_55 rfl (e_il x92_56 rfl (e_il x92_57 rfl (e_il x92_58 rfl (e_cV (l0 := [some (.ref (aS E 0)), some (.int v1), some (.int v2), some (.int v3), some (.int v4)]) x92_60 rfl rfl rfl rfl rfl (fun h hh => hh.tS (by decide)) (e_ic x94_0 (e_il x94_1 rfl (e_ii (v := (2 * v1)) x94_2 rfl (e_il x94_3 rfl (e_ic x94_4 (e_rem x94_5 c2 (e_ii (v := ((2 * v1) + (v2 - v2 / 2 * 2))) x94_6 rfl (e_ic x94_7 (e_ii (v := (((2 * v1) + (v2 - v2 / 2 * 2)) * 30)) x94_9 rfl (e_il x94_10 rfl (e_ii (v := ((((2 * v1) + (v2 - v2 / 2 * 2)) * 30) + v3)) x94_11 rfl (e_ic x94_12 (e_ii (v := (((((2 * v1) + (v2 - v2 / 2 * 2)) * 30) + v3) * 10)) x94_14 rfl (e_il x94_15 rfl (e_ii (v := ((((((2 * v1) + (v2 - v2 / 2 * 2)) * 30) + v3) * 10) + v4)) x94_17 rfl (e_ri x94_18 (e_ic x92_63 (e_waS x92_65 (by decide) rfl c3 ?_)))))))))))))))))))))))))
    let S4 : mS := uS S 18 (((((((2 * v1) + (v2 - v2 / 2 * 2)) * 30) + v3) * 10) + v4).toNatClampNeg) (-9)
    replace H := H S4 rfl
    show ES _ _ _ _ _ S4 _
    exact e_inc (l' := [some (.ref (aS E 0)), some (.int v1), some (.int v2), some (.int v3), some (.int (v4 + 1)), some (.int v5)]) x92_66 rfl rfl rfl (e_back (l' := [some (.ref (aS E 0)), some (.int v1), some (.int v2), some (.int v3), some (.int (v4 + 1)), none]) x92_69 rfl (H))
  · replace H := H.2 c1
    have c5 := H.1
    have c6 := H.2.1
    replace H := H.2.2
    refine e_al x92_27 rfl (e_PS x92_28 rfl (e_al x92_31 rfl (e_il x92_32 rfl (e_il x92_33 rfl (e_il x92_34 rfl (e_il x92_35 rfl (e_il x92_37 rfl (e_cV (l0 := [some (.ref (aS E 0)), some (.int v1), some (.int v2), some (.int v3), some (.int v4), some (.int v5)]) x92_39 rfl rfl rfl rfl rfl (fun h hh => hh.tS (by decide)) (e_ic x93_0 (e_il x93_1 rfl (e_ii (v := (2 * v1)) x93_2 rfl (e_il x93_3 rfl (e_ic x93_4 (e_rem x93_5 c5 (e_ii (v := ((2 * v1) + (v2 - v2 / 2 * 2))) x93_6 rfl (e_ic x93_7 (e_ii (v := (((2 * v1) + (v2 - v2 / 2 * 2)) * 30)) x93_9 rfl (e_il x93_10 rfl (e_ii (v := ((((2 * v1) + (v2 - v2 / 2 * 2)) * 30) + v3)) x93_11 rfl (e_ic x93_12 (e_ii (v := (((((2 * v1) + (v2 - v2 / 2 * 2)) * 30) + v3) * 10)) x93_14 rfl (e_il x93_15 rfl (e_ii (v := ((((((2 * v1) + (v2 - v2 / 2 * 2)) * 30) + v3) * 10) + v4)) x93_17 rfl (e_ic x93_18 (e_ii (v := (((((((2 * v1) + (v2 - v2 / 2 * 2)) * 30) + v3) * 10) + v4) * 3)) x93_19 rfl (e_il x93_20 rfl (e_ii (v := ((((((((2 * v1) + (v2 - v2 / 2 * 2)) * 30) + v3) * 10) + v4) * 3) + v5)) x93_22 rfl (e_ri x93_23 (e_ic x92_42 (e_waS x92_43 (by decide) rfl c6 ?_))))))))))))))))))))))))))))))
    let S7 : mS := uS S 17 (((((((((2 * v1) + (v2 - v2 / 2 * 2)) * 30) + v3) * 10) + v4) * 3) + v5).toNatClampNeg) (-1)
    replace H := H S7 rfl
    show ES _ _ _ _ _ S7 _
    exact e_inc (l' := [some (.ref (aS E 0)), some (.int v1), some (.int v2), some (.int v3), some (.int v4), some (.int (v5 + 1))]) x92_44 rfl rfl rfl (e_back (l' := [some (.ref (aS E 0)), some (.int v1), some (.int v2), some (.int v3), some (.int v4), some (.int (v5 + 1))]) x92_47 rfl (H))

-- Model.clearSigned(I)V, from 0
set_option maxRecDepth 8000 in
theorem T95 {E : mE} {a1 : Int32} {S : mS} {K : Option Value → mS → Prop}  (H : ES E 95 2 [some (.ref (aS E 0)), some (.int a1), some (.int 0)] [] S K) : ES E 95 0 [some (.ref (aS E 0)), some (.int a1), none] [] S K := by
  exact e_ic x95_0 (e_ist (l' := [some (.ref (aS E 0)), some (.int a1), some (.int 0)]) x95_1 rfl rfl (H))

-- Model.clearSigned(I)V, from 2
set_option maxRecDepth 8000 in
theorem T95_2 {E : mE} {v1 : Int32} {v2 : Int32} {S : mS} {K : Option Value → mS → Prop}  (H : ((90 : Int32) ≤ v2 → (K none S)) ∧ (¬ (90 : Int32) ≤ v2 → ((¬ ((90 * v1) + v2) < 0 ∧ (((90 * v1) + v2).toNatClampNeg) < 900) ∧ (∀ S3, S3 = uS S 19 (((90 * v1) + v2).toNatClampNeg) (-1) → (∀ S4, S4 = uS S3 20 (((90 * v1) + v2).toNatClampNeg) (-9) → (ES E 95 2 [some (.ref (aS E 0)), some (.int v1), some (.int (v2 + 1))] [] S4 K)))))) : ES E 95 2 [some (.ref (aS E 0)), some (.int v1), some (.int v2)] [] S K := by
  refine e_il x95_2 rfl (e_ic x95_3 (e_ge x95_5 (fun c1 => ?_) (fun c1 => ?_)))
  · replace H := H.1 c1
    exact e_rv x95_39 H
  · replace H := H.2 c1
    have c2 := H.1
    replace H := H.2
    refine e_al x95_8 rfl (e_PS x95_9 rfl (e_ic x95_12 (e_il x95_14 rfl (e_ii (v := (90 * v1)) x95_15 rfl (e_il x95_16 rfl (e_ii (v := ((90 * v1) + v2)) x95_17 rfl (e_ic x95_18 (e_waS x95_19 (by decide) rfl c2 ?_))))))))
    let S3 : mS := uS S 19 (((90 * v1) + v2).toNatClampNeg) (-1)
    replace H := H S3 rfl
    show ES _ _ _ _ _ S3 _
    refine e_al x95_20 rfl (e_PS x95_21 rfl (e_ic x95_24 (e_il x95_26 rfl (e_ii (v := (90 * v1)) x95_27 rfl (e_il x95_28 rfl (e_ii (v := ((90 * v1) + v2)) x95_29 rfl (e_ic x95_30 (e_waS x95_32 (by decide) rfl c2 ?_))))))))
    let S4 : mS := uS S3 20 (((90 * v1) + v2).toNatClampNeg) (-9)
    replace H := H S4 rfl
    show ES _ _ _ _ _ S4 _
    exact e_inc (l' := [some (.ref (aS E 0)), some (.int v1), some (.int (v2 + 1))]) x95_33 rfl rfl rfl (e_back (l' := [some (.ref (aS E 0)), some (.int v1), some (.int (v2 + 1))]) x95_36 rfl (H))

-- Model.turn(I)I, from 0
set_option maxRecDepth 8000 in
theorem T96 {E : mE} {a1 : Int32} {S : mS} {K : Option Value → mS → Prop}  (H : ∀ S1, S1 = uS S 0 0 0 → (((lg_cmp (a1.toInt64) 1) < 0 → (K (some (.int (-1))) S1)) ∧ (¬ (lg_cmp (a1.toInt64) 1) < 0 → (((0 : Int32) < (lg_cmp (a1.toInt64) 100) → (K (some (.int (-1))) S1)) ∧ (¬ (0 : Int32) < (lg_cmp (a1.toInt64) 100) → (ES E 96 21 [some (.ref (aS E 0)), some (.int a1), some (.int 0)] [] S1 K)))))) : ES E 96 0 [some (.ref (aS E 0)), some (.int a1), none] [] S K := by
  refine e_al x96_0 rfl (e_ic x96_1 (e_pS x96_2 (by decide) rfl ?_))
  let S1 : mS := uS S 0 0 0
  replace H := H S1 rfl
  show ES _ _ _ _ _ S1 _
  refine e_il x96_5 rfl (e_i2l x96_6 (e_lc x96_7 (e_lc x96_8 (e_cS (l0 := [some (.long (a1.toInt64)), none, some (.long 1), none, some (.long 100), none]) x96_11 rfl rfl rfl rfl rfl (e_llo x97_0 rfl (e_llo x97_1 rfl (e_lcmp x97_2 (e_lt0 x97_3 (fun c2 => ?_) (fun c2 => ?_)))))))))
  · replace H := H.1 c2
    refine e_ic x97_17 (e_rz x97_18 (by decide) (e_ne0 x96_14 (fun _ => ?_) (fun z9 => absurd (by decide) z9)))
    exact e_ic x96_17 (e_ri x96_18 H)
  · replace H := H.2 c2
    refine e_llo x97_6 rfl (e_llo x97_7 rfl (e_lcmp x97_9 (e_gt0 x97_10 (fun c3 => ?_) (fun c3 => ?_))))
    · replace H := H.1 c3
      refine e_ic x97_17 (e_rz x97_18 (by decide) (e_ne0 x96_14 (fun _ => ?_) (fun z9 => absurd (by decide) z9)))
      exact e_ic x96_17 (e_ri x96_18 H)
    · replace H := H.2 c3
      refine e_ic x97_13 (e_goto x97_14 (e_rz x97_18 (by decide) (e_ne0 x96_14 (fun z9 => absurd z9 (by decide)) (fun _ => ?_))))
      exact e_ic x96_19 (e_ist (l' := [some (.ref (aS E 0)), some (.int a1), some (.int 0)]) x96_20 rfl rfl (H))

-- Model.turn(I)I, from 21
set_option maxRecDepth 8000 in
theorem T96_21 {E : mE} {v1 : Int32} {v2 : Int32} {S : mS} {K : Option Value → mS → Prop}  (H : (v1 ≤ v2 → (K (some (.int (sS S 0 3))) S)) ∧ (¬ v1 ≤ v2 → (ES E 98 0 [some (.ref (aS E 0)), none, none, none] [] S (fun r S2 => r = none ∧ (ES E 96 21 [some (.ref (aS E 0)), some (.int v1), some (.int (v2 + 1))] [] S2 K))))) : ES E 96 21 [some (.ref (aS E 0)), some (.int v1), some (.int v2)] [] S K := by
  refine e_il x96_21 rfl (e_il x96_22 rfl (e_ge x96_23 (fun c1 => ?_) (fun c1 => ?_)))
  · replace H := H.1 c1
    exact e_al x96_36 rfl (e_gS x96_37 (by decide) rfl (e_ri x96_40 H))
  · replace H := H.2 c1
    refine e_al x96_26 rfl (e_cV (l0 := [some (.ref (aS E 0)), none, none, none]) x96_27 rfl rfl rfl rfl rfl (fun h hh => hh.tS (by decide)) (ES.mono H ?_))
    rintro _ S2 ⟨rfl, H⟩
    exact e_inc (l' := [some (.ref (aS E 0)), some (.int v1), some (.int (v2 + 1))]) x96_30 rfl rfl rfl (e_back (l' := [some (.ref (aS E 0)), some (.int v1), some (.int (v2 + 1))]) x96_33 rfl (H))

-- Model.oneTurn()V, from 0
set_option maxRecDepth 8000 in
theorem T98 {E : mE}  {S : mS} {K : Option Value → mS → Prop}  (H : ∀ S1, S1 = uS S 0 3 ((sS S 0 3) + 1) → (((sS S1 0 3) = 1 → (ES E 98 20 [some (.ref (aS E 0)), some (.int 0), none, none] [] S1 K)) ∧ (¬ (sS S1 0 3) = 1 → (ES E 98 47 [some (.ref (aS E 0)), some (.int 0), none, none] [] S1 K)))) : ES E 98 0 [some (.ref (aS E 0)), none, none, none] [] S K := by
  refine e_al x98_0 rfl (e_dupr x98_1 (e_gS x98_2 (by decide) rfl (e_ic x98_5 (e_ii (v := ((sS S 0 3) + 1)) x98_6 rfl (e_pS x98_7 (by decide) rfl ?_)))))
  let S1 : mS := uS S 0 3 ((sS S 0 3) + 1)
  replace H := H S1 rfl
  show ES _ _ _ _ _ S1 _
  refine e_al x98_10 rfl (e_gS x98_11 (by decide) rfl (e_ic x98_14 (e_ne x98_15 (fun c2 => ?_) (fun c2 => ?_))))
  · replace H := H.1 c2
    exact e_ic x98_18 (e_ist (l' := [some (.ref (aS E 0)), some (.int 0), none, none]) x98_19 rfl rfl (H))
  · replace H := H.2 c2
    exact e_ic x98_45 (e_ist (l' := [some (.ref (aS E 0)), some (.int 0), none, none]) x98_46 rfl rfl (H))

-- Model.oneTurn()V, from 20
set_option maxRecDepth 8000 in
theorem T98_20 {E : mE} {v1 : Int32} {S : mS} {K : Option Value → mS → Prop}  (H : ((sS S 0 1) ≤ v1 → (ES E 98 47 [some (.ref (aS E 0)), some (.int 0), none, none] [] S K)) ∧ (¬ (sS S 0 1) ≤ v1 → (ES E 99 0 [some (.ref (aS E 0)), some (.int v1), some (.int 0), none] [] S (fun r S2 => r = none ∧ (ES E 111 0 [some (.ref (aS E 0)), some (.int v1), none] [] S2 (fun r S3 => r = none ∧ (ES E 98 20 [some (.ref (aS E 0)), some (.int (v1 + 1)), none, none] [] S3 K))))))) : ES E 98 20 [some (.ref (aS E 0)), some (.int v1), none, none] [] S K := by
  refine e_il x98_20 rfl (e_al x98_21 rfl (e_gS x98_22 (by decide) rfl (e_ge x98_25 (fun c1 => ?_) (fun c1 => ?_))))
  · replace H := H.1 c1
    exact e_ic x98_45 (e_ist (l' := [some (.ref (aS E 0)), some (.int 0), none, none]) x98_46 rfl rfl (H))
  · replace H := H.2 c1
    refine e_al x98_28 rfl (e_il x98_29 rfl (e_ic x98_30 (e_cV (l0 := [some (.ref (aS E 0)), some (.int v1), some (.int 0), none]) x98_31 rfl rfl rfl rfl rfl (fun h hh => hh.tS (by decide)) (ES.mono H ?_))))
    rintro _ S2 ⟨rfl, H⟩
    refine e_al x98_34 rfl (e_il x98_35 rfl (e_cV (l0 := [some (.ref (aS E 0)), some (.int v1), none]) x98_36 rfl rfl rfl rfl rfl (fun h hh => hh.tS (by decide)) (ES.mono H ?_)))
    rintro _ S3 ⟨rfl, H⟩
    exact e_inc (l' := [some (.ref (aS E 0)), some (.int (v1 + 1)), none, none]) x98_39 rfl rfl rfl (e_back (l' := [some (.ref (aS E 0)), some (.int (v1 + 1)), none, none]) x98_42 rfl (H))

-- Model.oneTurn()V, from 47
set_option maxRecDepth 8000 in
theorem T98_47 {E : mE} {v1 : Int32} {S : mS} {K : Option Value → mS → Prop}  (H : ((sS S 0 1) ≤ v1 → (ES E 127 0 [some (.ref (aS E 0)), some (.int 0), some (.int (sS S 0 37)), none, none] [] S (fun r S2 => r = none ∧ (ES E 127 0 [some (.ref (aS E 0)), some (.int 1), some (.int (sS S 0 37)), none, none] [] S2 (fun r S3 => r = none ∧ (ES E 98 107 [some (.ref (aS E 0)), some (.int (sS S 0 37)), some (.int 0), none] [] S3 K)))))) ∧ (¬ (sS S 0 1) ≤ v1 → ((¬ v1 < 0 ∧ (v1.toNatClampNeg) < 10) ∧ (((sS S 10 (v1.toNatClampNeg)) = 0 → (ES E 98 47 [some (.ref (aS E 0)), some (.int (v1 + 1)), none, none] [] S K)) ∧ (¬ (sS S 10 (v1.toNatClampNeg)) = 0 → (((sS S 0 3) ≤ (sS S 9 (v1.toNatClampNeg)) → (ES E 98 47 [some (.ref (aS E 0)), some (.int (v1 + 1)), none, none] [] S K)) ∧ (¬ (sS S 0 3) ≤ (sS S 9 (v1.toNatClampNeg)) → (ES E 126 0 [some (.ref (aS E 0)), some (.int v1), none, none, none] [] S (fun r S7 => r = none ∧ (ES E 98 47 [some (.ref (aS E 0)), some (.int (v1 + 1)), none, none] [] S7 K)))))))))) : ES E 98 47 [some (.ref (aS E 0)), some (.int v1), none, none] [] S K := by
  refine e_il x98_47 rfl (e_al x98_48 rfl (e_gS x98_49 (by decide) rfl (e_ge x98_52 (fun c1 => ?_) (fun c1 => ?_))))
  · replace H := H.1 c1
    refine e_al x98_88 rfl (e_gS x98_89 (by decide) rfl (e_ist (l' := [some (.ref (aS E 0)), some (.int (sS S 0 37)), none, none]) x98_92 rfl rfl (e_al x98_93 rfl (e_ic x98_94 (e_il x98_95 rfl (e_cV (l0 := [some (.ref (aS E 0)), some (.int 0), some (.int (sS S 0 37)), none, none]) x98_96 rfl rfl rfl rfl rfl (fun h hh => hh.tS (by decide)) (ES.mono H ?_)))))))
    rintro _ S2 ⟨rfl, H⟩
    refine e_al x98_99 rfl (e_ic x98_100 (e_il x98_101 rfl (e_cV (l0 := [some (.ref (aS E 0)), some (.int 1), some (.int (sS S 0 37)), none, none]) x98_102 rfl rfl rfl rfl rfl (fun h hh => hh.tS (by decide)) (ES.mono H ?_))))
    rintro _ S3 ⟨rfl, H⟩
    exact e_ic x98_105 (e_ist (l' := [some (.ref (aS E 0)), some (.int (sS S 0 37)), some (.int 0), none]) x98_106 rfl rfl (H))
  · replace H := H.2 c1
    have c4 := H.1
    replace H := H.2
    refine e_al x98_55 rfl (e_PS x98_56 rfl (e_il x98_59 rfl (e_baS x98_60 (by decide) rfl c4 (e_eq0 x98_61 (fun c5 => ?_) (fun c5 => ?_)))))
    · replace H := H.1 c5
      exact e_inc (l' := [some (.ref (aS E 0)), some (.int (v1 + 1)), none, none]) x98_82 rfl rfl rfl (e_back (l' := [some (.ref (aS E 0)), some (.int (v1 + 1)), none, none]) x98_85 rfl (H))
    · replace H := H.2 c5
      refine e_al x98_64 rfl (e_PS x98_65 rfl (e_il x98_68 rfl (e_iaS x98_69 (by decide) rfl c4 (e_al x98_70 rfl (e_gS x98_71 (by decide) rfl (e_ge x98_74 (fun c6 => ?_) (fun c6 => ?_)))))))
      · replace H := H.1 c6
        exact e_inc (l' := [some (.ref (aS E 0)), some (.int (v1 + 1)), none, none]) x98_82 rfl rfl rfl (e_back (l' := [some (.ref (aS E 0)), some (.int (v1 + 1)), none, none]) x98_85 rfl (H))
      · replace H := H.2 c6
        refine e_al x98_77 rfl (e_il x98_78 rfl (e_cV (l0 := [some (.ref (aS E 0)), some (.int v1), none, none, none]) x98_79 rfl rfl rfl rfl rfl (fun h hh => hh.tS (by decide)) (ES.mono H ?_)))
        rintro _ S7 ⟨rfl, H⟩
        exact e_inc (l' := [some (.ref (aS E 0)), some (.int (v1 + 1)), none, none]) x98_82 rfl rfl rfl (e_back (l' := [some (.ref (aS E 0)), some (.int (v1 + 1)), none, none]) x98_85 rfl (H))

-- Model.oneTurn()V, from 107
set_option maxRecDepth 8000 in
theorem T98_107 {E : mE} {v1 : Int32} {v2 : Int32} {S : mS} {K : Option Value → mS → Prop}  (H : ((sS S 0 1) ≤ v2 → (ES E 129 0 [some (.ref (aS E 0)), none, none] [] S (fun r S2 => r = none ∧ (K none S2)))) ∧ (¬ (sS S 0 1) ≤ v2 → (ES E 98 117 [some (.ref (aS E 0)), some (.int v1), some (.int v2), some (.int 0)] [] S K))) : ES E 98 107 [some (.ref (aS E 0)), some (.int v1), some (.int v2), none] [] S K := by
  refine e_il x98_107 rfl (e_al x98_108 rfl (e_gS x98_109 (by decide) rfl (e_ge x98_112 (fun c1 => ?_) (fun c1 => ?_))))
  · replace H := H.1 c1
    refine e_al x98_140 rfl (e_cV (l0 := [some (.ref (aS E 0)), none, none]) x98_141 rfl rfl rfl rfl rfl (fun h hh => hh.tS (by decide)) (ES.mono H ?_))
    rintro _ S2 ⟨rfl, H⟩
    exact e_rv x98_144 H
  · replace H := H.2 c1
    exact e_ic x98_115 (e_ist (l' := [some (.ref (aS E 0)), some (.int v1), some (.int v2), some (.int 0)]) x98_116 rfl rfl (H))

-- Model.oneTurn()V, from 117
set_option maxRecDepth 8000 in
theorem T98_117 {E : mE} {v1 : Int32} {v2 : Int32} {v3 : Int32} {S : mS} {K : Option Value → mS → Prop}  (H : ((3 : Int32) ≤ v3 → (ES E 98 107 [some (.ref (aS E 0)), some (.int v1), some (.int (v2 + 1)), none] [] S K)) ∧ (¬ (3 : Int32) ≤ v3 → (ES E 128 0 [some (.ref (aS E 0)), some (.int v2), some (.int v3)] [] S (fun r S2 => r = none ∧ (ES E 98 117 [some (.ref (aS E 0)), some (.int v1), some (.int v2), some (.int (v3 + 1))] [] S2 K))))) : ES E 98 117 [some (.ref (aS E 0)), some (.int v1), some (.int v2), some (.int v3)] [] S K := by
  refine e_il x98_117 rfl (e_ic x98_118 (e_ge x98_119 (fun c1 => ?_) (fun c1 => ?_)))
  · replace H := H.1 c1
    exact e_inc (l' := [some (.ref (aS E 0)), some (.int v1), some (.int (v2 + 1)), some (.int v3)]) x98_134 rfl rfl rfl (e_back (l' := [some (.ref (aS E 0)), some (.int v1), some (.int (v2 + 1)), none]) x98_137 rfl (H))
  · replace H := H.2 c1
    refine e_al x98_122 rfl (e_il x98_123 rfl (e_il x98_124 rfl (e_cV (l0 := [some (.ref (aS E 0)), some (.int v2), some (.int v3)]) x98_125 rfl rfl rfl rfl rfl (fun h hh => hh.tS (by decide)) (ES.mono H ?_))))
    rintro _ S2 ⟨rfl, H⟩
    exact e_inc (l' := [some (.ref (aS E 0)), some (.int v1), some (.int v2), some (.int (v3 + 1))]) x98_128 rfl rfl rfl (e_back (l' := [some (.ref (aS E 0)), some (.int v1), some (.int v2), some (.int (v3 + 1))]) x98_131 rfl (H))

-- Model.begin(II)V, from 0
set_option maxRecDepth 8000 in
theorem T99 {E : mE} {a1 : Int32} {a2 : Int32} {S : mS} {K : Option Value → mS → Prop}  (H : (a2 < 30 → ((¬ a1 < 0 ∧ (a1.toNatClampNeg) < 10) ∧ (∀ S3, S3 = uS S 3 (a1.toNatClampNeg) a2 → (∀ S4, S4 = uS S3 4 (a1.toNatClampNeg) 0 → (ES E 99 23 [some (.ref (aS E 0)), some (.int a1), some (.int a2), some (.int 0)] [] S4 K))))) ∧ (¬ a2 < 30 → (K none S))) : ES E 99 0 [some (.ref (aS E 0)), some (.int a1), some (.int a2), none] [] S K := by
  refine e_il x99_0 rfl (e_ic x99_1 (e_lt x99_3 (fun c1 => ?_) (fun c1 => ?_)))
  · replace H := H.1 c1
    have c2 := H.1
    replace H := H.2
    refine e_al x99_7 rfl (e_PS x99_8 rfl (e_il x99_11 rfl (e_il x99_12 rfl (e_waS x99_13 (by decide) rfl c2 ?_))))
    let S3 : mS := uS S 3 (a1.toNatClampNeg) a2
    replace H := H S3 rfl
    show ES _ _ _ _ _ S3 _
    refine e_al x99_14 rfl (e_PS x99_15 rfl (e_il x99_18 rfl (e_ic x99_19 (e_waS x99_20 (by decide) rfl c2 ?_))))
    let S4 : mS := uS S3 4 (a1.toNatClampNeg) 0
    replace H := H S4 rfl
    show ES _ _ _ _ _ S4 _
    exact e_ic x99_21 (e_ist (l' := [some (.ref (aS E 0)), some (.int a1), some (.int a2), some (.int 0)]) x99_22 rfl rfl (H))
  · replace H := H.2 c1
    exact e_rv x99_6 H

-- Model.begin(II)V, from 23
set_option maxRecDepth 8000 in
theorem T99_23 {E : mE} {v1 : Int32} {v2 : Int32} {v3 : Int32} {S : mS} {K : Option Value → mS → Prop}  (H : ((3 : Int32) ≤ v3 → ((¬ v1 < 0 ∧ (v1.toNatClampNeg) < 10) ∧ (∀ S3, S3 = uS S 13 (v1.toNatClampNeg) 0 → (∀ S4, S4 = uS S3 14 (v1.toNatClampNeg) 0 → (∀ S5, S5 = uS S4 15 (v1.toNatClampNeg) 0 → ((¬ (sS S5 0 1) = 0) ∧ (((((sS S5 2 (v1.toNatClampNeg)) + v2) - ((sS S5 2 (v1.toNatClampNeg)) + v2) / (sS S5 0 1) * (sS S5 0 1)) = v1 → (((sS S5 8 (v1.toNatClampNeg)) < 0 → (ES E 101 0 [some (.ref (aS E 0)), some (.int v1), some (.int 0), some (.int (2 + (2 * (((((sS S5 0 2) ^^^ (7919 * v1)) ^^^ (104729 * (sS S5 2 (v1.toNatClampNeg)))) ^^^ (1299709 * v2)) &&& 1048575)))), some (.int (-1)), none, none, none, none, none, none, none] [] S5 (fun r S9 => r = none ∧ ((¬ (3 * v1) < 0 ∧ ((3 * v1).toNatClampNeg) < 30) ∧ (∀ S11, S11 = uS S9 12 ((3 * v1).toNatClampNeg) (((sS S9 0 3) + 4) + v2) → (K none S11)))))) ∧ (¬ (sS S5 8 (v1.toNatClampNeg)) < 0 → (ES E 101 0 [some (.ref (aS E 0)), some (.int v1), some (.int 0), some (.int (sS S5 7 (v1.toNatClampNeg))), some (.int (sS S5 8 (v1.toNatClampNeg))), none, none, none, none, none, none, none] [] S5 (fun r S12 => r = none ∧ ((¬ (3 * v1) < 0 ∧ ((3 * v1).toNatClampNeg) < 30) ∧ (∀ S14, S14 = uS S12 12 ((3 * v1).toNatClampNeg) (((sS S12 0 3) + 4) + v2) → (K none S14)))))))) ∧ (¬ (((sS S5 2 (v1.toNatClampNeg)) + v2) - ((sS S5 2 (v1.toNatClampNeg)) + v2) / (sS S5 0 1) * (sS S5 0 1)) = v1 → ((¬ (3 * v1) < 0 ∧ ((3 * v1).toNatClampNeg) < 30) ∧ (∀ S16, S16 = uS S5 12 ((3 * v1).toNatClampNeg) (((sS S5 0 3) + 4) + v2) → (K none S16))))))))))) ∧ (¬ (3 : Int32) ≤ v3 → ((¬ ((3 * v1) + v3) < 0 ∧ (((3 * v1) + v3).toNatClampNeg) < 30) ∧ (∀ S18, S18 = uS S 12 (((3 * v1) + v3).toNatClampNeg) 0 → (ES E 99 23 [some (.ref (aS E 0)), some (.int v1), some (.int v2), some (.int (v3 + 1))] [] S18 K))))) : ES E 99 23 [some (.ref (aS E 0)), some (.int v1), some (.int v2), some (.int v3)] [] S K := by
  refine e_il x99_23 rfl (e_ic x99_24 (e_ge x99_25 (fun c1 => ?_) (fun c1 => ?_)))
  · replace H := H.1 c1
    have c2 := H.1
    replace H := H.2
    refine e_al x99_45 rfl (e_PS x99_46 rfl (e_il x99_49 rfl (e_ic x99_50 (e_wzS x99_51 (by decide) rfl (by decide) c2 ?_))))
    let S3 : mS := uS S 13 (v1.toNatClampNeg) 0
    replace H := H S3 rfl
    show ES _ _ _ _ _ S3 _
    refine e_al x99_52 rfl (e_PS x99_53 rfl (e_il x99_56 rfl (e_ic x99_57 (e_wzS x99_58 (by decide) rfl (by decide) c2 ?_))))
    let S4 : mS := uS S3 14 (v1.toNatClampNeg) 0
    replace H := H S4 rfl
    show ES _ _ _ _ _ S4 _
    refine e_al x99_59 rfl (e_PS x99_60 rfl (e_il x99_63 rfl (e_ic x99_64 (e_wzS x99_65 (by decide) rfl (by decide) c2 ?_))))
    let S5 : mS := uS S4 15 (v1.toNatClampNeg) 0
    replace H := H S5 rfl
    show ES _ _ _ _ _ S5 _
    have c6 := H.1
    replace H := H.2
    refine e_al x99_66 rfl (e_al x99_67 rfl (e_PS x99_68 rfl (e_il x99_71 rfl (e_iaS x99_72 (by decide) rfl c2 (e_il x99_73 rfl (e_cV (l0 := [some (.ref (aS E 0)), some (.int (sS S5 2 (v1.toNatClampNeg))), some (.int v2)]) x99_74 rfl rfl rfl rfl rfl (fun h hh => hh.tS (by decide)) (e_il x100_0 rfl (e_il x100_1 rfl (e_ii (v := ((sS S5 2 (v1.toNatClampNeg)) + v2)) x100_2 rfl (e_al x100_3 rfl (e_gS x100_4 (by decide) rfl (e_rem x100_7 c6 (e_ri x100_8 (e_il x99_77 rfl (e_ne x99_78 (fun c7 => ?_) (fun c7 => ?_))))))))))))))))
    · replace H := H.1 c7
      refine e_al x99_81 rfl (e_PS x99_82 rfl (e_il x99_85 rfl (e_iaS x99_86 (by decide) rfl c2 (e_lt0 x99_87 (fun c8 => ?_) (fun c8 => ?_)))))
      · replace H := H.1 c8
        refine e_al x99_111 rfl (e_il x99_112 rfl (e_ic x99_113 (e_al x99_114 rfl (e_il x99_115 rfl (e_al x99_116 rfl (e_PS x99_117 rfl (e_il x99_120 rfl (e_iaS x99_121 (by decide) rfl c2 (e_il x99_122 rfl (e_cV (l0 := [some (.ref (aS E 0)), some (.int v1), some (.int (sS S5 2 (v1.toNatClampNeg))), some (.int v2)]) x99_123 rfl rfl rfl rfl rfl (fun h hh => hh.tS (by decide)) (e_ic x110_0 (e_ic x110_1 (e_al x110_2 rfl (e_gS x110_3 (by decide) rfl (e_ic x110_6 (e_il x110_9 rfl (e_ii (v := (7919 * v1)) x110_10 rfl (e_ii (v := ((sS S5 0 2) ^^^ (7919 * v1))) x110_11 rfl (e_ic x110_12 (e_il x110_14 rfl (e_ii (v := (104729 * (sS S5 2 (v1.toNatClampNeg)))) x110_15 rfl (e_ii (v := (((sS S5 0 2) ^^^ (7919 * v1)) ^^^ (104729 * (sS S5 2 (v1.toNatClampNeg))))) x110_16 rfl (e_ic x110_17 (e_il x110_19 rfl (e_ii (v := (1299709 * v2)) x110_20 rfl (e_ii (v := ((((sS S5 0 2) ^^^ (7919 * v1)) ^^^ (104729 * (sS S5 2 (v1.toNatClampNeg)))) ^^^ (1299709 * v2))) x110_21 rfl (e_ic x110_22 (e_ii (v := (((((sS S5 0 2) ^^^ (7919 * v1)) ^^^ (104729 * (sS S5 2 (v1.toNatClampNeg)))) ^^^ (1299709 * v2)) &&& 1048575)) x110_24 rfl (e_ii (v := (2 * (((((sS S5 0 2) ^^^ (7919 * v1)) ^^^ (104729 * (sS S5 2 (v1.toNatClampNeg)))) ^^^ (1299709 * v2)) &&& 1048575))) x110_25 rfl (e_ii (v := (2 + (2 * (((((sS S5 0 2) ^^^ (7919 * v1)) ^^^ (104729 * (sS S5 2 (v1.toNatClampNeg)))) ^^^ (1299709 * v2)) &&& 1048575)))) x110_26 rfl (e_ri x110_27 (e_ic x99_126 (e_cV (l0 := [some (.ref (aS E 0)), some (.int v1), some (.int 0), some (.int (2 + (2 * (((((sS S5 0 2) ^^^ (7919 * v1)) ^^^ (104729 * (sS S5 2 (v1.toNatClampNeg)))) ^^^ (1299709 * v2)) &&& 1048575)))), some (.int (-1)), none, none, none, none, none, none, none]) x99_127 rfl rfl rfl rfl rfl (fun h hh => hh.tS (by decide)) (ES.mono H ?_))))))))))))))))))))))))))))))))))
        rintro _ S9 ⟨rfl, H⟩
        have c10 := H.1
        replace H := H.2
        refine e_al x99_130 rfl (e_PS x99_131 rfl (e_ic x99_134 (e_il x99_135 rfl (e_ii (v := (3 * v1)) x99_136 rfl (e_al x99_137 rfl (e_gS x99_138 (by decide) rfl (e_ic x99_141 (e_ii (v := ((sS S9 0 3) + 4)) x99_142 rfl (e_il x99_143 rfl (e_ii (v := (((sS S9 0 3) + 4) + v2)) x99_144 rfl (e_waS x99_145 (by decide) rfl c10 ?_)))))))))))
        let S11 : mS := uS S9 12 ((3 * v1).toNatClampNeg) (((sS S9 0 3) + 4) + v2)
        replace H := H S11 rfl
        show ES _ _ _ _ _ S11 _
        exact e_rv x99_146 H
      · replace H := H.2 c8
        refine e_al x99_90 rfl (e_il x99_91 rfl (e_ic x99_92 (e_al x99_93 rfl (e_PS x99_94 rfl (e_il x99_97 rfl (e_iaS x99_98 (by decide) rfl c2 (e_al x99_99 rfl (e_PS x99_100 rfl (e_il x99_103 rfl (e_iaS x99_104 (by decide) rfl c2 (e_cV (l0 := [some (.ref (aS E 0)), some (.int v1), some (.int 0), some (.int (sS S5 7 (v1.toNatClampNeg))), some (.int (sS S5 8 (v1.toNatClampNeg))), none, none, none, none, none, none, none]) x99_105 rfl rfl rfl rfl rfl (fun h hh => hh.tS (by decide)) (ES.mono H ?_))))))))))))
        rintro _ S12 ⟨rfl, H⟩
        have c13 := H.1
        replace H := H.2
        refine e_goto x99_108 (e_al x99_130 rfl (e_PS x99_131 rfl (e_ic x99_134 (e_il x99_135 rfl (e_ii (v := (3 * v1)) x99_136 rfl (e_al x99_137 rfl (e_gS x99_138 (by decide) rfl (e_ic x99_141 (e_ii (v := ((sS S12 0 3) + 4)) x99_142 rfl (e_il x99_143 rfl (e_ii (v := (((sS S12 0 3) + 4) + v2)) x99_144 rfl (e_waS x99_145 (by decide) rfl c13 ?_))))))))))))
        let S14 : mS := uS S12 12 ((3 * v1).toNatClampNeg) (((sS S12 0 3) + 4) + v2)
        replace H := H S14 rfl
        show ES _ _ _ _ _ S14 _
        exact e_rv x99_146 H
    · replace H := H.2 c7
      have c15 := H.1
      replace H := H.2
      refine e_al x99_130 rfl (e_PS x99_131 rfl (e_ic x99_134 (e_il x99_135 rfl (e_ii (v := (3 * v1)) x99_136 rfl (e_al x99_137 rfl (e_gS x99_138 (by decide) rfl (e_ic x99_141 (e_ii (v := ((sS S5 0 3) + 4)) x99_142 rfl (e_il x99_143 rfl (e_ii (v := (((sS S5 0 3) + 4) + v2)) x99_144 rfl (e_waS x99_145 (by decide) rfl c15 ?_)))))))))))
      let S16 : mS := uS S5 12 ((3 * v1).toNatClampNeg) (((sS S5 0 3) + 4) + v2)
      replace H := H S16 rfl
      show ES _ _ _ _ _ S16 _
      exact e_rv x99_146 H
  · replace H := H.2 c1
    have c17 := H.1
    replace H := H.2
    refine e_al x99_28 rfl (e_PS x99_29 rfl (e_ic x99_32 (e_il x99_33 rfl (e_ii (v := (3 * v1)) x99_34 rfl (e_il x99_35 rfl (e_ii (v := ((3 * v1) + v3)) x99_36 rfl (e_ic x99_37 (e_waS x99_38 (by decide) rfl c17 ?_))))))))
    let S18 : mS := uS S 12 (((3 * v1) + v3).toNatClampNeg) 0
    replace H := H S18 rfl
    show ES _ _ _ _ _ S18 _
    exact e_inc (l' := [some (.ref (aS E 0)), some (.int v1), some (.int v2), some (.int (v3 + 1))]) x99_39 rfl rfl rfl (e_back (l' := [some (.ref (aS E 0)), some (.int v1), some (.int v2), some (.int (v3 + 1))]) x99_42 rfl (H))

-- Model.send(IIII)V, from 0
set_option maxRecDepth 8000 in
theorem T101 {E : mE} {a1 : Int32} {a2 : Int32} {a3 : Int32} {a4 : Int32} {S : mS} {K : Option Value → mS → Prop}  (H : (¬ a1 < 0 ∧ (a1.toNatClampNeg) < 10) ∧ (((sS S 11 (a1.toNatClampNeg)) = 5 → ((a2 ≤ 0 → (ES E 101 34 [some (.ref (aS E 0)), some (.int a1), some (.int a2), some (.int a3), some (.int a4), some (.int (sS S 2 (a1.toNatClampNeg))), some (.int (sS S 3 (a1.toNatClampNeg))), none, none, none, none, none] [] S K)) ∧ (¬ a2 ≤ 0 → (((sS S 11 (a1.toNatClampNeg)) = 4 → (ES E 101 113 [some (.ref (aS E 0)), some (.int a1), some (.int a2), some (.int a3), some (.int a4), some (.int (sS S 2 (a1.toNatClampNeg))), some (.int (sS S 3 (a1.toNatClampNeg))), some (.int 0), some (.int a4), some (.int (((90 * a1) + (3 * (sS S 3 (a1.toNatClampNeg)))) + a2)), none, none] [] S K)) ∧ (¬ (sS S 11 (a1.toNatClampNeg)) = 4 → ((¬ (((90 * a1) + (3 * (sS S 3 (a1.toNatClampNeg)))) + a2) < 0 ∧ ((((90 * a1) + (3 * (sS S 3 (a1.toNatClampNeg)))) + a2).toNatClampNeg) < 900) ∧ (((sS S 19 ((((90 * a1) + (3 * (sS S 3 (a1.toNatClampNeg)))) + a2).toNatClampNeg)) < 0 → (∀ S7, S7 = uS S 19 ((((90 * a1) + (3 * (sS S 3 (a1.toNatClampNeg)))) + a2).toNatClampNeg) 0 → (∀ S8, S8 = uS S7 20 ((((90 * a1) + (3 * (sS S 3 (a1.toNatClampNeg)))) + a2).toNatClampNeg) a4 → (ES E 101 113 [some (.ref (aS E 0)), some (.int a1), some (.int a2), some (.int a3), some (.int a4), some (.int (sS S 2 (a1.toNatClampNeg))), some (.int (sS S 3 (a1.toNatClampNeg))), some (.int 0), some (.int a4), some (.int (((90 * a1) + (3 * (sS S 3 (a1.toNatClampNeg)))) + a2)), none, none] [] S8 K)))) ∧ (¬ (sS S 19 ((((90 * a1) + (3 * (sS S 3 (a1.toNatClampNeg)))) + a2).toNatClampNeg)) < 0 → (ES E 101 113 [some (.ref (aS E 0)), some (.int a1), some (.int a2), some (.int a3), some (.int a4), some (.int (sS S 2 (a1.toNatClampNeg))), some (.int (sS S 3 (a1.toNatClampNeg))), some (.int (sS S 19 ((((90 * a1) + (3 * (sS S 3 (a1.toNatClampNeg)))) + a2).toNatClampNeg))), some (.int (sS S 20 ((((90 * a1) + (3 * (sS S 3 (a1.toNatClampNeg)))) + a2).toNatClampNeg))), some (.int (((90 * a1) + (3 * (sS S 3 (a1.toNatClampNeg)))) + a2)), none, none] [] S K))))))))) ∧ (¬ (sS S 11 (a1.toNatClampNeg)) = 5 → (ES E 101 34 [some (.ref (aS E 0)), some (.int a1), some (.int a2), some (.int a3), some (.int a4), some (.int (sS S 2 (a1.toNatClampNeg))), some (.int (sS S 3 (a1.toNatClampNeg))), none, none, none, none, none] [] S K)))) : ES E 101 0 [some (.ref (aS E 0)), some (.int a1), some (.int a2), some (.int a3), some (.int a4), none, none, none, none, none, none, none] [] S K := by
  have c1 := H.1
  replace H := H.2
  refine e_al x101_0 rfl (e_PS x101_1 rfl (e_il x101_4 rfl (e_iaS x101_5 (by decide) rfl c1 (e_ist (l' := [some (.ref (aS E 0)), some (.int a1), some (.int a2), some (.int a3), some (.int a4), some (.int (sS S 2 (a1.toNatClampNeg))), none, none, none, none, none, none]) x101_6 rfl rfl (e_al x101_8 rfl (e_PS x101_9 rfl (e_il x101_12 rfl (e_iaS x101_13 (by decide) rfl c1 (e_ist (l' := [some (.ref (aS E 0)), some (.int a1), some (.int a2), some (.int a3), some (.int a4), some (.int (sS S 2 (a1.toNatClampNeg))), some (.int (sS S 3 (a1.toNatClampNeg))), none, none, none, none, none]) x101_14 rfl rfl (e_al x101_16 rfl (e_PS x101_17 rfl (e_il x101_20 rfl (e_iaS x101_21 (by decide) rfl c1 (e_ic x101_22 (e_ne x101_23 (fun c2 => ?_) (fun c2 => ?_))))))))))))))))
  · replace H := H.1 c2
    refine e_il x101_26 rfl (e_le0 x101_27 (fun c3 => ?_) (fun c3 => ?_))
    · replace H := H.1 c3
      exact H
    · replace H := H.2 c3
      refine e_ic x101_30 (e_goto x101_31 (e_ist (l' := [some (.ref (aS E 0)), some (.int a1), some (.int a2), some (.int a3), some (.int a4), some (.int (sS S 2 (a1.toNatClampNeg))), some (.int (sS S 3 (a1.toNatClampNeg))), some (.int 0), none, none, none, none]) x101_35 rfl rfl (e_il x101_37 rfl (e_ist (l' := [some (.ref (aS E 0)), some (.int a1), some (.int a2), some (.int a3), some (.int a4), some (.int (sS S 2 (a1.toNatClampNeg))), some (.int (sS S 3 (a1.toNatClampNeg))), some (.int 0), some (.int a4), none, none, none]) x101_39 rfl rfl (e_ic x101_41 (e_il x101_43 rfl (e_ii (v := (90 * a1)) x101_44 rfl (e_ic x101_45 (e_il x101_46 rfl (e_ii (v := (3 * (sS S 3 (a1.toNatClampNeg)))) x101_48 rfl (e_ii (v := ((90 * a1) + (3 * (sS S 3 (a1.toNatClampNeg))))) x101_49 rfl (e_il x101_50 rfl (e_ii (v := (((90 * a1) + (3 * (sS S 3 (a1.toNatClampNeg)))) + a2)) x101_51 rfl (e_ist (l' := [some (.ref (aS E 0)), some (.int a1), some (.int a2), some (.int a3), some (.int a4), some (.int (sS S 2 (a1.toNatClampNeg))), some (.int (sS S 3 (a1.toNatClampNeg))), some (.int 0), some (.int a4), some (.int (((90 * a1) + (3 * (sS S 3 (a1.toNatClampNeg)))) + a2)), none, none]) x101_52 rfl rfl (e_al x101_54 rfl (e_PS x101_55 rfl (e_il x101_58 rfl (e_iaS x101_59 (by decide) rfl c1 (e_ic x101_60 (e_eq x101_61 (fun c4 => ?_) (fun c4 => ?_)))))))))))))))))))))
      · replace H := H.1 c4
        exact H
      · replace H := H.2 c4
        have c5 := H.1
        replace H := H.2
        refine e_al x101_64 rfl (e_PS x101_65 rfl (e_il x101_68 rfl (e_iaS x101_70 (by decide) rfl c5 (e_lt0 x101_71 (fun c6 => ?_) (fun c6 => ?_)))))
        · replace H := H.1 c6
          refine e_al x101_95 rfl (e_PS x101_96 rfl (e_il x101_99 rfl (e_il x101_101 rfl (e_waS x101_103 (by decide) rfl c5 ?_))))
          let S7 : mS := uS S 19 ((((90 * a1) + (3 * (sS S 3 (a1.toNatClampNeg)))) + a2).toNatClampNeg) 0
          replace H := H S7 rfl
          show ES _ _ _ _ _ S7 _
          refine e_al x101_104 rfl (e_PS x101_105 rfl (e_il x101_108 rfl (e_il x101_110 rfl (e_waS x101_112 (by decide) rfl c5 ?_))))
          let S8 : mS := uS S7 20 ((((90 * a1) + (3 * (sS S 3 (a1.toNatClampNeg)))) + a2).toNatClampNeg) a4
          replace H := H S8 rfl
          show ES _ _ _ _ _ S8 _
          exact H
        · replace H := H.2 c6
          exact e_al x101_74 rfl (e_PS x101_75 rfl (e_il x101_78 rfl (e_iaS x101_80 (by decide) rfl c5 (e_ist (l' := [some (.ref (aS E 0)), some (.int a1), some (.int a2), some (.int a3), some (.int a4), some (.int (sS S 2 (a1.toNatClampNeg))), some (.int (sS S 3 (a1.toNatClampNeg))), some (.int (sS S 19 ((((90 * a1) + (3 * (sS S 3 (a1.toNatClampNeg)))) + a2).toNatClampNeg))), some (.int a4), some (.int (((90 * a1) + (3 * (sS S 3 (a1.toNatClampNeg)))) + a2)), none, none]) x101_81 rfl rfl (e_al x101_83 rfl (e_PS x101_84 rfl (e_il x101_87 rfl (e_iaS x101_89 (by decide) rfl c5 (e_ist (l' := [some (.ref (aS E 0)), some (.int a1), some (.int a2), some (.int a3), some (.int a4), some (.int (sS S 2 (a1.toNatClampNeg))), some (.int (sS S 3 (a1.toNatClampNeg))), some (.int (sS S 19 ((((90 * a1) + (3 * (sS S 3 (a1.toNatClampNeg)))) + a2).toNatClampNeg))), some (.int (sS S 20 ((((90 * a1) + (3 * (sS S 3 (a1.toNatClampNeg)))) + a2).toNatClampNeg))), some (.int (((90 * a1) + (3 * (sS S 3 (a1.toNatClampNeg)))) + a2)), none, none]) x101_90 rfl rfl (e_goto x101_92 (H)))))))))))
  · replace H := H.2 c2
    exact H

-- Model.send(IIII)V, from 34
set_option maxRecDepth 8000 in
theorem T101_34 {E : mE} {v1 : Int32} {v2 : Int32} {v3 : Int32} {v4 : Int32} {v5 : Int32} {v6 : Int32} {S : mS} {K : Option Value → mS → Prop}  (H : (¬ v1 < 0 ∧ (v1.toNatClampNeg) < 10) ∧ (((sS S 11 (v1.toNatClampNeg)) = 4 → (ES E 101 113 [some (.ref (aS E 0)), some (.int v1), some (.int v2), some (.int v3), some (.int v4), some (.int v5), some (.int v6), some (.int v3), some (.int v4), some (.int (((90 * v1) + (3 * v6)) + v2)), none, none] [] S K)) ∧ (¬ (sS S 11 (v1.toNatClampNeg)) = 4 → ((¬ (((90 * v1) + (3 * v6)) + v2) < 0 ∧ ((((90 * v1) + (3 * v6)) + v2).toNatClampNeg) < 900) ∧ (((sS S 19 ((((90 * v1) + (3 * v6)) + v2).toNatClampNeg)) < 0 → (∀ S5, S5 = uS S 19 ((((90 * v1) + (3 * v6)) + v2).toNatClampNeg) v3 → (∀ S6, S6 = uS S5 20 ((((90 * v1) + (3 * v6)) + v2).toNatClampNeg) v4 → (ES E 101 113 [some (.ref (aS E 0)), some (.int v1), some (.int v2), some (.int v3), some (.int v4), some (.int v5), some (.int v6), some (.int v3), some (.int v4), some (.int (((90 * v1) + (3 * v6)) + v2)), none, none] [] S6 K)))) ∧ (¬ (sS S 19 ((((90 * v1) + (3 * v6)) + v2).toNatClampNeg)) < 0 → (ES E 101 113 [some (.ref (aS E 0)), some (.int v1), some (.int v2), some (.int v3), some (.int v4), some (.int v5), some (.int v6), some (.int (sS S 19 ((((90 * v1) + (3 * v6)) + v2).toNatClampNeg))), some (.int (sS S 20 ((((90 * v1) + (3 * v6)) + v2).toNatClampNeg))), some (.int (((90 * v1) + (3 * v6)) + v2)), none, none] [] S K))))))) : ES E 101 34 [some (.ref (aS E 0)), some (.int v1), some (.int v2), some (.int v3), some (.int v4), some (.int v5), some (.int v6), none, none, none, none, none] [] S K := by
  have c1 := H.1
  replace H := H.2
  refine e_il x101_34 rfl (e_ist (l' := [some (.ref (aS E 0)), some (.int v1), some (.int v2), some (.int v3), some (.int v4), some (.int v5), some (.int v6), some (.int v3), none, none, none, none]) x101_35 rfl rfl (e_il x101_37 rfl (e_ist (l' := [some (.ref (aS E 0)), some (.int v1), some (.int v2), some (.int v3), some (.int v4), some (.int v5), some (.int v6), some (.int v3), some (.int v4), none, none, none]) x101_39 rfl rfl (e_ic x101_41 (e_il x101_43 rfl (e_ii (v := (90 * v1)) x101_44 rfl (e_ic x101_45 (e_il x101_46 rfl (e_ii (v := (3 * v6)) x101_48 rfl (e_ii (v := ((90 * v1) + (3 * v6))) x101_49 rfl (e_il x101_50 rfl (e_ii (v := (((90 * v1) + (3 * v6)) + v2)) x101_51 rfl (e_ist (l' := [some (.ref (aS E 0)), some (.int v1), some (.int v2), some (.int v3), some (.int v4), some (.int v5), some (.int v6), some (.int v3), some (.int v4), some (.int (((90 * v1) + (3 * v6)) + v2)), none, none]) x101_52 rfl rfl (e_al x101_54 rfl (e_PS x101_55 rfl (e_il x101_58 rfl (e_iaS x101_59 (by decide) rfl c1 (e_ic x101_60 (e_eq x101_61 (fun c2 => ?_) (fun c2 => ?_))))))))))))))))))))
  · replace H := H.1 c2
    exact H
  · replace H := H.2 c2
    have c3 := H.1
    replace H := H.2
    refine e_al x101_64 rfl (e_PS x101_65 rfl (e_il x101_68 rfl (e_iaS x101_70 (by decide) rfl c3 (e_lt0 x101_71 (fun c4 => ?_) (fun c4 => ?_)))))
    · replace H := H.1 c4
      refine e_al x101_95 rfl (e_PS x101_96 rfl (e_il x101_99 rfl (e_il x101_101 rfl (e_waS x101_103 (by decide) rfl c3 ?_))))
      let S5 : mS := uS S 19 ((((90 * v1) + (3 * v6)) + v2).toNatClampNeg) v3
      replace H := H S5 rfl
      show ES _ _ _ _ _ S5 _
      refine e_al x101_104 rfl (e_PS x101_105 rfl (e_il x101_108 rfl (e_il x101_110 rfl (e_waS x101_112 (by decide) rfl c3 ?_))))
      let S6 : mS := uS S5 20 ((((90 * v1) + (3 * v6)) + v2).toNatClampNeg) v4
      replace H := H S6 rfl
      show ES _ _ _ _ _ S6 _
      exact H
    · replace H := H.2 c4
      exact e_al x101_74 rfl (e_PS x101_75 rfl (e_il x101_78 rfl (e_iaS x101_80 (by decide) rfl c3 (e_ist (l' := [some (.ref (aS E 0)), some (.int v1), some (.int v2), some (.int v3), some (.int v4), some (.int v5), some (.int v6), some (.int (sS S 19 ((((90 * v1) + (3 * v6)) + v2).toNatClampNeg))), some (.int v4), some (.int (((90 * v1) + (3 * v6)) + v2)), none, none]) x101_81 rfl rfl (e_al x101_83 rfl (e_PS x101_84 rfl (e_il x101_87 rfl (e_iaS x101_89 (by decide) rfl c3 (e_ist (l' := [some (.ref (aS E 0)), some (.int v1), some (.int v2), some (.int v3), some (.int v4), some (.int v5), some (.int v6), some (.int (sS S 19 ((((90 * v1) + (3 * v6)) + v2).toNatClampNeg))), some (.int (sS S 20 ((((90 * v1) + (3 * v6)) + v2).toNatClampNeg))), some (.int (((90 * v1) + (3 * v6)) + v2)), none, none]) x101_90 rfl rfl (e_goto x101_92 (H)))))))))))

-- Model.send(IIII)V, from 113
set_option maxRecDepth 8000 in
theorem T101_113 {E : mE} {v1 : Int32} {v2 : Int32} {v3 : Int32} {v4 : Int32} {v5 : Int32} {v6 : Int32} {v7 : Int32} {v8 : Int32} {v9 : Int32} {S : mS} {K : Option Value → mS → Prop}  (H : ES E 102 0 [some (.ref (aS E 0)), some (.int v1), some (.int v1), some (.int v5), some (.int v6), some (.int v2), some (.int v7), some (.int v8), some (.int 0), none, none] [] S (fun r S1 => r = none ∧ ((¬ v1 < 0 ∧ (v1.toNatClampNeg) < 10) ∧ (((sS S1 11 (v1.toNatClampNeg)) = 1 → (K none S1)) ∧ (¬ (sS S1 11 (v1.toNatClampNeg)) = 1 → (ES E 101 143 [some (.ref (aS E 0)), some (.int v1), some (.int v2), some (.int v3), some (.int v4), some (.int v5), some (.int v6), some (.int v7), some (.int v8), some (.int v9), some (.int 0), none] [] S1 K)))))) : ES E 101 113 [some (.ref (aS E 0)), some (.int v1), some (.int v2), some (.int v3), some (.int v4), some (.int v5), some (.int v6), some (.int v7), some (.int v8), some (.int v9), none, none] [] S K := by
  refine e_al x101_113 rfl (e_il x101_114 rfl (e_il x101_115 rfl (e_il x101_116 rfl (e_il x101_118 rfl (e_il x101_120 rfl (e_il x101_121 rfl (e_il x101_123 rfl (e_ic x101_125 (e_cV (l0 := [some (.ref (aS E 0)), some (.int v1), some (.int v1), some (.int v5), some (.int v6), some (.int v2), some (.int v7), some (.int v8), some (.int 0), none, none]) x101_126 rfl rfl rfl rfl rfl (fun h hh => hh.tS (by decide)) (ES.mono H ?_))))))))))
  rintro _ S1 ⟨rfl, H⟩
  have c2 := H.1
  replace H := H.2
  refine e_al x101_129 rfl (e_PS x101_130 rfl (e_il x101_133 rfl (e_iaS x101_134 (by decide) rfl c2 (e_ic x101_135 (e_ne x101_136 (fun c3 => ?_) (fun c3 => ?_))))))
  · replace H := H.1 c3
    exact e_rv x101_139 H
  · replace H := H.2 c3
    exact e_ic x101_140 (e_ist (l' := [some (.ref (aS E 0)), some (.int v1), some (.int v2), some (.int v3), some (.int v4), some (.int v5), some (.int v6), some (.int v7), some (.int v8), some (.int v9), some (.int 0), none]) x101_141 rfl rfl (H))

-- Model.send(IIII)V, from 143
set_option maxRecDepth 8000 in
theorem T101_143 {E : mE} {v1 : Int32} {v2 : Int32} {v3 : Int32} {v4 : Int32} {v5 : Int32} {v6 : Int32} {v7 : Int32} {v8 : Int32} {v9 : Int32} {v10 : Int32} {S : mS} {K : Option Value → mS → Prop}  (H : ((sS S 0 1) ≤ v10 → (ES E 101 222 [some (.ref (aS E 0)), some (.int v1), some (.int v2), some (.int v3), some (.int v4), some (.int v5), some (.int v6), some (.int v7), some (.int v8), some (.int v9), some (.int 0), none] [] S K)) ∧ (¬ (sS S 0 1) ≤ v10 → ((v10 = v1 → (ES E 101 143 [some (.ref (aS E 0)), some (.int v1), some (.int v2), some (.int v3), some (.int v4), some (.int v5), some (.int v6), some (.int v7), some (.int v8), some (.int v9), some (.int (v10 + 1)), none] [] S K)) ∧ (¬ v10 = v1 → ((¬ v1 < 0 ∧ (v1.toNatClampNeg) < 10) ∧ (((sS S 11 (v1.toNatClampNeg)) = 2 → ((¬ (2 : Int32) = 0) ∧ (((v10 - v10 / 2 * 2) = 1 → ((v2 = 0 → (ES E 105 0 [some (.ref (aS E 0)), some (.int v1), some (.int v10), some (.int v5), some (.int v6), some (.int v2), some (.int (v7 + 1)), some (.int v8), none, none, none, none, none] [] S (fun r S8 => r = none ∧ (ES E 101 143 [some (.ref (aS E 0)), some (.int v1), some (.int v2), some (.int v3), some (.int v4), some (.int v5), some (.int v6), some (.int v7), some (.int v8), some (.int v9), some (.int (v10 + 1)), none] [] S8 K)))) ∧ (¬ v2 = 0 → ((v7 = 0 → (ES E 105 0 [some (.ref (aS E 0)), some (.int v1), some (.int v10), some (.int v5), some (.int v6), some (.int v2), some (.int 1), some (.int v8), none, none, none, none, none] [] S (fun r S10 => r = none ∧ (ES E 101 143 [some (.ref (aS E 0)), some (.int v1), some (.int v2), some (.int v3), some (.int v4), some (.int v5), some (.int v6), some (.int v7), some (.int v8), some (.int v9), some (.int (v10 + 1)), none] [] S10 K)))) ∧ (¬ v7 = 0 → (ES E 105 0 [some (.ref (aS E 0)), some (.int v1), some (.int v10), some (.int v5), some (.int v6), some (.int v2), some (.int 0), some (.int v8), none, none, none, none, none] [] S (fun r S11 => r = none ∧ (ES E 101 143 [some (.ref (aS E 0)), some (.int v1), some (.int v2), some (.int v3), some (.int v4), some (.int v5), some (.int v6), some (.int v7), some (.int v8), some (.int v9), some (.int (v10 + 1)), none] [] S11 K)))))))) ∧ (¬ (v10 - v10 / 2 * 2) = 1 → (ES E 105 0 [some (.ref (aS E 0)), some (.int v1), some (.int v10), some (.int v5), some (.int v6), some (.int v2), some (.int v7), some (.int v8), none, none, none, none, none] [] S (fun r S12 => r = none ∧ (ES E 101 143 [some (.ref (aS E 0)), some (.int v1), some (.int v2), some (.int v3), some (.int v4), some (.int v5), some (.int v6), some (.int v7), some (.int v8), some (.int v9), some (.int (v10 + 1)), none] [] S12 K))))))) ∧ (¬ (sS S 11 (v1.toNatClampNeg)) = 2 → (ES E 105 0 [some (.ref (aS E 0)), some (.int v1), some (.int v10), some (.int v5), some (.int v6), some (.int v2), some (.int v7), some (.int v8), none, none, none, none, none] [] S (fun r S13 => r = none ∧ (ES E 101 143 [some (.ref (aS E 0)), some (.int v1), some (.int v2), some (.int v3), some (.int v4), some (.int v5), some (.int v6), some (.int v7), some (.int v8), some (.int v9), some (.int (v10 + 1)), none] [] S13 K)))))))))) : ES E 101 143 [some (.ref (aS E 0)), some (.int v1), some (.int v2), some (.int v3), some (.int v4), some (.int v5), some (.int v6), some (.int v7), some (.int v8), some (.int v9), some (.int v10), none] [] S K := by
  refine e_il x101_143 rfl (e_al x101_145 rfl (e_gS x101_146 (by decide) rfl (e_ge x101_149 (fun c1 => ?_) (fun c1 => ?_))))
  · replace H := H.1 c1
    exact e_ic x101_219 (e_ist (l' := [some (.ref (aS E 0)), some (.int v1), some (.int v2), some (.int v3), some (.int v4), some (.int v5), some (.int v6), some (.int v7), some (.int v8), some (.int v9), some (.int 0), none]) x101_220 rfl rfl (H))
  · replace H := H.2 c1
    refine e_il x101_152 rfl (e_il x101_154 rfl (e_eq x101_155 (fun c2 => ?_) (fun c2 => ?_)))
    · replace H := H.1 c2
      exact e_inc (l' := [some (.ref (aS E 0)), some (.int v1), some (.int v2), some (.int v3), some (.int v4), some (.int v5), some (.int v6), some (.int v7), some (.int v8), some (.int v9), some (.int (v10 + 1)), none]) x101_213 rfl rfl rfl (e_back (l' := [some (.ref (aS E 0)), some (.int v1), some (.int v2), some (.int v3), some (.int v4), some (.int v5), some (.int v6), some (.int v7), some (.int v8), some (.int v9), some (.int (v10 + 1)), none]) x101_216 rfl (H))
    · replace H := H.2 c2
      have c3 := H.1
      replace H := H.2
      refine e_al x101_158 rfl (e_PS x101_159 rfl (e_il x101_162 rfl (e_iaS x101_163 (by decide) rfl c3 (e_ic x101_164 (e_ne x101_165 (fun c4 => ?_) (fun c4 => ?_))))))
      · replace H := H.1 c4
        have c5 := H.1
        replace H := H.2
        refine e_il x101_168 rfl (e_ic x101_170 (e_rem x101_171 c5 (e_ic x101_172 (e_ne x101_173 (fun c6 => ?_) (fun c6 => ?_)))))
        · replace H := H.1 c6
          refine e_ic x101_176 (e_goto x101_177 (e_ist (l' := [some (.ref (aS E 0)), some (.int v1), some (.int v2), some (.int v3), some (.int v4), some (.int v5), some (.int v6), some (.int v7), some (.int v8), some (.int v9), some (.int v10), some (.int 1)]) x101_181 rfl rfl (e_al x101_183 rfl (e_il x101_184 rfl (e_il x101_185 rfl (e_il x101_187 rfl (e_il x101_189 rfl (e_il x101_191 rfl (e_il x101_192 rfl (e_eq0 x101_194 (fun z9 => absurd z9 (by decide)) (fun _ => ?_)))))))))))
          refine e_il x101_197 rfl (e_il x101_198 rfl (e_cS (l0 := [some (.int v2), some (.int v7)]) x101_200 rfl rfl rfl rfl rfl (e_il x104_0 rfl (e_ne0 x104_1 (fun c7 => ?_) (fun c7 => ?_)))))
          · replace H := H.1 c7
            refine e_il x104_4 rfl (e_ic x104_5 (e_ii (v := (v7 + 1)) x104_6 rfl (e_goto x104_7 (e_ri x104_19 (e_goto x101_203 (e_il x101_208 rfl (e_cV (l0 := [some (.ref (aS E 0)), some (.int v1), some (.int v10), some (.int v5), some (.int v6), some (.int v2), some (.int (v7 + 1)), some (.int v8), none, none, none, none, none]) x101_210 rfl rfl rfl rfl rfl (fun h hh => hh.tS (by decide)) (ES.mono H ?_))))))))
            rintro _ S8 ⟨rfl, H⟩
            exact e_inc (l' := [some (.ref (aS E 0)), some (.int v1), some (.int v2), some (.int v3), some (.int v4), some (.int v5), some (.int v6), some (.int v7), some (.int v8), some (.int v9), some (.int (v10 + 1)), some (.int 1)]) x101_213 rfl rfl rfl (e_back (l' := [some (.ref (aS E 0)), some (.int v1), some (.int v2), some (.int v3), some (.int v4), some (.int v5), some (.int v6), some (.int v7), some (.int v8), some (.int v9), some (.int (v10 + 1)), none]) x101_216 rfl (H))
          · replace H := H.2 c7
            refine e_il x104_10 rfl (e_ne0 x104_11 (fun c9 => ?_) (fun c9 => ?_))
            · replace H := H.1 c9
              refine e_ic x104_14 (e_goto x104_15 (e_ri x104_19 (e_goto x101_203 (e_il x101_208 rfl (e_cV (l0 := [some (.ref (aS E 0)), some (.int v1), some (.int v10), some (.int v5), some (.int v6), some (.int v2), some (.int 1), some (.int v8), none, none, none, none, none]) x101_210 rfl rfl rfl rfl rfl (fun h hh => hh.tS (by decide)) (ES.mono H ?_))))))
              rintro _ S10 ⟨rfl, H⟩
              exact e_inc (l' := [some (.ref (aS E 0)), some (.int v1), some (.int v2), some (.int v3), some (.int v4), some (.int v5), some (.int v6), some (.int v7), some (.int v8), some (.int v9), some (.int (v10 + 1)), some (.int 1)]) x101_213 rfl rfl rfl (e_back (l' := [some (.ref (aS E 0)), some (.int v1), some (.int v2), some (.int v3), some (.int v4), some (.int v5), some (.int v6), some (.int v7), some (.int v8), some (.int v9), some (.int (v10 + 1)), none]) x101_216 rfl (H))
            · replace H := H.2 c9
              refine e_ic x104_18 (e_ri x104_19 (e_goto x101_203 (e_il x101_208 rfl (e_cV (l0 := [some (.ref (aS E 0)), some (.int v1), some (.int v10), some (.int v5), some (.int v6), some (.int v2), some (.int 0), some (.int v8), none, none, none, none, none]) x101_210 rfl rfl rfl rfl rfl (fun h hh => hh.tS (by decide)) (ES.mono H ?_)))))
              rintro _ S11 ⟨rfl, H⟩
              exact e_inc (l' := [some (.ref (aS E 0)), some (.int v1), some (.int v2), some (.int v3), some (.int v4), some (.int v5), some (.int v6), some (.int v7), some (.int v8), some (.int v9), some (.int (v10 + 1)), some (.int 1)]) x101_213 rfl rfl rfl (e_back (l' := [some (.ref (aS E 0)), some (.int v1), some (.int v2), some (.int v3), some (.int v4), some (.int v5), some (.int v6), some (.int v7), some (.int v8), some (.int v9), some (.int (v10 + 1)), none]) x101_216 rfl (H))
        · replace H := H.2 c6
          refine e_ic x101_180 (e_ist (l' := [some (.ref (aS E 0)), some (.int v1), some (.int v2), some (.int v3), some (.int v4), some (.int v5), some (.int v6), some (.int v7), some (.int v8), some (.int v9), some (.int v10), some (.int 0)]) x101_181 rfl rfl (e_al x101_183 rfl (e_il x101_184 rfl (e_il x101_185 rfl (e_il x101_187 rfl (e_il x101_189 rfl (e_il x101_191 rfl (e_il x101_192 rfl (e_eq0 x101_194 (fun _ => ?_) (fun z9 => absurd (by decide) z9))))))))))
          refine e_il x101_206 rfl (e_il x101_208 rfl (e_cV (l0 := [some (.ref (aS E 0)), some (.int v1), some (.int v10), some (.int v5), some (.int v6), some (.int v2), some (.int v7), some (.int v8), none, none, none, none, none]) x101_210 rfl rfl rfl rfl rfl (fun h hh => hh.tS (by decide)) (ES.mono H ?_)))
          rintro _ S12 ⟨rfl, H⟩
          exact e_inc (l' := [some (.ref (aS E 0)), some (.int v1), some (.int v2), some (.int v3), some (.int v4), some (.int v5), some (.int v6), some (.int v7), some (.int v8), some (.int v9), some (.int (v10 + 1)), some (.int 0)]) x101_213 rfl rfl rfl (e_back (l' := [some (.ref (aS E 0)), some (.int v1), some (.int v2), some (.int v3), some (.int v4), some (.int v5), some (.int v6), some (.int v7), some (.int v8), some (.int v9), some (.int (v10 + 1)), none]) x101_216 rfl (H))
      · replace H := H.2 c4
        refine e_ic x101_180 (e_ist (l' := [some (.ref (aS E 0)), some (.int v1), some (.int v2), some (.int v3), some (.int v4), some (.int v5), some (.int v6), some (.int v7), some (.int v8), some (.int v9), some (.int v10), some (.int 0)]) x101_181 rfl rfl (e_al x101_183 rfl (e_il x101_184 rfl (e_il x101_185 rfl (e_il x101_187 rfl (e_il x101_189 rfl (e_il x101_191 rfl (e_il x101_192 rfl (e_eq0 x101_194 (fun _ => ?_) (fun z9 => absurd (by decide) z9))))))))))
        refine e_il x101_206 rfl (e_il x101_208 rfl (e_cV (l0 := [some (.ref (aS E 0)), some (.int v1), some (.int v10), some (.int v5), some (.int v6), some (.int v2), some (.int v7), some (.int v8), none, none, none, none, none]) x101_210 rfl rfl rfl rfl rfl (fun h hh => hh.tS (by decide)) (ES.mono H ?_)))
        rintro _ S13 ⟨rfl, H⟩
        exact e_inc (l' := [some (.ref (aS E 0)), some (.int v1), some (.int v2), some (.int v3), some (.int v4), some (.int v5), some (.int v6), some (.int v7), some (.int v8), some (.int v9), some (.int (v10 + 1)), some (.int 0)]) x101_213 rfl rfl rfl (e_back (l' := [some (.ref (aS E 0)), some (.int v1), some (.int v2), some (.int v3), some (.int v4), some (.int v5), some (.int v6), some (.int v7), some (.int v8), some (.int v9), some (.int (v10 + 1)), none]) x101_216 rfl (H))

-- Model.send(IIII)V, from 222
set_option maxRecDepth 8000 in
theorem T101_222 {E : mE} {v1 : Int32} {v2 : Int32} {v3 : Int32} {v4 : Int32} {v5 : Int32} {v6 : Int32} {v7 : Int32} {v8 : Int32} {v9 : Int32} {v10 : Int32} {S : mS} {K : Option Value → mS → Prop}  (H : ((sS S 0 1) ≤ v10 → (K none S)) ∧ (¬ (sS S 0 1) ≤ v10 → ((¬ v1 < 0 ∧ (v1.toNatClampNeg) < 10) ∧ (((sS S 11 (v1.toNatClampNeg)) = 3 → ((v10 = v1 → (ES E 101 222 [some (.ref (aS E 0)), some (.int v1), some (.int v2), some (.int v3), some (.int v4), some (.int v5), some (.int v6), some (.int v7), some (.int v8), some (.int v9), some (.int (v10 + 1)), none] [] S K)) ∧ (¬ v10 = v1 → ((v2 = 0 → (ES E 105 0 [some (.ref (aS E 0)), some (.int v1), some (.int v10), some (.int v5), some (.int v6), some (.int v2), some (.int (v7 + 1)), some (.int v8), none, none, none, none, none] [] S (fun r S6 => r = none ∧ (ES E 101 222 [some (.ref (aS E 0)), some (.int v1), some (.int v2), some (.int v3), some (.int v4), some (.int v5), some (.int v6), some (.int v7), some (.int v8), some (.int v9), some (.int (v10 + 1)), none] [] S6 K)))) ∧ (¬ v2 = 0 → ((v7 = 0 → (ES E 105 0 [some (.ref (aS E 0)), some (.int v1), some (.int v10), some (.int v5), some (.int v6), some (.int v2), some (.int 1), some (.int v8), none, none, none, none, none] [] S (fun r S8 => r = none ∧ (ES E 101 222 [some (.ref (aS E 0)), some (.int v1), some (.int v2), some (.int v3), some (.int v4), some (.int v5), some (.int v6), some (.int v7), some (.int v8), some (.int v9), some (.int (v10 + 1)), none] [] S8 K)))) ∧ (¬ v7 = 0 → (ES E 105 0 [some (.ref (aS E 0)), some (.int v1), some (.int v10), some (.int v5), some (.int v6), some (.int v2), some (.int 0), some (.int v8), none, none, none, none, none] [] S (fun r S9 => r = none ∧ (ES E 101 222 [some (.ref (aS E 0)), some (.int v1), some (.int v2), some (.int v3), some (.int v4), some (.int v5), some (.int v6), some (.int v7), some (.int v8), some (.int v9), some (.int (v10 + 1)), none] [] S9 K)))))))))) ∧ (¬ (sS S 11 (v1.toNatClampNeg)) = 3 → (K none S)))))) : ES E 101 222 [some (.ref (aS E 0)), some (.int v1), some (.int v2), some (.int v3), some (.int v4), some (.int v5), some (.int v6), some (.int v7), some (.int v8), some (.int v9), some (.int v10), none] [] S K := by
  refine e_il x101_222 rfl (e_al x101_224 rfl (e_gS x101_225 (by decide) rfl (e_ge x101_228 (fun c1 => ?_) (fun c1 => ?_))))
  · replace H := H.1 c1
    exact e_rv x101_273 H
  · replace H := H.2 c1
    have c2 := H.1
    replace H := H.2
    refine e_al x101_231 rfl (e_PS x101_232 rfl (e_il x101_235 rfl (e_iaS x101_236 (by decide) rfl c2 (e_ic x101_237 (e_ne x101_238 (fun c3 => ?_) (fun c3 => ?_))))))
    · replace H := H.1 c3
      refine e_il x101_241 rfl (e_il x101_243 rfl (e_eq x101_244 (fun c4 => ?_) (fun c4 => ?_)))
      · replace H := H.1 c4
        exact e_inc (l' := [some (.ref (aS E 0)), some (.int v1), some (.int v2), some (.int v3), some (.int v4), some (.int v5), some (.int v6), some (.int v7), some (.int v8), some (.int v9), some (.int (v10 + 1)), none]) x101_267 rfl rfl rfl (e_back (l' := [some (.ref (aS E 0)), some (.int v1), some (.int v2), some (.int v3), some (.int v4), some (.int v5), some (.int v6), some (.int v7), some (.int v8), some (.int v9), some (.int (v10 + 1)), none]) x101_270 rfl (H))
      · replace H := H.2 c4
        refine e_al x101_247 rfl (e_il x101_248 rfl (e_il x101_249 rfl (e_il x101_251 rfl (e_il x101_253 rfl (e_il x101_255 rfl (e_il x101_256 rfl (e_il x101_257 rfl (e_cS (l0 := [some (.int v2), some (.int v7)]) x101_259 rfl rfl rfl rfl rfl (e_il x104_0 rfl (e_ne0 x104_1 (fun c5 => ?_) (fun c5 => ?_)))))))))))
        · replace H := H.1 c5
          refine e_il x104_4 rfl (e_ic x104_5 (e_ii (v := (v7 + 1)) x104_6 rfl (e_goto x104_7 (e_ri x104_19 (e_il x101_262 rfl (e_cV (l0 := [some (.ref (aS E 0)), some (.int v1), some (.int v10), some (.int v5), some (.int v6), some (.int v2), some (.int (v7 + 1)), some (.int v8), none, none, none, none, none]) x101_264 rfl rfl rfl rfl rfl (fun h hh => hh.tS (by decide)) (ES.mono H ?_)))))))
          rintro _ S6 ⟨rfl, H⟩
          exact e_inc (l' := [some (.ref (aS E 0)), some (.int v1), some (.int v2), some (.int v3), some (.int v4), some (.int v5), some (.int v6), some (.int v7), some (.int v8), some (.int v9), some (.int (v10 + 1)), none]) x101_267 rfl rfl rfl (e_back (l' := [some (.ref (aS E 0)), some (.int v1), some (.int v2), some (.int v3), some (.int v4), some (.int v5), some (.int v6), some (.int v7), some (.int v8), some (.int v9), some (.int (v10 + 1)), none]) x101_270 rfl (H))
        · replace H := H.2 c5
          refine e_il x104_10 rfl (e_ne0 x104_11 (fun c7 => ?_) (fun c7 => ?_))
          · replace H := H.1 c7
            refine e_ic x104_14 (e_goto x104_15 (e_ri x104_19 (e_il x101_262 rfl (e_cV (l0 := [some (.ref (aS E 0)), some (.int v1), some (.int v10), some (.int v5), some (.int v6), some (.int v2), some (.int 1), some (.int v8), none, none, none, none, none]) x101_264 rfl rfl rfl rfl rfl (fun h hh => hh.tS (by decide)) (ES.mono H ?_)))))
            rintro _ S8 ⟨rfl, H⟩
            exact e_inc (l' := [some (.ref (aS E 0)), some (.int v1), some (.int v2), some (.int v3), some (.int v4), some (.int v5), some (.int v6), some (.int v7), some (.int v8), some (.int v9), some (.int (v10 + 1)), none]) x101_267 rfl rfl rfl (e_back (l' := [some (.ref (aS E 0)), some (.int v1), some (.int v2), some (.int v3), some (.int v4), some (.int v5), some (.int v6), some (.int v7), some (.int v8), some (.int v9), some (.int (v10 + 1)), none]) x101_270 rfl (H))
          · replace H := H.2 c7
            refine e_ic x104_18 (e_ri x104_19 (e_il x101_262 rfl (e_cV (l0 := [some (.ref (aS E 0)), some (.int v1), some (.int v10), some (.int v5), some (.int v6), some (.int v2), some (.int 0), some (.int v8), none, none, none, none, none]) x101_264 rfl rfl rfl rfl rfl (fun h hh => hh.tS (by decide)) (ES.mono H ?_))))
            rintro _ S9 ⟨rfl, H⟩
            exact e_inc (l' := [some (.ref (aS E 0)), some (.int v1), some (.int v2), some (.int v3), some (.int v4), some (.int v5), some (.int v6), some (.int v7), some (.int v8), some (.int v9), some (.int (v10 + 1)), none]) x101_267 rfl rfl rfl (e_back (l' := [some (.ref (aS E 0)), some (.int v1), some (.int v2), some (.int v3), some (.int v4), some (.int v5), some (.int v6), some (.int v7), some (.int v8), some (.int v9), some (.int (v10 + 1)), none]) x101_270 rfl (H))
    · replace H := H.2 c3
      exact e_rv x101_273 H

-- Model.keep(IIIIIIIZ)V, from 0
set_option maxRecDepth 8000 in
theorem T102 {E : mE} {a1 : Int32} {a2 : Int32} {a3 : Int32} {a4 : Int32} {a5 : Int32} {a6 : Int32} {a7 : Int32} {a8 : Int32} {S : mS} {K : Option Value → mS → Prop}  (H : (¬ a1 < 0 ∧ (a1.toNatClampNeg) < 10) ∧ ((a3 = (sS S 2 (a1.toNatClampNeg)) → (ES E 102 22 [some (.ref (aS E 0)), some (.int a1), some (.int a2), some (.int a3), some (.int a4), some (.int a5), some (.int a6), some (.int a7), some (.int a8), none, none] [] S K)) ∧ (¬ a3 = (sS S 2 (a1.toNatClampNeg)) → ((a3 = ((sS S 2 (a1.toNatClampNeg)) + 1) → (ES E 102 22 [some (.ref (aS E 0)), some (.int a1), some (.int a2), some (.int a3), some (.int a4), some (.int a5), some (.int a6), some (.int a7), some (.int a8), none, none] [] S K)) ∧ (¬ a3 = ((sS S 2 (a1.toNatClampNeg)) + 1) → (ES E 102 28 [some (.ref (aS E 0)), some (.int a1), some (.int a2), some (.int a3), some (.int a4), some (.int a5), some (.int a6), some (.int a7), some (.int a8), none, none] [] S K)))))) : ES E 102 0 [some (.ref (aS E 0)), some (.int a1), some (.int a2), some (.int a3), some (.int a4), some (.int a5), some (.int a6), some (.int a7), some (.int a8), none, none] [] S K := by
  have c1 := H.1
  replace H := H.2
  refine e_il x102_0 rfl (e_al x102_1 rfl (e_PS x102_2 rfl (e_il x102_5 rfl (e_iaS x102_6 (by decide) rfl c1 (e_eq x102_7 (fun c2 => ?_) (fun c2 => ?_))))))
  · replace H := H.1 c2
    exact H
  · replace H := H.2 c2
    refine e_il x102_10 rfl (e_al x102_11 rfl (e_PS x102_12 rfl (e_il x102_15 rfl (e_iaS x102_16 (by decide) rfl c1 (e_ic x102_17 (e_ii (v := ((sS S 2 (a1.toNatClampNeg)) + 1)) x102_18 rfl (e_ne x102_19 (fun c3 => ?_) (fun c3 => ?_))))))))
    · replace H := H.1 c3
      exact H
    · replace H := H.2 c3
      exact H

-- Model.keep(IIIIIIIZ)V, from 22
set_option maxRecDepth 8000 in
theorem T102_22 {E : mE} {v1 : Int32} {v2 : Int32} {v3 : Int32} {v4 : Int32} {v5 : Int32} {v6 : Int32} {v7 : Int32} {v8 : Int32} {S : mS} {K : Option Value → mS → Prop}  (H : (v3 ≤ 40 → ((¬ (2 : Int32) = 0) ∧ ((¬ ((((((((2 * v1) + (v3 - v3 / 2 * 2)) * 30) + v4) * 10) + v2) * 3) + v5) < 0 ∧ (((((((((2 * v1) + (v3 - v3 / 2 * 2)) * 30) + v4) * 10) + v2) * 3) + v5).toNatClampNeg) < 18000) ∧ (((0 : Int32) ≤ (sS S 17 (((((((((2 * v1) + (v3 - v3 / 2 * 2)) * 30) + v4) * 10) + v2) * 3) + v5).toNatClampNeg)) → ((v8 = 0 → (ES E 102 144 [some (.ref (aS E 0)), some (.int v1), some (.int v2), some (.int v3), some (.int v4), some (.int v5), some (.int v6), some (.int v7), some (.int v8), some (.int ((((((((2 * v1) + (v3 - v3 / 2 * 2)) * 30) + v4) * 10) + v2) * 3) + v5)), some (.int ((((((2 * v1) + (v3 - v3 / 2 * 2)) * 30) + v4) * 10) + v2))] [] S K)) ∧ (¬ v8 = 0 → (((sS S 17 (((((((((2 * v1) + (v3 - v3 / 2 * 2)) * 30) + v4) * 10) + v2) * 3) + v5).toNatClampNeg)) = v6 → ((v5 = 0 → ((¬ ((((((2 * v1) + (v3 - v3 / 2 * 2)) * 30) + v4) * 10) + v2) < 0 ∧ (((((((2 * v1) + (v3 - v3 / 2 * 2)) * 30) + v4) * 10) + v2).toNatClampNeg) < 6000) ∧ (((sS S 18 (((((((2 * v1) + (v3 - v3 / 2 * 2)) * 30) + v4) * 10) + v2).toNatClampNeg)) = v7 → (ES E 102 144 [some (.ref (aS E 0)), some (.int v1), some (.int v2), some (.int v3), some (.int v4), some (.int v5), some (.int v6), some (.int v7), some (.int v8), some (.int ((((((((2 * v1) + (v3 - v3 / 2 * 2)) * 30) + v4) * 10) + v2) * 3) + v5)), some (.int ((((((2 * v1) + (v3 - v3 / 2 * 2)) * 30) + v4) * 10) + v2))] [] S K)) ∧ (¬ (sS S 18 (((((((2 * v1) + (v3 - v3 / 2 * 2)) * 30) + v4) * 10) + v2).toNatClampNeg)) = v7 → (ES E 102 133 [some (.ref (aS E 0)), some (.int v1), some (.int v2), some (.int v3), some (.int v4), some (.int v5), some (.int v6), some (.int v7), some (.int v8), some (.int ((((((((2 * v1) + (v3 - v3 / 2 * 2)) * 30) + v4) * 10) + v2) * 3) + v5)), some (.int ((((((2 * v1) + (v3 - v3 / 2 * 2)) * 30) + v4) * 10) + v2))] [] S K))))) ∧ (¬ v5 = 0 → (ES E 102 144 [some (.ref (aS E 0)), some (.int v1), some (.int v2), some (.int v3), some (.int v4), some (.int v5), some (.int v6), some (.int v7), some (.int v8), some (.int ((((((((2 * v1) + (v3 - v3 / 2 * 2)) * 30) + v4) * 10) + v2) * 3) + v5)), some (.int ((((((2 * v1) + (v3 - v3 / 2 * 2)) * 30) + v4) * 10) + v2))] [] S K)))) ∧ (¬ (sS S 17 (((((((((2 * v1) + (v3 - v3 / 2 * 2)) * 30) + v4) * 10) + v2) * 3) + v5).toNatClampNeg)) = v6 → (ES E 102 133 [some (.ref (aS E 0)), some (.int v1), some (.int v2), some (.int v3), some (.int v4), some (.int v5), some (.int v6), some (.int v7), some (.int v8), some (.int ((((((((2 * v1) + (v3 - v3 / 2 * 2)) * 30) + v4) * 10) + v2) * 3) + v5)), some (.int ((((((2 * v1) + (v3 - v3 / 2 * 2)) * 30) + v4) * 10) + v2))] [] S K)))))) ∧ (¬ (0 : Int32) ≤ (sS S 17 (((((((((2 * v1) + (v3 - v3 / 2 * 2)) * 30) + v4) * 10) + v2) * 3) + v5).toNatClampNeg)) → (∀ S10, S10 = uS S 17 (((((((((2 * v1) + (v3 - v3 / 2 * 2)) * 30) + v4) * 10) + v2) * 3) + v5).toNatClampNeg) v6 → ((v5 = 0 → ((¬ ((((((2 * v1) + (v3 - v3 / 2 * 2)) * 30) + v4) * 10) + v2) < 0 ∧ (((((((2 * v1) + (v3 - v3 / 2 * 2)) * 30) + v4) * 10) + v2).toNatClampNeg) < 6000) ∧ (∀ S13, S13 = uS S10 18 (((((((2 * v1) + (v3 - v3 / 2 * 2)) * 30) + v4) * 10) + v2).toNatClampNeg) v7 → (ES E 102 144 [some (.ref (aS E 0)), some (.int v1), some (.int v2), some (.int v3), some (.int v4), some (.int v5), some (.int v6), some (.int v7), some (.int v8), some (.int ((((((((2 * v1) + (v3 - v3 / 2 * 2)) * 30) + v4) * 10) + v2) * 3) + v5)), some (.int ((((((2 * v1) + (v3 - v3 / 2 * 2)) * 30) + v4) * 10) + v2))] [] S13 K)))) ∧ (¬ v5 = 0 → ((¬ ((((((2 * v1) + (v3 - v3 / 2 * 2)) * 30) + v4) * 10) + v2) < 0 ∧ (((((((2 * v1) + (v3 - v3 / 2 * 2)) * 30) + v4) * 10) + v2).toNatClampNeg) < 6000) ∧ (∀ S15, S15 = uS S10 18 (((((((2 * v1) + (v3 - v3 / 2 * 2)) * 30) + v4) * 10) + v2).toNatClampNeg) (sS S10 18 (((((((2 * v1) + (v3 - v3 / 2 * 2)) * 30) + v4) * 10) + v2).toNatClampNeg)) → (ES E 102 144 [some (.ref (aS E 0)), some (.int v1), some (.int v2), some (.int v3), some (.int v4), some (.int v5), some (.int v6), some (.int v7), some (.int v8), some (.int ((((((((2 * v1) + (v3 - v3 / 2 * 2)) * 30) + v4) * 10) + v2) * 3) + v5)), some (.int ((((((2 * v1) + (v3 - v3 / 2 * 2)) * 30) + v4) * 10) + v2))] [] S15 K))))))))))) ∧ (¬ v3 ≤ 40 → (ES E 102 28 [some (.ref (aS E 0)), some (.int v1), some (.int v2), some (.int v3), some (.int v4), some (.int v5), some (.int v6), some (.int v7), some (.int v8), none, none] [] S K))) : ES E 102 22 [some (.ref (aS E 0)), some (.int v1), some (.int v2), some (.int v3), some (.int v4), some (.int v5), some (.int v6), some (.int v7), some (.int v8), none, none] [] S K := by
  refine e_il x102_22 rfl (e_ic x102_23 (e_le x102_25 (fun c1 => ?_) (fun c1 => ?_)))
  · replace H := H.1 c1
    have c2 := H.1
    have c3 := H.2.1
    replace H := H.2.2
    refine e_al x102_29 rfl (e_il x102_30 rfl (e_il x102_31 rfl (e_il x102_32 rfl (e_il x102_34 rfl (e_il x102_35 rfl (e_cV (l0 := [some (.ref (aS E 0)), some (.int v1), some (.int v3), some (.int v4), some (.int v2), some (.int v5)]) x102_37 rfl rfl rfl rfl rfl (fun h hh => hh.tS (by decide)) (e_ic x93_0 (e_il x93_1 rfl (e_ii (v := (2 * v1)) x93_2 rfl (e_il x93_3 rfl (e_ic x93_4 (e_rem x93_5 c2 (e_ii (v := ((2 * v1) + (v3 - v3 / 2 * 2))) x93_6 rfl (e_ic x93_7 (e_ii (v := (((2 * v1) + (v3 - v3 / 2 * 2)) * 30)) x93_9 rfl (e_il x93_10 rfl (e_ii (v := ((((2 * v1) + (v3 - v3 / 2 * 2)) * 30) + v4)) x93_11 rfl (e_ic x93_12 (e_ii (v := (((((2 * v1) + (v3 - v3 / 2 * 2)) * 30) + v4) * 10)) x93_14 rfl (e_il x93_15 rfl (e_ii (v := ((((((2 * v1) + (v3 - v3 / 2 * 2)) * 30) + v4) * 10) + v2)) x93_17 rfl (e_ic x93_18 (e_ii (v := (((((((2 * v1) + (v3 - v3 / 2 * 2)) * 30) + v4) * 10) + v2) * 3)) x93_19 rfl (e_il x93_20 rfl (e_ii (v := ((((((((2 * v1) + (v3 - v3 / 2 * 2)) * 30) + v4) * 10) + v2) * 3) + v5)) x93_22 rfl (e_ri x93_23 (e_ist (l' := [some (.ref (aS E 0)), some (.int v1), some (.int v2), some (.int v3), some (.int v4), some (.int v5), some (.int v6), some (.int v7), some (.int v8), some (.int ((((((((2 * v1) + (v3 - v3 / 2 * 2)) * 30) + v4) * 10) + v2) * 3) + v5)), none]) x102_40 rfl rfl (e_al x102_42 rfl (e_il x102_43 rfl (e_il x102_44 rfl (e_il x102_45 rfl (e_il x102_47 rfl (e_cV (l0 := [some (.ref (aS E 0)), some (.int v1), some (.int v3), some (.int v4), some (.int v2)]) x102_48 rfl rfl rfl rfl rfl (fun h hh => hh.tS (by decide)) (e_ic x94_0 (e_il x94_1 rfl (e_ii (v := (2 * v1)) x94_2 rfl (e_il x94_3 rfl (e_ic x94_4 (e_rem x94_5 c2 (e_ii (v := ((2 * v1) + (v3 - v3 / 2 * 2))) x94_6 rfl (e_ic x94_7 (e_ii (v := (((2 * v1) + (v3 - v3 / 2 * 2)) * 30)) x94_9 rfl (e_il x94_10 rfl (e_ii (v := ((((2 * v1) + (v3 - v3 / 2 * 2)) * 30) + v4)) x94_11 rfl (e_ic x94_12 (e_ii (v := (((((2 * v1) + (v3 - v3 / 2 * 2)) * 30) + v4) * 10)) x94_14 rfl (e_il x94_15 rfl (e_ii (v := ((((((2 * v1) + (v3 - v3 / 2 * 2)) * 30) + v4) * 10) + v2)) x94_17 rfl (e_ri x94_18 (e_ist (l' := [some (.ref (aS E 0)), some (.int v1), some (.int v2), some (.int v3), some (.int v4), some (.int v5), some (.int v6), some (.int v7), some (.int v8), some (.int ((((((((2 * v1) + (v3 - v3 / 2 * 2)) * 30) + v4) * 10) + v2) * 3) + v5)), some (.int ((((((2 * v1) + (v3 - v3 / 2 * 2)) * 30) + v4) * 10) + v2))]) x102_51 rfl rfl (e_al x102_53 rfl (e_PS x102_54 rfl (e_il x102_57 rfl (e_iaS x102_59 (by decide) rfl c3 (e_ge0 x102_60 (fun c4 => ?_) (fun c4 => ?_))))))))))))))))))))))))))))))))))))))))))))))))))))))))
    · replace H := H.1 c4
      refine e_il x102_99 rfl (e_eq0 x102_101 (fun c5 => ?_) (fun c5 => ?_))
      · replace H := H.1 c5
        exact H
      · replace H := H.2 c5
        refine e_al x102_104 rfl (e_PS x102_105 rfl (e_il x102_108 rfl (e_iaS x102_110 (by decide) rfl c3 (e_il x102_111 rfl (e_ne x102_113 (fun c6 => ?_) (fun c6 => ?_))))))
        · replace H := H.1 c6
          refine e_il x102_116 rfl (e_ne0 x102_118 (fun c7 => ?_) (fun c7 => ?_))
          · replace H := H.1 c7
            have c8 := H.1
            replace H := H.2
            refine e_al x102_121 rfl (e_PS x102_122 rfl (e_il x102_125 rfl (e_iaS x102_127 (by decide) rfl c8 (e_il x102_128 rfl (e_eq x102_130 (fun c9 => ?_) (fun c9 => ?_))))))
            · replace H := H.1 c9
              exact H
            · replace H := H.2 c9
              exact H
          · replace H := H.2 c7
            exact H
        · replace H := H.2 c6
          exact H
    · replace H := H.2 c4
      refine e_al x102_63 rfl (e_PS x102_64 rfl (e_il x102_67 rfl (e_il x102_69 rfl (e_waS x102_71 (by decide) rfl c3 ?_))))
      let S10 : mS := uS S 17 (((((((((2 * v1) + (v3 - v3 / 2 * 2)) * 30) + v4) * 10) + v2) * 3) + v5).toNatClampNeg) v6
      replace H := H S10 rfl
      show ES _ _ _ _ _ S10 _
      refine e_al x102_72 rfl (e_PS x102_73 rfl (e_il x102_76 rfl (e_il x102_78 rfl (e_ne0 x102_80 (fun c11 => ?_) (fun c11 => ?_)))))
      · replace H := H.1 c11
        have c12 := H.1
        replace H := H.2
        refine e_il x102_83 rfl (e_goto x102_85 (e_waS x102_95 (by decide) rfl c12 ?_))
        let S13 : mS := uS S10 18 (((((((2 * v1) + (v3 - v3 / 2 * 2)) * 30) + v4) * 10) + v2).toNatClampNeg) v7
        replace H := H S13 rfl
        show ES _ _ _ _ _ S13 _
        exact e_goto x102_96 (H)
      · replace H := H.2 c11
        have c14 := H.1
        replace H := H.2
        refine e_al x102_88 rfl (e_PS x102_89 rfl (e_il x102_92 rfl (e_iaS x102_94 (by decide) rfl c14 (e_waS x102_95 (by decide) rfl c14 ?_))))
        let S15 : mS := uS S10 18 (((((((2 * v1) + (v3 - v3 / 2 * 2)) * 30) + v4) * 10) + v2).toNatClampNeg) (sS S10 18 (((((((2 * v1) + (v3 - v3 / 2 * 2)) * 30) + v4) * 10) + v2).toNatClampNeg))
        replace H := H S15 rfl
        show ES _ _ _ _ _ S15 _
        exact e_goto x102_96 (H)
  · replace H := H.2 c1
    exact H

-- Model.keep(IIIIIIIZ)V, from 28
set_option maxRecDepth 8000 in
theorem T102_28 {E : mE} {v1 : Int32} {v2 : Int32} {v3 : Int32} {v4 : Int32} {v5 : Int32} {v6 : Int32} {v7 : Int32} {v8 : Int32} {S : mS} {K : Option Value → mS → Prop}  (H : K none S) : ES E 102 28 [some (.ref (aS E 0)), some (.int v1), some (.int v2), some (.int v3), some (.int v4), some (.int v5), some (.int v6), some (.int v7), some (.int v8), none, none] [] S K := by
  exact e_rv x102_28 H

-- Model.keep(IIIIIIIZ)V, from 144
set_option maxRecDepth 8000 in
theorem T102_144 {E : mE} {v1 : Int32} {v2 : Int32} {v3 : Int32} {v4 : Int32} {v5 : Int32} {v6 : Int32} {v7 : Int32} {v8 : Int32} {v9 : Int32} {v10 : Int32} {S : mS} {K : Option Value → mS → Prop}  (H : K none S) : ES E 102 144 [some (.ref (aS E 0)), some (.int v1), some (.int v2), some (.int v3), some (.int v4), some (.int v5), some (.int v6), some (.int v7), some (.int v8), some (.int v9), some (.int v10)] [] S K := by
  exact e_rv x102_144 H

-- Model.keep(IIIIIIIZ)V, from 133
set_option maxRecDepth 8000 in
theorem T102_133 {E : mE} {v1 : Int32} {v2 : Int32} {v3 : Int32} {v4 : Int32} {v5 : Int32} {v6 : Int32} {v7 : Int32} {v8 : Int32} {v9 : Int32} {v10 : Int32} {S : mS} {K : Option Value → mS → Prop}  (H : ES E 103 0 [some (.ref (aS E 0)), some (.int v2), some (.int v3), some (.int v4), some (.int v5), some (.int v1), none] [] S (fun r S1 => r = none ∧ (ES E 102 144 [some (.ref (aS E 0)), some (.int v1), some (.int v2), some (.int v3), some (.int v4), some (.int v5), some (.int v6), some (.int v7), some (.int v8), some (.int v9), some (.int v10)] [] S1 K))) : ES E 102 133 [some (.ref (aS E 0)), some (.int v1), some (.int v2), some (.int v3), some (.int v4), some (.int v5), some (.int v6), some (.int v7), some (.int v8), some (.int v9), some (.int v10)] [] S K := by
  refine e_al x102_133 rfl (e_il x102_134 rfl (e_il x102_135 rfl (e_il x102_136 rfl (e_il x102_138 rfl (e_il x102_140 rfl (e_cV (l0 := [some (.ref (aS E 0)), some (.int v2), some (.int v3), some (.int v4), some (.int v5), some (.int v1), none]) x102_141 rfl rfl rfl rfl rfl (fun h hh => hh.tS (by decide)) (ES.mono H ?_)))))))
  rintro _ S1 ⟨rfl, H⟩
  exact H

-- Model.accuse(IIIII)V, from 0
set_option maxRecDepth 8000 in
theorem T103 {E : mE} {a1 : Int32} {a2 : Int32} {a3 : Int32} {a4 : Int32} {a5 : Int32} {S : mS} {K : Option Value → mS → Prop}  (H : ES E 103 3 [some (.ref (aS E 0)), some (.int a1), some (.int a2), some (.int a3), some (.int a4), some (.int a5), some (.int 0)] [] S K) : ES E 103 0 [some (.ref (aS E 0)), some (.int a1), some (.int a2), some (.int a3), some (.int a4), some (.int a5), none] [] S K := by
  exact e_ic x103_0 (e_ist (l' := [some (.ref (aS E 0)), some (.int a1), some (.int a2), some (.int a3), some (.int a4), some (.int a5), some (.int 0)]) x103_1 rfl rfl (H))

-- Model.accuse(IIIII)V, from 3
set_option maxRecDepth 8000 in
theorem T103_3 {E : mE} {v1 : Int32} {v2 : Int32} {v3 : Int32} {v4 : Int32} {v5 : Int32} {v6 : Int32} {S : mS} {K : Option Value → mS → Prop}  (H : ((sS S 0 50) ≤ v6 → (((200 : Int32) ≤ (sS S 0 50) → (K none S)) ∧ (¬ (200 : Int32) ≤ (sS S 0 50) → ((¬ (6 * (sS S 0 50)) < 0 ∧ ((6 * (sS S 0 50)).toNatClampNeg) < 1200) ∧ (∀ S4, S4 = uS S 37 ((6 * (sS S 0 50)).toNatClampNeg) v1 → ((¬ ((6 * (sS S 0 50)) + 1) < 0 ∧ (((6 * (sS S 0 50)) + 1).toNatClampNeg) < 1200) ∧ (∀ S6, S6 = uS S4 37 (((6 * (sS S 0 50)) + 1).toNatClampNeg) v2 → ((¬ ((6 * (sS S 0 50)) + 2) < 0 ∧ (((6 * (sS S 0 50)) + 2).toNatClampNeg) < 1200) ∧ (∀ S8, S8 = uS S6 37 (((6 * (sS S 0 50)) + 2).toNatClampNeg) v3 → ((¬ ((6 * (sS S 0 50)) + 3) < 0 ∧ (((6 * (sS S 0 50)) + 3).toNatClampNeg) < 1200) ∧ (∀ S10, S10 = uS S8 37 (((6 * (sS S 0 50)) + 3).toNatClampNeg) v4 → ((¬ ((6 * (sS S 0 50)) + 4) < 0 ∧ (((6 * (sS S 0 50)) + 4).toNatClampNeg) < 1200) ∧ (∀ S12, S12 = uS S10 37 (((6 * (sS S 0 50)) + 4).toNatClampNeg) v5 → ((¬ ((6 * (sS S 0 50)) + 5) < 0 ∧ (((6 * (sS S 0 50)) + 5).toNatClampNeg) < 1200) ∧ (∀ S14, S14 = uS S12 37 (((6 * (sS S 0 50)) + 5).toNatClampNeg) (sS S12 0 3) → (∀ S15, S15 = uS S14 0 50 ((sS S14 0 50) + 1) → (K none S15))))))))))))))))) ∧ (¬ (sS S 0 50) ≤ v6 → ((¬ (6 * v6) < 0 ∧ ((6 * v6).toNatClampNeg) < 1200) ∧ (((sS S 37 ((6 * v6).toNatClampNeg)) = v1 → ((¬ ((6 * v6) + 1) < 0 ∧ (((6 * v6) + 1).toNatClampNeg) < 1200) ∧ (((sS S 37 (((6 * v6) + 1).toNatClampNeg)) = v2 → ((¬ ((6 * v6) + 2) < 0 ∧ (((6 * v6) + 2).toNatClampNeg) < 1200) ∧ (((sS S 37 (((6 * v6) + 2).toNatClampNeg)) = v3 → ((¬ ((6 * v6) + 3) < 0 ∧ (((6 * v6) + 3).toNatClampNeg) < 1200) ∧ (((sS S 37 (((6 * v6) + 3).toNatClampNeg)) = v4 → (K none S)) ∧ (¬ (sS S 37 (((6 * v6) + 3).toNatClampNeg)) = v4 → (ES E 103 3 [some (.ref (aS E 0)), some (.int v1), some (.int v2), some (.int v3), some (.int v4), some (.int v5), some (.int (v6 + 1))] [] S K))))) ∧ (¬ (sS S 37 (((6 * v6) + 2).toNatClampNeg)) = v3 → (ES E 103 3 [some (.ref (aS E 0)), some (.int v1), some (.int v2), some (.int v3), some (.int v4), some (.int v5), some (.int (v6 + 1))] [] S K))))) ∧ (¬ (sS S 37 (((6 * v6) + 1).toNatClampNeg)) = v2 → (ES E 103 3 [some (.ref (aS E 0)), some (.int v1), some (.int v2), some (.int v3), some (.int v4), some (.int v5), some (.int (v6 + 1))] [] S K))))) ∧ (¬ (sS S 37 ((6 * v6).toNatClampNeg)) = v1 → (ES E 103 3 [some (.ref (aS E 0)), some (.int v1), some (.int v2), some (.int v3), some (.int v4), some (.int v5), some (.int (v6 + 1))] [] S K)))))) : ES E 103 3 [some (.ref (aS E 0)), some (.int v1), some (.int v2), some (.int v3), some (.int v4), some (.int v5), some (.int v6)] [] S K := by
  refine e_il x103_3 rfl (e_al x103_5 rfl (e_gS x103_6 (by decide) rfl (e_ge x103_9 (fun c1 => ?_) (fun c1 => ?_))))
  · replace H := H.1 c1
    refine e_al x103_82 rfl (e_gS x103_83 (by decide) rfl (e_ic x103_86 (e_ge x103_89 (fun c2 => ?_) (fun c2 => ?_))))
    · replace H := H.1 c2
      exact e_rv x103_174 H
    · replace H := H.2 c2
      have c3 := H.1
      replace H := H.2
      refine e_ic x103_92 (e_al x103_94 rfl (e_gS x103_95 (by decide) rfl (e_ii (v := (6 * (sS S 0 50))) x103_98 rfl (e_ist (l' := [some (.ref (aS E 0)), some (.int v1), some (.int v2), some (.int v3), some (.int v4), some (.int v5), some (.int (6 * (sS S 0 50)))]) x103_99 rfl rfl (e_al x103_101 rfl (e_PS x103_102 rfl (e_il x103_105 rfl (e_il x103_107 rfl (e_waS x103_108 (by decide) rfl c3 ?_)))))))))
      let S4 : mS := uS S 37 ((6 * (sS S 0 50)).toNatClampNeg) v1
      replace H := H S4 rfl
      show ES _ _ _ _ _ S4 _
      have c5 := H.1
      replace H := H.2
      refine e_al x103_109 rfl (e_PS x103_110 rfl (e_il x103_113 rfl (e_ic x103_115 (e_ii (v := ((6 * (sS S 0 50)) + 1)) x103_116 rfl (e_il x103_117 rfl (e_waS x103_118 (by decide) rfl c5 ?_))))))
      let S6 : mS := uS S4 37 (((6 * (sS S 0 50)) + 1).toNatClampNeg) v2
      replace H := H S6 rfl
      show ES _ _ _ _ _ S6 _
      have c7 := H.1
      replace H := H.2
      refine e_al x103_119 rfl (e_PS x103_120 rfl (e_il x103_123 rfl (e_ic x103_125 (e_ii (v := ((6 * (sS S 0 50)) + 2)) x103_126 rfl (e_il x103_127 rfl (e_waS x103_128 (by decide) rfl c7 ?_))))))
      let S8 : mS := uS S6 37 (((6 * (sS S 0 50)) + 2).toNatClampNeg) v3
      replace H := H S8 rfl
      show ES _ _ _ _ _ S8 _
      have c9 := H.1
      replace H := H.2
      refine e_al x103_129 rfl (e_PS x103_130 rfl (e_il x103_133 rfl (e_ic x103_135 (e_ii (v := ((6 * (sS S 0 50)) + 3)) x103_136 rfl (e_il x103_137 rfl (e_waS x103_139 (by decide) rfl c9 ?_))))))
      let S10 : mS := uS S8 37 (((6 * (sS S 0 50)) + 3).toNatClampNeg) v4
      replace H := H S10 rfl
      show ES _ _ _ _ _ S10 _
      have c11 := H.1
      replace H := H.2
      refine e_al x103_140 rfl (e_PS x103_141 rfl (e_il x103_144 rfl (e_ic x103_146 (e_ii (v := ((6 * (sS S 0 50)) + 4)) x103_147 rfl (e_il x103_148 rfl (e_waS x103_150 (by decide) rfl c11 ?_))))))
      let S12 : mS := uS S10 37 (((6 * (sS S 0 50)) + 4).toNatClampNeg) v5
      replace H := H S12 rfl
      show ES _ _ _ _ _ S12 _
      have c13 := H.1
      replace H := H.2
      refine e_al x103_151 rfl (e_PS x103_152 rfl (e_il x103_155 rfl (e_ic x103_157 (e_ii (v := ((6 * (sS S 0 50)) + 5)) x103_158 rfl (e_al x103_159 rfl (e_gS x103_160 (by decide) rfl (e_waS x103_163 (by decide) rfl c13 ?_)))))))
      let S14 : mS := uS S12 37 (((6 * (sS S 0 50)) + 5).toNatClampNeg) (sS S12 0 3)
      replace H := H S14 rfl
      show ES _ _ _ _ _ S14 _
      refine e_al x103_164 rfl (e_dupr x103_165 (e_gS x103_166 (by decide) rfl (e_ic x103_169 (e_ii (v := ((sS S14 0 50) + 1)) x103_170 rfl (e_pS x103_171 (by decide) rfl ?_)))))
      let S15 : mS := uS S14 0 50 ((sS S14 0 50) + 1)
      replace H := H S15 rfl
      show ES _ _ _ _ _ S15 _
      exact e_rv x103_174 H
  · replace H := H.2 c1
    have c16 := H.1
    replace H := H.2
    refine e_al x103_12 rfl (e_PS x103_13 rfl (e_ic x103_16 (e_il x103_18 rfl (e_ii (v := (6 * v6)) x103_20 rfl (e_iaS x103_21 (by decide) rfl c16 (e_il x103_22 rfl (e_ne x103_23 (fun c17 => ?_) (fun c17 => ?_))))))))
    · replace H := H.1 c17
      have c18 := H.1
      replace H := H.2
      refine e_al x103_26 rfl (e_PS x103_27 rfl (e_ic x103_30 (e_il x103_32 rfl (e_ii (v := (6 * v6)) x103_34 rfl (e_ic x103_35 (e_ii (v := ((6 * v6) + 1)) x103_36 rfl (e_iaS x103_37 (by decide) rfl c18 (e_il x103_38 rfl (e_ne x103_39 (fun c19 => ?_) (fun c19 => ?_))))))))))
      · replace H := H.1 c19
        have c20 := H.1
        replace H := H.2
        refine e_al x103_42 rfl (e_PS x103_43 rfl (e_ic x103_46 (e_il x103_48 rfl (e_ii (v := (6 * v6)) x103_50 rfl (e_ic x103_51 (e_ii (v := ((6 * v6) + 2)) x103_52 rfl (e_iaS x103_53 (by decide) rfl c20 (e_il x103_54 rfl (e_ne x103_55 (fun c21 => ?_) (fun c21 => ?_))))))))))
        · replace H := H.1 c21
          have c22 := H.1
          replace H := H.2
          refine e_al x103_58 rfl (e_PS x103_59 rfl (e_ic x103_62 (e_il x103_64 rfl (e_ii (v := (6 * v6)) x103_66 rfl (e_ic x103_67 (e_ii (v := ((6 * v6) + 3)) x103_68 rfl (e_iaS x103_69 (by decide) rfl c22 (e_il x103_70 rfl (e_ne x103_72 (fun c23 => ?_) (fun c23 => ?_))))))))))
          · replace H := H.1 c23
            exact e_rv x103_75 H
          · replace H := H.2 c23
            exact e_inc (l' := [some (.ref (aS E 0)), some (.int v1), some (.int v2), some (.int v3), some (.int v4), some (.int v5), some (.int (v6 + 1))]) x103_76 rfl rfl rfl (e_back (l' := [some (.ref (aS E 0)), some (.int v1), some (.int v2), some (.int v3), some (.int v4), some (.int v5), some (.int (v6 + 1))]) x103_79 rfl (H))
        · replace H := H.2 c21
          exact e_inc (l' := [some (.ref (aS E 0)), some (.int v1), some (.int v2), some (.int v3), some (.int v4), some (.int v5), some (.int (v6 + 1))]) x103_76 rfl rfl rfl (e_back (l' := [some (.ref (aS E 0)), some (.int v1), some (.int v2), some (.int v3), some (.int v4), some (.int v5), some (.int (v6 + 1))]) x103_79 rfl (H))
      · replace H := H.2 c19
        exact e_inc (l' := [some (.ref (aS E 0)), some (.int v1), some (.int v2), some (.int v3), some (.int v4), some (.int v5), some (.int (v6 + 1))]) x103_76 rfl rfl rfl (e_back (l' := [some (.ref (aS E 0)), some (.int v1), some (.int v2), some (.int v3), some (.int v4), some (.int v5), some (.int (v6 + 1))]) x103_79 rfl (H))
    · replace H := H.2 c17
      exact e_inc (l' := [some (.ref (aS E 0)), some (.int v1), some (.int v2), some (.int v3), some (.int v4), some (.int v5), some (.int (v6 + 1))]) x103_76 rfl rfl rfl (e_back (l' := [some (.ref (aS E 0)), some (.int v1), some (.int v2), some (.int v3), some (.int v4), some (.int v5), some (.int (v6 + 1))]) x103_79 rfl (H))

-- Model.copy(IIIIIII)V, from 0
set_option maxRecDepth 8000 in
theorem T105 {E : mE} {a1 : Int32} {a2 : Int32} {a3 : Int32} {a4 : Int32} {a5 : Int32} {a6 : Int32} {a7 : Int32} {S : mS} {K : Option Value → mS → Prop}  (H : ∀ S1, S1 = uS S 0 39 ((sS S 0 39) + 1) → ((¬ a1 < 0 ∧ (a1.toNatClampNeg) < 10) ∧ (∀ S3, S3 = uS S1 16 (a1.toNatClampNeg) ((sS S1 16 (a1.toNatClampNeg)) + 1) → (ES E 106 0 [some (.ref (aS E 0)), some (.int a1), some (.int a3), some (.int a4), some (.int a5), some (.int a6), none] [] S3 (fun r S4 => r = none ∧ (ES E 105 47 [some (.ref (aS E 0)), some (.int a1), some (.int a2), some (.int a3), some (.int a4), some (.int a5), some (.int a6), some (.int a7), some (.int (sS S 0 39)), some (.int (-1)), some (.int 0), some (.int 0), none] [] S4 K)))))) : ES E 105 0 [some (.ref (aS E 0)), some (.int a1), some (.int a2), some (.int a3), some (.int a4), some (.int a5), some (.int a6), some (.int a7), none, none, none, none, none] [] S K := by
  refine e_al x105_0 rfl (e_gS x105_1 (by decide) rfl (e_ist (l' := [some (.ref (aS E 0)), some (.int a1), some (.int a2), some (.int a3), some (.int a4), some (.int a5), some (.int a6), some (.int a7), some (.int (sS S 0 39)), none, none, none, none]) x105_4 rfl rfl (e_al x105_6 rfl (e_dupr x105_7 (e_gS x105_8 (by decide) rfl (e_ic x105_11 (e_ii (v := ((sS S 0 39) + 1)) x105_12 rfl (e_pS x105_13 (by decide) rfl ?_))))))))
  let S1 : mS := uS S 0 39 ((sS S 0 39) + 1)
  replace H := H S1 rfl
  show ES _ _ _ _ _ S1 _
  have c2 := H.1
  replace H := H.2
  refine e_al x105_16 rfl (e_PS x105_17 rfl (e_il x105_20 rfl (e_dup2 x105_21 (e_iaS x105_22 (by decide) rfl c2 (e_ic x105_23 (e_ii (v := ((sS S1 16 (a1.toNatClampNeg)) + 1)) x105_24 rfl (e_waS x105_25 (by decide) rfl c2 ?_)))))))
  let S3 : mS := uS S1 16 (a1.toNatClampNeg) ((sS S1 16 (a1.toNatClampNeg)) + 1)
  replace H := H S3 rfl
  show ES _ _ _ _ _ S3 _
  refine e_al x105_26 rfl (e_il x105_27 rfl (e_il x105_28 rfl (e_il x105_29 rfl (e_il x105_31 rfl (e_il x105_33 rfl (e_cV (l0 := [some (.ref (aS E 0)), some (.int a1), some (.int a3), some (.int a4), some (.int a5), some (.int a6), none]) x105_35 rfl rfl rfl rfl rfl (fun h hh => hh.tS (by decide)) (ES.mono H ?_)))))))
  rintro _ S4 ⟨rfl, H⟩
  exact e_ic x105_38 (e_ist (l' := [some (.ref (aS E 0)), some (.int a1), some (.int a2), some (.int a3), some (.int a4), some (.int a5), some (.int a6), some (.int a7), some (.int (sS S 0 39)), some (.int (-1)), none, none, none]) x105_39 rfl rfl (e_ic x105_41 (e_ist (l' := [some (.ref (aS E 0)), some (.int a1), some (.int a2), some (.int a3), some (.int a4), some (.int a5), some (.int a6), some (.int a7), some (.int (sS S 0 39)), some (.int (-1)), some (.int 0), none, none]) x105_42 rfl rfl (e_ic x105_44 (e_ist (l' := [some (.ref (aS E 0)), some (.int a1), some (.int a2), some (.int a3), some (.int a4), some (.int a5), some (.int a6), some (.int a7), some (.int (sS S 0 39)), some (.int (-1)), some (.int 0), some (.int 0), none]) x105_45 rfl rfl (H))))))

-- Model.copy(IIIIIII)V, from 47
set_option maxRecDepth 8000 in
theorem T105_47 {E : mE} {v1 : Int32} {v2 : Int32} {v3 : Int32} {v4 : Int32} {v5 : Int32} {v6 : Int32} {v7 : Int32} {v8 : Int32} {v9 : Int32} {v10 : Int32} {v11 : Int32} {S : mS} {K : Option Value → mS → Prop}  (H : ((sS S 0 45) ≤ v11 → ((v9 = 0 → (∀ S3, S3 = uS S 0 41 ((sS S 0 41) + 1) → (K none S3))) ∧ (¬ v9 = 0 → (ES E 108 0 [some (.ref (aS E 0)), some (.int v1), some (.int v2)] [] S (fun r S4 => ∃ x5 : Int32, r = some (.int x5) ∧ ((x5 = 0 → (((sS S4 0 38) = 6000 → (∀ S8, S8 = uS S4 0 41 ((sS S4 0 41) + 1) → (K none S8))) ∧ (¬ (sS S4 0 38) = 6000 → ((v9 = 2 → (ES E 109 0 [some (.ref (aS E 0)), some (.int v1), some (.int v2), some (.int v3), some (.int v4), some (.int v5), some (.int v6), some (.int v7), some (.int (((sS S4 0 3) + 1) + v10)), some (.int 0), none] [] S4 (fun r S10 => r = none ∧ ((v9 = 1 → (((sS S10 0 38) = 6000 → (∀ S13, S13 = uS S10 0 41 ((sS S10 0 41) + 1) → (K none S13))) ∧ (¬ (sS S10 0 38) = 6000 → (ES E 109 0 [some (.ref (aS E 0)), some (.int v1), some (.int v2), some (.int v3), some (.int v4), some (.int v5), some (.int v6), some (.int v7), some (.int ((sS S10 0 3) + 2)), some (.int 1), none] [] S10 (fun r S14 => r = none ∧ (K none S14)))))) ∧ (¬ v9 = 1 → (K none S10)))))) ∧ (¬ v9 = 2 → (ES E 109 0 [some (.ref (aS E 0)), some (.int v1), some (.int v2), some (.int v3), some (.int v4), some (.int v5), some (.int v6), some (.int v7), some (.int (((sS S4 0 3) + 1) + 0)), some (.int 0), none] [] S4 (fun r S15 => r = none ∧ ((v9 = 1 → (((sS S15 0 38) = 6000 → (∀ S18, S18 = uS S15 0 41 ((sS S15 0 41) + 1) → (K none S18))) ∧ (¬ (sS S15 0 38) = 6000 → (ES E 109 0 [some (.ref (aS E 0)), some (.int v1), some (.int v2), some (.int v3), some (.int v4), some (.int v5), some (.int v6), some (.int v7), some (.int ((sS S15 0 3) + 2)), some (.int 1), none] [] S15 (fun r S19 => r = none ∧ (K none S19)))))) ∧ (¬ v9 = 1 → (K none S15)))))))))) ∧ (¬ x5 = 0 → (∀ S20, S20 = uS S4 0 41 ((sS S4 0 41) + 1) → (K none S20))))))))) ∧ (¬ (sS S 0 45) ≤ v11 → ((¬ v11 < 0 ∧ (v11.toNatClampNeg) < 60) ∧ (((sS S 34 (v11.toNatClampNeg)) = v8 → (∀ S23, S23 = uS S 0 45 ((sS S 0 45) - 1) → (ES E 105 100 [some (.ref (aS E 0)), some (.int v1), some (.int v2), some (.int v3), some (.int v4), some (.int v5), some (.int v6), some (.int v7), some (.int v8), some (.int (sS S 35 (v11.toNatClampNeg))), some (.int (sS S 36 (v11.toNatClampNeg))), some (.int v11), some (.int v11)] [] S23 K))) ∧ (¬ (sS S 34 (v11.toNatClampNeg)) = v8 → (ES E 105 47 [some (.ref (aS E 0)), some (.int v1), some (.int v2), some (.int v3), some (.int v4), some (.int v5), some (.int v6), some (.int v7), some (.int v8), some (.int v9), some (.int v10), some (.int (v11 + 1)), none] [] S K)))))) : ES E 105 47 [some (.ref (aS E 0)), some (.int v1), some (.int v2), some (.int v3), some (.int v4), some (.int v5), some (.int v6), some (.int v7), some (.int v8), some (.int v9), some (.int v10), some (.int v11), none] [] S K := by
  refine e_il x105_47 rfl (e_al x105_49 rfl (e_gS x105_50 (by decide) rfl (e_ge x105_53 (fun c1 => ?_) (fun c1 => ?_))))
  · replace H := H.1 c1
    refine e_il x105_175 rfl (e_eq0 x105_177 (fun c2 => ?_) (fun c2 => ?_))
    · replace H := H.1 c2
      refine e_al x105_199 rfl (e_dupr x105_200 (e_gS x105_201 (by decide) rfl (e_ic x105_204 (e_ii (v := ((sS S 0 41) + 1)) x105_205 rfl (e_pS x105_206 (by decide) rfl ?_)))))
      let S3 : mS := uS S 0 41 ((sS S 0 41) + 1)
      replace H := H S3 rfl
      show ES _ _ _ _ _ S3 _
      exact e_rv x105_209 H
    · replace H := H.2 c2
      refine e_al x105_180 rfl (e_il x105_181 rfl (e_il x105_182 rfl (e_cV (l0 := [some (.ref (aS E 0)), some (.int v1), some (.int v2)]) x105_183 rfl rfl rfl rfl rfl (fun h hh => hh.tS (by decide)) (ES.mono H ?_))))
      rintro _ S4 ⟨x5, rfl, H⟩
      refine e_ne0 x105_186 (fun c6 => ?_) (fun c6 => ?_)
      · replace H := H.1 c6
        refine e_al x105_189 rfl (e_gS x105_190 (by decide) rfl (e_ic x105_193 (e_ne x105_196 (fun c7 => ?_) (fun c7 => ?_))))
        · replace H := H.1 c7
          refine e_al x105_199 rfl (e_dupr x105_200 (e_gS x105_201 (by decide) rfl (e_ic x105_204 (e_ii (v := ((sS S4 0 41) + 1)) x105_205 rfl (e_pS x105_206 (by decide) rfl ?_)))))
          let S8 : mS := uS S4 0 41 ((sS S4 0 41) + 1)
          replace H := H S8 rfl
          show ES _ _ _ _ _ S8 _
          exact e_rv x105_209 H
        · replace H := H.2 c7
          refine e_al x105_210 rfl (e_il x105_211 rfl (e_il x105_212 rfl (e_il x105_213 rfl (e_il x105_214 rfl (e_il x105_216 rfl (e_il x105_218 rfl (e_il x105_220 rfl (e_al x105_222 rfl (e_gS x105_223 (by decide) rfl (e_ic x105_226 (e_ii (v := ((sS S4 0 3) + 1)) x105_227 rfl (e_il x105_228 rfl (e_ic x105_230 (e_ne x105_231 (fun c9 => ?_) (fun c9 => ?_)))))))))))))))
          · replace H := H.1 c9
            refine e_il x105_234 rfl (e_goto x105_236 (e_ii (v := (((sS S4 0 3) + 1) + v10)) x105_240 rfl (e_ic x105_241 (e_cV (l0 := [some (.ref (aS E 0)), some (.int v1), some (.int v2), some (.int v3), some (.int v4), some (.int v5), some (.int v6), some (.int v7), some (.int (((sS S4 0 3) + 1) + v10)), some (.int 0), none]) x105_242 rfl rfl rfl rfl rfl (fun h hh => hh.tS (by decide)) (ES.mono H ?_)))))
            rintro _ S10 ⟨rfl, H⟩
            refine e_il x105_245 rfl (e_ic x105_247 (e_ne x105_248 (fun c11 => ?_) (fun c11 => ?_)))
            · replace H := H.1 c11
              refine e_al x105_251 rfl (e_gS x105_252 (by decide) rfl (e_ic x105_255 (e_ne x105_258 (fun c12 => ?_) (fun c12 => ?_))))
              · replace H := H.1 c12
                refine e_al x105_261 rfl (e_dupr x105_262 (e_gS x105_263 (by decide) rfl (e_ic x105_266 (e_ii (v := ((sS S10 0 41) + 1)) x105_267 rfl (e_pS x105_268 (by decide) rfl ?_)))))
                let S13 : mS := uS S10 0 41 ((sS S10 0 41) + 1)
                replace H := H S13 rfl
                show ES _ _ _ _ _ S13 _
                exact e_goto x105_271 (e_rv x105_296 H)
              · replace H := H.2 c12
                refine e_al x105_274 rfl (e_il x105_275 rfl (e_il x105_276 rfl (e_il x105_277 rfl (e_il x105_278 rfl (e_il x105_280 rfl (e_il x105_282 rfl (e_il x105_284 rfl (e_al x105_286 rfl (e_gS x105_287 (by decide) rfl (e_ic x105_290 (e_ii (v := ((sS S10 0 3) + 2)) x105_291 rfl (e_ic x105_292 (e_cV (l0 := [some (.ref (aS E 0)), some (.int v1), some (.int v2), some (.int v3), some (.int v4), some (.int v5), some (.int v6), some (.int v7), some (.int ((sS S10 0 3) + 2)), some (.int 1), none]) x105_293 rfl rfl rfl rfl rfl (fun h hh => hh.tS (by decide)) (ES.mono H ?_))))))))))))))
                rintro _ S14 ⟨rfl, H⟩
                exact e_rv x105_296 H
            · replace H := H.2 c11
              exact e_rv x105_296 H
          · replace H := H.2 c9
            refine e_ic x105_239 (e_ii (v := (((sS S4 0 3) + 1) + 0)) x105_240 rfl (e_ic x105_241 (e_cV (l0 := [some (.ref (aS E 0)), some (.int v1), some (.int v2), some (.int v3), some (.int v4), some (.int v5), some (.int v6), some (.int v7), some (.int (((sS S4 0 3) + 1) + 0)), some (.int 0), none]) x105_242 rfl rfl rfl rfl rfl (fun h hh => hh.tS (by decide)) (ES.mono H ?_))))
            rintro _ S15 ⟨rfl, H⟩
            refine e_il x105_245 rfl (e_ic x105_247 (e_ne x105_248 (fun c16 => ?_) (fun c16 => ?_)))
            · replace H := H.1 c16
              refine e_al x105_251 rfl (e_gS x105_252 (by decide) rfl (e_ic x105_255 (e_ne x105_258 (fun c17 => ?_) (fun c17 => ?_))))
              · replace H := H.1 c17
                refine e_al x105_261 rfl (e_dupr x105_262 (e_gS x105_263 (by decide) rfl (e_ic x105_266 (e_ii (v := ((sS S15 0 41) + 1)) x105_267 rfl (e_pS x105_268 (by decide) rfl ?_)))))
                let S18 : mS := uS S15 0 41 ((sS S15 0 41) + 1)
                replace H := H S18 rfl
                show ES _ _ _ _ _ S18 _
                exact e_goto x105_271 (e_rv x105_296 H)
              · replace H := H.2 c17
                refine e_al x105_274 rfl (e_il x105_275 rfl (e_il x105_276 rfl (e_il x105_277 rfl (e_il x105_278 rfl (e_il x105_280 rfl (e_il x105_282 rfl (e_il x105_284 rfl (e_al x105_286 rfl (e_gS x105_287 (by decide) rfl (e_ic x105_290 (e_ii (v := ((sS S15 0 3) + 2)) x105_291 rfl (e_ic x105_292 (e_cV (l0 := [some (.ref (aS E 0)), some (.int v1), some (.int v2), some (.int v3), some (.int v4), some (.int v5), some (.int v6), some (.int v7), some (.int ((sS S15 0 3) + 2)), some (.int 1), none]) x105_293 rfl rfl rfl rfl rfl (fun h hh => hh.tS (by decide)) (ES.mono H ?_))))))))))))))
                rintro _ S19 ⟨rfl, H⟩
                exact e_rv x105_296 H
            · replace H := H.2 c16
              exact e_rv x105_296 H
      · replace H := H.2 c6
        refine e_al x105_199 rfl (e_dupr x105_200 (e_gS x105_201 (by decide) rfl (e_ic x105_204 (e_ii (v := ((sS S4 0 41) + 1)) x105_205 rfl (e_pS x105_206 (by decide) rfl ?_)))))
        let S20 : mS := uS S4 0 41 ((sS S4 0 41) + 1)
        replace H := H S20 rfl
        show ES _ _ _ _ _ S20 _
        exact e_rv x105_209 H
  · replace H := H.2 c1
    have c21 := H.1
    replace H := H.2
    refine e_al x105_56 rfl (e_PS x105_57 rfl (e_il x105_60 rfl (e_iaS x105_62 (by decide) rfl c21 (e_il x105_63 rfl (e_ne x105_65 (fun c22 => ?_) (fun c22 => ?_))))))
    · replace H := H.1 c22
      refine e_al x105_68 rfl (e_PS x105_69 rfl (e_il x105_72 rfl (e_iaS x105_74 (by decide) rfl c21 (e_ist (l' := [some (.ref (aS E 0)), some (.int v1), some (.int v2), some (.int v3), some (.int v4), some (.int v5), some (.int v6), some (.int v7), some (.int v8), some (.int (sS S 35 (v11.toNatClampNeg))), some (.int v10), some (.int v11), none]) x105_75 rfl rfl (e_al x105_77 rfl (e_PS x105_78 rfl (e_il x105_81 rfl (e_iaS x105_83 (by decide) rfl c21 (e_ist (l' := [some (.ref (aS E 0)), some (.int v1), some (.int v2), some (.int v3), some (.int v4), some (.int v5), some (.int v6), some (.int v7), some (.int v8), some (.int (sS S 35 (v11.toNatClampNeg))), some (.int (sS S 36 (v11.toNatClampNeg))), some (.int v11), none]) x105_84 rfl rfl (e_al x105_86 rfl (e_dupr x105_87 (e_gS x105_88 (by decide) rfl (e_ic x105_91 (e_ii (v := ((sS S 0 45) - 1)) x105_92 rfl (e_pS x105_93 (by decide) rfl ?_)))))))))))))))
      let S23 : mS := uS S 0 45 ((sS S 0 45) - 1)
      replace H := H S23 rfl
      show ES _ _ _ _ _ S23 _
      exact e_il x105_96 rfl (e_ist (l' := [some (.ref (aS E 0)), some (.int v1), some (.int v2), some (.int v3), some (.int v4), some (.int v5), some (.int v6), some (.int v7), some (.int v8), some (.int (sS S 35 (v11.toNatClampNeg))), some (.int (sS S 36 (v11.toNatClampNeg))), some (.int v11), some (.int v11)]) x105_98 rfl rfl (H))
    · replace H := H.2 c22
      exact e_inc (l' := [some (.ref (aS E 0)), some (.int v1), some (.int v2), some (.int v3), some (.int v4), some (.int v5), some (.int v6), some (.int v7), some (.int v8), some (.int v9), some (.int v10), some (.int (v11 + 1)), none]) x105_169 rfl rfl rfl (e_back (l' := [some (.ref (aS E 0)), some (.int v1), some (.int v2), some (.int v3), some (.int v4), some (.int v5), some (.int v6), some (.int v7), some (.int v8), some (.int v9), some (.int v10), some (.int (v11 + 1)), none]) x105_172 rfl (H))

-- Model.copy(IIIIIII)V, from 100
set_option maxRecDepth 8000 in
theorem T105_100 {E : mE} {v1 : Int32} {v2 : Int32} {v3 : Int32} {v4 : Int32} {v5 : Int32} {v6 : Int32} {v7 : Int32} {v8 : Int32} {v9 : Int32} {v10 : Int32} {v11 : Int32} {v12 : Int32} {S : mS} {K : Option Value → mS → Prop}  (H : ((sS S 0 45) ≤ v12 → (ES E 105 47 [some (.ref (aS E 0)), some (.int v1), some (.int v2), some (.int v3), some (.int v4), some (.int v5), some (.int v6), some (.int v7), some (.int v8), some (.int v9), some (.int v10), some (.int ((sS S 0 45) + 1)), none] [] S K)) ∧ (¬ (sS S 0 45) ≤ v12 → ((¬ (v12 + 1) < 0 ∧ ((v12 + 1).toNatClampNeg) < 60) ∧ ((¬ v12 < 0 ∧ (v12.toNatClampNeg) < 60) ∧ (∀ S4, S4 = uS S 34 (v12.toNatClampNeg) (sS S 34 ((v12 + 1).toNatClampNeg)) → (∀ S5, S5 = uS S4 35 (v12.toNatClampNeg) (sS S4 35 ((v12 + 1).toNatClampNeg)) → (∀ S6, S6 = uS S5 36 (v12.toNatClampNeg) (sS S5 36 ((v12 + 1).toNatClampNeg)) → (ES E 105 100 [some (.ref (aS E 0)), some (.int v1), some (.int v2), some (.int v3), some (.int v4), some (.int v5), some (.int v6), some (.int v7), some (.int v8), some (.int v9), some (.int v10), some (.int v11), some (.int (v12 + 1))] [] S6 K)))))))) : ES E 105 100 [some (.ref (aS E 0)), some (.int v1), some (.int v2), some (.int v3), some (.int v4), some (.int v5), some (.int v6), some (.int v7), some (.int v8), some (.int v9), some (.int v10), some (.int v11), some (.int v12)] [] S K := by
  refine e_il x105_100 rfl (e_al x105_102 rfl (e_gS x105_103 (by decide) rfl (e_ge x105_106 (fun c1 => ?_) (fun c1 => ?_))))
  · replace H := H.1 c1
    exact e_al x105_163 rfl (e_gS x105_164 (by decide) rfl (e_ist (l' := [some (.ref (aS E 0)), some (.int v1), some (.int v2), some (.int v3), some (.int v4), some (.int v5), some (.int v6), some (.int v7), some (.int v8), some (.int v9), some (.int v10), some (.int (sS S 0 45)), some (.int v12)]) x105_167 rfl rfl (e_inc (l' := [some (.ref (aS E 0)), some (.int v1), some (.int v2), some (.int v3), some (.int v4), some (.int v5), some (.int v6), some (.int v7), some (.int v8), some (.int v9), some (.int v10), some (.int ((sS S 0 45) + 1)), some (.int v12)]) x105_169 rfl rfl rfl (e_back (l' := [some (.ref (aS E 0)), some (.int v1), some (.int v2), some (.int v3), some (.int v4), some (.int v5), some (.int v6), some (.int v7), some (.int v8), some (.int v9), some (.int v10), some (.int ((sS S 0 45) + 1)), none]) x105_172 rfl (H)))))
  · replace H := H.2 c1
    have c2 := H.1
    have c3 := H.2.1
    replace H := H.2.2
    refine e_al x105_109 rfl (e_PS x105_110 rfl (e_il x105_113 rfl (e_al x105_115 rfl (e_PS x105_116 rfl (e_il x105_119 rfl (e_ic x105_121 (e_ii (v := (v12 + 1)) x105_122 rfl (e_iaS x105_123 (by decide) rfl c2 (e_waS x105_124 (by decide) rfl c3 ?_)))))))))
    let S4 : mS := uS S 34 (v12.toNatClampNeg) (sS S 34 ((v12 + 1).toNatClampNeg))
    replace H := H S4 rfl
    show ES _ _ _ _ _ S4 _
    refine e_al x105_125 rfl (e_PS x105_126 rfl (e_il x105_129 rfl (e_al x105_131 rfl (e_PS x105_132 rfl (e_il x105_135 rfl (e_ic x105_137 (e_ii (v := (v12 + 1)) x105_138 rfl (e_iaS x105_139 (by decide) rfl c2 (e_waS x105_140 (by decide) rfl c3 ?_)))))))))
    let S5 : mS := uS S4 35 (v12.toNatClampNeg) (sS S4 35 ((v12 + 1).toNatClampNeg))
    replace H := H S5 rfl
    show ES _ _ _ _ _ S5 _
    refine e_al x105_141 rfl (e_PS x105_142 rfl (e_il x105_145 rfl (e_al x105_147 rfl (e_PS x105_148 rfl (e_il x105_151 rfl (e_ic x105_153 (e_ii (v := (v12 + 1)) x105_154 rfl (e_iaS x105_155 (by decide) rfl c2 (e_waS x105_156 (by decide) rfl c3 ?_)))))))))
    let S6 : mS := uS S5 36 (v12.toNatClampNeg) (sS S5 36 ((v12 + 1).toNatClampNeg))
    replace H := H S6 rfl
    show ES _ _ _ _ _ S6 _
    exact e_inc (l' := [some (.ref (aS E 0)), some (.int v1), some (.int v2), some (.int v3), some (.int v4), some (.int v5), some (.int v6), some (.int v7), some (.int v8), some (.int v9), some (.int v10), some (.int v11), some (.int (v12 + 1))]) x105_157 rfl rfl rfl (e_back (l' := [some (.ref (aS E 0)), some (.int v1), some (.int v2), some (.int v3), some (.int v4), some (.int v5), some (.int v6), some (.int v7), some (.int v8), some (.int v9), some (.int v10), some (.int v11), some (.int (v12 + 1))]) x105_160 rfl (H))

-- Model.noteSent(IIIII)V, from 0
set_option maxRecDepth 8000 in
theorem T106 {E : mE} {a1 : Int32} {a2 : Int32} {a3 : Int32} {a4 : Int32} {a5 : Int32} {S : mS} {K : Option Value → mS → Prop}  (H : (¬ ((((((41 * a1) + a2) * 30) + a3) * 3) + a4) < 0 ∧ (((((((41 * a1) + a2) * 30) + a3) * 3) + a4).toNatClampNeg) < 36900) ∧ (((0 : Int32) ≤ (sS S 38 (((((((41 * a1) + a2) * 30) + a3) * 3) + a4).toNatClampNeg)) → (((sS S 38 (((((((41 * a1) + a2) * 30) + a3) * 3) + a4).toNatClampNeg)) = a5 → (K none S)) ∧ (¬ (sS S 38 (((((((41 * a1) + a2) * 30) + a3) * 3) + a4).toNatClampNeg)) = a5 → (∀ S4, S4 = uS S 39 (((((((41 * a1) + a2) * 30) + a3) * 3) + a4).toNatClampNeg) 1 → (K none S4))))) ∧ (¬ (0 : Int32) ≤ (sS S 38 (((((((41 * a1) + a2) * 30) + a3) * 3) + a4).toNatClampNeg)) → (∀ S5, S5 = uS S 38 (((((((41 * a1) + a2) * 30) + a3) * 3) + a4).toNatClampNeg) a5 → (K none S5))))) : ES E 106 0 [some (.ref (aS E 0)), some (.int a1), some (.int a2), some (.int a3), some (.int a4), some (.int a5), none] [] S K := by
  have c1 := H.1
  replace H := H.2
  refine e_al x106_0 rfl (e_il x106_1 rfl (e_il x106_2 rfl (e_il x106_3 rfl (e_il x106_4 rfl (e_cV (l0 := [some (.ref (aS E 0)), some (.int a1), some (.int a2), some (.int a3), some (.int a4)]) x106_6 rfl rfl rfl rfl rfl (fun h hh => hh.tS (by decide)) (e_ic x107_0 (e_il x107_2 rfl (e_ii (v := (41 * a1)) x107_3 rfl (e_il x107_4 rfl (e_ii (v := ((41 * a1) + a2)) x107_5 rfl (e_ic x107_6 (e_ii (v := (((41 * a1) + a2) * 30)) x107_8 rfl (e_il x107_9 rfl (e_ii (v := ((((41 * a1) + a2) * 30) + a3)) x107_10 rfl (e_ic x107_11 (e_ii (v := (((((41 * a1) + a2) * 30) + a3) * 3)) x107_12 rfl (e_il x107_13 rfl (e_ii (v := ((((((41 * a1) + a2) * 30) + a3) * 3) + a4)) x107_15 rfl (e_ri x107_16 (e_ist (l' := [some (.ref (aS E 0)), some (.int a1), some (.int a2), some (.int a3), some (.int a4), some (.int a5), some (.int ((((((41 * a1) + a2) * 30) + a3) * 3) + a4))]) x106_9 rfl rfl (e_al x106_11 rfl (e_PS x106_12 rfl (e_il x106_15 rfl (e_iaS x106_17 (by decide) rfl c1 (e_ge0 x106_18 (fun c2 => ?_) (fun c2 => ?_))))))))))))))))))))))))))
  · replace H := H.1 c2
    refine e_al x106_33 rfl (e_PS x106_34 rfl (e_il x106_37 rfl (e_iaS x106_39 (by decide) rfl c1 (e_il x106_40 rfl (e_eq x106_42 (fun c3 => ?_) (fun c3 => ?_))))))
    · replace H := H.1 c3
      exact e_rv x106_53 H
    · replace H := H.2 c3
      refine e_al x106_45 rfl (e_PS x106_46 rfl (e_il x106_49 rfl (e_ic x106_51 (e_wzS x106_52 (by decide) rfl (by decide) c1 ?_))))
      let S4 : mS := uS S 39 (((((((41 * a1) + a2) * 30) + a3) * 3) + a4).toNatClampNeg) 1
      replace H := H S4 rfl
      show ES _ _ _ _ _ S4 _
      exact e_rv x106_53 H
  · replace H := H.2 c2
    refine e_al x106_21 rfl (e_PS x106_22 rfl (e_il x106_25 rfl (e_il x106_27 rfl (e_waS x106_29 (by decide) rfl c1 ?_))))
    let S5 : mS := uS S 38 (((((((41 * a1) + a2) * 30) + a3) * 3) + a4).toNatClampNeg) a5
    replace H := H S5 rfl
    show ES _ _ _ _ _ S5 _
    exact e_goto x106_30 (e_rv x106_53 H)

-- Model.areApart(II)Z, from 0
set_option maxRecDepth 8000 in
theorem T108 {E : mE} {a1 : Int32} {a2 : Int32} {S : mS} {K : Option Value → mS → Prop}  (H : ((lg_cmp ((sS S 0 3).toInt64) ((sS S 0 47).toInt64)) < 0 → (K (some (.int 0)) S)) ∧ (¬ (lg_cmp ((sS S 0 3).toInt64) ((sS S 0 47).toInt64)) < 0 → (((0 : Int32) < (lg_cmp ((sS S 0 3).toInt64) ((sS S 0 48).toInt64)) → (K (some (.int 0)) S)) ∧ (¬ (0 : Int32) < (lg_cmp ((sS S 0 3).toInt64) ((sS S 0 48).toInt64)) → (((((sS S 0 46) >>> (a1 &&& 31)) &&& 1) = (((sS S 0 46) >>> (a2 &&& 31)) &&& 1) → (K (some (.int 0)) S)) ∧ (¬ (((sS S 0 46) >>> (a1 &&& 31)) &&& 1) = (((sS S 0 46) >>> (a2 &&& 31)) &&& 1) → (K (some (.int 1)) S))))))) : ES E 108 0 [some (.ref (aS E 0)), some (.int a1), some (.int a2)] [] S K := by
  refine e_al x108_0 rfl (e_gS x108_1 (by decide) rfl (e_i2l x108_4 (e_al x108_5 rfl (e_gS x108_6 (by decide) rfl (e_i2l x108_9 (e_al x108_10 rfl (e_gS x108_11 (by decide) rfl (e_i2l x108_14 (e_cS (l0 := [some (.long ((sS S 0 3).toInt64)), none, some (.long ((sS S 0 47).toInt64)), none, some (.long ((sS S 0 48).toInt64)), none]) x108_15 rfl rfl rfl rfl rfl (e_llo x97_0 rfl (e_llo x97_1 rfl (e_lcmp x97_2 (e_lt0 x97_3 (fun c1 => ?_) (fun c1 => ?_))))))))))))))
  · replace H := H.1 c1
    refine e_ic x97_17 (e_rz x97_18 (by decide) (e_eq0 x108_18 (fun _ => ?_) (fun z9 => absurd (by decide) z9)))
    exact e_ic x108_44 (e_rz x108_45 (by decide) H)
  · replace H := H.2 c1
    refine e_llo x97_6 rfl (e_llo x97_7 rfl (e_lcmp x97_9 (e_gt0 x97_10 (fun c2 => ?_) (fun c2 => ?_))))
    · replace H := H.1 c2
      refine e_ic x97_17 (e_rz x97_18 (by decide) (e_eq0 x108_18 (fun _ => ?_) (fun z9 => absurd (by decide) z9)))
      exact e_ic x108_44 (e_rz x108_45 (by decide) H)
    · replace H := H.2 c2
      refine e_ic x97_13 (e_goto x97_14 (e_rz x97_18 (by decide) (e_eq0 x108_18 (fun z9 => absurd z9 (by decide)) (fun _ => ?_))))
      refine e_al x108_21 rfl (e_gS x108_22 (by decide) rfl (e_il x108_25 rfl (e_ii (v := ((sS S 0 46) >>> (a1 &&& 31))) x108_26 rfl (e_ic x108_27 (e_ii (v := (((sS S 0 46) >>> (a1 &&& 31)) &&& 1)) x108_28 rfl (e_al x108_29 rfl (e_gS x108_30 (by decide) rfl (e_il x108_33 rfl (e_ii (v := ((sS S 0 46) >>> (a2 &&& 31))) x108_34 rfl (e_ic x108_35 (e_ii (v := (((sS S 0 46) >>> (a2 &&& 31)) &&& 1)) x108_36 rfl (e_eq x108_37 (fun c3 => ?_) (fun c3 => ?_)))))))))))))
      · replace H := H.1 c3
        exact e_ic x108_44 (e_rz x108_45 (by decide) H)
      · replace H := H.2 c3
        exact e_ic x108_40 (e_goto x108_41 (e_rz x108_45 (by decide) H))

-- Model.put(IIIIIIIIZ)V, from 0
set_option maxRecDepth 8000 in
theorem T109 {E : mE} {a1 : Int32} {a2 : Int32} {a3 : Int32} {a4 : Int32} {a5 : Int32} {a6 : Int32} {a7 : Int32} {a8 : Int32} {a9 : Int32} {S : mS} {K : Option Value → mS → Prop}  (H : (¬ (sS S 0 37) < 0 ∧ ((sS S 0 37).toNatClampNeg) < 20000) ∧ (∀ S2, S2 = uS S 25 ((sS S 0 37).toNatClampNeg) a8 → (∀ S3, S3 = uS S2 26 ((sS S 0 37).toNatClampNeg) a1 → (∀ S4, S4 = uS S3 27 ((sS S 0 37).toNatClampNeg) a2 → (∀ S5, S5 = uS S4 28 ((sS S 0 37).toNatClampNeg) a3 → (∀ S6, S6 = uS S5 29 ((sS S 0 37).toNatClampNeg) a4 → (∀ S7, S7 = uS S6 30 ((sS S 0 37).toNatClampNeg) a5 → (∀ S8, S8 = uS S7 31 ((sS S 0 37).toNatClampNeg) a6 → (∀ S9, S9 = uS S8 32 ((sS S 0 37).toNatClampNeg) a7 → ((a9 = 0 ∨ a9 = 1) ∧ (∀ S11, S11 = uS S9 33 ((sS S 0 37).toNatClampNeg) a9 → (∀ S12, S12 = uS S11 0 37 ((sS S11 0 37) + 1) → (∀ S13, S13 = uS S12 0 38 ((sS S12 0 38) + 1) → (K none S13)))))))))))))) : ES E 109 0 [some (.ref (aS E 0)), some (.int a1), some (.int a2), some (.int a3), some (.int a4), some (.int a5), some (.int a6), some (.int a7), some (.int a8), some (.int a9), none] [] S K := by
  have c1 := H.1
  replace H := H.2
  refine e_al x109_0 rfl (e_gS x109_1 (by decide) rfl (e_ist (l' := [some (.ref (aS E 0)), some (.int a1), some (.int a2), some (.int a3), some (.int a4), some (.int a5), some (.int a6), some (.int a7), some (.int a8), some (.int a9), some (.int (sS S 0 37))]) x109_4 rfl rfl (e_al x109_6 rfl (e_PS x109_7 rfl (e_il x109_10 rfl (e_il x109_12 rfl (e_waS x109_14 (by decide) rfl c1 ?_)))))))
  let S2 : mS := uS S 25 ((sS S 0 37).toNatClampNeg) a8
  replace H := H S2 rfl
  show ES _ _ _ _ _ S2 _
  refine e_al x109_15 rfl (e_PS x109_16 rfl (e_il x109_19 rfl (e_il x109_21 rfl (e_waS x109_22 (by decide) rfl c1 ?_))))
  let S3 : mS := uS S2 26 ((sS S 0 37).toNatClampNeg) a1
  replace H := H S3 rfl
  show ES _ _ _ _ _ S3 _
  refine e_al x109_23 rfl (e_PS x109_24 rfl (e_il x109_27 rfl (e_il x109_29 rfl (e_waS x109_30 (by decide) rfl c1 ?_))))
  let S4 : mS := uS S3 27 ((sS S 0 37).toNatClampNeg) a2
  replace H := H S4 rfl
  show ES _ _ _ _ _ S4 _
  refine e_al x109_31 rfl (e_PS x109_32 rfl (e_il x109_35 rfl (e_il x109_37 rfl (e_waS x109_38 (by decide) rfl c1 ?_))))
  let S5 : mS := uS S4 28 ((sS S 0 37).toNatClampNeg) a3
  replace H := H S5 rfl
  show ES _ _ _ _ _ S5 _
  refine e_al x109_39 rfl (e_PS x109_40 rfl (e_il x109_43 rfl (e_il x109_45 rfl (e_waS x109_47 (by decide) rfl c1 ?_))))
  let S6 : mS := uS S5 29 ((sS S 0 37).toNatClampNeg) a4
  replace H := H S6 rfl
  show ES _ _ _ _ _ S6 _
  refine e_al x109_48 rfl (e_PS x109_49 rfl (e_il x109_52 rfl (e_il x109_54 rfl (e_waS x109_56 (by decide) rfl c1 ?_))))
  let S7 : mS := uS S6 30 ((sS S 0 37).toNatClampNeg) a5
  replace H := H S7 rfl
  show ES _ _ _ _ _ S7 _
  refine e_al x109_57 rfl (e_PS x109_58 rfl (e_il x109_61 rfl (e_il x109_63 rfl (e_waS x109_65 (by decide) rfl c1 ?_))))
  let S8 : mS := uS S7 31 ((sS S 0 37).toNatClampNeg) a6
  replace H := H S8 rfl
  show ES _ _ _ _ _ S8 _
  refine e_al x109_66 rfl (e_PS x109_67 rfl (e_il x109_70 rfl (e_il x109_72 rfl (e_waS x109_74 (by decide) rfl c1 ?_))))
  let S9 : mS := uS S8 32 ((sS S 0 37).toNatClampNeg) a7
  replace H := H S9 rfl
  show ES _ _ _ _ _ S9 _
  have c10 := H.1
  replace H := H.2
  refine e_al x109_75 rfl (e_PS x109_76 rfl (e_il x109_79 rfl (e_il x109_81 rfl (e_wzS x109_83 (by decide) rfl c10 c1 ?_))))
  let S11 : mS := uS S9 33 ((sS S 0 37).toNatClampNeg) a9
  replace H := H S11 rfl
  show ES _ _ _ _ _ S11 _
  refine e_al x109_84 rfl (e_dupr x109_85 (e_gS x109_86 (by decide) rfl (e_ic x109_89 (e_ii (v := ((sS S11 0 37) + 1)) x109_90 rfl (e_pS x109_91 (by decide) rfl ?_)))))
  let S12 : mS := uS S11 0 37 ((sS S11 0 37) + 1)
  replace H := H S12 rfl
  show ES _ _ _ _ _ S12 _
  refine e_al x109_94 rfl (e_dupr x109_95 (e_gS x109_96 (by decide) rfl (e_ic x109_99 (e_ii (v := ((sS S12 0 38) + 1)) x109_100 rfl (e_pS x109_101 (by decide) rfl ?_)))))
  let S13 : mS := uS S12 0 38 ((sS S12 0 38) + 1)
  replace H := H S13 rfl
  show ES _ _ _ _ _ S13 _
  exact e_rv x109_104 H

-- Model.rules(I)V, from 0
set_option maxRecDepth 8000 in
theorem T111 {E : mE} {a1 : Int32} {S : mS} {K : Option Value → mS → Prop}  (H : ES E 111 2 [some (.ref (aS E 0)), some (.int a1), some (.int 1)] [] S K) : ES E 111 0 [some (.ref (aS E 0)), some (.int a1), none] [] S K := by
  exact e_ic x111_0 (e_ist (l' := [some (.ref (aS E 0)), some (.int a1), some (.int 1)]) x111_1 rfl rfl (H))

-- Model.rules(I)V, from 2
set_option maxRecDepth 8000 in
theorem T111_2 {E : mE} {v1 : Int32} {v2 : Int32} {S : mS} {K : Option Value → mS → Prop}  (H : (v2 = 0 → (K none S)) ∧ (¬ v2 = 0 → ((¬ v1 < 0 ∧ (v1.toNatClampNeg) < 10) ∧ (((sS S 10 (v1.toNatClampNeg)) = 0 → (((40 : Int32) < (sS S 2 (v1.toNatClampNeg)) → (K none S)) ∧ (¬ (40 : Int32) < (sS S 2 (v1.toNatClampNeg)) → (ES E 112 0 [some (.ref (aS E 0)), some (.int v1), none, none, none, none, none] [] S (fun r S5 => ∃ x6 : Int32, r = some (.int x6) ∧ ((x6 = 0 → (ES E 119 0 [some (.ref (aS E 0)), some (.int v1), none, none, none, none, none, none] [] S5 (fun r S8 => ∃ x9 : Int32, r = some (.int x9) ∧ ((x9 = 0 → (ES E 120 0 [some (.ref (aS E 0)), some (.int v1), none, none, none, none] [] S8 (fun r S11 => ∃ x12 : Int32, r = some (.int x12) ∧ ((x12 = 0 → (ES E 122 0 [some (.ref (aS E 0)), some (.int v1), none, none] [] S11 (fun r S14 => ∃ x15 : Int32, r = some (.int x15) ∧ ((x15 = 0 → (ES E 123 0 [some (.ref (aS E 0)), some (.int v1)] [] S14 (fun r S17 => ∃ x18 : Int32, r = some (.int x18) ∧ ((x18 = 0 → (ES E 124 0 [some (.ref (aS E 0)), some (.int v1)] [] S17 (fun r S20 => ∃ x21 : Int32, r = some (.int x21) ∧ ((x21 = 0 → (ES E 125 0 [some (.ref (aS E 0)), some (.int v1)] [] S20 (fun r S23 => ∃ x24 : Int32, r = some (.int x24) ∧ ((x24 = 0 → (ES E 111 2 [some (.ref (aS E 0)), some (.int v1), some (.int 0)] [] S23 K)) ∧ (¬ x24 = 0 → (ES E 111 2 [some (.ref (aS E 0)), some (.int v1), some (.int 1)] [] S23 K)))))) ∧ (¬ x21 = 0 → (ES E 111 2 [some (.ref (aS E 0)), some (.int v1), some (.int 1)] [] S20 K)))))) ∧ (¬ x18 = 0 → (ES E 111 2 [some (.ref (aS E 0)), some (.int v1), some (.int 1)] [] S17 K)))))) ∧ (¬ x15 = 0 → (ES E 111 2 [some (.ref (aS E 0)), some (.int v1), some (.int 1)] [] S14 K)))))) ∧ (¬ x12 = 0 → (ES E 111 2 [some (.ref (aS E 0)), some (.int v1), some (.int 1)] [] S11 K)))))) ∧ (¬ x9 = 0 → (ES E 111 2 [some (.ref (aS E 0)), some (.int v1), some (.int 1)] [] S8 K)))))) ∧ (¬ x6 = 0 → (ES E 111 2 [some (.ref (aS E 0)), some (.int v1), some (.int 1)] [] S5 K)))))))) ∧ (¬ (sS S 10 (v1.toNatClampNeg)) = 0 → (K none S)))))) : ES E 111 2 [some (.ref (aS E 0)), some (.int v1), some (.int v2)] [] S K := by
  refine e_il x111_2 rfl (e_eq0 x111_3 (fun c1 => ?_) (fun c1 => ?_))
  · replace H := H.1 c1
    exact e_rv x111_91 H
  · replace H := H.2 c1
    have c2 := H.1
    replace H := H.2
    refine e_al x111_6 rfl (e_PS x111_7 rfl (e_il x111_10 rfl (e_baS x111_11 (by decide) rfl c2 (e_ne0 x111_12 (fun c3 => ?_) (fun c3 => ?_)))))
    · replace H := H.1 c3
      refine e_al x111_15 rfl (e_PS x111_16 rfl (e_il x111_19 rfl (e_iaS x111_20 (by decide) rfl c2 (e_ic x111_21 (e_gt x111_23 (fun c4 => ?_) (fun c4 => ?_))))))
      · replace H := H.1 c4
        exact e_rv x111_91 H
      · replace H := H.2 c4
        refine e_al x111_26 rfl (e_il x111_27 rfl (e_cV (l0 := [some (.ref (aS E 0)), some (.int v1), none, none, none, none, none]) x111_28 rfl rfl rfl rfl rfl (fun h hh => hh.tS (by decide)) (ES.mono H ?_)))
        rintro _ S5 ⟨x6, rfl, H⟩
        refine e_ne0 x111_31 (fun c7 => ?_) (fun c7 => ?_)
        · replace H := H.1 c7
          refine e_al x111_34 rfl (e_il x111_35 rfl (e_cV (l0 := [some (.ref (aS E 0)), some (.int v1), none, none, none, none, none, none]) x111_36 rfl rfl rfl rfl rfl (fun h hh => hh.tS (by decide)) (ES.mono H ?_)))
          rintro _ S8 ⟨x9, rfl, H⟩
          refine e_ne0 x111_39 (fun c10 => ?_) (fun c10 => ?_)
          · replace H := H.1 c10
            refine e_al x111_42 rfl (e_il x111_43 rfl (e_cV (l0 := [some (.ref (aS E 0)), some (.int v1), none, none, none, none]) x111_44 rfl rfl rfl rfl rfl (fun h hh => hh.tS (by decide)) (ES.mono H ?_)))
            rintro _ S11 ⟨x12, rfl, H⟩
            refine e_ne0 x111_47 (fun c13 => ?_) (fun c13 => ?_)
            · replace H := H.1 c13
              refine e_al x111_50 rfl (e_il x111_51 rfl (e_cV (l0 := [some (.ref (aS E 0)), some (.int v1), none, none]) x111_52 rfl rfl rfl rfl rfl (fun h hh => hh.tS (by decide)) (ES.mono H ?_)))
              rintro _ S14 ⟨x15, rfl, H⟩
              refine e_ne0 x111_55 (fun c16 => ?_) (fun c16 => ?_)
              · replace H := H.1 c16
                refine e_al x111_58 rfl (e_il x111_59 rfl (e_cV (l0 := [some (.ref (aS E 0)), some (.int v1)]) x111_60 rfl rfl rfl rfl rfl (fun h hh => hh.tS (by decide)) (ES.mono H ?_)))
                rintro _ S17 ⟨x18, rfl, H⟩
                refine e_ne0 x111_63 (fun c19 => ?_) (fun c19 => ?_)
                · replace H := H.1 c19
                  refine e_al x111_66 rfl (e_il x111_67 rfl (e_cV (l0 := [some (.ref (aS E 0)), some (.int v1)]) x111_68 rfl rfl rfl rfl rfl (fun h hh => hh.tS (by decide)) (ES.mono H ?_)))
                  rintro _ S20 ⟨x21, rfl, H⟩
                  refine e_ne0 x111_71 (fun c22 => ?_) (fun c22 => ?_)
                  · replace H := H.1 c22
                    refine e_al x111_74 rfl (e_il x111_75 rfl (e_cV (l0 := [some (.ref (aS E 0)), some (.int v1)]) x111_76 rfl rfl rfl rfl rfl (fun h hh => hh.tS (by decide)) (ES.mono H ?_)))
                    rintro _ S23 ⟨x24, rfl, H⟩
                    refine e_eq0 x111_79 (fun c25 => ?_) (fun c25 => ?_)
                    · replace H := H.1 c25
                      exact e_ic x111_86 (e_ist (l' := [some (.ref (aS E 0)), some (.int v1), some (.int 0)]) x111_87 rfl rfl (e_back (l' := [some (.ref (aS E 0)), some (.int v1), some (.int 0)]) x111_88 rfl (H)))
                    · replace H := H.2 c25
                      exact e_ic x111_82 (e_goto x111_83 (e_ist (l' := [some (.ref (aS E 0)), some (.int v1), some (.int 1)]) x111_87 rfl rfl (e_back (l' := [some (.ref (aS E 0)), some (.int v1), some (.int 1)]) x111_88 rfl (H))))
                  · replace H := H.2 c22
                    exact e_ic x111_82 (e_goto x111_83 (e_ist (l' := [some (.ref (aS E 0)), some (.int v1), some (.int 1)]) x111_87 rfl rfl (e_back (l' := [some (.ref (aS E 0)), some (.int v1), some (.int 1)]) x111_88 rfl (H))))
                · replace H := H.2 c19
                  exact e_ic x111_82 (e_goto x111_83 (e_ist (l' := [some (.ref (aS E 0)), some (.int v1), some (.int 1)]) x111_87 rfl rfl (e_back (l' := [some (.ref (aS E 0)), some (.int v1), some (.int 1)]) x111_88 rfl (H))))
              · replace H := H.2 c16
                exact e_ic x111_82 (e_goto x111_83 (e_ist (l' := [some (.ref (aS E 0)), some (.int v1), some (.int 1)]) x111_87 rfl rfl (e_back (l' := [some (.ref (aS E 0)), some (.int v1), some (.int 1)]) x111_88 rfl (H))))
            · replace H := H.2 c13
              exact e_ic x111_82 (e_goto x111_83 (e_ist (l' := [some (.ref (aS E 0)), some (.int v1), some (.int 1)]) x111_87 rfl rfl (e_back (l' := [some (.ref (aS E 0)), some (.int v1), some (.int 1)]) x111_88 rfl (H))))
          · replace H := H.2 c10
            exact e_ic x111_82 (e_goto x111_83 (e_ist (l' := [some (.ref (aS E 0)), some (.int v1), some (.int 1)]) x111_87 rfl rfl (e_back (l' := [some (.ref (aS E 0)), some (.int v1), some (.int 1)]) x111_88 rfl (H))))
        · replace H := H.2 c7
          exact e_ic x111_82 (e_goto x111_83 (e_ist (l' := [some (.ref (aS E 0)), some (.int v1), some (.int 1)]) x111_87 rfl rfl (e_back (l' := [some (.ref (aS E 0)), some (.int v1), some (.int 1)]) x111_88 rfl (H))))
    · replace H := H.2 c3
      exact e_rv x111_91 H

