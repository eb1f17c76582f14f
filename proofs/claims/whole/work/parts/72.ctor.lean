/-! ===== constructors that run straight on, over cells ===== -/
section Ctor
variable {g : Nat → mCe} {t0 s : Nat} {K : Option Value → mH → Prop}
/-- Choice -/
theorem ct1 (hK : ∀ h, PH g t0 (s) [ceI (ceI (nC 2 2) 0 0) 1 (-1)] h → K none h) : EP g t0 s [nC 2 2] 1 0 [some (.ref t0)] [] K := by
  refine p_al x1_0 rfl ?_
  refine p_obj x1_1 rfl ?_
  refine p_al x1_4 rfl ?_
  refine p_ic x1_5 ?_
  refine p_pI (j := 0) (cs' := [ceI (nC 2 2) 0 0]) x1_6 rfl rfl rfl rfl ?_
  refine p_al x1_9 rfl ?_
  refine p_ic x1_10 ?_
  refine p_pI (j := 0) (cs' := [ceI (ceI (nC 2 2) 0 0) 1 (-1)]) x1_11 rfl rfl rfl rfl ?_
  exact p_rv x1_14 hK
/-- Message -/
theorem ct4 (hK : ∀ h, PH g t0 (s) [nC 6 9] h → K none h) : EP g t0 s [nC 6 9] 4 0 [some (.ref t0)] [] K := by
  refine p_al x4_0 rfl ?_
  refine p_obj x4_1 rfl ?_
  exact p_rv x4_4 hK
/-- Ballots -/
theorem ct7 {z : Nat} (hz : z ≤ 10) (hK : ∀ h, PH g t0 (s + 30 + 90 * z) [ceP (ceI (ceI (ceP (nC 1 4) 2 (t0 + 1)) 3 (-1)) 0 (nI z)) 1 (t0 + 2), nC 20 30, (20, (90 * z), fun k => if k < (90 * z) then (-2) else 0, fun _ => 0, fun _ => none)] h → K none h) : EP g t0 s [nC 1 4] 7 0 [some (.ref t0), some (.int (nI z))] [] K := by
  refine p_al x7_0 rfl ?_
  refine p_obj x7_1 rfl ?_
  refine p_al x7_4 rfl ?_
  refine p_ic x7_5 ?_
  refine p_nwa (n := 30) (a := t0 + 1) (cs' := [nC 1 4, nC 20 30]) x7_7 rfl (by decide) rfl rfl ?_
  refine p_pP (j := 0) (cs' := [ceP (nC 1 4) 2 (t0 + 1), nC 20 30]) x7_9 rfl rfl rfl rfl ?_
  refine p_al x7_12 rfl ?_
  refine p_ic x7_13 ?_
  refine p_pI (j := 0) (cs' := [ceI (ceP (nC 1 4) 2 (t0 + 1)) 3 (-1), nC 20 30]) x7_14 rfl rfl rfl rfl ?_
  refine p_al x7_17 rfl ?_
  refine p_il x7_18 rfl ?_
  refine p_pI (j := 0) (cs' := [ceI (ceI (ceP (nC 1 4) 2 (t0 + 1)) 3 (-1)) 0 (nI z), nC 20 30]) x7_19 rfl rfl rfl rfl ?_
  refine p_al x7_22 rfl ?_
  refine p_ic x7_23 ?_
  refine p_il x7_25 rfl ?_
  refine p_ii (v := nI (30 * z)) x7_26 (pk_mul 30 z) ?_
  refine p_ic x7_27 ?_
  refine p_ii (v := nI (90 * z)) x7_28 ((pk_mul (30 * z) 3).trans (congrArg nI (by omega))) ?_
  refine p_nwa (n := 90 * z) (a := t0 + 2) (cs' := [ceI (ceI (ceP (nC 1 4) 2 (t0 + 1)) 3 (-1)) 0 (nI z), nC 20 30, nC 20 (90 * z)]) x7_29 rfl (by omega) rfl rfl ?_
  refine p_pP (j := 0) (cs' := [ceP (ceI (ceI (ceP (nC 1 4) 2 (t0 + 1)) 3 (-1)) 0 (nI z)) 1 (t0 + 2), nC 20 30, nC 20 (90 * z)]) x7_31 rfl rfl rfl rfl ?_
  refine p_al x7_34 rfl ?_
  refine p_gP (j := 0) (p := t0 + 2) x7_35 rfl rfl rfl rfl ?_
  refine p_ic x7_38 ?_
  refine p_cS x7_40 rfl rfl rfl rfl rfl (fill_run (j := 2) rfl (by omega) ?_)
  show EP g t0 (s + 30 + 90 * z) [ceP (ceI (ceI (ceP (nC 1 4) 2 (t0 + 1)) 3 (-1)) 0 (nI z)) 1 (t0 + 2), nC 20 30, (20, (90 * z), fun k => if k < (90 * z) then (-2) else 0, fun _ => 0, fun _ => none)] 7 43 [some (.ref (t0)), some (.int (nI z))] [] K
  exact p_rv x7_43 hK
/-- Decisions -/
theorem ct15 (hK : ∀ h, PH g t0 (s + 41 + 41 + 41) [ceP (ceP (ceP (nC 3 3) 0 (t0 + 1)) 1 (t0 + 2)) 2 (t0 + 3), nC 20 41, nC 20 41, nC 20 41] h → K none h) : EP g t0 s [nC 3 3] 15 0 [some (.ref t0)] [] K := by
  refine p_al x15_0 rfl ?_
  refine p_obj x15_1 rfl ?_
  refine p_al x15_4 rfl ?_
  refine p_ic x15_5 ?_
  refine p_nwa (n := 41) (a := t0 + 1) (cs' := [nC 3 3, nC 20 41]) x15_7 rfl (by decide) rfl rfl ?_
  refine p_pP (j := 0) (cs' := [ceP (nC 3 3) 0 (t0 + 1), nC 20 41]) x15_9 rfl rfl rfl rfl ?_
  refine p_al x15_12 rfl ?_
  refine p_ic x15_13 ?_
  refine p_nwa (n := 41) (a := t0 + 2) (cs' := [ceP (nC 3 3) 0 (t0 + 1), nC 20 41, nC 20 41]) x15_15 rfl (by decide) rfl rfl ?_
  refine p_pP (j := 0) (cs' := [ceP (ceP (nC 3 3) 0 (t0 + 1)) 1 (t0 + 2), nC 20 41, nC 20 41]) x15_17 rfl rfl rfl rfl ?_
  refine p_al x15_20 rfl ?_
  refine p_ic x15_21 ?_
  refine p_nwa (n := 41) (a := t0 + 3) (cs' := [ceP (ceP (nC 3 3) 0 (t0 + 1)) 1 (t0 + 2), nC 20 41, nC 20 41, nC 20 41]) x15_23 rfl (by decide) rfl rfl ?_
  refine p_pP (j := 0) (cs' := [ceP (ceP (ceP (nC 3 3) 0 (t0 + 1)) 1 (t0 + 2)) 2 (t0 + 3), nC 20 41, nC 20 41, nC 20 41]) x15_25 rfl rfl rfl rfl ?_
  exact p_rv x15_28 hK
/-- Faults -/
theorem ct18 (hK : ∀ h, PH g t0 (s + 1200) [ceP (nC 4 2) 0 (t0 + 1), nC 20 1200] h → K none h) : EP g t0 s [nC 4 2] 18 0 [some (.ref t0)] [] K := by
  refine p_al x18_0 rfl ?_
  refine p_obj x18_1 rfl ?_
  refine p_al x18_4 rfl ?_
  refine p_ic x18_5 ?_
  refine p_nwa (n := 1200) (a := t0 + 1) (cs' := [nC 4 2, nC 20 1200]) x18_8 rfl (by decide) rfl rfl ?_
  refine p_pP (j := 0) (cs' := [ceP (nC 4 2) 0 (t0 + 1), nC 20 1200]) x18_10 rfl rfl rfl rfl ?_
  exact p_rv x18_13 hK
/-- Told -/
theorem ct22 (hK : ∀ h, PH g t0 (s + 60 + 60 + 60) [ceP (ceP (ceP (nC 10 4) 0 (t0 + 1)) 1 (t0 + 2)) 2 (t0 + 3), nC 20 60, nC 20 60, nC 20 60] h → K none h) : EP g t0 s [nC 10 4] 22 0 [some (.ref t0)] [] K := by
  refine p_al x22_0 rfl ?_
  refine p_obj x22_1 rfl ?_
  refine p_al x22_4 rfl ?_
  refine p_ic x22_5 ?_
  refine p_nwa (n := 60) (a := t0 + 1) (cs' := [nC 10 4, nC 20 60]) x22_7 rfl (by decide) rfl rfl ?_
  refine p_pP (j := 0) (cs' := [ceP (nC 10 4) 0 (t0 + 1), nC 20 60]) x22_9 rfl rfl rfl rfl ?_
  refine p_al x22_12 rfl ?_
  refine p_ic x22_13 ?_
  refine p_nwa (n := 60) (a := t0 + 2) (cs' := [ceP (nC 10 4) 0 (t0 + 1), nC 20 60, nC 20 60]) x22_15 rfl (by decide) rfl rfl ?_
  refine p_pP (j := 0) (cs' := [ceP (ceP (nC 10 4) 0 (t0 + 1)) 1 (t0 + 2), nC 20 60, nC 20 60]) x22_17 rfl rfl rfl rfl ?_
  refine p_al x22_20 rfl ?_
  refine p_ic x22_21 ?_
  refine p_nwa (n := 60) (a := t0 + 3) (cs' := [ceP (ceP (nC 10 4) 0 (t0 + 1)) 1 (t0 + 2), nC 20 60, nC 20 60, nC 20 60]) x22_23 rfl (by decide) rfl rfl ?_
  refine p_pP (j := 0) (cs' := [ceP (ceP (ceP (nC 10 4) 0 (t0 + 1)) 1 (t0 + 2)) 2 (t0 + 3), nC 20 60, nC 20 60, nC 20 60]) x22_25 rfl rfl rfl rfl ?_
  exact p_rv x22_28 hK
/-- Mail -/
theorem ct31 (hK : ∀ h, PH g t0 (s + 12000) [ceP (nC 5 3) 0 (t0 + 1), nC 23 12000] h → K none h) : EP g t0 s [nC 5 3] 31 0 [some (.ref t0)] [] K := by
  refine p_al x31_0 rfl ?_
  refine p_obj x31_1 rfl ?_
  refine p_al x31_4 rfl ?_
  refine p_ic x31_5 ?_
  refine p_nwa (n := 12000) (a := t0 + 1) (cs' := [nC 5 3, nC 23 12000]) x31_8 rfl (by decide) rfl rfl ?_
  refine p_pP (j := 0) (cs' := [ceP (nC 5 3) 0 (t0 + 1), nC 23 12000]) x31_11 rfl rfl rfl rfl ?_
  exact p_rv x31_14 hK
/-- Sendings -/
theorem ct34 (hK : ∀ h, PH g t0 (s + 4 + 30 + 90) [ceP (nC 8 3) 2 (t0 + 1), ceP (ceI (ceI (ceP (nC 1 4) 2 (t0 + 1 + 1)) 3 (-1)) 0 1) 1 (t0 + 1 + 2), nC 20 30, (20, (90), fun k => if k < (90) then (-2) else 0, fun _ => 0, fun _ => none)] h → K none h) : EP g t0 s [nC 8 3] 34 0 [some (.ref t0)] [] K := by
  refine p_al x34_0 rfl ?_
  refine p_obj x34_1 rfl ?_
  refine p_al x34_4 rfl ?_
  refine p_new (a := t0 + 1) (cs' := [nC 8 3, nC 1 4]) x34_5 rfl rfl ?_
  refine p_dup x34_8 ?_
  refine p_ic x34_9 ?_
  refine p_ctor (s' := s + 4 + 30 + 90) (cs0 := [nC 8 3]) (x := nC 1 4) (l0 := [some (.ref (t0 + 1)), some (.int 1)]) (cs2 := [ceP (ceI (ceI (ceP (nC 1 4) 2 (t0 + 1 + 1)) 3 (-1)) 0 1) 1 (t0 + 1 + 2), nC 20 30, (20, (90), fun k => if k < (90) then (-2) else 0, fun _ => 0, fun _ => none)]) (cs' := [nC 8 3, ceP (ceI (ceI (ceP (nC 1 4) 2 (t0 + 1 + 1)) 3 (-1)) 0 1) 1 (t0 + 1 + 2), nC 20 30, (20, (90), fun k => if k < (90) then (-2) else 0, fun _ => 0, fun _ => none)]) x34_10 rfl rfl rfl rfl rfl rfl rfl (fun K' h => ct7 (z := 1) (by omega) h) ?_
  refine p_pP (j := 0) (cs' := [ceP (nC 8 3) 2 (t0 + 1), ceP (ceI (ceI (ceP (nC 1 4) 2 (t0 + 1 + 1)) 3 (-1)) 0 1) 1 (t0 + 1 + 2), nC 20 30, (20, (90), fun k => if k < (90) then (-2) else 0, fun _ => 0, fun _ => none)]) x34_13 rfl rfl rfl rfl ?_
  exact p_rv x34_16 hK
/-- Node -/
def ndC (t0 a9 i z : Nat) : List mCe := [ceP (ceP (ceP (ceI (ceP (ceP (ceP (ceP (ceP (ceP (ceP (ceP (ceI (ceI (nC 7 18) 2 1) 4 0) 5 (t0 + 1)) 6 (t0 + 2)) 9 (t0 + 3)) 10 (t0 + 4)) 11 (t0 + 5)) 14 (t0 + 9)) 15 (t0 + 12)) 16 (t0 + 16)) 0 (nI i)) 1 (a9)) 12 (t0 + 17)) 13 (t0 + 20), ceI (ceI (nC 2 2) 0 0) 1 (-1), ceI (ceI (nC 2 2) 0 0) 1 (-1), nC 20 3, nC 21 3, ceP (ceP (ceP (nC 3 3) 0 (t0 + 5 + 1)) 1 (t0 + 5 + 2)) 2 (t0 + 5 + 3), nC 20 41, nC 20 41, nC 20 41, ceP (ceI (ceI (ceP (nC 1 4) 2 (t0 + 9 + 1)) 3 (-1)) 0 1) 1 (t0 + 9 + 2), nC 20 30, (20, (90), fun k => if k < (90) then (-2) else 0, fun _ => 0, fun _ => none), ceP (nC 8 3) 2 (t0 + 12 + 1), ceP (ceI (ceI (ceP (nC 1 4) 2 (t0 + 12 + 1 + 1)) 3 (-1)) 0 1) 1 (t0 + 12 + 1 + 2), nC 20 30, (20, (90), fun k => if k < (90) then (-2) else 0, fun _ => 0, fun _ => none), nC 6 9, ceP (ceI (ceI (ceP (nC 1 4) 2 (t0 + 17 + 1)) 3 (-1)) 0 (nI z)) 1 (t0 + 17 + 2), nC 20 30, (20, (90 * z), fun k => if k < (90 * z) then (-2) else 0, fun _ => 0, fun _ => none), ceP (ceI (ceI (ceP (nC 1 4) 2 (t0 + 20 + 1)) 3 (-1)) 0 (nI z)) 1 (t0 + 20 + 2), nC 20 30, (20, (90 * z), fun k => if k < (90 * z) then (-2) else 0, fun _ => 0, fun _ => none)]
def ndS (z : Nat) : Nat := 2 + 2 + 3 + 3 + 3 + 41 + 41 + 41 + 4 + 30 + 90 + 3 + 4 + 30 + 90 + 9 + 4 + 30 + 90 * z + 4 + 30 + 90 * z
theorem ct36 {a9 i z : Nat} (hz : z ≤ 10) (ha : a9 < t0) (h9 : (g a9).1 = 9) (hz0 : (g a9).2.2.1 0 = nI z) (hK : ∀ h, PH g t0 (s + 2 + 2 + 3 + 3 + 3 + 41 + 41 + 41 + 4 + 30 + 90 + 3 + 4 + 30 + 90 + 9 + 4 + 30 + 90 * z + 4 + 30 + 90 * z) (ndC t0 a9 i z) h → K none h) : EP g t0 s [nC 7 18] 36 0 [some (.ref t0), some (.int (nI i)), some (.ref a9)] [] K := by
  refine p_al x36_0 rfl ?_
  refine p_obj x36_1 rfl ?_
  refine p_al x36_4 rfl ?_
  refine p_ic x36_5 ?_
  refine p_pI (j := 0) (cs' := [ceI (nC 7 18) 2 1]) x36_6 rfl rfl rfl rfl ?_
  refine p_al x36_9 rfl ?_
  refine p_ic x36_10 ?_
  refine p_pI (j := 0) (cs' := [ceI (ceI (nC 7 18) 2 1) 4 0]) x36_11 rfl rfl rfl rfl ?_
  refine p_al x36_14 rfl ?_
  refine p_new (a := t0 + 1) (cs' := [ceI (ceI (nC 7 18) 2 1) 4 0, nC 2 2]) x36_15 rfl rfl ?_
  refine p_dup x36_18 ?_
  refine p_ctor (s' := s + 2) (cs0 := [ceI (ceI (nC 7 18) 2 1) 4 0]) (x := nC 2 2) (l0 := [some (.ref (t0 + 1))]) (cs2 := [ceI (ceI (nC 2 2) 0 0) 1 (-1)]) (cs' := [ceI (ceI (nC 7 18) 2 1) 4 0, ceI (ceI (nC 2 2) 0 0) 1 (-1)]) x36_19 rfl rfl rfl rfl rfl rfl rfl (fun K' h => ct1 h) ?_
  refine p_pP (j := 0) (cs' := [ceP (ceI (ceI (nC 7 18) 2 1) 4 0) 5 (t0 + 1), ceI (ceI (nC 2 2) 0 0) 1 (-1)]) x36_22 rfl rfl rfl rfl ?_
  refine p_al x36_25 rfl ?_
  refine p_new (a := t0 + 2) (cs' := [ceP (ceI (ceI (nC 7 18) 2 1) 4 0) 5 (t0 + 1), ceI (ceI (nC 2 2) 0 0) 1 (-1), nC 2 2]) x36_26 rfl rfl ?_
  refine p_dup x36_29 ?_
  refine p_ctor (s' := s + 2 + 2) (cs0 := [ceP (ceI (ceI (nC 7 18) 2 1) 4 0) 5 (t0 + 1), ceI (ceI (nC 2 2) 0 0) 1 (-1)]) (x := nC 2 2) (l0 := [some (.ref (t0 + 2))]) (cs2 := [ceI (ceI (nC 2 2) 0 0) 1 (-1)]) (cs' := [ceP (ceI (ceI (nC 7 18) 2 1) 4 0) 5 (t0 + 1), ceI (ceI (nC 2 2) 0 0) 1 (-1), ceI (ceI (nC 2 2) 0 0) 1 (-1)]) x36_30 rfl rfl rfl rfl rfl rfl rfl (fun K' h => ct1 h) ?_
  refine p_pP (j := 0) (cs' := [ceP (ceP (ceI (ceI (nC 7 18) 2 1) 4 0) 5 (t0 + 1)) 6 (t0 + 2), ceI (ceI (nC 2 2) 0 0) 1 (-1), ceI (ceI (nC 2 2) 0 0) 1 (-1)]) x36_33 rfl rfl rfl rfl ?_
  refine p_al x36_36 rfl ?_
  refine p_ic x36_37 ?_
  refine p_nwa (n := 3) (a := t0 + 3) (cs' := [ceP (ceP (ceI (ceI (nC 7 18) 2 1) 4 0) 5 (t0 + 1)) 6 (t0 + 2), ceI (ceI (nC 2 2) 0 0) 1 (-1), ceI (ceI (nC 2 2) 0 0) 1 (-1), nC 20 3]) x36_38 rfl (by decide) rfl rfl ?_
  refine p_pP (j := 0) (cs' := [ceP (ceP (ceP (ceI (ceI (nC 7 18) 2 1) 4 0) 5 (t0 + 1)) 6 (t0 + 2)) 9 (t0 + 3), ceI (ceI (nC 2 2) 0 0) 1 (-1), ceI (ceI (nC 2 2) 0 0) 1 (-1), nC 20 3]) x36_40 rfl rfl rfl rfl ?_
  refine p_al x36_43 rfl ?_
  refine p_ic x36_44 ?_
  refine p_nwa (n := 3) (a := t0 + 4) (cs' := [ceP (ceP (ceP (ceI (ceI (nC 7 18) 2 1) 4 0) 5 (t0 + 1)) 6 (t0 + 2)) 9 (t0 + 3), ceI (ceI (nC 2 2) 0 0) 1 (-1), ceI (ceI (nC 2 2) 0 0) 1 (-1), nC 20 3, nC 21 3]) x36_45 rfl (by decide) rfl rfl ?_
  refine p_pP (j := 0) (cs' := [ceP (ceP (ceP (ceP (ceI (ceI (nC 7 18) 2 1) 4 0) 5 (t0 + 1)) 6 (t0 + 2)) 9 (t0 + 3)) 10 (t0 + 4), ceI (ceI (nC 2 2) 0 0) 1 (-1), ceI (ceI (nC 2 2) 0 0) 1 (-1), nC 20 3, nC 21 3]) x36_47 rfl rfl rfl rfl ?_
  refine p_al x36_50 rfl ?_
  refine p_new (a := t0 + 5) (cs' := [ceP (ceP (ceP (ceP (ceI (ceI (nC 7 18) 2 1) 4 0) 5 (t0 + 1)) 6 (t0 + 2)) 9 (t0 + 3)) 10 (t0 + 4), ceI (ceI (nC 2 2) 0 0) 1 (-1), ceI (ceI (nC 2 2) 0 0) 1 (-1), nC 20 3, nC 21 3, nC 3 3]) x36_51 rfl rfl ?_
  refine p_dup x36_54 ?_
  refine p_ctor (s' := s + 2 + 2 + 3 + 3 + 3 + 41 + 41 + 41) (cs0 := [ceP (ceP (ceP (ceP (ceI (ceI (nC 7 18) 2 1) 4 0) 5 (t0 + 1)) 6 (t0 + 2)) 9 (t0 + 3)) 10 (t0 + 4), ceI (ceI (nC 2 2) 0 0) 1 (-1), ceI (ceI (nC 2 2) 0 0) 1 (-1), nC 20 3, nC 21 3]) (x := nC 3 3) (l0 := [some (.ref (t0 + 5))]) (cs2 := [ceP (ceP (ceP (nC 3 3) 0 (t0 + 5 + 1)) 1 (t0 + 5 + 2)) 2 (t0 + 5 + 3), nC 20 41, nC 20 41, nC 20 41]) (cs' := [ceP (ceP (ceP (ceP (ceI (ceI (nC 7 18) 2 1) 4 0) 5 (t0 + 1)) 6 (t0 + 2)) 9 (t0 + 3)) 10 (t0 + 4), ceI (ceI (nC 2 2) 0 0) 1 (-1), ceI (ceI (nC 2 2) 0 0) 1 (-1), nC 20 3, nC 21 3, ceP (ceP (ceP (nC 3 3) 0 (t0 + 5 + 1)) 1 (t0 + 5 + 2)) 2 (t0 + 5 + 3), nC 20 41, nC 20 41, nC 20 41]) x36_55 rfl rfl rfl rfl rfl rfl rfl (fun K' h => ct15 h) ?_
  refine p_pP (j := 0) (cs' := [ceP (ceP (ceP (ceP (ceP (ceI (ceI (nC 7 18) 2 1) 4 0) 5 (t0 + 1)) 6 (t0 + 2)) 9 (t0 + 3)) 10 (t0 + 4)) 11 (t0 + 5), ceI (ceI (nC 2 2) 0 0) 1 (-1), ceI (ceI (nC 2 2) 0 0) 1 (-1), nC 20 3, nC 21 3, ceP (ceP (ceP (nC 3 3) 0 (t0 + 5 + 1)) 1 (t0 + 5 + 2)) 2 (t0 + 5 + 3), nC 20 41, nC 20 41, nC 20 41]) x36_58 rfl rfl rfl rfl ?_
  refine p_al x36_61 rfl ?_
  refine p_new (a := t0 + 9) (cs' := [ceP (ceP (ceP (ceP (ceP (ceI (ceI (nC 7 18) 2 1) 4 0) 5 (t0 + 1)) 6 (t0 + 2)) 9 (t0 + 3)) 10 (t0 + 4)) 11 (t0 + 5), ceI (ceI (nC 2 2) 0 0) 1 (-1), ceI (ceI (nC 2 2) 0 0) 1 (-1), nC 20 3, nC 21 3, ceP (ceP (ceP (nC 3 3) 0 (t0 + 5 + 1)) 1 (t0 + 5 + 2)) 2 (t0 + 5 + 3), nC 20 41, nC 20 41, nC 20 41, nC 1 4]) x36_62 rfl rfl ?_
  refine p_dup x36_65 ?_
  refine p_ic x36_66 ?_
  refine p_ctor (s' := s + 2 + 2 + 3 + 3 + 3 + 41 + 41 + 41 + 4 + 30 + 90) (cs0 := [ceP (ceP (ceP (ceP (ceP (ceI (ceI (nC 7 18) 2 1) 4 0) 5 (t0 + 1)) 6 (t0 + 2)) 9 (t0 + 3)) 10 (t0 + 4)) 11 (t0 + 5), ceI (ceI (nC 2 2) 0 0) 1 (-1), ceI (ceI (nC 2 2) 0 0) 1 (-1), nC 20 3, nC 21 3, ceP (ceP (ceP (nC 3 3) 0 (t0 + 5 + 1)) 1 (t0 + 5 + 2)) 2 (t0 + 5 + 3), nC 20 41, nC 20 41, nC 20 41]) (x := nC 1 4) (l0 := [some (.ref (t0 + 9)), some (.int 1)]) (cs2 := [ceP (ceI (ceI (ceP (nC 1 4) 2 (t0 + 9 + 1)) 3 (-1)) 0 1) 1 (t0 + 9 + 2), nC 20 30, (20, (90), fun k => if k < (90) then (-2) else 0, fun _ => 0, fun _ => none)]) (cs' := [ceP (ceP (ceP (ceP (ceP (ceI (ceI (nC 7 18) 2 1) 4 0) 5 (t0 + 1)) 6 (t0 + 2)) 9 (t0 + 3)) 10 (t0 + 4)) 11 (t0 + 5), ceI (ceI (nC 2 2) 0 0) 1 (-1), ceI (ceI (nC 2 2) 0 0) 1 (-1), nC 20 3, nC 21 3, ceP (ceP (ceP (nC 3 3) 0 (t0 + 5 + 1)) 1 (t0 + 5 + 2)) 2 (t0 + 5 + 3), nC 20 41, nC 20 41, nC 20 41, ceP (ceI (ceI (ceP (nC 1 4) 2 (t0 + 9 + 1)) 3 (-1)) 0 1) 1 (t0 + 9 + 2), nC 20 30, (20, (90), fun k => if k < (90) then (-2) else 0, fun _ => 0, fun _ => none)]) x36_67 rfl rfl rfl rfl rfl rfl rfl (fun K' h => ct7 (z := 1) (by omega) h) ?_
  refine p_pP (j := 0) (cs' := [ceP (ceP (ceP (ceP (ceP (ceP (ceI (ceI (nC 7 18) 2 1) 4 0) 5 (t0 + 1)) 6 (t0 + 2)) 9 (t0 + 3)) 10 (t0 + 4)) 11 (t0 + 5)) 14 (t0 + 9), ceI (ceI (nC 2 2) 0 0) 1 (-1), ceI (ceI (nC 2 2) 0 0) 1 (-1), nC 20 3, nC 21 3, ceP (ceP (ceP (nC 3 3) 0 (t0 + 5 + 1)) 1 (t0 + 5 + 2)) 2 (t0 + 5 + 3), nC 20 41, nC 20 41, nC 20 41, ceP (ceI (ceI (ceP (nC 1 4) 2 (t0 + 9 + 1)) 3 (-1)) 0 1) 1 (t0 + 9 + 2), nC 20 30, (20, (90), fun k => if k < (90) then (-2) else 0, fun _ => 0, fun _ => none)]) x36_70 rfl rfl rfl rfl ?_
  refine p_al x36_73 rfl ?_
  refine p_new (a := t0 + 12) (cs' := [ceP (ceP (ceP (ceP (ceP (ceP (ceI (ceI (nC 7 18) 2 1) 4 0) 5 (t0 + 1)) 6 (t0 + 2)) 9 (t0 + 3)) 10 (t0 + 4)) 11 (t0 + 5)) 14 (t0 + 9), ceI (ceI (nC 2 2) 0 0) 1 (-1), ceI (ceI (nC 2 2) 0 0) 1 (-1), nC 20 3, nC 21 3, ceP (ceP (ceP (nC 3 3) 0 (t0 + 5 + 1)) 1 (t0 + 5 + 2)) 2 (t0 + 5 + 3), nC 20 41, nC 20 41, nC 20 41, ceP (ceI (ceI (ceP (nC 1 4) 2 (t0 + 9 + 1)) 3 (-1)) 0 1) 1 (t0 + 9 + 2), nC 20 30, (20, (90), fun k => if k < (90) then (-2) else 0, fun _ => 0, fun _ => none), nC 8 3]) x36_74 rfl rfl ?_
  refine p_dup x36_77 ?_
  refine p_ctor (s' := s + 2 + 2 + 3 + 3 + 3 + 41 + 41 + 41 + 4 + 30 + 90 + 3 + 4 + 30 + 90) (cs0 := [ceP (ceP (ceP (ceP (ceP (ceP (ceI (ceI (nC 7 18) 2 1) 4 0) 5 (t0 + 1)) 6 (t0 + 2)) 9 (t0 + 3)) 10 (t0 + 4)) 11 (t0 + 5)) 14 (t0 + 9), ceI (ceI (nC 2 2) 0 0) 1 (-1), ceI (ceI (nC 2 2) 0 0) 1 (-1), nC 20 3, nC 21 3, ceP (ceP (ceP (nC 3 3) 0 (t0 + 5 + 1)) 1 (t0 + 5 + 2)) 2 (t0 + 5 + 3), nC 20 41, nC 20 41, nC 20 41, ceP (ceI (ceI (ceP (nC 1 4) 2 (t0 + 9 + 1)) 3 (-1)) 0 1) 1 (t0 + 9 + 2), nC 20 30, (20, (90), fun k => if k < (90) then (-2) else 0, fun _ => 0, fun _ => none)]) (x := nC 8 3) (l0 := [some (.ref (t0 + 12))]) (cs2 := [ceP (nC 8 3) 2 (t0 + 12 + 1), ceP (ceI (ceI (ceP (nC 1 4) 2 (t0 + 12 + 1 + 1)) 3 (-1)) 0 1) 1 (t0 + 12 + 1 + 2), nC 20 30, (20, (90), fun k => if k < (90) then (-2) else 0, fun _ => 0, fun _ => none)]) (cs' := [ceP (ceP (ceP (ceP (ceP (ceP (ceI (ceI (nC 7 18) 2 1) 4 0) 5 (t0 + 1)) 6 (t0 + 2)) 9 (t0 + 3)) 10 (t0 + 4)) 11 (t0 + 5)) 14 (t0 + 9), ceI (ceI (nC 2 2) 0 0) 1 (-1), ceI (ceI (nC 2 2) 0 0) 1 (-1), nC 20 3, nC 21 3, ceP (ceP (ceP (nC 3 3) 0 (t0 + 5 + 1)) 1 (t0 + 5 + 2)) 2 (t0 + 5 + 3), nC 20 41, nC 20 41, nC 20 41, ceP (ceI (ceI (ceP (nC 1 4) 2 (t0 + 9 + 1)) 3 (-1)) 0 1) 1 (t0 + 9 + 2), nC 20 30, (20, (90), fun k => if k < (90) then (-2) else 0, fun _ => 0, fun _ => none), ceP (nC 8 3) 2 (t0 + 12 + 1), ceP (ceI (ceI (ceP (nC 1 4) 2 (t0 + 12 + 1 + 1)) 3 (-1)) 0 1) 1 (t0 + 12 + 1 + 2), nC 20 30, (20, (90), fun k => if k < (90) then (-2) else 0, fun _ => 0, fun _ => none)]) x36_78 rfl rfl rfl rfl rfl rfl rfl (fun K' h => ct34 h) ?_
  refine p_pP (j := 0) (cs' := [ceP (ceP (ceP (ceP (ceP (ceP (ceP (ceI (ceI (nC 7 18) 2 1) 4 0) 5 (t0 + 1)) 6 (t0 + 2)) 9 (t0 + 3)) 10 (t0 + 4)) 11 (t0 + 5)) 14 (t0 + 9)) 15 (t0 + 12), ceI (ceI (nC 2 2) 0 0) 1 (-1), ceI (ceI (nC 2 2) 0 0) 1 (-1), nC 20 3, nC 21 3, ceP (ceP (ceP (nC 3 3) 0 (t0 + 5 + 1)) 1 (t0 + 5 + 2)) 2 (t0 + 5 + 3), nC 20 41, nC 20 41, nC 20 41, ceP (ceI (ceI (ceP (nC 1 4) 2 (t0 + 9 + 1)) 3 (-1)) 0 1) 1 (t0 + 9 + 2), nC 20 30, (20, (90), fun k => if k < (90) then (-2) else 0, fun _ => 0, fun _ => none), ceP (nC 8 3) 2 (t0 + 12 + 1), ceP (ceI (ceI (ceP (nC 1 4) 2 (t0 + 12 + 1 + 1)) 3 (-1)) 0 1) 1 (t0 + 12 + 1 + 2), nC 20 30, (20, (90), fun k => if k < (90) then (-2) else 0, fun _ => 0, fun _ => none)]) x36_81 rfl rfl rfl rfl ?_
  refine p_al x36_84 rfl ?_
  refine p_new (a := t0 + 16) (cs' := [ceP (ceP (ceP (ceP (ceP (ceP (ceP (ceI (ceI (nC 7 18) 2 1) 4 0) 5 (t0 + 1)) 6 (t0 + 2)) 9 (t0 + 3)) 10 (t0 + 4)) 11 (t0 + 5)) 14 (t0 + 9)) 15 (t0 + 12), ceI (ceI (nC 2 2) 0 0) 1 (-1), ceI (ceI (nC 2 2) 0 0) 1 (-1), nC 20 3, nC 21 3, ceP (ceP (ceP (nC 3 3) 0 (t0 + 5 + 1)) 1 (t0 + 5 + 2)) 2 (t0 + 5 + 3), nC 20 41, nC 20 41, nC 20 41, ceP (ceI (ceI (ceP (nC 1 4) 2 (t0 + 9 + 1)) 3 (-1)) 0 1) 1 (t0 + 9 + 2), nC 20 30, (20, (90), fun k => if k < (90) then (-2) else 0, fun _ => 0, fun _ => none), ceP (nC 8 3) 2 (t0 + 12 + 1), ceP (ceI (ceI (ceP (nC 1 4) 2 (t0 + 12 + 1 + 1)) 3 (-1)) 0 1) 1 (t0 + 12 + 1 + 2), nC 20 30, (20, (90), fun k => if k < (90) then (-2) else 0, fun _ => 0, fun _ => none), nC 6 9]) x36_85 rfl rfl ?_
  refine p_dup x36_88 ?_
  refine p_ctor (s' := s + 2 + 2 + 3 + 3 + 3 + 41 + 41 + 41 + 4 + 30 + 90 + 3 + 4 + 30 + 90 + 9) (cs0 := [ceP (ceP (ceP (ceP (ceP (ceP (ceP (ceI (ceI (nC 7 18) 2 1) 4 0) 5 (t0 + 1)) 6 (t0 + 2)) 9 (t0 + 3)) 10 (t0 + 4)) 11 (t0 + 5)) 14 (t0 + 9)) 15 (t0 + 12), ceI (ceI (nC 2 2) 0 0) 1 (-1), ceI (ceI (nC 2 2) 0 0) 1 (-1), nC 20 3, nC 21 3, ceP (ceP (ceP (nC 3 3) 0 (t0 + 5 + 1)) 1 (t0 + 5 + 2)) 2 (t0 + 5 + 3), nC 20 41, nC 20 41, nC 20 41, ceP (ceI (ceI (ceP (nC 1 4) 2 (t0 + 9 + 1)) 3 (-1)) 0 1) 1 (t0 + 9 + 2), nC 20 30, (20, (90), fun k => if k < (90) then (-2) else 0, fun _ => 0, fun _ => none), ceP (nC 8 3) 2 (t0 + 12 + 1), ceP (ceI (ceI (ceP (nC 1 4) 2 (t0 + 12 + 1 + 1)) 3 (-1)) 0 1) 1 (t0 + 12 + 1 + 2), nC 20 30, (20, (90), fun k => if k < (90) then (-2) else 0, fun _ => 0, fun _ => none)]) (x := nC 6 9) (l0 := [some (.ref (t0 + 16))]) (cs2 := [nC 6 9]) (cs' := [ceP (ceP (ceP (ceP (ceP (ceP (ceP (ceI (ceI (nC 7 18) 2 1) 4 0) 5 (t0 + 1)) 6 (t0 + 2)) 9 (t0 + 3)) 10 (t0 + 4)) 11 (t0 + 5)) 14 (t0 + 9)) 15 (t0 + 12), ceI (ceI (nC 2 2) 0 0) 1 (-1), ceI (ceI (nC 2 2) 0 0) 1 (-1), nC 20 3, nC 21 3, ceP (ceP (ceP (nC 3 3) 0 (t0 + 5 + 1)) 1 (t0 + 5 + 2)) 2 (t0 + 5 + 3), nC 20 41, nC 20 41, nC 20 41, ceP (ceI (ceI (ceP (nC 1 4) 2 (t0 + 9 + 1)) 3 (-1)) 0 1) 1 (t0 + 9 + 2), nC 20 30, (20, (90), fun k => if k < (90) then (-2) else 0, fun _ => 0, fun _ => none), ceP (nC 8 3) 2 (t0 + 12 + 1), ceP (ceI (ceI (ceP (nC 1 4) 2 (t0 + 12 + 1 + 1)) 3 (-1)) 0 1) 1 (t0 + 12 + 1 + 2), nC 20 30, (20, (90), fun k => if k < (90) then (-2) else 0, fun _ => 0, fun _ => none), nC 6 9]) x36_89 rfl rfl rfl rfl rfl rfl rfl (fun K' h => ct4 h) ?_
  refine p_pP (j := 0) (cs' := [ceP (ceP (ceP (ceP (ceP (ceP (ceP (ceP (ceI (ceI (nC 7 18) 2 1) 4 0) 5 (t0 + 1)) 6 (t0 + 2)) 9 (t0 + 3)) 10 (t0 + 4)) 11 (t0 + 5)) 14 (t0 + 9)) 15 (t0 + 12)) 16 (t0 + 16), ceI (ceI (nC 2 2) 0 0) 1 (-1), ceI (ceI (nC 2 2) 0 0) 1 (-1), nC 20 3, nC 21 3, ceP (ceP (ceP (nC 3 3) 0 (t0 + 5 + 1)) 1 (t0 + 5 + 2)) 2 (t0 + 5 + 3), nC 20 41, nC 20 41, nC 20 41, ceP (ceI (ceI (ceP (nC 1 4) 2 (t0 + 9 + 1)) 3 (-1)) 0 1) 1 (t0 + 9 + 2), nC 20 30, (20, (90), fun k => if k < (90) then (-2) else 0, fun _ => 0, fun _ => none), ceP (nC 8 3) 2 (t0 + 12 + 1), ceP (ceI (ceI (ceP (nC 1 4) 2 (t0 + 12 + 1 + 1)) 3 (-1)) 0 1) 1 (t0 + 12 + 1 + 2), nC 20 30, (20, (90), fun k => if k < (90) then (-2) else 0, fun _ => 0, fun _ => none), nC 6 9]) x36_92 rfl rfl rfl rfl ?_
  refine p_al x36_95 rfl ?_
  refine p_il x36_96 rfl ?_
  refine p_pI (j := 0) (cs' := [ceI (ceP (ceP (ceP (ceP (ceP (ceP (ceP (ceP (ceI (ceI (nC 7 18) 2 1) 4 0) 5 (t0 + 1)) 6 (t0 + 2)) 9 (t0 + 3)) 10 (t0 + 4)) 11 (t0 + 5)) 14 (t0 + 9)) 15 (t0 + 12)) 16 (t0 + 16)) 0 (nI i), ceI (ceI (nC 2 2) 0 0) 1 (-1), ceI (ceI (nC 2 2) 0 0) 1 (-1), nC 20 3, nC 21 3, ceP (ceP (ceP (nC 3 3) 0 (t0 + 5 + 1)) 1 (t0 + 5 + 2)) 2 (t0 + 5 + 3), nC 20 41, nC 20 41, nC 20 41, ceP (ceI (ceI (ceP (nC 1 4) 2 (t0 + 9 + 1)) 3 (-1)) 0 1) 1 (t0 + 9 + 2), nC 20 30, (20, (90), fun k => if k < (90) then (-2) else 0, fun _ => 0, fun _ => none), ceP (nC 8 3) 2 (t0 + 12 + 1), ceP (ceI (ceI (ceP (nC 1 4) 2 (t0 + 12 + 1 + 1)) 3 (-1)) 0 1) 1 (t0 + 12 + 1 + 2), nC 20 30, (20, (90), fun k => if k < (90) then (-2) else 0, fun _ => 0, fun _ => none), nC 6 9]) x36_97 rfl rfl rfl rfl ?_
  refine p_al x36_100 rfl ?_
  refine p_al x36_101 rfl ?_
  refine p_pP (j := 0) (cs' := [ceP (ceI (ceP (ceP (ceP (ceP (ceP (ceP (ceP (ceP (ceI (ceI (nC 7 18) 2 1) 4 0) 5 (t0 + 1)) 6 (t0 + 2)) 9 (t0 + 3)) 10 (t0 + 4)) 11 (t0 + 5)) 14 (t0 + 9)) 15 (t0 + 12)) 16 (t0 + 16)) 0 (nI i)) 1 (a9), ceI (ceI (nC 2 2) 0 0) 1 (-1), ceI (ceI (nC 2 2) 0 0) 1 (-1), nC 20 3, nC 21 3, ceP (ceP (ceP (nC 3 3) 0 (t0 + 5 + 1)) 1 (t0 + 5 + 2)) 2 (t0 + 5 + 3), nC 20 41, nC 20 41, nC 20 41, ceP (ceI (ceI (ceP (nC 1 4) 2 (t0 + 9 + 1)) 3 (-1)) 0 1) 1 (t0 + 9 + 2), nC 20 30, (20, (90), fun k => if k < (90) then (-2) else 0, fun _ => 0, fun _ => none), ceP (nC 8 3) 2 (t0 + 12 + 1), ceP (ceI (ceI (ceP (nC 1 4) 2 (t0 + 12 + 1 + 1)) 3 (-1)) 0 1) 1 (t0 + 12 + 1 + 2), nC 20 30, (20, (90), fun k => if k < (90) then (-2) else 0, fun _ => 0, fun _ => none), nC 6 9]) x36_102 rfl rfl rfl rfl ?_
  refine p_al x36_105 rfl ?_
  refine p_new (a := t0 + 17) (cs' := [ceP (ceI (ceP (ceP (ceP (ceP (ceP (ceP (ceP (ceP (ceI (ceI (nC 7 18) 2 1) 4 0) 5 (t0 + 1)) 6 (t0 + 2)) 9 (t0 + 3)) 10 (t0 + 4)) 11 (t0 + 5)) 14 (t0 + 9)) 15 (t0 + 12)) 16 (t0 + 16)) 0 (nI i)) 1 (a9), ceI (ceI (nC 2 2) 0 0) 1 (-1), ceI (ceI (nC 2 2) 0 0) 1 (-1), nC 20 3, nC 21 3, ceP (ceP (ceP (nC 3 3) 0 (t0 + 5 + 1)) 1 (t0 + 5 + 2)) 2 (t0 + 5 + 3), nC 20 41, nC 20 41, nC 20 41, ceP (ceI (ceI (ceP (nC 1 4) 2 (t0 + 9 + 1)) 3 (-1)) 0 1) 1 (t0 + 9 + 2), nC 20 30, (20, (90), fun k => if k < (90) then (-2) else 0, fun _ => 0, fun _ => none), ceP (nC 8 3) 2 (t0 + 12 + 1), ceP (ceI (ceI (ceP (nC 1 4) 2 (t0 + 12 + 1 + 1)) 3 (-1)) 0 1) 1 (t0 + 12 + 1 + 2), nC 20 30, (20, (90), fun k => if k < (90) then (-2) else 0, fun _ => 0, fun _ => none), nC 6 9, nC 1 4]) x36_106 rfl rfl ?_
  refine p_dup x36_109 ?_
  refine p_al x36_110 rfl ?_
  refine p_gIl x36_111 ha h9 hz0 ?_
  refine p_ctor (s' := s + 2 + 2 + 3 + 3 + 3 + 41 + 41 + 41 + 4 + 30 + 90 + 3 + 4 + 30 + 90 + 9 + 4 + 30 + 90 * z) (cs0 := [ceP (ceI (ceP (ceP (ceP (ceP (ceP (ceP (ceP (ceP (ceI (ceI (nC 7 18) 2 1) 4 0) 5 (t0 + 1)) 6 (t0 + 2)) 9 (t0 + 3)) 10 (t0 + 4)) 11 (t0 + 5)) 14 (t0 + 9)) 15 (t0 + 12)) 16 (t0 + 16)) 0 (nI i)) 1 (a9), ceI (ceI (nC 2 2) 0 0) 1 (-1), ceI (ceI (nC 2 2) 0 0) 1 (-1), nC 20 3, nC 21 3, ceP (ceP (ceP (nC 3 3) 0 (t0 + 5 + 1)) 1 (t0 + 5 + 2)) 2 (t0 + 5 + 3), nC 20 41, nC 20 41, nC 20 41, ceP (ceI (ceI (ceP (nC 1 4) 2 (t0 + 9 + 1)) 3 (-1)) 0 1) 1 (t0 + 9 + 2), nC 20 30, (20, (90), fun k => if k < (90) then (-2) else 0, fun _ => 0, fun _ => none), ceP (nC 8 3) 2 (t0 + 12 + 1), ceP (ceI (ceI (ceP (nC 1 4) 2 (t0 + 12 + 1 + 1)) 3 (-1)) 0 1) 1 (t0 + 12 + 1 + 2), nC 20 30, (20, (90), fun k => if k < (90) then (-2) else 0, fun _ => 0, fun _ => none), nC 6 9]) (x := nC 1 4) (l0 := [some (.ref (t0 + 17)), some (.int (nI z))]) (cs2 := [ceP (ceI (ceI (ceP (nC 1 4) 2 (t0 + 17 + 1)) 3 (-1)) 0 (nI z)) 1 (t0 + 17 + 2), nC 20 30, (20, (90 * z), fun k => if k < (90 * z) then (-2) else 0, fun _ => 0, fun _ => none)]) (cs' := [ceP (ceI (ceP (ceP (ceP (ceP (ceP (ceP (ceP (ceP (ceI (ceI (nC 7 18) 2 1) 4 0) 5 (t0 + 1)) 6 (t0 + 2)) 9 (t0 + 3)) 10 (t0 + 4)) 11 (t0 + 5)) 14 (t0 + 9)) 15 (t0 + 12)) 16 (t0 + 16)) 0 (nI i)) 1 (a9), ceI (ceI (nC 2 2) 0 0) 1 (-1), ceI (ceI (nC 2 2) 0 0) 1 (-1), nC 20 3, nC 21 3, ceP (ceP (ceP (nC 3 3) 0 (t0 + 5 + 1)) 1 (t0 + 5 + 2)) 2 (t0 + 5 + 3), nC 20 41, nC 20 41, nC 20 41, ceP (ceI (ceI (ceP (nC 1 4) 2 (t0 + 9 + 1)) 3 (-1)) 0 1) 1 (t0 + 9 + 2), nC 20 30, (20, (90), fun k => if k < (90) then (-2) else 0, fun _ => 0, fun _ => none), ceP (nC 8 3) 2 (t0 + 12 + 1), ceP (ceI (ceI (ceP (nC 1 4) 2 (t0 + 12 + 1 + 1)) 3 (-1)) 0 1) 1 (t0 + 12 + 1 + 2), nC 20 30, (20, (90), fun k => if k < (90) then (-2) else 0, fun _ => 0, fun _ => none), nC 6 9, ceP (ceI (ceI (ceP (nC 1 4) 2 (t0 + 17 + 1)) 3 (-1)) 0 (nI z)) 1 (t0 + 17 + 2), nC 20 30, (20, (90 * z), fun k => if k < (90 * z) then (-2) else 0, fun _ => 0, fun _ => none)]) x36_114 rfl rfl rfl rfl rfl rfl rfl (fun K' h => ct7 (z := z) (by omega) h) ?_
  refine p_pP (j := 0) (cs' := [ceP (ceP (ceI (ceP (ceP (ceP (ceP (ceP (ceP (ceP (ceP (ceI (ceI (nC 7 18) 2 1) 4 0) 5 (t0 + 1)) 6 (t0 + 2)) 9 (t0 + 3)) 10 (t0 + 4)) 11 (t0 + 5)) 14 (t0 + 9)) 15 (t0 + 12)) 16 (t0 + 16)) 0 (nI i)) 1 (a9)) 12 (t0 + 17), ceI (ceI (nC 2 2) 0 0) 1 (-1), ceI (ceI (nC 2 2) 0 0) 1 (-1), nC 20 3, nC 21 3, ceP (ceP (ceP (nC 3 3) 0 (t0 + 5 + 1)) 1 (t0 + 5 + 2)) 2 (t0 + 5 + 3), nC 20 41, nC 20 41, nC 20 41, ceP (ceI (ceI (ceP (nC 1 4) 2 (t0 + 9 + 1)) 3 (-1)) 0 1) 1 (t0 + 9 + 2), nC 20 30, (20, (90), fun k => if k < (90) then (-2) else 0, fun _ => 0, fun _ => none), ceP (nC 8 3) 2 (t0 + 12 + 1), ceP (ceI (ceI (ceP (nC 1 4) 2 (t0 + 12 + 1 + 1)) 3 (-1)) 0 1) 1 (t0 + 12 + 1 + 2), nC 20 30, (20, (90), fun k => if k < (90) then (-2) else 0, fun _ => 0, fun _ => none), nC 6 9, ceP (ceI (ceI (ceP (nC 1 4) 2 (t0 + 17 + 1)) 3 (-1)) 0 (nI z)) 1 (t0 + 17 + 2), nC 20 30, (20, (90 * z), fun k => if k < (90 * z) then (-2) else 0, fun _ => 0, fun _ => none)]) x36_117 rfl rfl rfl rfl ?_
  refine p_al x36_120 rfl ?_
  refine p_new (a := t0 + 20) (cs' := [ceP (ceP (ceI (ceP (ceP (ceP (ceP (ceP (ceP (ceP (ceP (ceI (ceI (nC 7 18) 2 1) 4 0) 5 (t0 + 1)) 6 (t0 + 2)) 9 (t0 + 3)) 10 (t0 + 4)) 11 (t0 + 5)) 14 (t0 + 9)) 15 (t0 + 12)) 16 (t0 + 16)) 0 (nI i)) 1 (a9)) 12 (t0 + 17), ceI (ceI (nC 2 2) 0 0) 1 (-1), ceI (ceI (nC 2 2) 0 0) 1 (-1), nC 20 3, nC 21 3, ceP (ceP (ceP (nC 3 3) 0 (t0 + 5 + 1)) 1 (t0 + 5 + 2)) 2 (t0 + 5 + 3), nC 20 41, nC 20 41, nC 20 41, ceP (ceI (ceI (ceP (nC 1 4) 2 (t0 + 9 + 1)) 3 (-1)) 0 1) 1 (t0 + 9 + 2), nC 20 30, (20, (90), fun k => if k < (90) then (-2) else 0, fun _ => 0, fun _ => none), ceP (nC 8 3) 2 (t0 + 12 + 1), ceP (ceI (ceI (ceP (nC 1 4) 2 (t0 + 12 + 1 + 1)) 3 (-1)) 0 1) 1 (t0 + 12 + 1 + 2), nC 20 30, (20, (90), fun k => if k < (90) then (-2) else 0, fun _ => 0, fun _ => none), nC 6 9, ceP (ceI (ceI (ceP (nC 1 4) 2 (t0 + 17 + 1)) 3 (-1)) 0 (nI z)) 1 (t0 + 17 + 2), nC 20 30, (20, (90 * z), fun k => if k < (90 * z) then (-2) else 0, fun _ => 0, fun _ => none), nC 1 4]) x36_121 rfl rfl ?_
  refine p_dup x36_124 ?_
  refine p_al x36_125 rfl ?_
  refine p_gIl x36_126 ha h9 hz0 ?_
  refine p_ctor (s' := s + 2 + 2 + 3 + 3 + 3 + 41 + 41 + 41 + 4 + 30 + 90 + 3 + 4 + 30 + 90 + 9 + 4 + 30 + 90 * z + 4 + 30 + 90 * z) (cs0 := [ceP (ceP (ceI (ceP (ceP (ceP (ceP (ceP (ceP (ceP (ceP (ceI (ceI (nC 7 18) 2 1) 4 0) 5 (t0 + 1)) 6 (t0 + 2)) 9 (t0 + 3)) 10 (t0 + 4)) 11 (t0 + 5)) 14 (t0 + 9)) 15 (t0 + 12)) 16 (t0 + 16)) 0 (nI i)) 1 (a9)) 12 (t0 + 17), ceI (ceI (nC 2 2) 0 0) 1 (-1), ceI (ceI (nC 2 2) 0 0) 1 (-1), nC 20 3, nC 21 3, ceP (ceP (ceP (nC 3 3) 0 (t0 + 5 + 1)) 1 (t0 + 5 + 2)) 2 (t0 + 5 + 3), nC 20 41, nC 20 41, nC 20 41, ceP (ceI (ceI (ceP (nC 1 4) 2 (t0 + 9 + 1)) 3 (-1)) 0 1) 1 (t0 + 9 + 2), nC 20 30, (20, (90), fun k => if k < (90) then (-2) else 0, fun _ => 0, fun _ => none), ceP (nC 8 3) 2 (t0 + 12 + 1), ceP (ceI (ceI (ceP (nC 1 4) 2 (t0 + 12 + 1 + 1)) 3 (-1)) 0 1) 1 (t0 + 12 + 1 + 2), nC 20 30, (20, (90), fun k => if k < (90) then (-2) else 0, fun _ => 0, fun _ => none), nC 6 9, ceP (ceI (ceI (ceP (nC 1 4) 2 (t0 + 17 + 1)) 3 (-1)) 0 (nI z)) 1 (t0 + 17 + 2), nC 20 30, (20, (90 * z), fun k => if k < (90 * z) then (-2) else 0, fun _ => 0, fun _ => none)]) (x := nC 1 4) (l0 := [some (.ref (t0 + 20)), some (.int (nI z))]) (cs2 := [ceP (ceI (ceI (ceP (nC 1 4) 2 (t0 + 20 + 1)) 3 (-1)) 0 (nI z)) 1 (t0 + 20 + 2), nC 20 30, (20, (90 * z), fun k => if k < (90 * z) then (-2) else 0, fun _ => 0, fun _ => none)]) (cs' := [ceP (ceP (ceI (ceP (ceP (ceP (ceP (ceP (ceP (ceP (ceP (ceI (ceI (nC 7 18) 2 1) 4 0) 5 (t0 + 1)) 6 (t0 + 2)) 9 (t0 + 3)) 10 (t0 + 4)) 11 (t0 + 5)) 14 (t0 + 9)) 15 (t0 + 12)) 16 (t0 + 16)) 0 (nI i)) 1 (a9)) 12 (t0 + 17), ceI (ceI (nC 2 2) 0 0) 1 (-1), ceI (ceI (nC 2 2) 0 0) 1 (-1), nC 20 3, nC 21 3, ceP (ceP (ceP (nC 3 3) 0 (t0 + 5 + 1)) 1 (t0 + 5 + 2)) 2 (t0 + 5 + 3), nC 20 41, nC 20 41, nC 20 41, ceP (ceI (ceI (ceP (nC 1 4) 2 (t0 + 9 + 1)) 3 (-1)) 0 1) 1 (t0 + 9 + 2), nC 20 30, (20, (90), fun k => if k < (90) then (-2) else 0, fun _ => 0, fun _ => none), ceP (nC 8 3) 2 (t0 + 12 + 1), ceP (ceI (ceI (ceP (nC 1 4) 2 (t0 + 12 + 1 + 1)) 3 (-1)) 0 1) 1 (t0 + 12 + 1 + 2), nC 20 30, (20, (90), fun k => if k < (90) then (-2) else 0, fun _ => 0, fun _ => none), nC 6 9, ceP (ceI (ceI (ceP (nC 1 4) 2 (t0 + 17 + 1)) 3 (-1)) 0 (nI z)) 1 (t0 + 17 + 2), nC 20 30, (20, (90 * z), fun k => if k < (90 * z) then (-2) else 0, fun _ => 0, fun _ => none), ceP (ceI (ceI (ceP (nC 1 4) 2 (t0 + 20 + 1)) 3 (-1)) 0 (nI z)) 1 (t0 + 20 + 2), nC 20 30, (20, (90 * z), fun k => if k < (90 * z) then (-2) else 0, fun _ => 0, fun _ => none)]) x36_129 rfl rfl rfl rfl rfl rfl rfl (fun K' h => ct7 (z := z) (by omega) h) ?_
  refine p_pP (j := 0) (cs' := [ceP (ceP (ceP (ceI (ceP (ceP (ceP (ceP (ceP (ceP (ceP (ceP (ceI (ceI (nC 7 18) 2 1) 4 0) 5 (t0 + 1)) 6 (t0 + 2)) 9 (t0 + 3)) 10 (t0 + 4)) 11 (t0 + 5)) 14 (t0 + 9)) 15 (t0 + 12)) 16 (t0 + 16)) 0 (nI i)) 1 (a9)) 12 (t0 + 17)) 13 (t0 + 20), ceI (ceI (nC 2 2) 0 0) 1 (-1), ceI (ceI (nC 2 2) 0 0) 1 (-1), nC 20 3, nC 21 3, ceP (ceP (ceP (nC 3 3) 0 (t0 + 5 + 1)) 1 (t0 + 5 + 2)) 2 (t0 + 5 + 3), nC 20 41, nC 20 41, nC 20 41, ceP (ceI (ceI (ceP (nC 1 4) 2 (t0 + 9 + 1)) 3 (-1)) 0 1) 1 (t0 + 9 + 2), nC 20 30, (20, (90), fun k => if k < (90) then (-2) else 0, fun _ => 0, fun _ => none), ceP (nC 8 3) 2 (t0 + 12 + 1), ceP (ceI (ceI (ceP (nC 1 4) 2 (t0 + 12 + 1 + 1)) 3 (-1)) 0 1) 1 (t0 + 12 + 1 + 2), nC 20 30, (20, (90), fun k => if k < (90) then (-2) else 0, fun _ => 0, fun _ => none), nC 6 9, ceP (ceI (ceI (ceP (nC 1 4) 2 (t0 + 17 + 1)) 3 (-1)) 0 (nI z)) 1 (t0 + 17 + 2), nC 20 30, (20, (90 * z), fun k => if k < (90 * z) then (-2) else 0, fun _ => 0, fun _ => none), ceP (ceI (ceI (ceP (nC 1 4) 2 (t0 + 20 + 1)) 3 (-1)) 0 (nI z)) 1 (t0 + 20 + 2), nC 20 30, (20, (90 * z), fun k => if k < (90 * z) then (-2) else 0, fun _ => 0, fun _ => none)]) x36_132 rfl rfl rfl rfl ?_
  exact p_rv x36_135 hK
theorem ndC_len (t0 a9 i z : Nat) : (ndC t0 a9 i z).length = 23 := rfl
end Ctor
