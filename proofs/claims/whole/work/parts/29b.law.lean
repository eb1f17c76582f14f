/-! ===== the law from its loop on; the model's constructor from its rows on ===== -/
-- Law.law([I)Z, from 38
set_option maxRecDepth 8000 in
theorem T146_38 {E : mE} {v3 : Int32} {S : mS} {K : Option Value → mS → Prop}  (H : (((nI (eL E)) - 5) < v3 → (K (some (.int 1)) S)) ∧ (¬ ((nI (eL E)) - 5) < v3 → ((¬ v3 < 0 ∧ (v3.toNatClampNeg) < eL E) ∧ ((((ex E (v3.toNatClampNeg)) &&& 15) = 0 → ((¬ (v3 + 1) < 0 ∧ ((v3 + 1).toNatClampNeg) < eL E) ∧ ((¬ (v3 + 2) < 0 ∧ ((v3 + 2).toNatClampNeg) < eL E) ∧ (ES E 62 0 [some (.ref (aK E 0)), some (.int (ex E ((v3 + 1).toNatClampNeg))), some (.int (ex E ((v3 + 2).toNatClampNeg))), none] [] S (fun r S6 => ∃ x7 : Int32, r = some (.int x7) ∧ (ES E 130 0 [some (.ref (aS E 0)), some (.int (ex E ((v3 + 1).toNatClampNeg))), some (.int (ex E ((v3 + 2).toNatClampNeg))), none, none] [] S6 (fun r S8 => ∃ x9 : Int32, r = some (.int x9) ∧ ((x7 = x9 → (ES E 146 38 [some (.ref (eb E)), some (.ref (aK E 0)), some (.ref (aS E 0)), some (.int (v3 + 5))] [] S8 K)) ∧ (¬ x7 = x9 → (K (some (.int 0)) S8)))))))))) ∧ (((ex E (v3.toNatClampNeg)) &&& 15) = 1 → ((¬ (v3 + 1) < 0 ∧ ((v3 + 1).toNatClampNeg) < eL E) ∧ ((¬ (v3 + 2) < 0 ∧ ((v3 + 2).toNatClampNeg) < eL E) ∧ (ES E 65 0 [some (.ref (aK E 0)), some (.int (ex E ((v3 + 1).toNatClampNeg))), some (.int (ex E ((v3 + 2).toNatClampNeg))), none] [] S (fun r S14 => ∃ x15 : Int32, r = some (.int x15) ∧ (ES E 132 0 [some (.ref (aS E 0)), some (.int (ex E ((v3 + 1).toNatClampNeg))), some (.int (ex E ((v3 + 2).toNatClampNeg))), none] [] S14 (fun r S16 => ∃ x17 : Int32, r = some (.int x17) ∧ ((x15 = x17 → (ES E 146 38 [some (.ref (eb E)), some (.ref (aK E 0)), some (.ref (aS E 0)), some (.int (v3 + 5))] [] S16 K)) ∧ (¬ x15 = x17 → (K (some (.int 0)) S16)))))))))) ∧ (((ex E (v3.toNatClampNeg)) &&& 15) = 2 → ((¬ (v3 + 1) < 0 ∧ ((v3 + 1).toNatClampNeg) < eL E) ∧ ((¬ (v3 + 2) < 0 ∧ ((v3 + 2).toNatClampNeg) < eL E) ∧ ((¬ (v3 + 3) < 0 ∧ ((v3 + 3).toNatClampNeg) < eL E) ∧ (ES E 66 0 [some (.ref (aK E 0)), some (.int (ex E ((v3 + 1).toNatClampNeg))), some (.int (ex E ((v3 + 2).toNatClampNeg))), some (.int (ex E ((v3 + 3).toNatClampNeg)))] [] S (fun r S23 => ∃ x24 : Int32, r = some (.int x24) ∧ (ES E 133 0 [some (.ref (aS E 0)), some (.int (ex E ((v3 + 1).toNatClampNeg))), some (.int (ex E ((v3 + 2).toNatClampNeg))), some (.int (ex E ((v3 + 3).toNatClampNeg))), none] [] S23 (fun r S25 => ∃ x26 : Int32, r = some (.int x26) ∧ ((x24 = x26 → (ES E 146 38 [some (.ref (eb E)), some (.ref (aK E 0)), some (.ref (aS E 0)), some (.int (v3 + 5))] [] S25 K)) ∧ (¬ x24 = x26 → (K (some (.int 0)) S25))))))))))) ∧ (((ex E (v3.toNatClampNeg)) &&& 15) = 3 → ((¬ (v3 + 1) < 0 ∧ ((v3 + 1).toNatClampNeg) < eL E) ∧ ((¬ (v3 + 2) < 0 ∧ ((v3 + 2).toNatClampNeg) < eL E) ∧ (ES E 67 0 [some (.ref (aK E 0)), some (.int (ex E ((v3 + 1).toNatClampNeg))), some (.int (ex E ((v3 + 2).toNatClampNeg)))] [] S (fun r S31 => ∃ x32 : Int32, r = some (.int x32) ∧ (ES E 134 0 [some (.ref (aS E 0)), some (.int (ex E ((v3 + 1).toNatClampNeg))), some (.int (ex E ((v3 + 2).toNatClampNeg)))] [] S31 (fun r S33 => ∃ x34 : Int32, r = some (.int x34) ∧ ((x32 = x34 → (ES E 146 38 [some (.ref (eb E)), some (.ref (aK E 0)), some (.ref (aS E 0)), some (.int (v3 + 5))] [] S33 K)) ∧ (¬ x32 = x34 → (K (some (.int 0)) S33)))))))))) ∧ (((ex E (v3.toNatClampNeg)) &&& 15) = 4 → ((¬ (v3 + 1) < 0 ∧ ((v3 + 1).toNatClampNeg) < eL E) ∧ ((¬ (v3 + 2) < 0 ∧ ((v3 + 2).toNatClampNeg) < eL E) ∧ (ES E 68 0 [some (.ref (aK E 0)), some (.int (ex E ((v3 + 1).toNatClampNeg))), some (.int (ex E ((v3 + 2).toNatClampNeg)))] [] S (fun r S39 => ∃ x40 : Int32, r = some (.int x40) ∧ (ES E 135 0 [some (.ref (aS E 0)), some (.int (ex E ((v3 + 1).toNatClampNeg))), some (.int (ex E ((v3 + 2).toNatClampNeg)))] [] S39 (fun r S41 => ∃ x42 : Int32, r = some (.int x42) ∧ ((x40 = x42 → (ES E 146 38 [some (.ref (eb E)), some (.ref (aK E 0)), some (.ref (aS E 0)), some (.int (v3 + 5))] [] S41 K)) ∧ (¬ x40 = x42 → (K (some (.int 0)) S41)))))))))) ∧ (((ex E (v3.toNatClampNeg)) &&& 15) = 5 → ((¬ (v3 + 1) < 0 ∧ ((v3 + 1).toNatClampNeg) < eL E) ∧ (ES E 69 0 [some (.ref (aK E 0)), some (.int (ex E ((v3 + 1).toNatClampNeg))), none] [] S (fun r S46 => ∃ x47 : Int32, r = some (.int x47) ∧ (ES E 96 0 [some (.ref (aS E 0)), some (.int (ex E ((v3 + 1).toNatClampNeg))), none] [] S46 (fun r S48 => ∃ x49 : Int32, r = some (.int x49) ∧ ((x47 = x49 → (ES E 146 38 [some (.ref (eb E)), some (.ref (aK E 0)), some (.ref (aS E 0)), some (.int (v3 + 5))] [] S48 K)) ∧ (¬ x47 = x49 → (K (some (.int 0)) S48))))))))) ∧ (((ex E (v3.toNatClampNeg)) &&& 15) = 6 → ((¬ (v3 + 1) < 0 ∧ ((v3 + 1).toNatClampNeg) < eL E) ∧ (ES E 79 0 [some (.ref (aK E 0)), some (.int (ex E ((v3 + 1).toNatClampNeg))), none, none, none, none] [] S (fun r S53 => ∃ x54 : Int32, r = some (.int x54) ∧ (ES E 136 0 [some (.ref (aS E 0)), some (.int (ex E ((v3 + 1).toNatClampNeg))), none, none, none, none, none, none] [] S53 (fun r S55 => ∃ x56 : Int32, r = some (.int x56) ∧ ((x54 = x56 → (ES E 146 38 [some (.ref (eb E)), some (.ref (aK E 0)), some (.ref (aS E 0)), some (.int (v3 + 5))] [] S55 K)) ∧ (¬ x54 = x56 → (K (some (.int 0)) S55))))))))) ∧ (((ex E (v3.toNatClampNeg)) &&& 15) = 7 → ((¬ (v3 + 1) < 0 ∧ ((v3 + 1).toNatClampNeg) < eL E) ∧ ((¬ (v3 + 2) < 0 ∧ ((v3 + 2).toNatClampNeg) < eL E) ∧ (ES E 81 0 [some (.ref (aK E 0)), some (.int (ex E ((v3 + 1).toNatClampNeg))), some (.int (ex E ((v3 + 2).toNatClampNeg))), none] [] S (fun r S61 => ∃ x62 : Int32, r = some (.int x62) ∧ (ES E 137 0 [some (.ref (aS E 0)), some (.int (ex E ((v3 + 1).toNatClampNeg))), some (.int (ex E ((v3 + 2).toNatClampNeg)))] [] S61 (fun r S63 => ∃ x64 : Int32, r = some (.int x64) ∧ ((x62 = x64 → (ES E 146 38 [some (.ref (eb E)), some (.ref (aK E 0)), some (.ref (aS E 0)), some (.int (v3 + 5))] [] S63 K)) ∧ (¬ x62 = x64 → (K (some (.int 0)) S63)))))))))) ∧ (((ex E (v3.toNatClampNeg)) &&& 15) = 8 → ((¬ (v3 + 1) < 0 ∧ ((v3 + 1).toNatClampNeg) < eL E) ∧ ((¬ (v3 + 2) < 0 ∧ ((v3 + 2).toNatClampNeg) < eL E) ∧ ((¬ (v3 + 3) < 0 ∧ ((v3 + 3).toNatClampNeg) < eL E) ∧ ((¬ (v3 + 4) < 0 ∧ ((v3 + 4).toNatClampNeg) < eL E) ∧ (ES E 82 0 [some (.ref (aK E 0)), some (.int (ex E ((v3 + 1).toNatClampNeg))), some (.int (ex E ((v3 + 2).toNatClampNeg))), some (.int (ex E ((v3 + 3).toNatClampNeg))), some (.int (ex E ((v3 + 4).toNatClampNeg))), none] [] S (fun r S71 => ∃ x72 : Int32, r = some (.int x72) ∧ (ES E 138 0 [some (.ref (aS E 0)), some (.int (ex E ((v3 + 1).toNatClampNeg))), some (.int (ex E ((v3 + 2).toNatClampNeg))), some (.int (ex E ((v3 + 3).toNatClampNeg))), some (.int (ex E ((v3 + 4).toNatClampNeg))), none] [] S71 (fun r S73 => ∃ x74 : Int32, r = some (.int x74) ∧ ((x72 = x74 → (ES E 146 38 [some (.ref (eb E)), some (.ref (aK E 0)), some (.ref (aS E 0)), some (.int (v3 + 5))] [] S73 K)) ∧ (¬ x72 = x74 → (K (some (.int 0)) S73)))))))))))) ∧ (((ex E (v3.toNatClampNeg)) &&& 15) = 9 → ((¬ (v3 + 1) < 0 ∧ ((v3 + 1).toNatClampNeg) < eL E) ∧ ((¬ (v3 + 2) < 0 ∧ ((v3 + 2).toNatClampNeg) < eL E) ∧ ((¬ (v3 + 3) < 0 ∧ ((v3 + 3).toNatClampNeg) < eL E) ∧ (ES E 83 0 [some (.ref (aK E 0)), some (.int (ex E ((v3 + 1).toNatClampNeg))), some (.int (ex E ((v3 + 2).toNatClampNeg))), some (.int (ex E ((v3 + 3).toNatClampNeg))), none] [] S (fun r S80 => ∃ x81 : Int32, r = some (.int x81) ∧ (ES E 139 0 [some (.ref (aS E 0)), some (.int (ex E ((v3 + 1).toNatClampNeg))), some (.int (ex E ((v3 + 2).toNatClampNeg))), some (.int (ex E ((v3 + 3).toNatClampNeg))), none] [] S80 (fun r S82 => ∃ x83 : Int32, r = some (.int x83) ∧ ((x81 = x83 → (ES E 146 38 [some (.ref (eb E)), some (.ref (aK E 0)), some (.ref (aS E 0)), some (.int (v3 + 5))] [] S82 K)) ∧ (¬ x81 = x83 → (K (some (.int 0)) S82))))))))))) ∧ (((ex E (v3.toNatClampNeg)) &&& 15) = 10 → ((¬ (v3 + 1) < 0 ∧ ((v3 + 1).toNatClampNeg) < eL E) ∧ (ES E 85 0 [some (.ref (aK E 0)), some (.int (ex E ((v3 + 1).toNatClampNeg))), none, none, none] [] S (fun r S87 => ∃ x88 : Int32, r = some (.int x88) ∧ (ES E 140 0 [some (.ref (aS E 0)), some (.int (ex E ((v3 + 1).toNatClampNeg))), none, none, none] [] S87 (fun r S89 => ∃ x90 : Int32, r = some (.int x90) ∧ ((x88 = x90 → (ES E 146 38 [some (.ref (eb E)), some (.ref (aK E 0)), some (.ref (aS E 0)), some (.int (v3 + 5))] [] S89 K)) ∧ (¬ x88 = x90 → (K (some (.int 0)) S89))))))))) ∧ (((ex E (v3.toNatClampNeg)) &&& 15) = 11 → ((¬ (v3 + 1) < 0 ∧ ((v3 + 1).toNatClampNeg) < eL E) ∧ ((¬ (v3 + 2) < 0 ∧ ((v3 + 2).toNatClampNeg) < eL E) ∧ (ES E 86 0 [some (.ref (aK E 0)), some (.int (ex E ((v3 + 1).toNatClampNeg))), some (.int (ex E ((v3 + 2).toNatClampNeg)))] [] S (fun r S95 => ∃ x96 : Int32, r = some (.int x96) ∧ (ES E 141 0 [some (.ref (aS E 0)), some (.int (ex E ((v3 + 1).toNatClampNeg))), some (.int (ex E ((v3 + 2).toNatClampNeg)))] [] S95 (fun r S97 => ∃ x98 : Int32, r = some (.int x98) ∧ ((x96 = x98 → (ES E 146 38 [some (.ref (eb E)), some (.ref (aK E 0)), some (.ref (aS E 0)), some (.int (v3 + 5))] [] S97 K)) ∧ (¬ x96 = x98 → (K (some (.int 0)) S97)))))))))) ∧ (((ex E (v3.toNatClampNeg)) &&& 15) = 12 → ((¬ (v3 + 1) < 0 ∧ ((v3 + 1).toNatClampNeg) < eL E) ∧ (ES E 87 0 [some (.ref (aK E 0)), some (.int (ex E ((v3 + 1).toNatClampNeg)))] [] S (fun r S102 => ∃ x103 : Int32, r = some (.int x103) ∧ (ES E 142 0 [some (.ref (aS E 0)), some (.int (ex E ((v3 + 1).toNatClampNeg))), none, none] [] S102 (fun r S104 => ∃ x105 : Int32, r = some (.int x105) ∧ ((x103 = x105 → (ES E 146 38 [some (.ref (eb E)), some (.ref (aK E 0)), some (.ref (aS E 0)), some (.int (v3 + 5))] [] S104 K)) ∧ (¬ x103 = x105 → (K (some (.int 0)) S104))))))))) ∧ (((ex E (v3.toNatClampNeg)) &&& 15) = 13 → ((¬ (v3 + 1) < 0 ∧ ((v3 + 1).toNatClampNeg) < eL E) ∧ (ES E 88 0 [some (.ref (aK E 0)), some (.int (ex E ((v3 + 1).toNatClampNeg)))] [] S (fun r S109 => ∃ x110 : Int32, r = some (.int x110) ∧ (ES E 143 0 [some (.ref (aS E 0)), some (.int (ex E ((v3 + 1).toNatClampNeg))), none, none, none] [] S109 (fun r S111 => ∃ x112 : Int32, r = some (.int x112) ∧ ((x110 = x112 → (ES E 146 38 [some (.ref (eb E)), some (.ref (aK E 0)), some (.ref (aS E 0)), some (.int (v3 + 5))] [] S111 K)) ∧ (¬ x110 = x112 → (K (some (.int 0)) S111))))))))) ∧ (((ex E (v3.toNatClampNeg)) &&& 15) = 14 → ((¬ (v3 + 1) < 0 ∧ ((v3 + 1).toNatClampNeg) < eL E) ∧ ((¬ (v3 + 2) < 0 ∧ ((v3 + 2).toNatClampNeg) < eL E) ∧ (ES E 90 0 [some (.ref (aK E 0)), some (.int (ex E ((v3 + 1).toNatClampNeg))), some (.int (ex E ((v3 + 2).toNatClampNeg)))] [] S (fun r S117 => ∃ x118 : Int32, r = some (.int x118) ∧ (ES E 144 0 [some (.ref (aS E 0)), some (.int (ex E ((v3 + 1).toNatClampNeg))), some (.int (ex E ((v3 + 2).toNatClampNeg)))] [] S117 (fun r S119 => ∃ x120 : Int32, r = some (.int x120) ∧ ((x118 = x120 → (ES E 146 38 [some (.ref (eb E)), some (.ref (aK E 0)), some (.ref (aS E 0)), some (.int (v3 + 5))] [] S119 K)) ∧ (¬ x118 = x120 → (K (some (.int 0)) S119)))))))))) ∧ (¬ ((ex E (v3.toNatClampNeg)) &&& 15) = 0 → ((¬ ((ex E (v3.toNatClampNeg)) &&& 15) = 1 → ((¬ ((ex E (v3.toNatClampNeg)) &&& 15) = 2 → ((¬ ((ex E (v3.toNatClampNeg)) &&& 15) = 3 → ((¬ ((ex E (v3.toNatClampNeg)) &&& 15) = 4 → ((¬ ((ex E (v3.toNatClampNeg)) &&& 15) = 5 → ((¬ ((ex E (v3.toNatClampNeg)) &&& 15) = 6 → ((¬ ((ex E (v3.toNatClampNeg)) &&& 15) = 7 → ((¬ ((ex E (v3.toNatClampNeg)) &&& 15) = 8 → ((¬ ((ex E (v3.toNatClampNeg)) &&& 15) = 9 → ((¬ ((ex E (v3.toNatClampNeg)) &&& 15) = 10 → ((¬ ((ex E (v3.toNatClampNeg)) &&& 15) = 11 → ((¬ ((ex E (v3.toNatClampNeg)) &&& 15) = 12 → ((¬ ((ex E (v3.toNatClampNeg)) &&& 15) = 13 → ((¬ ((ex E (v3.toNatClampNeg)) &&& 15) = 14 → (ES E 146 38 [some (.ref (eb E)), some (.ref (aK E 0)), some (.ref (aS E 0)), some (.int (v3 + 5))] [] S K)))))))))))))))))))))))))))))))))) : ES E 146 38 [some (.ref (eb E)), some (.ref (aK E 0)), some (.ref (aS E 0)), some (.int v3)] [] S K := by
  refine e_il x146_38 rfl (e_al x146_39 rfl (e_alX x146_40 (e_ic x146_41 (e_ii (v := ((nI (eL E)) - 5)) x146_42 rfl (e_gt x146_43 (fun c1 => ?_) (fun c1 => ?_))))))
  · replace H := H.1 c1
    exact e_ic x146_619 (e_rz x146_620 (by decide) H)
  · replace H := H.2 c1
    have c2 := H.1
    replace H := H.2
    refine e_al x146_46 rfl (e_il x146_47 rfl (e_iaX x146_48 c2 (e_ic x146_49 (e_ii (v := ((ex E (v3.toNatClampNeg)) &&& 15)) x146_51 rfl ?_))))
    by_cases c3 : ((ex E (v3.toNatClampNeg)) &&& 15) = 0
    · replace H := H.1 c3
      have c4 := H.1
      have c5 := H.2.1
      replace H := H.2.2
      refine e_tswI (j := 0) x146_52 c3 (by decide) (by decide) rfl (e_al x146_128 rfl (e_al x146_129 rfl (e_il x146_130 rfl (e_ic x146_131 (e_ii (v := (v3 + 1)) x146_132 rfl (e_iaX x146_133 c4 (e_al x146_134 rfl (e_il x146_135 rfl (e_ic x146_136 (e_ii (v := (v3 + 2)) x146_137 rfl (e_iaX x146_138 c5 (e_cV (l0 := [some (.ref (aK E 0)), some (.int (ex E ((v3 + 1).toNatClampNeg))), some (.int (ex E ((v3 + 2).toNatClampNeg))), none]) x146_139 rfl rfl rfl rfl rfl (fun h hh => hh.tK (by decide)) (ES.mono H ?_)))))))))))))
      rintro _ S6 ⟨x7, rfl, H⟩
      refine e_al x146_142 rfl (e_al x146_143 rfl (e_il x146_144 rfl (e_ic x146_145 (e_ii (v := (v3 + 1)) x146_146 rfl (e_iaX x146_147 c4 (e_al x146_148 rfl (e_il x146_149 rfl (e_ic x146_150 (e_ii (v := (v3 + 2)) x146_151 rfl (e_iaX x146_152 c5 (e_cV (l0 := [some (.ref (aS E 0)), some (.int (ex E ((v3 + 1).toNatClampNeg))), some (.int (ex E ((v3 + 2).toNatClampNeg))), none, none]) x146_153 rfl rfl rfl rfl rfl (fun h hh => hh.tS (by decide)) (ES.mono H ?_))))))))))))
      rintro _ S8 ⟨x9, rfl, H⟩
      refine e_eq x146_156 (fun c10 => ?_) (fun c10 => ?_)
      · replace H := H.1 c10
        exact e_inc (l' := [some (.ref (eb E)), some (.ref (aK E 0)), some (.ref (aS E 0)), some (.int (v3 + 5))]) x146_613 rfl rfl rfl (e_back (l' := [some (.ref (eb E)), some (.ref (aK E 0)), some (.ref (aS E 0)), some (.int (v3 + 5))]) x146_616 rfl (H))
      · replace H := H.2 c10
        exact e_ic x146_159 (e_rz x146_160 (by decide) H)
    replace H := H.2
    by_cases c11 : ((ex E (v3.toNatClampNeg)) &&& 15) = 1
    · replace H := H.1 c11
      have c12 := H.1
      have c13 := H.2.1
      replace H := H.2.2
      refine e_tswI (j := 1) x146_52 c11 (by decide) (by decide) rfl (e_al x146_161 rfl (e_al x146_162 rfl (e_il x146_163 rfl (e_ic x146_164 (e_ii (v := (v3 + 1)) x146_165 rfl (e_iaX x146_166 c12 (e_al x146_167 rfl (e_il x146_168 rfl (e_ic x146_169 (e_ii (v := (v3 + 2)) x146_170 rfl (e_iaX x146_171 c13 (e_cV (l0 := [some (.ref (aK E 0)), some (.int (ex E ((v3 + 1).toNatClampNeg))), some (.int (ex E ((v3 + 2).toNatClampNeg))), none]) x146_172 rfl rfl rfl rfl rfl (fun h hh => hh.tK (by decide)) (ES.mono H ?_)))))))))))))
      rintro _ S14 ⟨x15, rfl, H⟩
      refine e_al x146_175 rfl (e_al x146_176 rfl (e_il x146_177 rfl (e_ic x146_178 (e_ii (v := (v3 + 1)) x146_179 rfl (e_iaX x146_180 c12 (e_al x146_181 rfl (e_il x146_182 rfl (e_ic x146_183 (e_ii (v := (v3 + 2)) x146_184 rfl (e_iaX x146_185 c13 (e_cV (l0 := [some (.ref (aS E 0)), some (.int (ex E ((v3 + 1).toNatClampNeg))), some (.int (ex E ((v3 + 2).toNatClampNeg))), none]) x146_186 rfl rfl rfl rfl rfl (fun h hh => hh.tS (by decide)) (ES.mono H ?_))))))))))))
      rintro _ S16 ⟨x17, rfl, H⟩
      refine e_eq x146_189 (fun c18 => ?_) (fun c18 => ?_)
      · replace H := H.1 c18
        exact e_inc (l' := [some (.ref (eb E)), some (.ref (aK E 0)), some (.ref (aS E 0)), some (.int (v3 + 5))]) x146_613 rfl rfl rfl (e_back (l' := [some (.ref (eb E)), some (.ref (aK E 0)), some (.ref (aS E 0)), some (.int (v3 + 5))]) x146_616 rfl (H))
      · replace H := H.2 c18
        exact e_ic x146_192 (e_rz x146_193 (by decide) H)
    replace H := H.2
    by_cases c19 : ((ex E (v3.toNatClampNeg)) &&& 15) = 2
    · replace H := H.1 c19
      have c20 := H.1
      have c21 := H.2.1
      have c22 := H.2.2.1
      replace H := H.2.2.2
      refine e_tswI (j := 2) x146_52 c19 (by decide) (by decide) rfl (e_al x146_194 rfl (e_al x146_195 rfl (e_il x146_196 rfl (e_ic x146_197 (e_ii (v := (v3 + 1)) x146_198 rfl (e_iaX x146_199 c20 (e_al x146_200 rfl (e_il x146_201 rfl (e_ic x146_202 (e_ii (v := (v3 + 2)) x146_203 rfl (e_iaX x146_204 c21 (e_al x146_205 rfl (e_il x146_206 rfl (e_ic x146_207 (e_ii (v := (v3 + 3)) x146_208 rfl (e_iaX x146_209 c22 (e_cV (l0 := [some (.ref (aK E 0)), some (.int (ex E ((v3 + 1).toNatClampNeg))), some (.int (ex E ((v3 + 2).toNatClampNeg))), some (.int (ex E ((v3 + 3).toNatClampNeg)))]) x146_210 rfl rfl rfl rfl rfl (fun h hh => hh.tK (by decide)) (ES.mono H ?_))))))))))))))))))
      rintro _ S23 ⟨x24, rfl, H⟩
      refine e_al x146_213 rfl (e_al x146_214 rfl (e_il x146_215 rfl (e_ic x146_216 (e_ii (v := (v3 + 1)) x146_217 rfl (e_iaX x146_218 c20 (e_al x146_219 rfl (e_il x146_220 rfl (e_ic x146_221 (e_ii (v := (v3 + 2)) x146_222 rfl (e_iaX x146_223 c21 (e_al x146_224 rfl (e_il x146_225 rfl (e_ic x146_226 (e_ii (v := (v3 + 3)) x146_227 rfl (e_iaX x146_228 c22 (e_cV (l0 := [some (.ref (aS E 0)), some (.int (ex E ((v3 + 1).toNatClampNeg))), some (.int (ex E ((v3 + 2).toNatClampNeg))), some (.int (ex E ((v3 + 3).toNatClampNeg))), none]) x146_229 rfl rfl rfl rfl rfl (fun h hh => hh.tS (by decide)) (ES.mono H ?_)))))))))))))))))
      rintro _ S25 ⟨x26, rfl, H⟩
      refine e_eq x146_232 (fun c27 => ?_) (fun c27 => ?_)
      · replace H := H.1 c27
        exact e_inc (l' := [some (.ref (eb E)), some (.ref (aK E 0)), some (.ref (aS E 0)), some (.int (v3 + 5))]) x146_613 rfl rfl rfl (e_back (l' := [some (.ref (eb E)), some (.ref (aK E 0)), some (.ref (aS E 0)), some (.int (v3 + 5))]) x146_616 rfl (H))
      · replace H := H.2 c27
        exact e_ic x146_235 (e_rz x146_236 (by decide) H)
    replace H := H.2
    by_cases c28 : ((ex E (v3.toNatClampNeg)) &&& 15) = 3
    · replace H := H.1 c28
      have c29 := H.1
      have c30 := H.2.1
      replace H := H.2.2
      refine e_tswI (j := 3) x146_52 c28 (by decide) (by decide) rfl (e_al x146_237 rfl (e_al x146_238 rfl (e_il x146_239 rfl (e_ic x146_240 (e_ii (v := (v3 + 1)) x146_241 rfl (e_iaX x146_242 c29 (e_al x146_243 rfl (e_il x146_244 rfl (e_ic x146_245 (e_ii (v := (v3 + 2)) x146_246 rfl (e_iaX x146_247 c30 (e_cV (l0 := [some (.ref (aK E 0)), some (.int (ex E ((v3 + 1).toNatClampNeg))), some (.int (ex E ((v3 + 2).toNatClampNeg)))]) x146_248 rfl rfl rfl rfl rfl (fun h hh => hh.tK (by decide)) (ES.mono H ?_)))))))))))))
      rintro _ S31 ⟨x32, rfl, H⟩
      refine e_al x146_251 rfl (e_al x146_252 rfl (e_il x146_253 rfl (e_ic x146_254 (e_ii (v := (v3 + 1)) x146_255 rfl (e_iaX x146_256 c29 (e_al x146_257 rfl (e_il x146_258 rfl (e_ic x146_259 (e_ii (v := (v3 + 2)) x146_260 rfl (e_iaX x146_261 c30 (e_cV (l0 := [some (.ref (aS E 0)), some (.int (ex E ((v3 + 1).toNatClampNeg))), some (.int (ex E ((v3 + 2).toNatClampNeg)))]) x146_262 rfl rfl rfl rfl rfl (fun h hh => hh.tS (by decide)) (ES.mono H ?_))))))))))))
      rintro _ S33 ⟨x34, rfl, H⟩
      refine e_eq x146_265 (fun c35 => ?_) (fun c35 => ?_)
      · replace H := H.1 c35
        exact e_inc (l' := [some (.ref (eb E)), some (.ref (aK E 0)), some (.ref (aS E 0)), some (.int (v3 + 5))]) x146_613 rfl rfl rfl (e_back (l' := [some (.ref (eb E)), some (.ref (aK E 0)), some (.ref (aS E 0)), some (.int (v3 + 5))]) x146_616 rfl (H))
      · replace H := H.2 c35
        exact e_ic x146_268 (e_rz x146_269 (by decide) H)
    replace H := H.2
    by_cases c36 : ((ex E (v3.toNatClampNeg)) &&& 15) = 4
    · replace H := H.1 c36
      have c37 := H.1
      have c38 := H.2.1
      replace H := H.2.2
      refine e_tswI (j := 4) x146_52 c36 (by decide) (by decide) rfl (e_al x146_270 rfl (e_al x146_271 rfl (e_il x146_272 rfl (e_ic x146_273 (e_ii (v := (v3 + 1)) x146_274 rfl (e_iaX x146_275 c37 (e_al x146_276 rfl (e_il x146_277 rfl (e_ic x146_278 (e_ii (v := (v3 + 2)) x146_279 rfl (e_iaX x146_280 c38 (e_cV (l0 := [some (.ref (aK E 0)), some (.int (ex E ((v3 + 1).toNatClampNeg))), some (.int (ex E ((v3 + 2).toNatClampNeg)))]) x146_281 rfl rfl rfl rfl rfl (fun h hh => hh.tK (by decide)) (ES.mono H ?_)))))))))))))
      rintro _ S39 ⟨x40, rfl, H⟩
      refine e_al x146_284 rfl (e_al x146_285 rfl (e_il x146_286 rfl (e_ic x146_287 (e_ii (v := (v3 + 1)) x146_288 rfl (e_iaX x146_289 c37 (e_al x146_290 rfl (e_il x146_291 rfl (e_ic x146_292 (e_ii (v := (v3 + 2)) x146_293 rfl (e_iaX x146_294 c38 (e_cV (l0 := [some (.ref (aS E 0)), some (.int (ex E ((v3 + 1).toNatClampNeg))), some (.int (ex E ((v3 + 2).toNatClampNeg)))]) x146_295 rfl rfl rfl rfl rfl (fun h hh => hh.tS (by decide)) (ES.mono H ?_))))))))))))
      rintro _ S41 ⟨x42, rfl, H⟩
      refine e_eq x146_298 (fun c43 => ?_) (fun c43 => ?_)
      · replace H := H.1 c43
        exact e_inc (l' := [some (.ref (eb E)), some (.ref (aK E 0)), some (.ref (aS E 0)), some (.int (v3 + 5))]) x146_613 rfl rfl rfl (e_back (l' := [some (.ref (eb E)), some (.ref (aK E 0)), some (.ref (aS E 0)), some (.int (v3 + 5))]) x146_616 rfl (H))
      · replace H := H.2 c43
        exact e_ic x146_301 (e_rz x146_302 (by decide) H)
    replace H := H.2
    by_cases c44 : ((ex E (v3.toNatClampNeg)) &&& 15) = 5
    · replace H := H.1 c44
      have c45 := H.1
      replace H := H.2
      refine e_tswI (j := 5) x146_52 c44 (by decide) (by decide) rfl (e_al x146_303 rfl (e_al x146_304 rfl (e_il x146_305 rfl (e_ic x146_306 (e_ii (v := (v3 + 1)) x146_307 rfl (e_iaX x146_308 c45 (e_cV (l0 := [some (.ref (aK E 0)), some (.int (ex E ((v3 + 1).toNatClampNeg))), none]) x146_309 rfl rfl rfl rfl rfl (fun h hh => hh.tK (by decide)) (ES.mono H ?_))))))))
      rintro _ S46 ⟨x47, rfl, H⟩
      refine e_al x146_312 rfl (e_al x146_313 rfl (e_il x146_314 rfl (e_ic x146_315 (e_ii (v := (v3 + 1)) x146_316 rfl (e_iaX x146_317 c45 (e_cV (l0 := [some (.ref (aS E 0)), some (.int (ex E ((v3 + 1).toNatClampNeg))), none]) x146_318 rfl rfl rfl rfl rfl (fun h hh => hh.tS (by decide)) (ES.mono H ?_)))))))
      rintro _ S48 ⟨x49, rfl, H⟩
      refine e_eq x146_321 (fun c50 => ?_) (fun c50 => ?_)
      · replace H := H.1 c50
        exact e_inc (l' := [some (.ref (eb E)), some (.ref (aK E 0)), some (.ref (aS E 0)), some (.int (v3 + 5))]) x146_613 rfl rfl rfl (e_back (l' := [some (.ref (eb E)), some (.ref (aK E 0)), some (.ref (aS E 0)), some (.int (v3 + 5))]) x146_616 rfl (H))
      · replace H := H.2 c50
        exact e_ic x146_324 (e_rz x146_325 (by decide) H)
    replace H := H.2
    by_cases c51 : ((ex E (v3.toNatClampNeg)) &&& 15) = 6
    · replace H := H.1 c51
      have c52 := H.1
      replace H := H.2
      refine e_tswI (j := 6) x146_52 c51 (by decide) (by decide) rfl (e_al x146_326 rfl (e_al x146_327 rfl (e_il x146_328 rfl (e_ic x146_329 (e_ii (v := (v3 + 1)) x146_330 rfl (e_iaX x146_331 c52 (e_cV (l0 := [some (.ref (aK E 0)), some (.int (ex E ((v3 + 1).toNatClampNeg))), none, none, none, none]) x146_332 rfl rfl rfl rfl rfl (fun h hh => hh.tK (by decide)) (ES.mono H ?_))))))))
      rintro _ S53 ⟨x54, rfl, H⟩
      refine e_al x146_335 rfl (e_al x146_336 rfl (e_il x146_337 rfl (e_ic x146_338 (e_ii (v := (v3 + 1)) x146_339 rfl (e_iaX x146_340 c52 (e_cV (l0 := [some (.ref (aS E 0)), some (.int (ex E ((v3 + 1).toNatClampNeg))), none, none, none, none, none, none]) x146_341 rfl rfl rfl rfl rfl (fun h hh => hh.tS (by decide)) (ES.mono H ?_)))))))
      rintro _ S55 ⟨x56, rfl, H⟩
      refine e_eq x146_344 (fun c57 => ?_) (fun c57 => ?_)
      · replace H := H.1 c57
        exact e_inc (l' := [some (.ref (eb E)), some (.ref (aK E 0)), some (.ref (aS E 0)), some (.int (v3 + 5))]) x146_613 rfl rfl rfl (e_back (l' := [some (.ref (eb E)), some (.ref (aK E 0)), some (.ref (aS E 0)), some (.int (v3 + 5))]) x146_616 rfl (H))
      · replace H := H.2 c57
        exact e_ic x146_347 (e_rz x146_348 (by decide) H)
    replace H := H.2
    by_cases c58 : ((ex E (v3.toNatClampNeg)) &&& 15) = 7
    · replace H := H.1 c58
      have c59 := H.1
      have c60 := H.2.1
      replace H := H.2.2
      refine e_tswI (j := 7) x146_52 c58 (by decide) (by decide) rfl (e_al x146_349 rfl (e_al x146_350 rfl (e_il x146_351 rfl (e_ic x146_352 (e_ii (v := (v3 + 1)) x146_353 rfl (e_iaX x146_354 c59 (e_al x146_355 rfl (e_il x146_356 rfl (e_ic x146_357 (e_ii (v := (v3 + 2)) x146_358 rfl (e_iaX x146_359 c60 (e_cV (l0 := [some (.ref (aK E 0)), some (.int (ex E ((v3 + 1).toNatClampNeg))), some (.int (ex E ((v3 + 2).toNatClampNeg))), none]) x146_360 rfl rfl rfl rfl rfl (fun h hh => hh.tK (by decide)) (ES.mono H ?_)))))))))))))
      rintro _ S61 ⟨x62, rfl, H⟩
      refine e_al x146_363 rfl (e_al x146_364 rfl (e_il x146_365 rfl (e_ic x146_366 (e_ii (v := (v3 + 1)) x146_367 rfl (e_iaX x146_368 c59 (e_al x146_369 rfl (e_il x146_370 rfl (e_ic x146_371 (e_ii (v := (v3 + 2)) x146_372 rfl (e_iaX x146_373 c60 (e_cV (l0 := [some (.ref (aS E 0)), some (.int (ex E ((v3 + 1).toNatClampNeg))), some (.int (ex E ((v3 + 2).toNatClampNeg)))]) x146_374 rfl rfl rfl rfl rfl (fun h hh => hh.tS (by decide)) (ES.mono H ?_))))))))))))
      rintro _ S63 ⟨x64, rfl, H⟩
      refine e_eq x146_377 (fun c65 => ?_) (fun c65 => ?_)
      · replace H := H.1 c65
        exact e_inc (l' := [some (.ref (eb E)), some (.ref (aK E 0)), some (.ref (aS E 0)), some (.int (v3 + 5))]) x146_613 rfl rfl rfl (e_back (l' := [some (.ref (eb E)), some (.ref (aK E 0)), some (.ref (aS E 0)), some (.int (v3 + 5))]) x146_616 rfl (H))
      · replace H := H.2 c65
        exact e_ic x146_380 (e_rz x146_381 (by decide) H)
    replace H := H.2
    by_cases c66 : ((ex E (v3.toNatClampNeg)) &&& 15) = 8
    · replace H := H.1 c66
      have c67 := H.1
      have c68 := H.2.1
      have c69 := H.2.2.1
      have c70 := H.2.2.2.1
      replace H := H.2.2.2.2
      refine e_tswI (j := 8) x146_52 c66 (by decide) (by decide) rfl (e_al x146_382 rfl (e_al x146_383 rfl (e_il x146_384 rfl (e_ic x146_385 (e_ii (v := (v3 + 1)) x146_386 rfl (e_iaX x146_387 c67 (e_al x146_388 rfl (e_il x146_389 rfl (e_ic x146_390 (e_ii (v := (v3 + 2)) x146_391 rfl (e_iaX x146_392 c68 (e_al x146_393 rfl (e_il x146_394 rfl (e_ic x146_395 (e_ii (v := (v3 + 3)) x146_396 rfl (e_iaX x146_397 c69 (e_al x146_398 rfl (e_il x146_399 rfl (e_ic x146_400 (e_ii (v := (v3 + 4)) x146_401 rfl (e_iaX x146_402 c70 (e_cV (l0 := [some (.ref (aK E 0)), some (.int (ex E ((v3 + 1).toNatClampNeg))), some (.int (ex E ((v3 + 2).toNatClampNeg))), some (.int (ex E ((v3 + 3).toNatClampNeg))), some (.int (ex E ((v3 + 4).toNatClampNeg))), none]) x146_403 rfl rfl rfl rfl rfl (fun h hh => hh.tK (by decide)) (ES.mono H ?_)))))))))))))))))))))))
      rintro _ S71 ⟨x72, rfl, H⟩
      refine e_al x146_406 rfl (e_al x146_407 rfl (e_il x146_408 rfl (e_ic x146_409 (e_ii (v := (v3 + 1)) x146_410 rfl (e_iaX x146_411 c67 (e_al x146_412 rfl (e_il x146_413 rfl (e_ic x146_414 (e_ii (v := (v3 + 2)) x146_415 rfl (e_iaX x146_416 c68 (e_al x146_417 rfl (e_il x146_418 rfl (e_ic x146_419 (e_ii (v := (v3 + 3)) x146_420 rfl (e_iaX x146_421 c69 (e_al x146_422 rfl (e_il x146_423 rfl (e_ic x146_424 (e_ii (v := (v3 + 4)) x146_425 rfl (e_iaX x146_426 c70 (e_cV (l0 := [some (.ref (aS E 0)), some (.int (ex E ((v3 + 1).toNatClampNeg))), some (.int (ex E ((v3 + 2).toNatClampNeg))), some (.int (ex E ((v3 + 3).toNatClampNeg))), some (.int (ex E ((v3 + 4).toNatClampNeg))), none]) x146_427 rfl rfl rfl rfl rfl (fun h hh => hh.tS (by decide)) (ES.mono H ?_))))))))))))))))))))))
      rintro _ S73 ⟨x74, rfl, H⟩
      refine e_eq x146_430 (fun c75 => ?_) (fun c75 => ?_)
      · replace H := H.1 c75
        exact e_inc (l' := [some (.ref (eb E)), some (.ref (aK E 0)), some (.ref (aS E 0)), some (.int (v3 + 5))]) x146_613 rfl rfl rfl (e_back (l' := [some (.ref (eb E)), some (.ref (aK E 0)), some (.ref (aS E 0)), some (.int (v3 + 5))]) x146_616 rfl (H))
      · replace H := H.2 c75
        exact e_ic x146_433 (e_rz x146_434 (by decide) H)
    replace H := H.2
    by_cases c76 : ((ex E (v3.toNatClampNeg)) &&& 15) = 9
    · replace H := H.1 c76
      have c77 := H.1
      have c78 := H.2.1
      have c79 := H.2.2.1
      replace H := H.2.2.2
      refine e_tswI (j := 9) x146_52 c76 (by decide) (by decide) rfl (e_al x146_435 rfl (e_al x146_436 rfl (e_il x146_437 rfl (e_ic x146_438 (e_ii (v := (v3 + 1)) x146_439 rfl (e_iaX x146_440 c77 (e_al x146_441 rfl (e_il x146_442 rfl (e_ic x146_443 (e_ii (v := (v3 + 2)) x146_444 rfl (e_iaX x146_445 c78 (e_al x146_446 rfl (e_il x146_447 rfl (e_ic x146_448 (e_ii (v := (v3 + 3)) x146_449 rfl (e_iaX x146_450 c79 (e_cV (l0 := [some (.ref (aK E 0)), some (.int (ex E ((v3 + 1).toNatClampNeg))), some (.int (ex E ((v3 + 2).toNatClampNeg))), some (.int (ex E ((v3 + 3).toNatClampNeg))), none]) x146_451 rfl rfl rfl rfl rfl (fun h hh => hh.tK (by decide)) (ES.mono H ?_))))))))))))))))))
      rintro _ S80 ⟨x81, rfl, H⟩
      refine e_al x146_454 rfl (e_al x146_455 rfl (e_il x146_456 rfl (e_ic x146_457 (e_ii (v := (v3 + 1)) x146_458 rfl (e_iaX x146_459 c77 (e_al x146_460 rfl (e_il x146_461 rfl (e_ic x146_462 (e_ii (v := (v3 + 2)) x146_463 rfl (e_iaX x146_464 c78 (e_al x146_465 rfl (e_il x146_466 rfl (e_ic x146_467 (e_ii (v := (v3 + 3)) x146_468 rfl (e_iaX x146_469 c79 (e_cV (l0 := [some (.ref (aS E 0)), some (.int (ex E ((v3 + 1).toNatClampNeg))), some (.int (ex E ((v3 + 2).toNatClampNeg))), some (.int (ex E ((v3 + 3).toNatClampNeg))), none]) x146_470 rfl rfl rfl rfl rfl (fun h hh => hh.tS (by decide)) (ES.mono H ?_)))))))))))))))))
      rintro _ S82 ⟨x83, rfl, H⟩
      refine e_eq x146_473 (fun c84 => ?_) (fun c84 => ?_)
      · replace H := H.1 c84
        exact e_inc (l' := [some (.ref (eb E)), some (.ref (aK E 0)), some (.ref (aS E 0)), some (.int (v3 + 5))]) x146_613 rfl rfl rfl (e_back (l' := [some (.ref (eb E)), some (.ref (aK E 0)), some (.ref (aS E 0)), some (.int (v3 + 5))]) x146_616 rfl (H))
      · replace H := H.2 c84
        exact e_ic x146_476 (e_rz x146_477 (by decide) H)
    replace H := H.2
    by_cases c85 : ((ex E (v3.toNatClampNeg)) &&& 15) = 10
    · replace H := H.1 c85
      have c86 := H.1
      replace H := H.2
      refine e_tswI (j := 10) x146_52 c85 (by decide) (by decide) rfl (e_al x146_478 rfl (e_al x146_479 rfl (e_il x146_480 rfl (e_ic x146_481 (e_ii (v := (v3 + 1)) x146_482 rfl (e_iaX x146_483 c86 (e_cV (l0 := [some (.ref (aK E 0)), some (.int (ex E ((v3 + 1).toNatClampNeg))), none, none, none]) x146_484 rfl rfl rfl rfl rfl (fun h hh => hh.tK (by decide)) (ES.mono H ?_))))))))
      rintro _ S87 ⟨x88, rfl, H⟩
      refine e_al x146_487 rfl (e_al x146_488 rfl (e_il x146_489 rfl (e_ic x146_490 (e_ii (v := (v3 + 1)) x146_491 rfl (e_iaX x146_492 c86 (e_cV (l0 := [some (.ref (aS E 0)), some (.int (ex E ((v3 + 1).toNatClampNeg))), none, none, none]) x146_493 rfl rfl rfl rfl rfl (fun h hh => hh.tS (by decide)) (ES.mono H ?_)))))))
      rintro _ S89 ⟨x90, rfl, H⟩
      refine e_eq x146_496 (fun c91 => ?_) (fun c91 => ?_)
      · replace H := H.1 c91
        exact e_inc (l' := [some (.ref (eb E)), some (.ref (aK E 0)), some (.ref (aS E 0)), some (.int (v3 + 5))]) x146_613 rfl rfl rfl (e_back (l' := [some (.ref (eb E)), some (.ref (aK E 0)), some (.ref (aS E 0)), some (.int (v3 + 5))]) x146_616 rfl (H))
      · replace H := H.2 c91
        exact e_ic x146_499 (e_rz x146_500 (by decide) H)
    replace H := H.2
    by_cases c92 : ((ex E (v3.toNatClampNeg)) &&& 15) = 11
    · replace H := H.1 c92
      have c93 := H.1
      have c94 := H.2.1
      replace H := H.2.2
      refine e_tswI (j := 11) x146_52 c92 (by decide) (by decide) rfl (e_al x146_501 rfl (e_al x146_502 rfl (e_il x146_503 rfl (e_ic x146_504 (e_ii (v := (v3 + 1)) x146_505 rfl (e_iaX x146_506 c93 (e_al x146_507 rfl (e_il x146_508 rfl (e_ic x146_509 (e_ii (v := (v3 + 2)) x146_510 rfl (e_iaX x146_511 c94 (e_cV (l0 := [some (.ref (aK E 0)), some (.int (ex E ((v3 + 1).toNatClampNeg))), some (.int (ex E ((v3 + 2).toNatClampNeg)))]) x146_512 rfl rfl rfl rfl rfl (fun h hh => hh.tK (by decide)) (ES.mono H ?_)))))))))))))
      rintro _ S95 ⟨x96, rfl, H⟩
      refine e_al x146_515 rfl (e_al x146_516 rfl (e_il x146_517 rfl (e_ic x146_518 (e_ii (v := (v3 + 1)) x146_519 rfl (e_iaX x146_520 c93 (e_al x146_521 rfl (e_il x146_522 rfl (e_ic x146_523 (e_ii (v := (v3 + 2)) x146_524 rfl (e_iaX x146_525 c94 (e_cV (l0 := [some (.ref (aS E 0)), some (.int (ex E ((v3 + 1).toNatClampNeg))), some (.int (ex E ((v3 + 2).toNatClampNeg)))]) x146_526 rfl rfl rfl rfl rfl (fun h hh => hh.tS (by decide)) (ES.mono H ?_))))))))))))
      rintro _ S97 ⟨x98, rfl, H⟩
      refine e_eq x146_529 (fun c99 => ?_) (fun c99 => ?_)
      · replace H := H.1 c99
        exact e_inc (l' := [some (.ref (eb E)), some (.ref (aK E 0)), some (.ref (aS E 0)), some (.int (v3 + 5))]) x146_613 rfl rfl rfl (e_back (l' := [some (.ref (eb E)), some (.ref (aK E 0)), some (.ref (aS E 0)), some (.int (v3 + 5))]) x146_616 rfl (H))
      · replace H := H.2 c99
        exact e_ic x146_532 (e_rz x146_533 (by decide) H)
    replace H := H.2
    by_cases c100 : ((ex E (v3.toNatClampNeg)) &&& 15) = 12
    · replace H := H.1 c100
      have c101 := H.1
      replace H := H.2
      refine e_tswI (j := 12) x146_52 c100 (by decide) (by decide) rfl (e_al x146_534 rfl (e_al x146_535 rfl (e_il x146_536 rfl (e_ic x146_537 (e_ii (v := (v3 + 1)) x146_538 rfl (e_iaX x146_539 c101 (e_cV (l0 := [some (.ref (aK E 0)), some (.int (ex E ((v3 + 1).toNatClampNeg)))]) x146_540 rfl rfl rfl rfl rfl (fun h hh => hh.tK (by decide)) (ES.mono H ?_))))))))
      rintro _ S102 ⟨x103, rfl, H⟩
      refine e_al x146_543 rfl (e_al x146_544 rfl (e_il x146_545 rfl (e_ic x146_546 (e_ii (v := (v3 + 1)) x146_547 rfl (e_iaX x146_548 c101 (e_cV (l0 := [some (.ref (aS E 0)), some (.int (ex E ((v3 + 1).toNatClampNeg))), none, none]) x146_549 rfl rfl rfl rfl rfl (fun h hh => hh.tS (by decide)) (ES.mono H ?_)))))))
      rintro _ S104 ⟨x105, rfl, H⟩
      refine e_eq x146_552 (fun c106 => ?_) (fun c106 => ?_)
      · replace H := H.1 c106
        exact e_inc (l' := [some (.ref (eb E)), some (.ref (aK E 0)), some (.ref (aS E 0)), some (.int (v3 + 5))]) x146_613 rfl rfl rfl (e_back (l' := [some (.ref (eb E)), some (.ref (aK E 0)), some (.ref (aS E 0)), some (.int (v3 + 5))]) x146_616 rfl (H))
      · replace H := H.2 c106
        exact e_ic x146_555 (e_rz x146_556 (by decide) H)
    replace H := H.2
    by_cases c107 : ((ex E (v3.toNatClampNeg)) &&& 15) = 13
    · replace H := H.1 c107
      have c108 := H.1
      replace H := H.2
      refine e_tswI (j := 13) x146_52 c107 (by decide) (by decide) rfl (e_al x146_557 rfl (e_al x146_558 rfl (e_il x146_559 rfl (e_ic x146_560 (e_ii (v := (v3 + 1)) x146_561 rfl (e_iaX x146_562 c108 (e_cV (l0 := [some (.ref (aK E 0)), some (.int (ex E ((v3 + 1).toNatClampNeg)))]) x146_563 rfl rfl rfl rfl rfl (fun h hh => hh.tK (by decide)) (ES.mono H ?_))))))))
      rintro _ S109 ⟨x110, rfl, H⟩
      refine e_al x146_566 rfl (e_al x146_567 rfl (e_il x146_568 rfl (e_ic x146_569 (e_ii (v := (v3 + 1)) x146_570 rfl (e_iaX x146_571 c108 (e_cV (l0 := [some (.ref (aS E 0)), some (.int (ex E ((v3 + 1).toNatClampNeg))), none, none, none]) x146_572 rfl rfl rfl rfl rfl (fun h hh => hh.tS (by decide)) (ES.mono H ?_)))))))
      rintro _ S111 ⟨x112, rfl, H⟩
      refine e_eq x146_575 (fun c113 => ?_) (fun c113 => ?_)
      · replace H := H.1 c113
        exact e_inc (l' := [some (.ref (eb E)), some (.ref (aK E 0)), some (.ref (aS E 0)), some (.int (v3 + 5))]) x146_613 rfl rfl rfl (e_back (l' := [some (.ref (eb E)), some (.ref (aK E 0)), some (.ref (aS E 0)), some (.int (v3 + 5))]) x146_616 rfl (H))
      · replace H := H.2 c113
        exact e_ic x146_578 (e_rz x146_579 (by decide) H)
    replace H := H.2
    by_cases c114 : ((ex E (v3.toNatClampNeg)) &&& 15) = 14
    · replace H := H.1 c114
      have c115 := H.1
      have c116 := H.2.1
      replace H := H.2.2
      refine e_tswI (j := 14) x146_52 c114 (by decide) (by decide) rfl (e_al x146_580 rfl (e_al x146_581 rfl (e_il x146_582 rfl (e_ic x146_583 (e_ii (v := (v3 + 1)) x146_584 rfl (e_iaX x146_585 c115 (e_al x146_586 rfl (e_il x146_587 rfl (e_ic x146_588 (e_ii (v := (v3 + 2)) x146_589 rfl (e_iaX x146_590 c116 (e_cV (l0 := [some (.ref (aK E 0)), some (.int (ex E ((v3 + 1).toNatClampNeg))), some (.int (ex E ((v3 + 2).toNatClampNeg)))]) x146_591 rfl rfl rfl rfl rfl (fun h hh => hh.tK (by decide)) (ES.mono H ?_)))))))))))))
      rintro _ S117 ⟨x118, rfl, H⟩
      refine e_al x146_594 rfl (e_al x146_595 rfl (e_il x146_596 rfl (e_ic x146_597 (e_ii (v := (v3 + 1)) x146_598 rfl (e_iaX x146_599 c115 (e_al x146_600 rfl (e_il x146_601 rfl (e_ic x146_602 (e_ii (v := (v3 + 2)) x146_603 rfl (e_iaX x146_604 c116 (e_cV (l0 := [some (.ref (aS E 0)), some (.int (ex E ((v3 + 1).toNatClampNeg))), some (.int (ex E ((v3 + 2).toNatClampNeg)))]) x146_605 rfl rfl rfl rfl rfl (fun h hh => hh.tS (by decide)) (ES.mono H ?_))))))))))))
      rintro _ S119 ⟨x120, rfl, H⟩
      refine e_eq x146_608 (fun c121 => ?_) (fun c121 => ?_)
      · replace H := H.1 c121
        exact e_inc (l' := [some (.ref (eb E)), some (.ref (aK E 0)), some (.ref (aS E 0)), some (.int (v3 + 5))]) x146_613 rfl rfl rfl (e_back (l' := [some (.ref (eb E)), some (.ref (aK E 0)), some (.ref (aS E 0)), some (.int (v3 + 5))]) x146_616 rfl (H))
      · replace H := H.2 c121
        exact e_ic x146_611 (e_rz x146_612 (by decide) H)
    replace H := H.2
    replace H := H c3
    replace H := H c11
    replace H := H c19
    replace H := H c28
    replace H := H c36
    replace H := H c44
    replace H := H c51
    replace H := H c58
    replace H := H c66
    replace H := H c76
    replace H := H c85
    replace H := H c92
    replace H := H c100
    replace H := H c107
    replace H := H c114
    have hs : ∀ j, j < 15 → ¬ ((ex E (v3.toNatClampNeg)) &&& 15) = nI j := fun j hj => match j, hj with
      | 0, _ => c3
      | 1, _ => c11
      | 2, _ => c19
      | 3, _ => c28
      | 4, _ => c36
      | 5, _ => c44
      | 6, _ => c51
      | 7, _ => c58
      | 8, _ => c66
      | 9, _ => c76
      | 10, _ => c85
      | 11, _ => c92
      | 12, _ => c100
      | 13, _ => c107
      | 14, _ => c114
      | j + 15, hj => absurd hj (by omega)
    exact e_tswO x146_52 hs (by decide) (e_inc (l' := [some (.ref (eb E)), some (.ref (aK E 0)), some (.ref (aS E 0)), some (.int (v3 + 5))]) x146_613 rfl rfl rfl (e_back (l' := [some (.ref (eb E)), some (.ref (aK E 0)), some (.ref (aS E 0)), some (.int (v3 + 5))]) x146_616 rfl (H)))

-- Model.<init>(II)V, from 335
set_option maxRecDepth 8000 in
theorem T91_335 {E : mE} {v1 : Int32} {v2 : Int32} {S : mS} {K : Option Value → mS → Prop}  (H : ∀ S1, S1 = uS S 0 0 0 → (((1 : Int32) ≤ v1 → ((v1 ≤ 10 → (∀ S4, S4 = uS S1 0 1 v1 → (∀ S5, S5 = uS S4 0 2 v2 → (ES E 91 372 [some (.ref (aS E 0)), some (.int v1), some (.int v2), some (.int 0)] [] S5 K)))) ∧ (¬ v1 ≤ 10 → (∀ S6, S6 = uS S1 0 1 10 → (∀ S7, S7 = uS S6 0 2 v2 → (ES E 91 372 [some (.ref (aS E 0)), some (.int v1), some (.int v2), some (.int 0)] [] S7 K)))))) ∧ (¬ (1 : Int32) ≤ v1 → (∀ S8, S8 = uS S1 0 1 1 → (∀ S9, S9 = uS S8 0 2 v2 → (ES E 91 372 [some (.ref (aS E 0)), some (.int v1), some (.int v2), some (.int 0)] [] S9 K)))))) : ES E 91 335 [some (.ref (aS E 0)), some (.int v1), some (.int v2), none] [] S K := by
  refine e_al x91_335 rfl (e_ic x91_336 (e_pS x91_337 (by decide) rfl ?_))
  let S1 : mS := uS S 0 0 0
  replace H := H S1 rfl
  show ES _ _ _ _ _ S1 _
  refine e_al x91_340 rfl (e_il x91_341 rfl (e_ic x91_342 (e_ge x91_343 (fun c2 => ?_) (fun c2 => ?_))))
  · replace H := H.1 c2
    refine e_il x91_350 rfl (e_ic x91_351 (e_le x91_353 (fun c3 => ?_) (fun c3 => ?_)))
    · replace H := H.1 c3
      refine e_il x91_361 rfl (e_pS x91_362 (by decide) rfl ?_)
      let S4 : mS := uS S1 0 1 v1
      replace H := H S4 rfl
      show ES _ _ _ _ _ S4 _
      refine e_al x91_365 rfl (e_il x91_366 rfl (e_pS x91_367 (by decide) rfl ?_))
      let S5 : mS := uS S4 0 2 v2
      replace H := H S5 rfl
      show ES _ _ _ _ _ S5 _
      exact e_ic x91_370 (e_ist (l' := [some (.ref (aS E 0)), some (.int v1), some (.int v2), some (.int 0)]) x91_371 rfl rfl (H))
    · replace H := H.2 c3
      refine e_ic x91_356 (e_goto x91_358 (e_pS x91_362 (by decide) rfl ?_))
      let S6 : mS := uS S1 0 1 10
      replace H := H S6 rfl
      show ES _ _ _ _ _ S6 _
      refine e_al x91_365 rfl (e_il x91_366 rfl (e_pS x91_367 (by decide) rfl ?_))
      let S7 : mS := uS S6 0 2 v2
      replace H := H S7 rfl
      show ES _ _ _ _ _ S7 _
      exact e_ic x91_370 (e_ist (l' := [some (.ref (aS E 0)), some (.int v1), some (.int v2), some (.int 0)]) x91_371 rfl rfl (H))
  · replace H := H.2 c2
    refine e_ic x91_346 (e_goto x91_347 (e_pS x91_362 (by decide) rfl ?_))
    let S8 : mS := uS S1 0 1 1
    replace H := H S8 rfl
    show ES _ _ _ _ _ S8 _
    refine e_al x91_365 rfl (e_il x91_366 rfl (e_pS x91_367 (by decide) rfl ?_))
    let S9 : mS := uS S8 0 2 v2
    replace H := H S9 rfl
    show ES _ _ _ _ _ S9 _
    exact e_ic x91_370 (e_ist (l' := [some (.ref (aS E 0)), some (.int v1), some (.int v2), some (.int 0)]) x91_371 rfl rfl (H))

-- Model.<init>(II)V, from 372
set_option maxRecDepth 8000 in
theorem T91_372 {E : mE} {v1 : Int32} {v2 : Int32} {v3 : Int32} {S : mS} {K : Option Value → mS → Prop}  (H : ((420 : Int32) ≤ v3 → (ES E 91 394 [some (.ref (aS E 0)), some (.int v1), some (.int v2), some (.int 0)] [] S K)) ∧ (¬ (420 : Int32) ≤ v3 → ((¬ v3 < 0 ∧ (v3.toNatClampNeg) < 420) ∧ (∀ S3, S3 = uS S 1 (v3.toNatClampNeg) 1 → (ES E 91 372 [some (.ref (aS E 0)), some (.int v1), some (.int v2), some (.int (v3 + 1))] [] S3 K))))) : ES E 91 372 [some (.ref (aS E 0)), some (.int v1), some (.int v2), some (.int v3)] [] S K := by
  refine e_il x91_372 rfl (e_ic x91_373 (e_ge x91_376 (fun c1 => ?_) (fun c1 => ?_)))
  · replace H := H.1 c1
    exact e_ic x91_392 (e_ist (l' := [some (.ref (aS E 0)), some (.int v1), some (.int v2), some (.int 0)]) x91_393 rfl rfl (H))
  · replace H := H.2 c1
    have c2 := H.1
    replace H := H.2
    refine e_al x91_379 rfl (e_PS x91_380 rfl (e_il x91_383 rfl (e_ic x91_384 (e_waS x91_385 (by decide) rfl c2 ?_))))
    let S3 : mS := uS S 1 (v3.toNatClampNeg) 1
    replace H := H S3 rfl
    show ES _ _ _ _ _ S3 _
    exact e_inc (l' := [some (.ref (aS E 0)), some (.int v1), some (.int v2), some (.int (v3 + 1))]) x91_386 rfl rfl rfl (e_back (l' := [some (.ref (aS E 0)), some (.int v1), some (.int v2), some (.int (v3 + 1))]) x91_389 rfl (H))

-- Model.<init>(II)V, from 394
set_option maxRecDepth 8000 in
theorem T91_394 {E : mE} {v1 : Int32} {v2 : Int32} {v3 : Int32} {S : mS} {K : Option Value → mS → Prop}  (H : ((10 : Int32) ≤ v3 → (ES E 91 446 [some (.ref (aS E 0)), some (.int v1), some (.int v2), some (.int 0)] [] S K)) ∧ (¬ (10 : Int32) ≤ v3 → ((¬ v3 < 0 ∧ (v3.toNatClampNeg) < 10) ∧ (∀ S3, S3 = uS S 2 (v3.toNatClampNeg) 1 → (∀ S4, S4 = uS S3 6 (v3.toNatClampNeg) (-1) → (∀ S5, S5 = uS S4 8 (v3.toNatClampNeg) (-1) → (ES E 92 0 [some (.ref (aS E 0)), some (.int v3), some (.int 0), none, none, none] [] S5 (fun r S6 => r = none ∧ (ES E 92 0 [some (.ref (aS E 0)), some (.int v3), some (.int 1), none, none, none] [] S6 (fun r S7 => r = none ∧ (ES E 95 0 [some (.ref (aS E 0)), some (.int v3), none] [] S7 (fun r S8 => r = none ∧ (ES E 91 394 [some (.ref (aS E 0)), some (.int v1), some (.int v2), some (.int (v3 + 1))] [] S8 K))))))))))))) : ES E 91 394 [some (.ref (aS E 0)), some (.int v1), some (.int v2), some (.int v3)] [] S K := by
  refine e_il x91_394 rfl (e_ic x91_395 (e_ge x91_397 (fun c1 => ?_) (fun c1 => ?_)))
  · replace H := H.1 c1
    exact e_ic x91_444 (e_ist (l' := [some (.ref (aS E 0)), some (.int v1), some (.int v2), some (.int 0)]) x91_445 rfl rfl (H))
  · replace H := H.2 c1
    have c2 := H.1
    replace H := H.2
    refine e_al x91_400 rfl (e_PS x91_401 rfl (e_il x91_404 rfl (e_ic x91_405 (e_waS x91_406 (by decide) rfl c2 ?_))))
    let S3 : mS := uS S 2 (v3.toNatClampNeg) 1
    replace H := H S3 rfl
    show ES _ _ _ _ _ S3 _
    refine e_al x91_407 rfl (e_PS x91_408 rfl (e_il x91_411 rfl (e_ic x91_412 (e_waS x91_413 (by decide) rfl c2 ?_))))
    let S4 : mS := uS S3 6 (v3.toNatClampNeg) (-1)
    replace H := H S4 rfl
    show ES _ _ _ _ _ S4 _
    refine e_al x91_414 rfl (e_PS x91_415 rfl (e_il x91_418 rfl (e_ic x91_419 (e_waS x91_420 (by decide) rfl c2 ?_))))
    let S5 : mS := uS S4 8 (v3.toNatClampNeg) (-1)
    replace H := H S5 rfl
    show ES _ _ _ _ _ S5 _
    refine e_al x91_421 rfl (e_il x91_422 rfl (e_ic x91_423 (e_cV (l0 := [some (.ref (aS E 0)), some (.int v3), some (.int 0), none, none, none]) x91_424 rfl rfl rfl rfl rfl (fun h hh => hh.tS (by decide)) (ES.mono H ?_))))
    rintro _ S6 ⟨rfl, H⟩
    refine e_al x91_427 rfl (e_il x91_428 rfl (e_ic x91_429 (e_cV (l0 := [some (.ref (aS E 0)), some (.int v3), some (.int 1), none, none, none]) x91_430 rfl rfl rfl rfl rfl (fun h hh => hh.tS (by decide)) (ES.mono H ?_))))
    rintro _ S7 ⟨rfl, H⟩
    refine e_al x91_433 rfl (e_il x91_434 rfl (e_cV (l0 := [some (.ref (aS E 0)), some (.int v3), none]) x91_435 rfl rfl rfl rfl rfl (fun h hh => hh.tS (by decide)) (ES.mono H ?_)))
    rintro _ S8 ⟨rfl, H⟩
    exact e_inc (l' := [some (.ref (aS E 0)), some (.int v1), some (.int v2), some (.int (v3 + 1))]) x91_438 rfl rfl rfl (e_back (l' := [some (.ref (aS E 0)), some (.int v1), some (.int v2), some (.int (v3 + 1))]) x91_441 rfl (H))

-- Model.<init>(II)V, from 446
set_option maxRecDepth 8000 in
theorem T91_446 {E : mE} {v1 : Int32} {v2 : Int32} {v3 : Int32} {S : mS} {K : Option Value → mS → Prop}  (H : ((36900 : Int32) ≤ v3 → (K none S)) ∧ (¬ (36900 : Int32) ≤ v3 → ((¬ v3 < 0 ∧ (v3.toNatClampNeg) < 36900) ∧ (∀ S3, S3 = uS S 38 (v3.toNatClampNeg) (-1) → (ES E 91 446 [some (.ref (aS E 0)), some (.int v1), some (.int v2), some (.int (v3 + 1))] [] S3 K))))) : ES E 91 446 [some (.ref (aS E 0)), some (.int v1), some (.int v2), some (.int v3)] [] S K := by
  refine e_il x91_446 rfl (e_ic x91_447 (e_ge x91_449 (fun c1 => ?_) (fun c1 => ?_)))
  · replace H := H.1 c1
    exact e_rv x91_465 H
  · replace H := H.2 c1
    have c2 := H.1
    replace H := H.2
    refine e_al x91_452 rfl (e_PS x91_453 rfl (e_il x91_456 rfl (e_ic x91_457 (e_waS x91_458 (by decide) rfl c2 ?_))))
    let S3 : mS := uS S 38 (v3.toNatClampNeg) (-1)
    replace H := H S3 rfl
    show ES _ _ _ _ _ S3 _
    exact e_inc (l' := [some (.ref (aS E 0)), some (.int v1), some (.int v2), some (.int (v3 + 1))]) x91_459 rfl rfl rfl (e_back (l' := [some (.ref (aS E 0)), some (.int v1), some (.int v2), some (.int (v3 + 1))]) x91_462 rfl (H))

