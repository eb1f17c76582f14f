/-! ===== what a run needs, method by method (91 to 111) ===== -/
/-- RoundVotesModel.<init>(II)V, from 0 -/
set_option maxRecDepth 4000 in
theorem T91 {a0 : Nat} {a1 : Int32} {a2 : Int32} {h : mH} {K : Option Value → mH → Prop} (H : (¬ (420 : Int32) < 0 ∧ ((420 : Int32).toNatClampNeg) ≤ 1000000) ∧ (∀ h1, h1 = wN h 20 ((420 : Int32).toNatClampNeg) → ((mTg h1 a0 = 12) ∧ (∀ h3, h3 = wP h1 a0 4 (some ((mTop h))) → ((¬ (10 : Int32) < 0 ∧ ((10 : Int32).toNatClampNeg) ≤ 1000000) ∧ (∀ h5, h5 = wN h3 20 ((10 : Int32).toNatClampNeg) → ((mTg h5 a0 = 12) ∧ (∀ h7, h7 = wP h5 a0 5 (some ((mTop h3))) → (∀ h9, h9 = wN h7 20 ((10 : Int32).toNatClampNeg) → ((mTg h9 a0 = 12) ∧ (∀ h10, h10 = wP h9 a0 6 (some ((mTop h7))) → (∀ h12, h12 = wN h10 20 ((10 : Int32).toNatClampNeg) → ((mTg h12 a0 = 12) ∧ (∀ h13, h13 = wP h12 a0 7 (some ((mTop h10))) → (∀ h15, h15 = wN h13 20 ((10 : Int32).toNatClampNeg) → ((mTg h15 a0 = 12) ∧ (∀ h16, h16 = wP h15 a0 8 (some ((mTop h13))) → (∀ h18, h18 = wN h16 20 ((10 : Int32).toNatClampNeg) → ((mTg h18 a0 = 12) ∧ (∀ h19, h19 = wP h18 a0 9 (some ((mTop h16))) → (∀ h21, h21 = wN h19 20 ((10 : Int32).toNatClampNeg) → ((mTg h21 a0 = 12) ∧ (∀ h22, h22 = wP h21 a0 10 (some ((mTop h19))) → (∀ h24, h24 = wN h22 20 ((10 : Int32).toNatClampNeg) → ((mTg h24 a0 = 12) ∧ (∀ h25, h25 = wP h24 a0 11 (some ((mTop h22))) → (∀ h27, h27 = wN h25 20 ((10 : Int32).toNatClampNeg) → ((mTg h27 a0 = 12) ∧ (∀ h28, h28 = wP h27 a0 12 (some ((mTop h25))) → (∀ h30, h30 = wN h28 21 ((10 : Int32).toNatClampNeg) → ((mTg h30 a0 = 12) ∧ (∀ h31, h31 = wP h30 a0 13 (some ((mTop h28))) → (∀ h33, h33 = wN h31 20 ((10 : Int32).toNatClampNeg) → ((mTg h33 a0 = 12) ∧ (∀ h34, h34 = wP h33 a0 14 (some ((mTop h31))) → ((¬ (30 : Int32) < 0 ∧ ((30 : Int32).toNatClampNeg) ≤ 1000000) ∧ (∀ h36, h36 = wN h34 20 ((30 : Int32).toNatClampNeg) → ((mTg h36 a0 = 12) ∧ (∀ h38, h38 = wP h36 a0 15 (some ((mTop h34))) → (∀ h40, h40 = wN h38 21 ((10 : Int32).toNatClampNeg) → ((mTg h40 a0 = 12) ∧ (∀ h41, h41 = wP h40 a0 16 (some ((mTop h38))) → (∀ h43, h43 = wN h41 21 ((10 : Int32).toNatClampNeg) → ((mTg h43 a0 = 12) ∧ (∀ h44, h44 = wP h43 a0 17 (some ((mTop h41))) → (∀ h46, h46 = wN h44 21 ((10 : Int32).toNatClampNeg) → ((mTg h46 a0 = 12) ∧ (∀ h47, h47 = wP h46 a0 18 (some ((mTop h44))) → (∀ h49, h49 = wN h47 20 ((10 : Int32).toNatClampNeg) → ((mTg h49 a0 = 12) ∧ (∀ h50, h50 = wP h49 a0 19 (some ((mTop h47))) → ((¬ (18000 : Int32) < 0 ∧ ((18000 : Int32).toNatClampNeg) ≤ 1000000) ∧ (∀ h52, h52 = wN h50 20 ((18000 : Int32).toNatClampNeg) → ((mTg h52 a0 = 12) ∧ (∀ h54, h54 = wP h52 a0 20 (some ((mTop h50))) → ((¬ (6000 : Int32) < 0 ∧ ((6000 : Int32).toNatClampNeg) ≤ 1000000) ∧ (∀ h56, h56 = wN h54 20 ((6000 : Int32).toNatClampNeg) → ((mTg h56 a0 = 12) ∧ (∀ h58, h58 = wP h56 a0 21 (some ((mTop h54))) → ((¬ (900 : Int32) < 0 ∧ ((900 : Int32).toNatClampNeg) ≤ 1000000) ∧ (∀ h60, h60 = wN h58 20 ((900 : Int32).toNatClampNeg) → ((mTg h60 a0 = 12) ∧ (∀ h62, h62 = wP h60 a0 22 (some ((mTop h58))) → (∀ h64, h64 = wN h62 20 ((900 : Int32).toNatClampNeg) → ((mTg h64 a0 = 12) ∧ (∀ h65, h65 = wP h64 a0 23 (some ((mTop h62))) → ((¬ (410 : Int32) < 0 ∧ ((410 : Int32).toNatClampNeg) ≤ 1000000) ∧ (∀ h67, h67 = wN h65 20 ((410 : Int32).toNatClampNeg) → ((mTg h67 a0 = 12) ∧ (∀ h69, h69 = wP h67 a0 24 (some ((mTop h65))) → (∀ h71, h71 = wN h69 20 ((410 : Int32).toNatClampNeg) → ((mTg h71 a0 = 12) ∧ (∀ h72, h72 = wP h71 a0 25 (some ((mTop h69))) → (∀ h74, h74 = wN h72 20 ((410 : Int32).toNatClampNeg) → ((mTg h74 a0 = 12) ∧ (∀ h75, h75 = wP h74 a0 26 (some ((mTop h72))) → (∀ h77, h77 = wN h75 22 ((410 : Int32).toNatClampNeg) → ((mTg h77 a0 = 12) ∧ (∀ h78, h78 = wP h77 a0 27 (some ((mTop h75))) → ((¬ (20000 : Int32) < 0 ∧ ((20000 : Int32).toNatClampNeg) ≤ 1000000) ∧ (∀ h80, h80 = wN h78 20 ((20000 : Int32).toNatClampNeg) → ((mTg h80 a0 = 12) ∧ (∀ h82, h82 = wP h80 a0 28 (some ((mTop h78))) → (∀ h84, h84 = wN h82 20 ((20000 : Int32).toNatClampNeg) → ((mTg h84 a0 = 12) ∧ (∀ h85, h85 = wP h84 a0 29 (some ((mTop h82))) → (∀ h87, h87 = wN h85 20 ((20000 : Int32).toNatClampNeg) → ((mTg h87 a0 = 12) ∧ (∀ h88, h88 = wP h87 a0 30 (some ((mTop h85))) → (∀ h90, h90 = wN h88 20 ((20000 : Int32).toNatClampNeg) → ((mTg h90 a0 = 12) ∧ (∀ h91, h91 = wP h90 a0 31 (some ((mTop h88))) → (∀ h93, h93 = wN h91 20 ((20000 : Int32).toNatClampNeg) → ((mTg h93 a0 = 12) ∧ (∀ h94, h94 = wP h93 a0 32 (some ((mTop h91))) → (∀ h96, h96 = wN h94 20 ((20000 : Int32).toNatClampNeg) → ((mTg h96 a0 = 12) ∧ (∀ h97, h97 = wP h96 a0 33 (some ((mTop h94))) → (∀ h99, h99 = wN h97 20 ((20000 : Int32).toNatClampNeg) → ((mTg h99 a0 = 12) ∧ (∀ h100, h100 = wP h99 a0 34 (some ((mTop h97))) → (∀ h102, h102 = wN h100 20 ((20000 : Int32).toNatClampNeg) → ((mTg h102 a0 = 12) ∧ (∀ h103, h103 = wP h102 a0 35 (some ((mTop h100))) → (∀ h105, h105 = wN h103 21 ((20000 : Int32).toNatClampNeg) → ((mTg h105 a0 = 12) ∧ (∀ h106, h106 = wP h105 a0 36 (some ((mTop h103))) → ((¬ (60 : Int32) < 0 ∧ ((60 : Int32).toNatClampNeg) ≤ 1000000) ∧ (∀ h108, h108 = wN h106 20 ((60 : Int32).toNatClampNeg) → ((mTg h108 a0 = 12) ∧ (∀ h110, h110 = wP h108 a0 42 (some ((mTop h106))) → (∀ h112, h112 = wN h110 20 ((60 : Int32).toNatClampNeg) → ((mTg h112 a0 = 12) ∧ (∀ h113, h113 = wP h112 a0 43 (some ((mTop h110))) → (∀ h115, h115 = wN h113 20 ((60 : Int32).toNatClampNeg) → ((mTg h115 a0 = 12) ∧ (∀ h116, h116 = wP h115 a0 44 (some ((mTop h113))) → ((¬ (1200 : Int32) < 0 ∧ ((1200 : Int32).toNatClampNeg) ≤ 1000000) ∧ (∀ h118, h118 = wN h116 20 ((1200 : Int32).toNatClampNeg) → ((mTg h118 a0 = 12) ∧ (∀ h120, h120 = wP h118 a0 49 (some ((mTop h116))) → ((¬ (36900 : Int32) < 0 ∧ ((36900 : Int32).toNatClampNeg) ≤ 1000000) ∧ (∀ h122, h122 = wN h120 20 ((36900 : Int32).toNatClampNeg) → ((mTg h122 a0 = 12) ∧ (∀ h124, h124 = wP h122 a0 51 (some ((mTop h120))) → (∀ h126, h126 = wN h124 21 ((36900 : Int32).toNatClampNeg) → ((mTg h126 a0 = 12) ∧ (∀ h127, h127 = wP h126 a0 52 (some ((mTop h124))) → (∀ h129, h129 = wI h127 a0 0 0 → (((1 : Int32) ≤ a1 → ((a1 ≤ 10 → (∀ h130, h130 = wI h129 a0 1 a1 → (∀ h131, h131 = wI h130 a0 2 a2 → (Ek 91 372 [some (.ref a0), some (.int a1), some (.int a2), some (.int 0)] [] h131 K)))) ∧ (¬ a1 ≤ 10 → (∀ h132, h132 = wI h129 a0 1 10 → (∀ h133, h133 = wI h132 a0 2 a2 → (Ek 91 372 [some (.ref a0), some (.int a1), some (.int a2), some (.int 0)] [] h133 K)))))) ∧ (¬ (1 : Int32) ≤ a1 → (∀ h134, h134 = wI h129 a0 1 1 → (∀ h135, h135 = wI h134 a0 2 a2 → (Ek 91 372 [some (.ref a0), some (.int a1), some (.int a2), some (.int 0)] [] h135 K)))))))))))))))))))))))))))))))))))))))))))))))))))))))))))))))))))))))))))))))))))))))))))))))))))))))))))))))))))))))))))))))))))))) : Ek 91 0 [some (.ref a0), some (.int a1), some (.int a2), none] [] h K := by
  have c2 := H.1
  refine Ek.chk 5 (fun n => rfl) c2 ?_
  replace H := H.2
  let h1 : mH := wN h 20 ((420 : Int32).toNatClampNeg)
  replace H := H h1 rfl
  show Ek _ _ _ _ h1 _
  have c4 := H.1
  refine Ek.chk 1 (fun n => rfl) c4 ?_
  replace H := H.2
  let h3 : mH := wP h1 a0 4 (some ((mTop h)))
  replace H := H h3 rfl
  show Ek _ _ _ _ h3 _
  have c6 := H.1
  refine Ek.chk 3 (fun n => rfl) c6 ?_
  replace H := H.2
  let h5 : mH := wN h3 20 ((10 : Int32).toNatClampNeg)
  replace H := H h5 rfl
  show Ek _ _ _ _ h5 _
  have c8 := H.1
  refine Ek.chk 1 (fun n => rfl) c8 ?_
  replace H := H.2
  let h7 : mH := wP h5 a0 5 (some ((mTop h3)))
  replace H := H h7 rfl
  show Ek _ _ _ _ h7 _
  refine Ek.chk 3 (fun n => rfl) c6 ?_
  let h9 : mH := wN h7 20 ((10 : Int32).toNatClampNeg)
  replace H := H h9 rfl
  show Ek _ _ _ _ h9 _
  have c11 := H.1
  refine Ek.chk 1 (fun n => rfl) c11 ?_
  replace H := H.2
  let h10 : mH := wP h9 a0 6 (some ((mTop h7)))
  replace H := H h10 rfl
  show Ek _ _ _ _ h10 _
  refine Ek.chk 3 (fun n => rfl) c6 ?_
  let h12 : mH := wN h10 20 ((10 : Int32).toNatClampNeg)
  replace H := H h12 rfl
  show Ek _ _ _ _ h12 _
  have c14 := H.1
  refine Ek.chk 1 (fun n => rfl) c14 ?_
  replace H := H.2
  let h13 : mH := wP h12 a0 7 (some ((mTop h10)))
  replace H := H h13 rfl
  show Ek _ _ _ _ h13 _
  refine Ek.chk 3 (fun n => rfl) c6 ?_
  let h15 : mH := wN h13 20 ((10 : Int32).toNatClampNeg)
  replace H := H h15 rfl
  show Ek _ _ _ _ h15 _
  have c17 := H.1
  refine Ek.chk 1 (fun n => rfl) c17 ?_
  replace H := H.2
  let h16 : mH := wP h15 a0 8 (some ((mTop h13)))
  replace H := H h16 rfl
  show Ek _ _ _ _ h16 _
  refine Ek.chk 3 (fun n => rfl) c6 ?_
  let h18 : mH := wN h16 20 ((10 : Int32).toNatClampNeg)
  replace H := H h18 rfl
  show Ek _ _ _ _ h18 _
  have c20 := H.1
  refine Ek.chk 1 (fun n => rfl) c20 ?_
  replace H := H.2
  let h19 : mH := wP h18 a0 9 (some ((mTop h16)))
  replace H := H h19 rfl
  show Ek _ _ _ _ h19 _
  refine Ek.chk 3 (fun n => rfl) c6 ?_
  let h21 : mH := wN h19 20 ((10 : Int32).toNatClampNeg)
  replace H := H h21 rfl
  show Ek _ _ _ _ h21 _
  have c23 := H.1
  refine Ek.chk 1 (fun n => rfl) c23 ?_
  replace H := H.2
  let h22 : mH := wP h21 a0 10 (some ((mTop h19)))
  replace H := H h22 rfl
  show Ek _ _ _ _ h22 _
  refine Ek.chk 3 (fun n => rfl) c6 ?_
  let h24 : mH := wN h22 20 ((10 : Int32).toNatClampNeg)
  replace H := H h24 rfl
  show Ek _ _ _ _ h24 _
  have c26 := H.1
  refine Ek.chk 1 (fun n => rfl) c26 ?_
  replace H := H.2
  let h25 : mH := wP h24 a0 11 (some ((mTop h22)))
  replace H := H h25 rfl
  show Ek _ _ _ _ h25 _
  refine Ek.chk 3 (fun n => rfl) c6 ?_
  let h27 : mH := wN h25 20 ((10 : Int32).toNatClampNeg)
  replace H := H h27 rfl
  show Ek _ _ _ _ h27 _
  have c29 := H.1
  refine Ek.chk 1 (fun n => rfl) c29 ?_
  replace H := H.2
  let h28 : mH := wP h27 a0 12 (some ((mTop h25)))
  replace H := H h28 rfl
  show Ek _ _ _ _ h28 _
  refine Ek.chk 3 (fun n => rfl) c6 ?_
  let h30 : mH := wN h28 21 ((10 : Int32).toNatClampNeg)
  replace H := H h30 rfl
  show Ek _ _ _ _ h30 _
  have c32 := H.1
  refine Ek.chk 1 (fun n => rfl) c32 ?_
  replace H := H.2
  let h31 : mH := wP h30 a0 13 (some ((mTop h28)))
  replace H := H h31 rfl
  show Ek _ _ _ _ h31 _
  refine Ek.chk 3 (fun n => rfl) c6 ?_
  let h33 : mH := wN h31 20 ((10 : Int32).toNatClampNeg)
  replace H := H h33 rfl
  show Ek _ _ _ _ h33 _
  have c35 := H.1
  refine Ek.chk 1 (fun n => rfl) c35 ?_
  replace H := H.2
  let h34 : mH := wP h33 a0 14 (some ((mTop h31)))
  replace H := H h34 rfl
  show Ek _ _ _ _ h34 _
  have c37 := H.1
  refine Ek.chk 3 (fun n => rfl) c37 ?_
  replace H := H.2
  let h36 : mH := wN h34 20 ((30 : Int32).toNatClampNeg)
  replace H := H h36 rfl
  show Ek _ _ _ _ h36 _
  have c39 := H.1
  refine Ek.chk 1 (fun n => rfl) c39 ?_
  replace H := H.2
  let h38 : mH := wP h36 a0 15 (some ((mTop h34)))
  replace H := H h38 rfl
  show Ek _ _ _ _ h38 _
  refine Ek.chk 3 (fun n => rfl) c6 ?_
  let h40 : mH := wN h38 21 ((10 : Int32).toNatClampNeg)
  replace H := H h40 rfl
  show Ek _ _ _ _ h40 _
  have c42 := H.1
  refine Ek.chk 1 (fun n => rfl) c42 ?_
  replace H := H.2
  let h41 : mH := wP h40 a0 16 (some ((mTop h38)))
  replace H := H h41 rfl
  show Ek _ _ _ _ h41 _
  refine Ek.chk 3 (fun n => rfl) c6 ?_
  let h43 : mH := wN h41 21 ((10 : Int32).toNatClampNeg)
  replace H := H h43 rfl
  show Ek _ _ _ _ h43 _
  have c45 := H.1
  refine Ek.chk 1 (fun n => rfl) c45 ?_
  replace H := H.2
  let h44 : mH := wP h43 a0 17 (some ((mTop h41)))
  replace H := H h44 rfl
  show Ek _ _ _ _ h44 _
  refine Ek.chk 3 (fun n => rfl) c6 ?_
  let h46 : mH := wN h44 21 ((10 : Int32).toNatClampNeg)
  replace H := H h46 rfl
  show Ek _ _ _ _ h46 _
  have c48 := H.1
  refine Ek.chk 1 (fun n => rfl) c48 ?_
  replace H := H.2
  let h47 : mH := wP h46 a0 18 (some ((mTop h44)))
  replace H := H h47 rfl
  show Ek _ _ _ _ h47 _
  refine Ek.chk 3 (fun n => rfl) c6 ?_
  let h49 : mH := wN h47 20 ((10 : Int32).toNatClampNeg)
  replace H := H h49 rfl
  show Ek _ _ _ _ h49 _
  have c51 := H.1
  refine Ek.chk 1 (fun n => rfl) c51 ?_
  replace H := H.2
  let h50 : mH := wP h49 a0 19 (some ((mTop h47)))
  replace H := H h50 rfl
  show Ek _ _ _ _ h50 _
  have c53 := H.1
  refine Ek.chk 3 (fun n => rfl) c53 ?_
  replace H := H.2
  let h52 : mH := wN h50 20 ((18000 : Int32).toNatClampNeg)
  replace H := H h52 rfl
  show Ek _ _ _ _ h52 _
  have c55 := H.1
  refine Ek.chk 1 (fun n => rfl) c55 ?_
  replace H := H.2
  let h54 : mH := wP h52 a0 20 (some ((mTop h50)))
  replace H := H h54 rfl
  show Ek _ _ _ _ h54 _
  have c57 := H.1
  refine Ek.chk 3 (fun n => rfl) c57 ?_
  replace H := H.2
  let h56 : mH := wN h54 20 ((6000 : Int32).toNatClampNeg)
  replace H := H h56 rfl
  show Ek _ _ _ _ h56 _
  have c59 := H.1
  refine Ek.chk 1 (fun n => rfl) c59 ?_
  replace H := H.2
  let h58 : mH := wP h56 a0 21 (some ((mTop h54)))
  replace H := H h58 rfl
  show Ek _ _ _ _ h58 _
  have c61 := H.1
  refine Ek.chk 3 (fun n => rfl) c61 ?_
  replace H := H.2
  let h60 : mH := wN h58 20 ((900 : Int32).toNatClampNeg)
  replace H := H h60 rfl
  show Ek _ _ _ _ h60 _
  have c63 := H.1
  refine Ek.chk 1 (fun n => rfl) c63 ?_
  replace H := H.2
  let h62 : mH := wP h60 a0 22 (some ((mTop h58)))
  replace H := H h62 rfl
  show Ek _ _ _ _ h62 _
  refine Ek.chk 3 (fun n => rfl) c61 ?_
  let h64 : mH := wN h62 20 ((900 : Int32).toNatClampNeg)
  replace H := H h64 rfl
  show Ek _ _ _ _ h64 _
  have c66 := H.1
  refine Ek.chk 1 (fun n => rfl) c66 ?_
  replace H := H.2
  let h65 : mH := wP h64 a0 23 (some ((mTop h62)))
  replace H := H h65 rfl
  show Ek _ _ _ _ h65 _
  have c68 := H.1
  refine Ek.chk 3 (fun n => rfl) c68 ?_
  replace H := H.2
  let h67 : mH := wN h65 20 ((410 : Int32).toNatClampNeg)
  replace H := H h67 rfl
  show Ek _ _ _ _ h67 _
  have c70 := H.1
  refine Ek.chk 1 (fun n => rfl) c70 ?_
  replace H := H.2
  let h69 : mH := wP h67 a0 24 (some ((mTop h65)))
  replace H := H h69 rfl
  show Ek _ _ _ _ h69 _
  refine Ek.chk 3 (fun n => rfl) c68 ?_
  let h71 : mH := wN h69 20 ((410 : Int32).toNatClampNeg)
  replace H := H h71 rfl
  show Ek _ _ _ _ h71 _
  have c73 := H.1
  refine Ek.chk 1 (fun n => rfl) c73 ?_
  replace H := H.2
  let h72 : mH := wP h71 a0 25 (some ((mTop h69)))
  replace H := H h72 rfl
  show Ek _ _ _ _ h72 _
  refine Ek.chk 3 (fun n => rfl) c68 ?_
  let h74 : mH := wN h72 20 ((410 : Int32).toNatClampNeg)
  replace H := H h74 rfl
  show Ek _ _ _ _ h74 _
  have c76 := H.1
  refine Ek.chk 1 (fun n => rfl) c76 ?_
  replace H := H.2
  let h75 : mH := wP h74 a0 26 (some ((mTop h72)))
  replace H := H h75 rfl
  show Ek _ _ _ _ h75 _
  refine Ek.chk 3 (fun n => rfl) c68 ?_
  let h77 : mH := wN h75 22 ((410 : Int32).toNatClampNeg)
  replace H := H h77 rfl
  show Ek _ _ _ _ h77 _
  have c79 := H.1
  refine Ek.chk 1 (fun n => rfl) c79 ?_
  replace H := H.2
  let h78 : mH := wP h77 a0 27 (some ((mTop h75)))
  replace H := H h78 rfl
  show Ek _ _ _ _ h78 _
  have c81 := H.1
  refine Ek.chk 3 (fun n => rfl) c81 ?_
  replace H := H.2
  let h80 : mH := wN h78 20 ((20000 : Int32).toNatClampNeg)
  replace H := H h80 rfl
  show Ek _ _ _ _ h80 _
  have c83 := H.1
  refine Ek.chk 1 (fun n => rfl) c83 ?_
  replace H := H.2
  let h82 : mH := wP h80 a0 28 (some ((mTop h78)))
  replace H := H h82 rfl
  show Ek _ _ _ _ h82 _
  refine Ek.chk 3 (fun n => rfl) c81 ?_
  let h84 : mH := wN h82 20 ((20000 : Int32).toNatClampNeg)
  replace H := H h84 rfl
  show Ek _ _ _ _ h84 _
  have c86 := H.1
  refine Ek.chk 1 (fun n => rfl) c86 ?_
  replace H := H.2
  let h85 : mH := wP h84 a0 29 (some ((mTop h82)))
  replace H := H h85 rfl
  show Ek _ _ _ _ h85 _
  refine Ek.chk 3 (fun n => rfl) c81 ?_
  let h87 : mH := wN h85 20 ((20000 : Int32).toNatClampNeg)
  replace H := H h87 rfl
  show Ek _ _ _ _ h87 _
  have c89 := H.1
  refine Ek.chk 1 (fun n => rfl) c89 ?_
  replace H := H.2
  let h88 : mH := wP h87 a0 30 (some ((mTop h85)))
  replace H := H h88 rfl
  show Ek _ _ _ _ h88 _
  refine Ek.chk 3 (fun n => rfl) c81 ?_
  let h90 : mH := wN h88 20 ((20000 : Int32).toNatClampNeg)
  replace H := H h90 rfl
  show Ek _ _ _ _ h90 _
  have c92 := H.1
  refine Ek.chk 1 (fun n => rfl) c92 ?_
  replace H := H.2
  let h91 : mH := wP h90 a0 31 (some ((mTop h88)))
  replace H := H h91 rfl
  show Ek _ _ _ _ h91 _
  refine Ek.chk 3 (fun n => rfl) c81 ?_
  let h93 : mH := wN h91 20 ((20000 : Int32).toNatClampNeg)
  replace H := H h93 rfl
  show Ek _ _ _ _ h93 _
  have c95 := H.1
  refine Ek.chk 1 (fun n => rfl) c95 ?_
  replace H := H.2
  let h94 : mH := wP h93 a0 32 (some ((mTop h91)))
  replace H := H h94 rfl
  show Ek _ _ _ _ h94 _
  refine Ek.chk 3 (fun n => rfl) c81 ?_
  let h96 : mH := wN h94 20 ((20000 : Int32).toNatClampNeg)
  replace H := H h96 rfl
  show Ek _ _ _ _ h96 _
  have c98 := H.1
  refine Ek.chk 1 (fun n => rfl) c98 ?_
  replace H := H.2
  let h97 : mH := wP h96 a0 33 (some ((mTop h94)))
  replace H := H h97 rfl
  show Ek _ _ _ _ h97 _
  refine Ek.chk 3 (fun n => rfl) c81 ?_
  let h99 : mH := wN h97 20 ((20000 : Int32).toNatClampNeg)
  replace H := H h99 rfl
  show Ek _ _ _ _ h99 _
  have c101 := H.1
  refine Ek.chk 1 (fun n => rfl) c101 ?_
  replace H := H.2
  let h100 : mH := wP h99 a0 34 (some ((mTop h97)))
  replace H := H h100 rfl
  show Ek _ _ _ _ h100 _
  refine Ek.chk 3 (fun n => rfl) c81 ?_
  let h102 : mH := wN h100 20 ((20000 : Int32).toNatClampNeg)
  replace H := H h102 rfl
  show Ek _ _ _ _ h102 _
  have c104 := H.1
  refine Ek.chk 1 (fun n => rfl) c104 ?_
  replace H := H.2
  let h103 : mH := wP h102 a0 35 (some ((mTop h100)))
  replace H := H h103 rfl
  show Ek _ _ _ _ h103 _
  refine Ek.chk 3 (fun n => rfl) c81 ?_
  let h105 : mH := wN h103 21 ((20000 : Int32).toNatClampNeg)
  replace H := H h105 rfl
  show Ek _ _ _ _ h105 _
  have c107 := H.1
  refine Ek.chk 1 (fun n => rfl) c107 ?_
  replace H := H.2
  let h106 : mH := wP h105 a0 36 (some ((mTop h103)))
  replace H := H h106 rfl
  show Ek _ _ _ _ h106 _
  have c109 := H.1
  refine Ek.chk 3 (fun n => rfl) c109 ?_
  replace H := H.2
  let h108 : mH := wN h106 20 ((60 : Int32).toNatClampNeg)
  replace H := H h108 rfl
  show Ek _ _ _ _ h108 _
  have c111 := H.1
  refine Ek.chk 1 (fun n => rfl) c111 ?_
  replace H := H.2
  let h110 : mH := wP h108 a0 42 (some ((mTop h106)))
  replace H := H h110 rfl
  show Ek _ _ _ _ h110 _
  refine Ek.chk 3 (fun n => rfl) c109 ?_
  let h112 : mH := wN h110 20 ((60 : Int32).toNatClampNeg)
  replace H := H h112 rfl
  show Ek _ _ _ _ h112 _
  have c114 := H.1
  refine Ek.chk 1 (fun n => rfl) c114 ?_
  replace H := H.2
  let h113 : mH := wP h112 a0 43 (some ((mTop h110)))
  replace H := H h113 rfl
  show Ek _ _ _ _ h113 _
  refine Ek.chk 3 (fun n => rfl) c109 ?_
  let h115 : mH := wN h113 20 ((60 : Int32).toNatClampNeg)
  replace H := H h115 rfl
  show Ek _ _ _ _ h115 _
  have c117 := H.1
  refine Ek.chk 1 (fun n => rfl) c117 ?_
  replace H := H.2
  let h116 : mH := wP h115 a0 44 (some ((mTop h113)))
  replace H := H h116 rfl
  show Ek _ _ _ _ h116 _
  have c119 := H.1
  refine Ek.chk 3 (fun n => rfl) c119 ?_
  replace H := H.2
  let h118 : mH := wN h116 20 ((1200 : Int32).toNatClampNeg)
  replace H := H h118 rfl
  show Ek _ _ _ _ h118 _
  have c121 := H.1
  refine Ek.chk 1 (fun n => rfl) c121 ?_
  replace H := H.2
  let h120 : mH := wP h118 a0 49 (some ((mTop h116)))
  replace H := H h120 rfl
  show Ek _ _ _ _ h120 _
  have c123 := H.1
  refine Ek.chk 3 (fun n => rfl) c123 ?_
  replace H := H.2
  let h122 : mH := wN h120 20 ((36900 : Int32).toNatClampNeg)
  replace H := H h122 rfl
  show Ek _ _ _ _ h122 _
  have c125 := H.1
  refine Ek.chk 1 (fun n => rfl) c125 ?_
  replace H := H.2
  let h124 : mH := wP h122 a0 51 (some ((mTop h120)))
  replace H := H h124 rfl
  show Ek _ _ _ _ h124 _
  refine Ek.chk 3 (fun n => rfl) c123 ?_
  let h126 : mH := wN h124 21 ((36900 : Int32).toNatClampNeg)
  replace H := H h126 rfl
  show Ek _ _ _ _ h126 _
  have c128 := H.1
  refine Ek.chk 1 (fun n => rfl) c128 ?_
  replace H := H.2
  let h127 : mH := wP h126 a0 52 (some ((mTop h124)))
  replace H := H h127 rfl
  show Ek _ _ _ _ h127 _
  refine Ek.chk 3 (fun n => rfl) c128 ?_
  let h129 : mH := wI h127 a0 0 0
  replace H := H h129 rfl
  show Ek _ _ _ _ h129 _
  refine Ek.br 4 (fun n => rfl) (fun hc => ?_) (fun hc => ?_)
  · replace H := H.1 hc
    refine Ek.br 3 (fun n => rfl) (fun hc => ?_) (fun hc => ?_)
    · replace H := H.1 hc
      refine Ek.chk 2 (fun n => rfl) c128 ?_
      let h130 : mH := wI h129 a0 1 a1
      replace H := H h130 rfl
      show Ek _ _ _ _ h130 _
      refine Ek.chk 3 (fun n => rfl) c128 ?_
      let h131 : mH := wI h130 a0 2 a2
      replace H := H h131 rfl
      show Ek _ _ _ _ h131 _
      exact Ek.go 2 (fun n => rfl) H
    · replace H := H.2 hc
      refine Ek.chk 3 (fun n => rfl) c128 ?_
      let h132 : mH := wI h129 a0 1 10
      replace H := H h132 rfl
      show Ek _ _ _ _ h132 _
      refine Ek.chk 3 (fun n => rfl) c128 ?_
      let h133 : mH := wI h132 a0 2 a2
      replace H := H h133 rfl
      show Ek _ _ _ _ h133 _
      exact Ek.go 2 (fun n => rfl) H
  · replace H := H.2 hc
    refine Ek.chk 3 (fun n => rfl) c128 ?_
    let h134 : mH := wI h129 a0 1 1
    replace H := H h134 rfl
    show Ek _ _ _ _ h134 _
    refine Ek.chk 3 (fun n => rfl) c128 ?_
    let h135 : mH := wI h134 a0 2 a2
    replace H := H h135 rfl
    show Ek _ _ _ _ h135 _
    exact Ek.go 2 (fun n => rfl) H

/-- RoundVotesModel.<init>(II)V, from 372 -/
set_option maxRecDepth 4000 in
theorem T91_372 {v0 : Nat} {v1 : Int32} {v2 : Int32} {v3 : Int32} {h : mH} {K : Option Value → mH → Prop} (H : ((420 : Int32) ≤ v3 → (Ek 91 394 [some (.ref v0), some (.int v1), some (.int v2), some (.int 0)] [] h K)) ∧ (¬ (420 : Int32) ≤ v3 → ((mTg h v0 = 12) ∧ (∃ p2, mP h v0 4 = some p2 ∧ ((mTg h p2 = 20 ∧ ¬ v3 < 0 ∧ (v3.toNatClampNeg) < mLn h p2) ∧ (∀ h4, h4 = wI h p2 (v3.toNatClampNeg) 1 → (Ek 91 372 [some (.ref v0), some (.int v1), some (.int v2), some (.int (v3 + 1))] [] h4 K))))))) : Ek 91 372 [some (.ref v0), some (.int v1), some (.int v2), some (.int v3)] [] h K := by
  refine Ek.br 3 (fun n => rfl) (fun hc => ?_) (fun hc => ?_)
  · replace H := H.1 hc
    exact Ek.go 2 (fun n => rfl) H
  · replace H := H.2 hc
    have c1 := H.1
    refine Ek.chk 2 (fun n => rfl) c1 ?_
    replace H := H.2
    obtain ⟨p2, e3, H⟩ := H
    show Ek _ _ _ (va_rf (mP h v0 4) :: _) _ _
    rw [e3]
    have c5 := H.1
    refine Ek.chk 3 (fun n => rfl) c5 ?_
    replace H := H.2
    let h4 : mH := wI h p2 (v3.toNatClampNeg) 1
    replace H := H h4 rfl
    show Ek _ _ _ _ h4 _
    exact Ek.go 2 (fun n => rfl) H

/-- RoundVotesModel.<init>(II)V, from 394 -/
set_option maxRecDepth 4000 in
theorem T91_394 {v0 : Nat} {v1 : Int32} {v2 : Int32} {v3 : Int32} {h : mH} {K : Option Value → mH → Prop} (H : ((10 : Int32) ≤ v3 → (Ek 91 446 [some (.ref v0), some (.int v1), some (.int v2), some (.int 0)] [] h K)) ∧ (¬ (10 : Int32) ≤ v3 → ((mTg h v0 = 12) ∧ (∃ p2, mP h v0 5 = some p2 ∧ ((mTg h p2 = 20 ∧ ¬ v3 < 0 ∧ (v3.toNatClampNeg) < mLn h p2) ∧ (∀ h4, h4 = wI h p2 (v3.toNatClampNeg) 1 → (∃ p6, mP h v0 9 = some p6 ∧ ((mTg h p6 = 20 ∧ ¬ v3 < 0 ∧ (v3.toNatClampNeg) < mLn h p6) ∧ (∀ h8, h8 = wI h4 p6 (v3.toNatClampNeg) (-1) → (∃ p10, mP h v0 11 = some p10 ∧ ((mTg h p10 = 20 ∧ ¬ v3 < 0 ∧ (v3.toNatClampNeg) < mLn h p10) ∧ (∀ h12, h12 = wI h8 p10 (v3.toNatClampNeg) (-1) → (Ek 92 0 [some (.ref v0), some (.int v3), some (.int 0), none, none, none] [] h12 (fun r h14 => r = none ∧ ((mTg h14 v0 = 12) ∧ (Ek 92 0 [some (.ref v0), some (.int v3), some (.int 1), none, none, none] [] h14 (fun r h16 => r = none ∧ ((mTg h16 v0 = 12) ∧ (Ek 95 0 [some (.ref v0), some (.int v3), none] [] h16 (fun r h18 => r = none ∧ (Ek 91 394 [some (.ref v0), some (.int v1), some (.int v2), some (.int (v3 + 1))] [] h18 K))))))))))))))))))))) : Ek 91 394 [some (.ref v0), some (.int v1), some (.int v2), some (.int v3)] [] h K := by
  refine Ek.br 3 (fun n => rfl) (fun hc => ?_) (fun hc => ?_)
  · replace H := H.1 hc
    exact Ek.go 2 (fun n => rfl) H
  · replace H := H.2 hc
    have c1 := H.1
    refine Ek.chk 2 (fun n => rfl) c1 ?_
    replace H := H.2
    obtain ⟨p2, e3, H⟩ := H
    show Ek _ _ _ (va_rf (mP h v0 5) :: _) _ _
    rw [e3]
    have c5 := H.1
    refine Ek.chk 3 (fun n => rfl) c5 ?_
    replace H := H.2
    let h4 : mH := wI h p2 (v3.toNatClampNeg) 1
    replace H := H h4 rfl
    show Ek _ _ _ _ h4 _
    refine Ek.chk 2 (fun n => rfl) c1 ?_
    obtain ⟨p6, e7, H⟩ := H
    show Ek _ _ _ (va_rf (mP h v0 9) :: _) _ _
    rw [e7]
    have c9 := H.1
    refine Ek.chk 3 (fun n => rfl) c9 ?_
    replace H := H.2
    let h8 : mH := wI h4 p6 (v3.toNatClampNeg) (-1)
    replace H := H h8 rfl
    show Ek _ _ _ _ h8 _
    refine Ek.chk 2 (fun n => rfl) c1 ?_
    obtain ⟨p10, e11, H⟩ := H
    show Ek _ _ _ (va_rf (mP h v0 11) :: _) _ _
    rw [e11]
    have c13 := H.1
    refine Ek.chk 3 (fun n => rfl) c13 ?_
    replace H := H.2
    let h12 : mH := wI h8 p10 (v3.toNatClampNeg) (-1)
    replace H := H h12 rfl
    show Ek _ _ _ _ h12 _
    refine Ek.callT 3 (fun n => rfl) c1 ?_
    refine Ek.mono H ?_
    rintro _ h14 ⟨rfl, H⟩
    have c15 := H.1
    refine Ek.callT 3 (fun n => rfl) c15 ?_
    replace H := H.2
    refine Ek.mono H ?_
    rintro _ h16 ⟨rfl, H⟩
    have c17 := H.1
    refine Ek.callT 2 (fun n => rfl) c17 ?_
    replace H := H.2
    refine Ek.mono H ?_
    rintro _ h18 ⟨rfl, H⟩
    exact Ek.go 2 (fun n => rfl) H

/-- RoundVotesModel.<init>(II)V, from 446 -/
set_option maxRecDepth 4000 in
theorem T91_446 {v0 : Nat} {v1 : Int32} {v2 : Int32} {v3 : Int32} {h : mH} {K : Option Value → mH → Prop} (H : ((36900 : Int32) ≤ v3 → (K none h)) ∧ (¬ (36900 : Int32) ≤ v3 → ((mTg h v0 = 12) ∧ (∃ p2, mP h v0 51 = some p2 ∧ ((mTg h p2 = 20 ∧ ¬ v3 < 0 ∧ (v3.toNatClampNeg) < mLn h p2) ∧ (∀ h4, h4 = wI h p2 (v3.toNatClampNeg) (-1) → (Ek 91 446 [some (.ref v0), some (.int v1), some (.int v2), some (.int (v3 + 1))] [] h4 K))))))) : Ek 91 446 [some (.ref v0), some (.int v1), some (.int v2), some (.int v3)] [] h K := by
  refine Ek.br 3 (fun n => rfl) (fun hc => ?_) (fun hc => ?_)
  · replace H := H.1 hc
    exact Ek.ret 1 (fun n => rfl) H
  · replace H := H.2 hc
    have c1 := H.1
    refine Ek.chk 2 (fun n => rfl) c1 ?_
    replace H := H.2
    obtain ⟨p2, e3, H⟩ := H
    show Ek _ _ _ (va_rf (mP h v0 51) :: _) _ _
    rw [e3]
    have c5 := H.1
    refine Ek.chk 3 (fun n => rfl) c5 ?_
    replace H := H.2
    let h4 : mH := wI h p2 (v3.toNatClampNeg) (-1)
    replace H := H h4 rfl
    show Ek _ _ _ _ h4 _
    exact Ek.go 2 (fun n => rfl) H

/-- RoundVotesModel.clearHeight(II)V, from 0 -/
set_option maxRecDepth 4000 in
theorem T92 {a0 : Nat} {a1 : Int32} {a2 : Int32} {h : mH} {K : Option Value → mH → Prop} (H : Ek 92 2 [some (.ref a0), some (.int a1), some (.int a2), some (.int 0), none, none] [] h K) : Ek 92 0 [some (.ref a0), some (.int a1), some (.int a2), none, none, none] [] h K := by
  exact Ek.go 2 (fun n => rfl) H

/-- RoundVotesModel.clearHeight(II)V, from 2 -/
set_option maxRecDepth 4000 in
theorem T92_2 {v0 : Nat} {v1 : Int32} {v2 : Int32} {v3 : Int32} {h : mH} {K : Option Value → mH → Prop} (H : ((30 : Int32) ≤ v3 → (K none h)) ∧ (¬ (30 : Int32) ≤ v3 → (Ek 92 11 [some (.ref v0), some (.int v1), some (.int v2), some (.int v3), some (.int 0), none] [] h K))) : Ek 92 2 [some (.ref v0), some (.int v1), some (.int v2), some (.int v3), none, none] [] h K := by
  refine Ek.br 3 (fun n => rfl) (fun hc => ?_) (fun hc => ?_)
  · replace H := H.1 hc
    exact Ek.ret 1 (fun n => rfl) H
  · replace H := H.2 hc
    exact Ek.go 2 (fun n => rfl) H

/-- RoundVotesModel.clearHeight(II)V, from 11 -/
set_option maxRecDepth 4000 in
theorem T92_11 {v0 : Nat} {v1 : Int32} {v2 : Int32} {v3 : Int32} {v4 : Int32} {h : mH} {K : Option Value → mH → Prop} (H : ((10 : Int32) ≤ v4 → (Ek 92 2 [some (.ref v0), some (.int v1), some (.int v2), some (.int (v3 + 1)), some (.int v4), none] [] h K)) ∧ (¬ (10 : Int32) ≤ v4 → (Ek 92 21 [some (.ref v0), some (.int v1), some (.int v2), some (.int v3), some (.int v4), some (.int 0)] [] h K))) : Ek 92 11 [some (.ref v0), some (.int v1), some (.int v2), some (.int v3), some (.int v4), none] [] h K := by
  refine Ek.br 3 (fun n => rfl) (fun hc => ?_) (fun hc => ?_)
  · replace H := H.1 hc
    exact Ek.go 2 (fun n => rfl) H
  · replace H := H.2 hc
    exact Ek.go 2 (fun n => rfl) H

/-- RoundVotesModel.clearHeight(II)V, from 21 -/
set_option maxRecDepth 4000 in
theorem T92_21 {v0 : Nat} {v1 : Int32} {v2 : Int32} {v3 : Int32} {v4 : Int32} {v5 : Int32} {h : mH} {K : Option Value → mH → Prop} (H : ((3 : Int32) ≤ v5 → ((mTg h v0 = 12) ∧ (∃ p2, mP h v0 21 = some p2 ∧ ((¬ 2 = 0) ∧ ((mTg h p2 = 20 ∧ ¬ ((((((2 * v1) + (v2 - v2 / 2 * 2)) * 30) + v3) * 10) + v4) < 0 ∧ (((((((2 * v1) + (v2 - v2 / 2 * 2)) * 30) + v3) * 10) + v4).toNatClampNeg) < mLn h p2) ∧ (∀ h5, h5 = wI h p2 (((((((2 * v1) + (v2 - v2 / 2 * 2)) * 30) + v3) * 10) + v4).toNatClampNeg) (-9) → (Ek 92 11 [some (.ref v0), some (.int v1), some (.int v2), some (.int v3), some (.int (v4 + 1)), some (.int v5)] [] h5 K))))))) ∧ (¬ (3 : Int32) ≤ v5 → ((mTg h v0 = 12) ∧ (∃ p8, mP h v0 20 = some p8 ∧ ((¬ 2 = 0) ∧ ((mTg h p8 = 20 ∧ ¬ ((((((((2 * v1) + (v2 - v2 / 2 * 2)) * 30) + v3) * 10) + v4) * 3) + v5) < 0 ∧ (((((((((2 * v1) + (v2 - v2 / 2 * 2)) * 30) + v3) * 10) + v4) * 3) + v5).toNatClampNeg) < mLn h p8) ∧ (∀ h11, h11 = wI h p8 (((((((((2 * v1) + (v2 - v2 / 2 * 2)) * 30) + v3) * 10) + v4) * 3) + v5).toNatClampNeg) (-1) → (Ek 92 21 [some (.ref v0), some (.int v1), some (.int v2), some (.int v3), some (.int v4), some (.int (v5 + 1))] [] h11 K)))))))) : Ek 92 21 [some (.ref v0), some (.int v1), some (.int v2), some (.int v3), some (.int v4), some (.int v5)] [] h K := by
  refine Ek.br 3 (fun n => rfl) (fun hc => ?_) (fun hc => ?_)
  · replace H := H.1 hc
    have c1 := H.1
    refine Ek.chk 2 (fun n => rfl) c1 ?_
    replace H := H.2
    obtain ⟨p2, e3, H⟩ := H
    show Ek _ _ _ (va_rf (mP h v0 21) :: _) _ _
    rw [e3]
    refine Ek.callT 5 (fun n => rfl) c1 ?_
    have c4 := H.1
    refine Ek.nch 6 (fun n => rfl) c4 ?_
    replace H := H.2
    refine Ek.ret 10 (fun n => rfl) ?_
    have c6 := H.1
    refine Ek.chk 2 (fun n => rfl) c6 ?_
    replace H := H.2
    let h5 : mH := wI h p2 (((((((2 * v1) + (v2 - v2 / 2 * 2)) * 30) + v3) * 10) + v4).toNatClampNeg) (-9)
    replace H := H h5 rfl
    show Ek _ _ _ _ h5 _
    exact Ek.go 2 (fun n => rfl) H
  · replace H := H.2 hc
    have c7 := H.1
    refine Ek.chk 2 (fun n => rfl) c7 ?_
    replace H := H.2
    obtain ⟨p8, e9, H⟩ := H
    show Ek _ _ _ (va_rf (mP h v0 20) :: _) _ _
    rw [e9]
    refine Ek.callT 6 (fun n => rfl) c7 ?_
    have c10 := H.1
    refine Ek.nch 6 (fun n => rfl) c10 ?_
    replace H := H.2
    refine Ek.ret 14 (fun n => rfl) ?_
    have c12 := H.1
    refine Ek.chk 2 (fun n => rfl) c12 ?_
    replace H := H.2
    let h11 : mH := wI h p8 (((((((((2 * v1) + (v2 - v2 / 2 * 2)) * 30) + v3) * 10) + v4) * 3) + v5).toNatClampNeg) (-1)
    replace H := H h11 rfl
    show Ek _ _ _ _ h11 _
    exact Ek.go 2 (fun n => rfl) H

/-- RoundVotesModel.place(IIIII)I, from 0 -/
set_option maxRecDepth 4000 in
theorem T93 {a0 : Nat} {a1 : Int32} {a2 : Int32} {a3 : Int32} {a4 : Int32} {a5 : Int32} {h : mH} {K : Option Value → mH → Prop} (H : (¬ 2 = 0) ∧ (K (some (.int ((((((((2 * a1) + (a2 - a2 / 2 * 2)) * 30) + a3) * 10) + a4) * 3) + a5))) h)) : Ek 93 0 [some (.ref a0), some (.int a1), some (.int a2), some (.int a3), some (.int a4), some (.int a5)] [] h K := by
  have c1 := H.1
  refine Ek.nch 6 (fun n => rfl) c1 ?_
  replace H := H.2
  exact Ek.ret 14 (fun n => rfl) H

/-- RoundVotesModel.roundPlace(IIII)I, from 0 -/
set_option maxRecDepth 4000 in
theorem T94 {a0 : Nat} {a1 : Int32} {a2 : Int32} {a3 : Int32} {a4 : Int32} {h : mH} {K : Option Value → mH → Prop} (H : (¬ 2 = 0) ∧ (K (some (.int ((((((2 * a1) + (a2 - a2 / 2 * 2)) * 30) + a3) * 10) + a4))) h)) : Ek 94 0 [some (.ref a0), some (.int a1), some (.int a2), some (.int a3), some (.int a4)] [] h K := by
  have c1 := H.1
  refine Ek.nch 6 (fun n => rfl) c1 ?_
  replace H := H.2
  exact Ek.ret 10 (fun n => rfl) H

/-- RoundVotesModel.clearSigned(I)V, from 0 -/
set_option maxRecDepth 4000 in
theorem T95 {a0 : Nat} {a1 : Int32} {h : mH} {K : Option Value → mH → Prop} (H : Ek 95 2 [some (.ref a0), some (.int a1), some (.int 0)] [] h K) : Ek 95 0 [some (.ref a0), some (.int a1), none] [] h K := by
  exact Ek.go 2 (fun n => rfl) H

/-- RoundVotesModel.clearSigned(I)V, from 2 -/
set_option maxRecDepth 4000 in
theorem T95_2 {v0 : Nat} {v1 : Int32} {v2 : Int32} {h : mH} {K : Option Value → mH → Prop} (H : ((90 : Int32) ≤ v2 → (K none h)) ∧ (¬ (90 : Int32) ≤ v2 → ((mTg h v0 = 12) ∧ (∃ p2, mP h v0 22 = some p2 ∧ ((mTg h p2 = 20 ∧ ¬ ((90 * v1) + v2) < 0 ∧ (((90 * v1) + v2).toNatClampNeg) < mLn h p2) ∧ (∀ h4, h4 = wI h p2 (((90 * v1) + v2).toNatClampNeg) (-1) → (∃ p6, mP h v0 23 = some p6 ∧ ((mTg h p6 = 20 ∧ ¬ ((90 * v1) + v2) < 0 ∧ (((90 * v1) + v2).toNatClampNeg) < mLn h p6) ∧ (∀ h8, h8 = wI h4 p6 (((90 * v1) + v2).toNatClampNeg) (-9) → (Ek 95 2 [some (.ref v0), some (.int v1), some (.int (v2 + 1))] [] h8 K)))))))))) : Ek 95 2 [some (.ref v0), some (.int v1), some (.int v2)] [] h K := by
  refine Ek.br 3 (fun n => rfl) (fun hc => ?_) (fun hc => ?_)
  · replace H := H.1 hc
    exact Ek.ret 1 (fun n => rfl) H
  · replace H := H.2 hc
    have c1 := H.1
    refine Ek.chk 2 (fun n => rfl) c1 ?_
    replace H := H.2
    obtain ⟨p2, e3, H⟩ := H
    show Ek _ _ _ (va_rf (mP h v0 22) :: _) _ _
    rw [e3]
    have c5 := H.1
    refine Ek.chk 7 (fun n => rfl) c5 ?_
    replace H := H.2
    let h4 : mH := wI h p2 (((90 * v1) + v2).toNatClampNeg) (-1)
    replace H := H h4 rfl
    show Ek _ _ _ _ h4 _
    refine Ek.chk 2 (fun n => rfl) c1 ?_
    obtain ⟨p6, e7, H⟩ := H
    show Ek _ _ _ (va_rf (mP h v0 23) :: _) _ _
    rw [e7]
    have c9 := H.1
    refine Ek.chk 7 (fun n => rfl) c9 ?_
    replace H := H.2
    let h8 : mH := wI h4 p6 (((90 * v1) + v2).toNatClampNeg) (-9)
    replace H := H h8 rfl
    show Ek _ _ _ _ h8 _
    exact Ek.go 2 (fun n => rfl) H

/-- RoundVotesModel.turn(I)I, from 0 -/
set_option maxRecDepth 4000 in
theorem T96 {a0 : Nat} {a1 : Int32} {h : mH} {K : Option Value → mH → Prop} (H : (mTg h a0 = 12) ∧ (∀ h1, h1 = wI h a0 0 0 → (((lg_cmp (a1).toInt64 1) < 0 → (K (some (.int (-1))) h1)) ∧ (¬ (lg_cmp (a1).toInt64 1) < 0 → (((0 : Int32) < (lg_cmp (a1).toInt64 100) → (K (some (.int (-1))) h1)) ∧ (¬ (0 : Int32) < (lg_cmp (a1).toInt64 100) → (Ek 96 21 [some (.ref a0), some (.int a1), some (.int 0)] [] h1 K))))))) : Ek 96 0 [some (.ref a0), some (.int a1), none] [] h K := by
  have c2 := H.1
  refine Ek.chk 3 (fun n => rfl) c2 ?_
  replace H := H.2
  let h1 : mH := wI h a0 0 0
  replace H := H h1 rfl
  show Ek _ _ _ _ h1 _
  refine Ek.call 4 (fun n => rfl) ?_
  refine Ek.br 4 (fun n => rfl) (fun hc => ?_) (fun hc => ?_)
  · replace H := H.1 hc
    refine Ek.ret 2 (fun n => rfl) ?_
    exact Ek.ret 3 (fun n => rfl) H
  · replace H := H.2 hc
    refine Ek.br 4 (fun n => rfl) (fun hc => ?_) (fun hc => ?_)
    · replace H := H.1 hc
      refine Ek.ret 2 (fun n => rfl) ?_
      exact Ek.ret 3 (fun n => rfl) H
    · replace H := H.2 hc
      refine Ek.ret 3 (fun n => rfl) ?_
      exact Ek.go 3 (fun n => rfl) H

/-- RoundVotesModel.turn(I)I, from 21 -/
set_option maxRecDepth 4000 in
theorem T96_21 {v0 : Nat} {v1 : Int32} {v2 : Int32} {h : mH} {K : Option Value → mH → Prop} (H : (v1 ≤ v2 → ((mTg h v0 = 12) ∧ (K (some (.int (mI h v0 3))) h))) ∧ (¬ v1 ≤ v2 → ((mTg h v0 = 12) ∧ (Ek 98 0 [some (.ref v0), none, none, none] [] h (fun r h3 => r = none ∧ (Ek 96 21 [some (.ref v0), some (.int v1), some (.int (v2 + 1))] [] h3 K)))))) : Ek 96 21 [some (.ref v0), some (.int v1), some (.int v2)] [] h K := by
  refine Ek.br 3 (fun n => rfl) (fun hc => ?_) (fun hc => ?_)
  · replace H := H.1 hc
    have c1 := H.1
    refine Ek.chk 2 (fun n => rfl) c1 ?_
    replace H := H.2
    exact Ek.ret 1 (fun n => rfl) H
  · replace H := H.2 hc
    have c2 := H.1
    refine Ek.callT 1 (fun n => rfl) c2 ?_
    replace H := H.2
    refine Ek.mono H ?_
    rintro _ h3 ⟨rfl, H⟩
    exact Ek.go 2 (fun n => rfl) H

/-- RoundVotesModel.in(JJJ)Z, from 0 -/
set_option maxRecDepth 4000 in
theorem T97 {a1 : Int64} {a2 : Int64} {a3 : Int64} {h : mH} {K : Option Value → mH → Prop} (H : ((lg_cmp a1 a2) < 0 → (K (some (.int 0)) h)) ∧ (¬ (lg_cmp a1 a2) < 0 → (((0 : Int32) < (lg_cmp a1 a3) → (K (some (.int 0)) h)) ∧ (¬ (0 : Int32) < (lg_cmp a1 a3) → (K (some (.int 1)) h))))) : Ek 97 0 [some (.long a1), none, some (.long a2), none, some (.long a3), none] [] h K := by
  refine Ek.br 4 (fun n => rfl) (fun hc => ?_) (fun hc => ?_)
  · replace H := H.1 hc
    exact Ek.ret 2 (fun n => rfl) H
  · replace H := H.2 hc
    refine Ek.br 4 (fun n => rfl) (fun hc => ?_) (fun hc => ?_)
    · replace H := H.1 hc
      exact Ek.ret 2 (fun n => rfl) H
    · replace H := H.2 hc
      exact Ek.ret 3 (fun n => rfl) H

/-- RoundVotesModel.oneTurn()V, from 0 -/
set_option maxRecDepth 4000 in
theorem T98 {a0 : Nat} {h : mH} {K : Option Value → mH → Prop} (H : (mTg h a0 = 12) ∧ (∀ h2, h2 = wI h a0 3 ((mI h a0 3) + 1) → (((mI h2 a0 3) = 1 → (Ek 98 20 [some (.ref a0), some (.int 0), none, none] [] h2 K)) ∧ (¬ (mI h2 a0 3) = 1 → (Ek 98 47 [some (.ref a0), some (.int 0), none, none] [] h2 K))))) : Ek 98 0 [some (.ref a0), none, none, none] [] h K := by
  have c1 := H.1
  refine Ek.chk 3 (fun n => rfl) c1 ?_
  replace H := H.2
  refine Ek.chk 3 (fun n => rfl) c1 ?_
  let h2 : mH := wI h a0 3 ((mI h a0 3) + 1)
  replace H := H h2 rfl
  show Ek _ _ _ _ h2 _
  refine Ek.chk 2 (fun n => rfl) c1 ?_
  refine Ek.br 2 (fun n => rfl) (fun hc => ?_) (fun hc => ?_)
  · replace H := H.1 hc
    exact Ek.go 2 (fun n => rfl) H
  · replace H := H.2 hc
    exact Ek.go 2 (fun n => rfl) H

/-- RoundVotesModel.oneTurn()V, from 20 -/
set_option maxRecDepth 4000 in
theorem T98_20 {v0 : Nat} {v1 : Int32} {h : mH} {K : Option Value → mH → Prop} (H : (mTg h v0 = 12) ∧ (((mI h v0 1) ≤ v1 → (Ek 98 47 [some (.ref v0), some (.int 0), none, none] [] h K)) ∧ (¬ (mI h v0 1) ≤ v1 → (Ek 99 0 [some (.ref v0), some (.int v1), some (.int 0), none] [] h (fun r h2 => r = none ∧ ((mTg h2 v0 = 12) ∧ (Ek 111 0 [some (.ref v0), some (.int v1), none] [] h2 (fun r h4 => r = none ∧ (Ek 98 20 [some (.ref v0), some (.int (v1 + 1)), none, none] [] h4 K))))))))) : Ek 98 20 [some (.ref v0), some (.int v1), none, none] [] h K := by
  have c1 := H.1
  refine Ek.chk 3 (fun n => rfl) c1 ?_
  replace H := H.2
  refine Ek.br 1 (fun n => rfl) (fun hc => ?_) (fun hc => ?_)
  · replace H := H.1 hc
    exact Ek.go 2 (fun n => rfl) H
  · replace H := H.2 hc
    refine Ek.callT 3 (fun n => rfl) c1 ?_
    refine Ek.mono H ?_
    rintro _ h2 ⟨rfl, H⟩
    have c3 := H.1
    refine Ek.callT 2 (fun n => rfl) c3 ?_
    replace H := H.2
    refine Ek.mono H ?_
    rintro _ h4 ⟨rfl, H⟩
    exact Ek.go 2 (fun n => rfl) H

/-- RoundVotesModel.oneTurn()V, from 47 -/
set_option maxRecDepth 4000 in
theorem T98_47 {v0 : Nat} {v1 : Int32} {h : mH} {K : Option Value → mH → Prop} (H : (mTg h v0 = 12) ∧ (((mI h v0 1) ≤ v1 → (Ek 127 0 [some (.ref v0), some (.int 0), some (.int (mI h v0 37)), none, none] [] h (fun r h2 => r = none ∧ ((mTg h2 v0 = 12) ∧ (Ek 127 0 [some (.ref v0), some (.int 1), some (.int (mI h v0 37)), none, none] [] h2 (fun r h4 => r = none ∧ (Ek 98 107 [some (.ref v0), some (.int (mI h v0 37)), some (.int 0), none] [] h4 K))))))) ∧ (¬ (mI h v0 1) ≤ v1 → (∃ p5, mP h v0 13 = some p5 ∧ ((mTg h p5 = 21 ∧ ¬ v1 < 0 ∧ (v1.toNatClampNeg) < mLn h p5) ∧ (((mI h p5 (v1.toNatClampNeg)) = 0 → (Ek 98 47 [some (.ref v0), some (.int (v1 + 1)), none, none] [] h K)) ∧ (¬ (mI h p5 (v1.toNatClampNeg)) = 0 → (∃ p8, mP h v0 12 = some p8 ∧ (((mTg h p8 = 20 ∨ mTg h p8 = 30) ∧ ¬ v1 < 0 ∧ (v1.toNatClampNeg) < mLn h p8) ∧ (((mI h v0 3) ≤ (mI h p8 (v1.toNatClampNeg)) → (Ek 98 47 [some (.ref v0), some (.int (v1 + 1)), none, none] [] h K)) ∧ (¬ (mI h v0 3) ≤ (mI h p8 (v1.toNatClampNeg)) → (Ek 126 0 [some (.ref v0), some (.int v1), none, none, none] [] h (fun r h11 => r = none ∧ (Ek 98 47 [some (.ref v0), some (.int (v1 + 1)), none, none] [] h11 K)))))))))))))) : Ek 98 47 [some (.ref v0), some (.int v1), none, none] [] h K := by
  have c1 := H.1
  refine Ek.chk 3 (fun n => rfl) c1 ?_
  replace H := H.2
  refine Ek.br 1 (fun n => rfl) (fun hc => ?_) (fun hc => ?_)
  · replace H := H.1 hc
    refine Ek.chk 2 (fun n => rfl) c1 ?_
    refine Ek.callT 4 (fun n => rfl) c1 ?_
    refine Ek.mono H ?_
    rintro _ h2 ⟨rfl, H⟩
    have c3 := H.1
    refine Ek.callT 3 (fun n => rfl) c3 ?_
    replace H := H.2
    refine Ek.mono H ?_
    rintro _ h4 ⟨rfl, H⟩
    exact Ek.go 2 (fun n => rfl) H
  · replace H := H.2 hc
    refine Ek.chk 2 (fun n => rfl) c1 ?_
    obtain ⟨p5, e6, H⟩ := H
    show Ek _ _ _ (va_rf (mP h v0 13) :: _) _ _
    rw [e6]
    have c7 := H.1
    refine Ek.chk 2 (fun n => rfl) c7 ?_
    replace H := H.2
    refine Ek.br 1 (fun n => rfl) (fun hc => ?_) (fun hc => ?_)
    · replace H := H.1 hc
      exact Ek.go 2 (fun n => rfl) H
    · replace H := H.2 hc
      refine Ek.chk 2 (fun n => rfl) c1 ?_
      obtain ⟨p8, e9, H⟩ := H
      show Ek _ _ _ (va_rf (mP h v0 12) :: _) _ _
      rw [e9]
      have c10 := H.1
      refine Ek.chk 2 (fun n => rfl) c10 ?_
      replace H := H.2
      refine Ek.chk 2 (fun n => rfl) c1 ?_
      refine Ek.br 1 (fun n => rfl) (fun hc => ?_) (fun hc => ?_)
      · replace H := H.1 hc
        exact Ek.go 2 (fun n => rfl) H
      · replace H := H.2 hc
        refine Ek.callT 2 (fun n => rfl) c1 ?_
        refine Ek.mono H ?_
        rintro _ h11 ⟨rfl, H⟩
        exact Ek.go 2 (fun n => rfl) H

/-- RoundVotesModel.oneTurn()V, from 107 -/
set_option maxRecDepth 4000 in
theorem T98_107 {v0 : Nat} {v1 : Int32} {v2 : Int32} {h : mH} {K : Option Value → mH → Prop} (H : (mTg h v0 = 12) ∧ (((mI h v0 1) ≤ v2 → (Ek 129 0 [some (.ref v0), none, none] [] h (fun r h2 => r = none ∧ (K none h2)))) ∧ (¬ (mI h v0 1) ≤ v2 → (Ek 98 117 [some (.ref v0), some (.int v1), some (.int v2), some (.int 0)] [] h K)))) : Ek 98 107 [some (.ref v0), some (.int v1), some (.int v2), none] [] h K := by
  have c1 := H.1
  refine Ek.chk 3 (fun n => rfl) c1 ?_
  replace H := H.2
  refine Ek.br 1 (fun n => rfl) (fun hc => ?_) (fun hc => ?_)
  · replace H := H.1 hc
    refine Ek.callT 1 (fun n => rfl) c1 ?_
    refine Ek.mono H ?_
    rintro _ h2 ⟨rfl, H⟩
    exact Ek.ret 1 (fun n => rfl) H
  · replace H := H.2 hc
    exact Ek.go 2 (fun n => rfl) H

/-- RoundVotesModel.oneTurn()V, from 117 -/
set_option maxRecDepth 4000 in
theorem T98_117 {v0 : Nat} {v1 : Int32} {v2 : Int32} {v3 : Int32} {h : mH} {K : Option Value → mH → Prop} (H : ((3 : Int32) ≤ v3 → (Ek 98 107 [some (.ref v0), some (.int v1), some (.int (v2 + 1)), some (.int v3)] [] h K)) ∧ (¬ (3 : Int32) ≤ v3 → ((mTg h v0 = 12) ∧ (Ek 128 0 [some (.ref v0), some (.int v2), some (.int v3)] [] h (fun r h2 => r = none ∧ (Ek 98 117 [some (.ref v0), some (.int v1), some (.int v2), some (.int (v3 + 1))] [] h2 K)))))) : Ek 98 117 [some (.ref v0), some (.int v1), some (.int v2), some (.int v3)] [] h K := by
  refine Ek.br 3 (fun n => rfl) (fun hc => ?_) (fun hc => ?_)
  · replace H := H.1 hc
    exact Ek.go 2 (fun n => rfl) H
  · replace H := H.2 hc
    have c1 := H.1
    refine Ek.callT 3 (fun n => rfl) c1 ?_
    replace H := H.2
    refine Ek.mono H ?_
    rintro _ h2 ⟨rfl, H⟩
    exact Ek.go 2 (fun n => rfl) H

/-- RoundVotesModel.begin(II)V, from 0 -/
set_option maxRecDepth 4000 in
theorem T99 {a0 : Nat} {a1 : Int32} {a2 : Int32} {h : mH} {K : Option Value → mH → Prop} (H : (a2 < 30 → ((mTg h a0 = 12) ∧ (∃ p2, mP h a0 6 = some p2 ∧ ((mTg h p2 = 20 ∧ ¬ a1 < 0 ∧ (a1.toNatClampNeg) < mLn h p2) ∧ (∀ h4, h4 = wI h p2 (a1.toNatClampNeg) a2 → (∃ p6, mP h a0 7 = some p6 ∧ ((mTg h p6 = 20 ∧ ¬ a1 < 0 ∧ (a1.toNatClampNeg) < mLn h p6) ∧ (∀ h8, h8 = wI h4 p6 (a1.toNatClampNeg) 0 → (Ek 99 23 [some (.ref a0), some (.int a1), some (.int a2), some (.int 0)] [] h8 K))))))))) ∧ (¬ a2 < 30 → (K none h))) : Ek 99 0 [some (.ref a0), some (.int a1), some (.int a2), none] [] h K := by
  refine Ek.br 3 (fun n => rfl) (fun hc => ?_) (fun hc => ?_)
  · replace H := H.1 hc
    have c1 := H.1
    refine Ek.chk 2 (fun n => rfl) c1 ?_
    replace H := H.2
    obtain ⟨p2, e3, H⟩ := H
    show Ek _ _ _ (va_rf (mP h a0 6) :: _) _ _
    rw [e3]
    have c5 := H.1
    refine Ek.chk 3 (fun n => rfl) c5 ?_
    replace H := H.2
    let h4 : mH := wI h p2 (a1.toNatClampNeg) a2
    replace H := H h4 rfl
    show Ek _ _ _ _ h4 _
    refine Ek.chk 2 (fun n => rfl) c1 ?_
    obtain ⟨p6, e7, H⟩ := H
    show Ek _ _ _ (va_rf (mP h a0 7) :: _) _ _
    rw [e7]
    have c9 := H.1
    refine Ek.chk 3 (fun n => rfl) c9 ?_
    replace H := H.2
    let h8 : mH := wI h4 p6 (a1.toNatClampNeg) 0
    replace H := H h8 rfl
    show Ek _ _ _ _ h8 _
    exact Ek.go 2 (fun n => rfl) H
  · replace H := H.2 hc
    exact Ek.ret 1 (fun n => rfl) H

/-- RoundVotesModel.begin(II)V, from 23 -/
set_option maxRecDepth 4000 in
theorem T99_23 {v0 : Nat} {v1 : Int32} {v2 : Int32} {v3 : Int32} {h : mH} {K : Option Value → mH → Prop} (H : ((3 : Int32) ≤ v3 → ((mTg h v0 = 12) ∧ (∃ p2, mP h v0 16 = some p2 ∧ ((mTg h p2 = 21 ∧ ((0 : Int32) = 0 ∨ (0 : Int32) = 1) ∧ ¬ v1 < 0 ∧ (v1.toNatClampNeg) < mLn h p2) ∧ (∀ h4, h4 = wI h p2 (v1.toNatClampNeg) 0 → (∃ p6, mP h v0 17 = some p6 ∧ ((mTg h p6 = 21 ∧ ((0 : Int32) = 0 ∨ (0 : Int32) = 1) ∧ ¬ v1 < 0 ∧ (v1.toNatClampNeg) < mLn h p6) ∧ (∀ h8, h8 = wI h4 p6 (v1.toNatClampNeg) 0 → (∃ p10, mP h v0 18 = some p10 ∧ ((mTg h p10 = 21 ∧ ((0 : Int32) = 0 ∨ (0 : Int32) = 1) ∧ ¬ v1 < 0 ∧ (v1.toNatClampNeg) < mLn h p10) ∧ (∀ h12, h12 = wI h8 p10 (v1.toNatClampNeg) 0 → (∃ p14, mP h v0 5 = some p14 ∧ (((mTg h p14 = 20 ∨ mTg h p14 = 30) ∧ ¬ v1 < 0 ∧ (v1.toNatClampNeg) < mLn h p14) ∧ ((¬ (mI h12 v0 1) = 0) ∧ (((((mI h12 p14 (v1.toNatClampNeg)) + v2) - ((mI h12 p14 (v1.toNatClampNeg)) + v2) / (mI h12 v0 1) * (mI h12 v0 1)) = v1 → (∃ p18, mP h v0 11 = some p18 ∧ (((mTg h p18 = 20 ∨ mTg h p18 = 30) ∧ ¬ v1 < 0 ∧ (v1.toNatClampNeg) < mLn h p18) ∧ (((mI h12 p18 (v1.toNatClampNeg)) < 0 → (Ek 101 0 [some (.ref v0), some (.int v1), some (.int 0), some (.int (2 + (2 * (((((mI h12 v0 2) ^^^ (7919 * v1)) ^^^ (104729 * (mI h12 p14 (v1.toNatClampNeg)))) ^^^ (1299709 * v2)) &&& 1048575)))), some (.int (-1)), none, none, none, none, none, none, none] [] h12 (fun r h22 => r = none ∧ ((mTg h22 v0 = 12) ∧ (∃ p24, mP h22 v0 15 = some p24 ∧ ((mTg h22 p24 = 20 ∧ ¬ (3 * v1) < 0 ∧ ((3 * v1).toNatClampNeg) < mLn h22 p24) ∧ (∀ h26, h26 = wI h22 p24 ((3 * v1).toNatClampNeg) (((mI h22 v0 3) + 4) + v2) → (K none h26)))))))) ∧ (¬ (mI h12 p18 (v1.toNatClampNeg)) < 0 → (∃ p28, mP h v0 10 = some p28 ∧ (((mTg h p28 = 20 ∨ mTg h p28 = 30) ∧ ¬ v1 < 0 ∧ (v1.toNatClampNeg) < mLn h p28) ∧ (Ek 101 0 [some (.ref v0), some (.int v1), some (.int 0), some (.int (mI h12 p28 (v1.toNatClampNeg))), some (.int (mI h12 p18 (v1.toNatClampNeg))), none, none, none, none, none, none, none] [] h12 (fun r h32 => r = none ∧ ((mTg h32 v0 = 12) ∧ (∃ p34, mP h32 v0 15 = some p34 ∧ ((mTg h32 p34 = 20 ∧ ¬ (3 * v1) < 0 ∧ ((3 * v1).toNatClampNeg) < mLn h32 p34) ∧ (∀ h36, h36 = wI h32 p34 ((3 * v1).toNatClampNeg) (((mI h32 v0 3) + 4) + v2) → (K none h36)))))))))))))) ∧ (¬ (((mI h12 p14 (v1.toNatClampNeg)) + v2) - ((mI h12 p14 (v1.toNatClampNeg)) + v2) / (mI h12 v0 1) * (mI h12 v0 1)) = v1 → (∃ p38, mP h v0 15 = some p38 ∧ ((mTg h p38 = 20 ∧ ¬ (3 * v1) < 0 ∧ ((3 * v1).toNatClampNeg) < mLn h p38) ∧ (∀ h40, h40 = wI h12 p38 ((3 * v1).toNatClampNeg) (((mI h12 v0 3) + 4) + v2) → (K none h40)))))))))))))))))))) ∧ (¬ (3 : Int32) ≤ v3 → ((mTg h v0 = 12) ∧ (∃ p43, mP h v0 15 = some p43 ∧ ((mTg h p43 = 20 ∧ ¬ ((3 * v1) + v3) < 0 ∧ (((3 * v1) + v3).toNatClampNeg) < mLn h p43) ∧ (∀ h45, h45 = wI h p43 (((3 * v1) + v3).toNatClampNeg) 0 → (Ek 99 23 [some (.ref v0), some (.int v1), some (.int v2), some (.int (v3 + 1))] [] h45 K))))))) : Ek 99 23 [some (.ref v0), some (.int v1), some (.int v2), some (.int v3)] [] h K := by
  refine Ek.br 3 (fun n => rfl) (fun hc => ?_) (fun hc => ?_)
  · replace H := H.1 hc
    have c1 := H.1
    refine Ek.chk 2 (fun n => rfl) c1 ?_
    replace H := H.2
    obtain ⟨p2, e3, H⟩ := H
    show Ek _ _ _ (va_rf (mP h v0 16) :: _) _ _
    rw [e3]
    have c5 := H.1
    refine Ek.chk 3 (fun n => rfl) c5 ?_
    replace H := H.2
    let h4 : mH := wI h p2 (v1.toNatClampNeg) 0
    replace H := H h4 rfl
    show Ek _ _ _ _ h4 _
    refine Ek.chk 2 (fun n => rfl) c1 ?_
    obtain ⟨p6, e7, H⟩ := H
    show Ek _ _ _ (va_rf (mP h v0 17) :: _) _ _
    rw [e7]
    have c9 := H.1
    refine Ek.chk 3 (fun n => rfl) c9 ?_
    replace H := H.2
    let h8 : mH := wI h4 p6 (v1.toNatClampNeg) 0
    replace H := H h8 rfl
    show Ek _ _ _ _ h8 _
    refine Ek.chk 2 (fun n => rfl) c1 ?_
    obtain ⟨p10, e11, H⟩ := H
    show Ek _ _ _ (va_rf (mP h v0 18) :: _) _ _
    rw [e11]
    have c13 := H.1
    refine Ek.chk 3 (fun n => rfl) c13 ?_
    replace H := H.2
    let h12 : mH := wI h8 p10 (v1.toNatClampNeg) 0
    replace H := H h12 rfl
    show Ek _ _ _ _ h12 _
    refine Ek.chk 3 (fun n => rfl) c1 ?_
    obtain ⟨p14, e15, H⟩ := H
    show Ek _ _ _ (va_rf (mP h v0 5) :: _) _ _
    rw [e15]
    have c16 := H.1
    refine Ek.chk 2 (fun n => rfl) c16 ?_
    replace H := H.2
    refine Ek.callT 1 (fun n => rfl) c1 ?_
    refine Ek.chk 5 (fun n => rfl) c1 ?_
    have c17 := H.1
    refine Ek.nch 1 (fun n => rfl) c17 ?_
    replace H := H.2
    refine Ek.ret 1 (fun n => rfl) ?_
    refine Ek.br 2 (fun n => rfl) (fun hc => ?_) (fun hc => ?_)
    · replace H := H.1 hc
      refine Ek.chk 2 (fun n => rfl) c1 ?_
      obtain ⟨p18, e19, H⟩ := H
      show Ek _ _ _ (va_rf (mP h v0 11) :: _) _ _
      rw [e19]
      have c20 := H.1
      refine Ek.chk 2 (fun n => rfl) c20 ?_
      replace H := H.2
      refine Ek.br 1 (fun n => rfl) (fun hc => ?_) (fun hc => ?_)
      · replace H := H.1 hc
        refine Ek.chk 7 (fun n => rfl) c1 ?_
        show Ek _ _ _ (va_rf (mP h v0 5) :: _) _ _
        rw [e15]
        refine Ek.chk 2 (fun n => rfl) c16 ?_
        refine Ek.callT 1 (fun n => rfl) c1 ?_
        refine Ek.chk 4 (fun n => rfl) c1 ?_
        refine Ek.ret 17 (fun n => rfl) ?_
        refine Ek.callT 1 (fun n => rfl) c1 ?_
        refine Ek.mono H ?_
        rintro _ h22 ⟨rfl, H⟩
        have c23 := H.1
        refine Ek.chk 2 (fun n => rfl) c23 ?_
        replace H := H.2
        obtain ⟨p24, e25, H⟩ := H
        show Ek _ _ _ (va_rf (mP h22 v0 15) :: _) _ _
        rw [e25]
        refine Ek.chk 5 (fun n => rfl) c23 ?_
        have c27 := H.1
        refine Ek.chk 5 (fun n => rfl) c27 ?_
        replace H := H.2
        let h26 : mH := wI h22 p24 ((3 * v1).toNatClampNeg) (((mI h22 v0 3) + 4) + v2)
        replace H := H h26 rfl
        show Ek _ _ _ _ h26 _
        exact Ek.ret 1 (fun n => rfl) H
      · replace H := H.2 hc
        refine Ek.chk 5 (fun n => rfl) c1 ?_
        obtain ⟨p28, e29, H⟩ := H
        show Ek _ _ _ (va_rf (mP h v0 10) :: _) _ _
        rw [e29]
        have c30 := H.1
        refine Ek.chk 2 (fun n => rfl) c30 ?_
        replace H := H.2
        refine Ek.chk 2 (fun n => rfl) c1 ?_
        show Ek _ _ _ (va_rf (mP h v0 11) :: _) _ _
        rw [e19]
        refine Ek.chk 2 (fun n => rfl) c20 ?_
        refine Ek.callT 0 (fun n => rfl) c1 ?_
        refine Ek.mono H ?_
        rintro _ h32 ⟨rfl, H⟩
        have c33 := H.1
        refine Ek.chk 3 (fun n => rfl) c33 ?_
        replace H := H.2
        obtain ⟨p34, e35, H⟩ := H
        show Ek _ _ _ (va_rf (mP h32 v0 15) :: _) _ _
        rw [e35]
        refine Ek.chk 5 (fun n => rfl) c33 ?_
        have c37 := H.1
        refine Ek.chk 5 (fun n => rfl) c37 ?_
        replace H := H.2
        let h36 : mH := wI h32 p34 ((3 * v1).toNatClampNeg) (((mI h32 v0 3) + 4) + v2)
        replace H := H h36 rfl
        show Ek _ _ _ _ h36 _
        exact Ek.ret 1 (fun n => rfl) H
    · replace H := H.2 hc
      refine Ek.chk 2 (fun n => rfl) c1 ?_
      obtain ⟨p38, e39, H⟩ := H
      show Ek _ _ _ (va_rf (mP h v0 15) :: _) _ _
      rw [e39]
      refine Ek.chk 5 (fun n => rfl) c1 ?_
      have c41 := H.1
      refine Ek.chk 5 (fun n => rfl) c41 ?_
      replace H := H.2
      let h40 : mH := wI h12 p38 ((3 * v1).toNatClampNeg) (((mI h12 v0 3) + 4) + v2)
      replace H := H h40 rfl
      show Ek _ _ _ _ h40 _
      exact Ek.ret 1 (fun n => rfl) H
  · replace H := H.2 hc
    have c42 := H.1
    refine Ek.chk 2 (fun n => rfl) c42 ?_
    replace H := H.2
    obtain ⟨p43, e44, H⟩ := H
    show Ek _ _ _ (va_rf (mP h v0 15) :: _) _ _
    rw [e44]
    have c46 := H.1
    refine Ek.chk 7 (fun n => rfl) c46 ?_
    replace H := H.2
    let h45 : mH := wI h p43 (((3 * v1) + v3).toNatClampNeg) 0
    replace H := H h45 rfl
    show Ek _ _ _ _ h45 _
    exact Ek.go 2 (fun n => rfl) H

/-- RoundVotesModel.proposer(II)I, from 0 -/
set_option maxRecDepth 4000 in
theorem T100 {a0 : Nat} {a1 : Int32} {a2 : Int32} {h : mH} {K : Option Value → mH → Prop} (H : (mTg h a0 = 12) ∧ ((¬ (mI h a0 1) = 0) ∧ (K (some (.int ((a1 + a2) - (a1 + a2) / (mI h a0 1) * (mI h a0 1)))) h))) : Ek 100 0 [some (.ref a0), some (.int a1), some (.int a2)] [] h K := by
  have c1 := H.1
  refine Ek.chk 5 (fun n => rfl) c1 ?_
  replace H := H.2
  have c2 := H.1
  refine Ek.nch 1 (fun n => rfl) c2 ?_
  replace H := H.2
  exact Ek.ret 1 (fun n => rfl) H

/-- RoundVotesModel.send(IIII)V, from 0 -/
set_option maxRecDepth 4000 in
theorem T101 {a0 : Nat} {a1 : Int32} {a2 : Int32} {a3 : Int32} {a4 : Int32} {h : mH} {K : Option Value → mH → Prop} (H : (mTg h a0 = 12) ∧ (∃ p2, mP h a0 5 = some p2 ∧ (((mTg h p2 = 20 ∨ mTg h p2 = 30) ∧ ¬ a1 < 0 ∧ (a1.toNatClampNeg) < mLn h p2) ∧ (∃ p5, mP h a0 6 = some p5 ∧ (((mTg h p5 = 20 ∨ mTg h p5 = 30) ∧ ¬ a1 < 0 ∧ (a1.toNatClampNeg) < mLn h p5) ∧ (∃ p8, mP h a0 14 = some p8 ∧ (((mTg h p8 = 20 ∨ mTg h p8 = 30) ∧ ¬ a1 < 0 ∧ (a1.toNatClampNeg) < mLn h p8) ∧ (((mI h p8 (a1.toNatClampNeg)) = 5 → ((a2 ≤ 0 → (Ek 101 34 [some (.ref a0), some (.int a1), some (.int a2), some (.int a3), some (.int a4), some (.int (mI h p2 (a1.toNatClampNeg))), some (.int (mI h p5 (a1.toNatClampNeg))), none, none, none, none, none] [] h K)) ∧ (¬ a2 ≤ 0 → (((mI h p8 (a1.toNatClampNeg)) = 4 → (Ek 101 113 [some (.ref a0), some (.int a1), some (.int a2), some (.int a3), some (.int a4), some (.int (mI h p2 (a1.toNatClampNeg))), some (.int (mI h p5 (a1.toNatClampNeg))), some (.int 0), some (.int a4), some (.int (((90 * a1) + (3 * (mI h p5 (a1.toNatClampNeg)))) + a2)), none, none] [] h K)) ∧ (¬ (mI h p8 (a1.toNatClampNeg)) = 4 → (∃ p12, mP h a0 22 = some p12 ∧ (((mTg h p12 = 20 ∨ mTg h p12 = 30) ∧ ¬ (((90 * a1) + (3 * (mI h p5 (a1.toNatClampNeg)))) + a2) < 0 ∧ ((((90 * a1) + (3 * (mI h p5 (a1.toNatClampNeg)))) + a2).toNatClampNeg) < mLn h p12) ∧ (((mI h p12 ((((90 * a1) + (3 * (mI h p5 (a1.toNatClampNeg)))) + a2).toNatClampNeg)) < 0 → ((mTg h p12 = 20 ∧ ¬ (((90 * a1) + (3 * (mI h p5 (a1.toNatClampNeg)))) + a2) < 0 ∧ ((((90 * a1) + (3 * (mI h p5 (a1.toNatClampNeg)))) + a2).toNatClampNeg) < mLn h p12) ∧ (∀ h16, h16 = wI h p12 ((((90 * a1) + (3 * (mI h p5 (a1.toNatClampNeg)))) + a2).toNatClampNeg) 0 → (∃ p18, mP h a0 23 = some p18 ∧ ((mTg h p18 = 20 ∧ ¬ (((90 * a1) + (3 * (mI h p5 (a1.toNatClampNeg)))) + a2) < 0 ∧ ((((90 * a1) + (3 * (mI h p5 (a1.toNatClampNeg)))) + a2).toNatClampNeg) < mLn h p18) ∧ (∀ h20, h20 = wI h16 p18 ((((90 * a1) + (3 * (mI h p5 (a1.toNatClampNeg)))) + a2).toNatClampNeg) a4 → (Ek 101 113 [some (.ref a0), some (.int a1), some (.int a2), some (.int a3), some (.int a4), some (.int (mI h p2 (a1.toNatClampNeg))), some (.int (mI h p5 (a1.toNatClampNeg))), some (.int 0), some (.int a4), some (.int (((90 * a1) + (3 * (mI h p5 (a1.toNatClampNeg)))) + a2)), none, none] [] h20 K))))))) ∧ (¬ (mI h p12 ((((90 * a1) + (3 * (mI h p5 (a1.toNatClampNeg)))) + a2).toNatClampNeg)) < 0 → (∃ p23, mP h a0 23 = some p23 ∧ (((mTg h p23 = 20 ∨ mTg h p23 = 30) ∧ ¬ (((90 * a1) + (3 * (mI h p5 (a1.toNatClampNeg)))) + a2) < 0 ∧ ((((90 * a1) + (3 * (mI h p5 (a1.toNatClampNeg)))) + a2).toNatClampNeg) < mLn h p23) ∧ (Ek 101 113 [some (.ref a0), some (.int a1), some (.int a2), some (.int a3), some (.int a4), some (.int (mI h p2 (a1.toNatClampNeg))), some (.int (mI h p5 (a1.toNatClampNeg))), some (.int (mI h p12 ((((90 * a1) + (3 * (mI h p5 (a1.toNatClampNeg)))) + a2).toNatClampNeg))), some (.int (mI h p23 ((((90 * a1) + (3 * (mI h p5 (a1.toNatClampNeg)))) + a2).toNatClampNeg))), some (.int (((90 * a1) + (3 * (mI h p5 (a1.toNatClampNeg)))) + a2)), none, none] [] h K)))))))))))) ∧ (¬ (mI h p8 (a1.toNatClampNeg)) = 5 → (Ek 101 34 [some (.ref a0), some (.int a1), some (.int a2), some (.int a3), some (.int a4), some (.int (mI h p2 (a1.toNatClampNeg))), some (.int (mI h p5 (a1.toNatClampNeg))), none, none, none, none, none] [] h K)))))))))) : Ek 101 0 [some (.ref a0), some (.int a1), some (.int a2), some (.int a3), some (.int a4), none, none, none, none, none, none, none] [] h K := by
  have c1 := H.1
  refine Ek.chk 2 (fun n => rfl) c1 ?_
  replace H := H.2
  obtain ⟨p2, e3, H⟩ := H
  show Ek _ _ _ (va_rf (mP h a0 5) :: _) _ _
  rw [e3]
  have c4 := H.1
  refine Ek.chk 2 (fun n => rfl) c4 ?_
  replace H := H.2
  refine Ek.chk 3 (fun n => rfl) c1 ?_
  obtain ⟨p5, e6, H⟩ := H
  show Ek _ _ _ (va_rf (mP h a0 6) :: _) _ _
  rw [e6]
  have c7 := H.1
  refine Ek.chk 2 (fun n => rfl) c7 ?_
  replace H := H.2
  refine Ek.chk 3 (fun n => rfl) c1 ?_
  obtain ⟨p8, e9, H⟩ := H
  show Ek _ _ _ (va_rf (mP h a0 14) :: _) _ _
  rw [e9]
  have c10 := H.1
  refine Ek.chk 2 (fun n => rfl) c10 ?_
  replace H := H.2
  refine Ek.br 2 (fun n => rfl) (fun hc => ?_) (fun hc => ?_)
  · replace H := H.1 hc
    refine Ek.br 2 (fun n => rfl) (fun hc => ?_) (fun hc => ?_)
    · replace H := H.1 hc
      exact H
    · replace H := H.2 hc
      refine Ek.chk 17 (fun n => rfl) c1 ?_
      show Ek _ _ _ (va_rf (mP h a0 14) :: _) _ _
      rw [e9]
      refine Ek.chk 2 (fun n => rfl) c10 ?_
      refine Ek.br 2 (fun n => rfl) (fun hc => ?_) (fun hc => ?_)
      · replace H := H.1 hc
        exact H
      · replace H := H.2 hc
        refine Ek.chk 2 (fun n => rfl) c1 ?_
        obtain ⟨p12, e13, H⟩ := H
        show Ek _ _ _ (va_rf (mP h a0 22) :: _) _ _
        rw [e13]
        have c14 := H.1
        refine Ek.chk 2 (fun n => rfl) c14 ?_
        replace H := H.2
        refine Ek.br 1 (fun n => rfl) (fun hc => ?_) (fun hc => ?_)
        · replace H := H.1 hc
          refine Ek.chk 2 (fun n => rfl) c1 ?_
          show Ek _ _ _ (va_rf (mP h a0 22) :: _) _ _
          rw [e13]
          have c17 := H.1
          refine Ek.chk 3 (fun n => rfl) c17 ?_
          replace H := H.2
          let h16 : mH := wI h p12 ((((90 * a1) + (3 * (mI h p5 (a1.toNatClampNeg)))) + a2).toNatClampNeg) 0
          replace H := H h16 rfl
          show Ek _ _ _ _ h16 _
          refine Ek.chk 2 (fun n => rfl) c1 ?_
          obtain ⟨p18, e19, H⟩ := H
          show Ek _ _ _ (va_rf (mP h a0 23) :: _) _ _
          rw [e19]
          have c21 := H.1
          refine Ek.chk 3 (fun n => rfl) c21 ?_
          replace H := H.2
          let h20 : mH := wI h16 p18 ((((90 * a1) + (3 * (mI h p5 (a1.toNatClampNeg)))) + a2).toNatClampNeg) a4
          replace H := H h20 rfl
          show Ek _ _ _ _ h20 _
          exact H
        · replace H := H.2 hc
          refine Ek.chk 2 (fun n => rfl) c1 ?_
          show Ek _ _ _ (va_rf (mP h a0 22) :: _) _ _
          rw [e13]
          refine Ek.chk 2 (fun n => rfl) c14 ?_
          refine Ek.chk 3 (fun n => rfl) c1 ?_
          obtain ⟨p23, e24, H⟩ := H
          show Ek _ _ _ (va_rf (mP h a0 23) :: _) _ _
          rw [e24]
          have c25 := H.1
          refine Ek.chk 2 (fun n => rfl) c25 ?_
          replace H := H.2
          exact Ek.go 2 (fun n => rfl) H
  · replace H := H.2 hc
    exact H

/-- RoundVotesModel.send(IIII)V, from 34 -/
set_option maxRecDepth 4000 in
theorem T101_34 {v0 : Nat} {v1 : Int32} {v2 : Int32} {v3 : Int32} {v4 : Int32} {v5 : Int32} {v6 : Int32} {h : mH} {K : Option Value → mH → Prop} (H : (mTg h v0 = 12) ∧ (∃ p2, mP h v0 14 = some p2 ∧ (((mTg h p2 = 20 ∨ mTg h p2 = 30) ∧ ¬ v1 < 0 ∧ (v1.toNatClampNeg) < mLn h p2) ∧ (((mI h p2 (v1.toNatClampNeg)) = 4 → (Ek 101 113 [some (.ref v0), some (.int v1), some (.int v2), some (.int v3), some (.int v4), some (.int v5), some (.int v6), some (.int v3), some (.int v4), some (.int (((90 * v1) + (3 * v6)) + v2)), none, none] [] h K)) ∧ (¬ (mI h p2 (v1.toNatClampNeg)) = 4 → (∃ p5, mP h v0 22 = some p5 ∧ (((mTg h p5 = 20 ∨ mTg h p5 = 30) ∧ ¬ (((90 * v1) + (3 * v6)) + v2) < 0 ∧ ((((90 * v1) + (3 * v6)) + v2).toNatClampNeg) < mLn h p5) ∧ (((mI h p5 ((((90 * v1) + (3 * v6)) + v2).toNatClampNeg)) < 0 → ((mTg h p5 = 20 ∧ ¬ (((90 * v1) + (3 * v6)) + v2) < 0 ∧ ((((90 * v1) + (3 * v6)) + v2).toNatClampNeg) < mLn h p5) ∧ (∀ h9, h9 = wI h p5 ((((90 * v1) + (3 * v6)) + v2).toNatClampNeg) v3 → (∃ p11, mP h v0 23 = some p11 ∧ ((mTg h p11 = 20 ∧ ¬ (((90 * v1) + (3 * v6)) + v2) < 0 ∧ ((((90 * v1) + (3 * v6)) + v2).toNatClampNeg) < mLn h p11) ∧ (∀ h13, h13 = wI h9 p11 ((((90 * v1) + (3 * v6)) + v2).toNatClampNeg) v4 → (Ek 101 113 [some (.ref v0), some (.int v1), some (.int v2), some (.int v3), some (.int v4), some (.int v5), some (.int v6), some (.int v3), some (.int v4), some (.int (((90 * v1) + (3 * v6)) + v2)), none, none] [] h13 K))))))) ∧ (¬ (mI h p5 ((((90 * v1) + (3 * v6)) + v2).toNatClampNeg)) < 0 → (∃ p16, mP h v0 23 = some p16 ∧ (((mTg h p16 = 20 ∨ mTg h p16 = 30) ∧ ¬ (((90 * v1) + (3 * v6)) + v2) < 0 ∧ ((((90 * v1) + (3 * v6)) + v2).toNatClampNeg) < mLn h p16) ∧ (Ek 101 113 [some (.ref v0), some (.int v1), some (.int v2), some (.int v3), some (.int v4), some (.int v5), some (.int v6), some (.int (mI h p5 ((((90 * v1) + (3 * v6)) + v2).toNatClampNeg))), some (.int (mI h p16 ((((90 * v1) + (3 * v6)) + v2).toNatClampNeg))), some (.int (((90 * v1) + (3 * v6)) + v2)), none, none] [] h K)))))))))))) : Ek 101 34 [some (.ref v0), some (.int v1), some (.int v2), some (.int v3), some (.int v4), some (.int v5), some (.int v6), none, none, none, none, none] [] h K := by
  have c1 := H.1
  refine Ek.chk 16 (fun n => rfl) c1 ?_
  replace H := H.2
  obtain ⟨p2, e3, H⟩ := H
  show Ek _ _ _ (va_rf (mP h v0 14) :: _) _ _
  rw [e3]
  have c4 := H.1
  refine Ek.chk 2 (fun n => rfl) c4 ?_
  replace H := H.2
  refine Ek.br 2 (fun n => rfl) (fun hc => ?_) (fun hc => ?_)
  · replace H := H.1 hc
    exact H
  · replace H := H.2 hc
    refine Ek.chk 2 (fun n => rfl) c1 ?_
    obtain ⟨p5, e6, H⟩ := H
    show Ek _ _ _ (va_rf (mP h v0 22) :: _) _ _
    rw [e6]
    have c7 := H.1
    refine Ek.chk 2 (fun n => rfl) c7 ?_
    replace H := H.2
    refine Ek.br 1 (fun n => rfl) (fun hc => ?_) (fun hc => ?_)
    · replace H := H.1 hc
      refine Ek.chk 2 (fun n => rfl) c1 ?_
      show Ek _ _ _ (va_rf (mP h v0 22) :: _) _ _
      rw [e6]
      have c10 := H.1
      refine Ek.chk 3 (fun n => rfl) c10 ?_
      replace H := H.2
      let h9 : mH := wI h p5 ((((90 * v1) + (3 * v6)) + v2).toNatClampNeg) v3
      replace H := H h9 rfl
      show Ek _ _ _ _ h9 _
      refine Ek.chk 2 (fun n => rfl) c1 ?_
      obtain ⟨p11, e12, H⟩ := H
      show Ek _ _ _ (va_rf (mP h v0 23) :: _) _ _
      rw [e12]
      have c14 := H.1
      refine Ek.chk 3 (fun n => rfl) c14 ?_
      replace H := H.2
      let h13 : mH := wI h9 p11 ((((90 * v1) + (3 * v6)) + v2).toNatClampNeg) v4
      replace H := H h13 rfl
      show Ek _ _ _ _ h13 _
      exact H
    · replace H := H.2 hc
      refine Ek.chk 2 (fun n => rfl) c1 ?_
      show Ek _ _ _ (va_rf (mP h v0 22) :: _) _ _
      rw [e6]
      refine Ek.chk 2 (fun n => rfl) c7 ?_
      refine Ek.chk 3 (fun n => rfl) c1 ?_
      obtain ⟨p16, e17, H⟩ := H
      show Ek _ _ _ (va_rf (mP h v0 23) :: _) _ _
      rw [e17]
      have c18 := H.1
      refine Ek.chk 2 (fun n => rfl) c18 ?_
      replace H := H.2
      exact Ek.go 2 (fun n => rfl) H

/-- RoundVotesModel.send(IIII)V, from 113 -/
set_option maxRecDepth 4000 in
theorem T101_113 {v0 : Nat} {v1 : Int32} {v2 : Int32} {v3 : Int32} {v4 : Int32} {v5 : Int32} {v6 : Int32} {v7 : Int32} {v8 : Int32} {v9 : Int32} {h : mH} {K : Option Value → mH → Prop} (H : (mTg h v0 = 12) ∧ (Ek 102 0 [some (.ref v0), some (.int v1), some (.int v1), some (.int v5), some (.int v6), some (.int v2), some (.int v7), some (.int v8), some (.int 0), none, none] [] h (fun r h2 => r = none ∧ ((mTg h2 v0 = 12) ∧ (∃ p4, mP h2 v0 14 = some p4 ∧ (((mTg h2 p4 = 20 ∨ mTg h2 p4 = 30) ∧ ¬ v1 < 0 ∧ (v1.toNatClampNeg) < mLn h2 p4) ∧ (((mI h2 p4 (v1.toNatClampNeg)) = 1 → (K none h2)) ∧ (¬ (mI h2 p4 (v1.toNatClampNeg)) = 1 → (Ek 101 143 [some (.ref v0), some (.int v1), some (.int v2), some (.int v3), some (.int v4), some (.int v5), some (.int v6), some (.int v7), some (.int v8), some (.int v9), some (.int 0), none] [] h2 K))))))))) : Ek 101 113 [some (.ref v0), some (.int v1), some (.int v2), some (.int v3), some (.int v4), some (.int v5), some (.int v6), some (.int v7), some (.int v8), some (.int v9), none, none] [] h K := by
  have c1 := H.1
  refine Ek.callT 9 (fun n => rfl) c1 ?_
  replace H := H.2
  refine Ek.mono H ?_
  rintro _ h2 ⟨rfl, H⟩
  have c3 := H.1
  refine Ek.chk 2 (fun n => rfl) c3 ?_
  replace H := H.2
  obtain ⟨p4, e5, H⟩ := H
  show Ek _ _ _ (va_rf (mP h2 v0 14) :: _) _ _
  rw [e5]
  have c6 := H.1
  refine Ek.chk 2 (fun n => rfl) c6 ?_
  replace H := H.2
  refine Ek.br 2 (fun n => rfl) (fun hc => ?_) (fun hc => ?_)
  · replace H := H.1 hc
    exact Ek.ret 1 (fun n => rfl) H
  · replace H := H.2 hc
    exact Ek.go 2 (fun n => rfl) H

/-- RoundVotesModel.send(IIII)V, from 143 -/
set_option maxRecDepth 4000 in
theorem T101_143 {v0 : Nat} {v1 : Int32} {v2 : Int32} {v3 : Int32} {v4 : Int32} {v5 : Int32} {v6 : Int32} {v7 : Int32} {v8 : Int32} {v9 : Int32} {v10 : Int32} {h : mH} {K : Option Value → mH → Prop} (H : (mTg h v0 = 12) ∧ (((mI h v0 1) ≤ v10 → (Ek 101 222 [some (.ref v0), some (.int v1), some (.int v2), some (.int v3), some (.int v4), some (.int v5), some (.int v6), some (.int v7), some (.int v8), some (.int v9), some (.int 0), none] [] h K)) ∧ (¬ (mI h v0 1) ≤ v10 → ((v10 = v1 → (Ek 101 143 [some (.ref v0), some (.int v1), some (.int v2), some (.int v3), some (.int v4), some (.int v5), some (.int v6), some (.int v7), some (.int v8), some (.int v9), some (.int (v10 + 1)), none] [] h K)) ∧ (¬ v10 = v1 → (∃ p2, mP h v0 14 = some p2 ∧ (((mTg h p2 = 20 ∨ mTg h p2 = 30) ∧ ¬ v1 < 0 ∧ (v1.toNatClampNeg) < mLn h p2) ∧ (((mI h p2 (v1.toNatClampNeg)) = 2 → ((¬ 2 = 0) ∧ (((v10 - v10 / 2 * 2) = 1 → ((v2 = 0 → (Ek 105 0 [some (.ref v0), some (.int v1), some (.int v10), some (.int v5), some (.int v6), some (.int v2), some (.int (v7 + 1)), some (.int v8), none, none, none, none, none] [] h (fun r h6 => r = none ∧ (Ek 101 143 [some (.ref v0), some (.int v1), some (.int v2), some (.int v3), some (.int v4), some (.int v5), some (.int v6), some (.int v7), some (.int v8), some (.int v9), some (.int (v10 + 1)), some (.int 1)] [] h6 K)))) ∧ (¬ v2 = 0 → ((v7 = 0 → (Ek 105 0 [some (.ref v0), some (.int v1), some (.int v10), some (.int v5), some (.int v6), some (.int v2), some (.int 1), some (.int v8), none, none, none, none, none] [] h (fun r h7 => r = none ∧ (Ek 101 143 [some (.ref v0), some (.int v1), some (.int v2), some (.int v3), some (.int v4), some (.int v5), some (.int v6), some (.int v7), some (.int v8), some (.int v9), some (.int (v10 + 1)), some (.int 1)] [] h7 K)))) ∧ (¬ v7 = 0 → (Ek 105 0 [some (.ref v0), some (.int v1), some (.int v10), some (.int v5), some (.int v6), some (.int v2), some (.int 0), some (.int v8), none, none, none, none, none] [] h (fun r h8 => r = none ∧ (Ek 101 143 [some (.ref v0), some (.int v1), some (.int v2), some (.int v3), some (.int v4), some (.int v5), some (.int v6), some (.int v7), some (.int v8), some (.int v9), some (.int (v10 + 1)), some (.int 1)] [] h8 K)))))))) ∧ (¬ (v10 - v10 / 2 * 2) = 1 → (Ek 105 0 [some (.ref v0), some (.int v1), some (.int v10), some (.int v5), some (.int v6), some (.int v2), some (.int v7), some (.int v8), none, none, none, none, none] [] h (fun r h9 => r = none ∧ (Ek 101 143 [some (.ref v0), some (.int v1), some (.int v2), some (.int v3), some (.int v4), some (.int v5), some (.int v6), some (.int v7), some (.int v8), some (.int v9), some (.int (v10 + 1)), some (.int 0)] [] h9 K))))))) ∧ (¬ (mI h p2 (v1.toNatClampNeg)) = 2 → (Ek 105 0 [some (.ref v0), some (.int v1), some (.int v10), some (.int v5), some (.int v6), some (.int v2), some (.int v7), some (.int v8), none, none, none, none, none] [] h (fun r h10 => r = none ∧ (Ek 101 143 [some (.ref v0), some (.int v1), some (.int v2), some (.int v3), some (.int v4), some (.int v5), some (.int v6), some (.int v7), some (.int v8), some (.int v9), some (.int (v10 + 1)), some (.int 0)] [] h10 K)))))))))))) : Ek 101 143 [some (.ref v0), some (.int v1), some (.int v2), some (.int v3), some (.int v4), some (.int v5), some (.int v6), some (.int v7), some (.int v8), some (.int v9), some (.int v10), none] [] h K := by
  have c1 := H.1
  refine Ek.chk 3 (fun n => rfl) c1 ?_
  replace H := H.2
  refine Ek.br 1 (fun n => rfl) (fun hc => ?_) (fun hc => ?_)
  · replace H := H.1 hc
    exact Ek.go 2 (fun n => rfl) H
  · replace H := H.2 hc
    refine Ek.br 3 (fun n => rfl) (fun hc => ?_) (fun hc => ?_)
    · replace H := H.1 hc
      exact Ek.go 2 (fun n => rfl) H
    · replace H := H.2 hc
      refine Ek.chk 2 (fun n => rfl) c1 ?_
      obtain ⟨p2, e3, H⟩ := H
      show Ek _ _ _ (va_rf (mP h v0 14) :: _) _ _
      rw [e3]
      have c4 := H.1
      refine Ek.chk 2 (fun n => rfl) c4 ?_
      replace H := H.2
      refine Ek.br 2 (fun n => rfl) (fun hc => ?_) (fun hc => ?_)
      · replace H := H.1 hc
        have c5 := H.1
        refine Ek.nch 3 (fun n => rfl) c5 ?_
        replace H := H.2
        refine Ek.br 2 (fun n => rfl) (fun hc => ?_) (fun hc => ?_)
        · replace H := H.1 hc
          refine Ek.call 13 (fun n => rfl) ?_
          refine Ek.br 2 (fun n => rfl) (fun hc => ?_) (fun hc => ?_)
          · replace H := H.1 hc
            refine Ek.ret 5 (fun n => rfl) ?_
            refine Ek.callT 2 (fun n => rfl) c1 ?_
            refine Ek.mono H ?_
            rintro _ h6 ⟨rfl, H⟩
            exact Ek.go 2 (fun n => rfl) H
          · replace H := H.2 hc
            refine Ek.br 2 (fun n => rfl) (fun hc => ?_) (fun hc => ?_)
            · replace H := H.1 hc
              refine Ek.ret 3 (fun n => rfl) ?_
              refine Ek.callT 2 (fun n => rfl) c1 ?_
              refine Ek.mono H ?_
              rintro _ h7 ⟨rfl, H⟩
              exact Ek.go 2 (fun n => rfl) H
            · replace H := H.2 hc
              refine Ek.ret 2 (fun n => rfl) ?_
              refine Ek.callT 2 (fun n => rfl) c1 ?_
              refine Ek.mono H ?_
              rintro _ h8 ⟨rfl, H⟩
              exact Ek.go 2 (fun n => rfl) H
        · replace H := H.2 hc
          refine Ek.callT 12 (fun n => rfl) c1 ?_
          refine Ek.mono H ?_
          rintro _ h9 ⟨rfl, H⟩
          exact Ek.go 2 (fun n => rfl) H
      · replace H := H.2 hc
        refine Ek.callT 12 (fun n => rfl) c1 ?_
        refine Ek.mono H ?_
        rintro _ h10 ⟨rfl, H⟩
        exact Ek.go 2 (fun n => rfl) H

/-- RoundVotesModel.send(IIII)V, from 222 -/
set_option maxRecDepth 4000 in
theorem T101_222 {v0 : Nat} {v1 : Int32} {v2 : Int32} {v3 : Int32} {v4 : Int32} {v5 : Int32} {v6 : Int32} {v7 : Int32} {v8 : Int32} {v9 : Int32} {v10 : Int32} {h : mH} {K : Option Value → mH → Prop} (H : (mTg h v0 = 12) ∧ (((mI h v0 1) ≤ v10 → (K none h)) ∧ (¬ (mI h v0 1) ≤ v10 → (∃ p2, mP h v0 14 = some p2 ∧ (((mTg h p2 = 20 ∨ mTg h p2 = 30) ∧ ¬ v1 < 0 ∧ (v1.toNatClampNeg) < mLn h p2) ∧ (((mI h p2 (v1.toNatClampNeg)) = 3 → ((v10 = v1 → (Ek 101 222 [some (.ref v0), some (.int v1), some (.int v2), some (.int v3), some (.int v4), some (.int v5), some (.int v6), some (.int v7), some (.int v8), some (.int v9), some (.int (v10 + 1)), none] [] h K)) ∧ (¬ v10 = v1 → ((v2 = 0 → (Ek 105 0 [some (.ref v0), some (.int v1), some (.int v10), some (.int v5), some (.int v6), some (.int v2), some (.int (v7 + 1)), some (.int v8), none, none, none, none, none] [] h (fun r h5 => r = none ∧ (Ek 101 222 [some (.ref v0), some (.int v1), some (.int v2), some (.int v3), some (.int v4), some (.int v5), some (.int v6), some (.int v7), some (.int v8), some (.int v9), some (.int (v10 + 1)), none] [] h5 K)))) ∧ (¬ v2 = 0 → ((v7 = 0 → (Ek 105 0 [some (.ref v0), some (.int v1), some (.int v10), some (.int v5), some (.int v6), some (.int v2), some (.int 1), some (.int v8), none, none, none, none, none] [] h (fun r h6 => r = none ∧ (Ek 101 222 [some (.ref v0), some (.int v1), some (.int v2), some (.int v3), some (.int v4), some (.int v5), some (.int v6), some (.int v7), some (.int v8), some (.int v9), some (.int (v10 + 1)), none] [] h6 K)))) ∧ (¬ v7 = 0 → (Ek 105 0 [some (.ref v0), some (.int v1), some (.int v10), some (.int v5), some (.int v6), some (.int v2), some (.int 0), some (.int v8), none, none, none, none, none] [] h (fun r h7 => r = none ∧ (Ek 101 222 [some (.ref v0), some (.int v1), some (.int v2), some (.int v3), some (.int v4), some (.int v5), some (.int v6), some (.int v7), some (.int v8), some (.int v9), some (.int (v10 + 1)), none] [] h7 K)))))))))) ∧ (¬ (mI h p2 (v1.toNatClampNeg)) = 3 → (K none h)))))))) : Ek 101 222 [some (.ref v0), some (.int v1), some (.int v2), some (.int v3), some (.int v4), some (.int v5), some (.int v6), some (.int v7), some (.int v8), some (.int v9), some (.int v10), none] [] h K := by
  have c1 := H.1
  refine Ek.chk 3 (fun n => rfl) c1 ?_
  replace H := H.2
  refine Ek.br 1 (fun n => rfl) (fun hc => ?_) (fun hc => ?_)
  · replace H := H.1 hc
    exact Ek.ret 1 (fun n => rfl) H
  · replace H := H.2 hc
    refine Ek.chk 2 (fun n => rfl) c1 ?_
    obtain ⟨p2, e3, H⟩ := H
    show Ek _ _ _ (va_rf (mP h v0 14) :: _) _ _
    rw [e3]
    have c4 := H.1
    refine Ek.chk 2 (fun n => rfl) c4 ?_
    replace H := H.2
    refine Ek.br 2 (fun n => rfl) (fun hc => ?_) (fun hc => ?_)
    · replace H := H.1 hc
      refine Ek.br 3 (fun n => rfl) (fun hc => ?_) (fun hc => ?_)
      · replace H := H.1 hc
        exact Ek.go 2 (fun n => rfl) H
      · replace H := H.2 hc
        refine Ek.call 8 (fun n => rfl) ?_
        refine Ek.br 2 (fun n => rfl) (fun hc => ?_) (fun hc => ?_)
        · replace H := H.1 hc
          refine Ek.ret 5 (fun n => rfl) ?_
          refine Ek.callT 1 (fun n => rfl) c1 ?_
          refine Ek.mono H ?_
          rintro _ h5 ⟨rfl, H⟩
          exact Ek.go 2 (fun n => rfl) H
        · replace H := H.2 hc
          refine Ek.br 2 (fun n => rfl) (fun hc => ?_) (fun hc => ?_)
          · replace H := H.1 hc
            refine Ek.ret 3 (fun n => rfl) ?_
            refine Ek.callT 1 (fun n => rfl) c1 ?_
            refine Ek.mono H ?_
            rintro _ h6 ⟨rfl, H⟩
            exact Ek.go 2 (fun n => rfl) H
          · replace H := H.2 hc
            refine Ek.ret 2 (fun n => rfl) ?_
            refine Ek.callT 1 (fun n => rfl) c1 ?_
            refine Ek.mono H ?_
            rintro _ h7 ⟨rfl, H⟩
            exact Ek.go 2 (fun n => rfl) H
    · replace H := H.2 hc
      exact Ek.ret 1 (fun n => rfl) H

/-- RoundVotesModel.keep(IIIIIIIZ)V, from 0 -/
set_option maxRecDepth 4000 in
theorem T102 {a0 : Nat} {a1 : Int32} {a2 : Int32} {a3 : Int32} {a4 : Int32} {a5 : Int32} {a6 : Int32} {a7 : Int32} {a8 : Int32} {h : mH} {K : Option Value → mH → Prop} (H : (mTg h a0 = 12) ∧ (∃ p2, mP h a0 5 = some p2 ∧ (((mTg h p2 = 20 ∨ mTg h p2 = 30) ∧ ¬ a1 < 0 ∧ (a1.toNatClampNeg) < mLn h p2) ∧ ((a3 = (mI h p2 (a1.toNatClampNeg)) → ((a3 ≤ 40 → ((¬ 2 = 0) ∧ (∃ p6, mP h a0 20 = some p6 ∧ (((mTg h p6 = 20 ∨ mTg h p6 = 30) ∧ ¬ ((((((((2 * a1) + (a3 - a3 / 2 * 2)) * 30) + a4) * 10) + a2) * 3) + a5) < 0 ∧ (((((((((2 * a1) + (a3 - a3 / 2 * 2)) * 30) + a4) * 10) + a2) * 3) + a5).toNatClampNeg) < mLn h p6) ∧ (((0 : Int32) ≤ (mI h p6 (((((((((2 * a1) + (a3 - a3 / 2 * 2)) * 30) + a4) * 10) + a2) * 3) + a5).toNatClampNeg)) → ((a8 = 0 → (K none h)) ∧ (¬ a8 = 0 → (((mI h p6 (((((((((2 * a1) + (a3 - a3 / 2 * 2)) * 30) + a4) * 10) + a2) * 3) + a5).toNatClampNeg)) = a6 → ((a5 = 0 → (∃ p10, mP h a0 21 = some p10 ∧ (((mTg h p10 = 20 ∨ mTg h p10 = 30) ∧ ¬ ((((((2 * a1) + (a3 - a3 / 2 * 2)) * 30) + a4) * 10) + a2) < 0 ∧ (((((((2 * a1) + (a3 - a3 / 2 * 2)) * 30) + a4) * 10) + a2).toNatClampNeg) < mLn h p10) ∧ (((mI h p10 (((((((2 * a1) + (a3 - a3 / 2 * 2)) * 30) + a4) * 10) + a2).toNatClampNeg)) = a7 → (K none h)) ∧ (¬ (mI h p10 (((((((2 * a1) + (a3 - a3 / 2 * 2)) * 30) + a4) * 10) + a2).toNatClampNeg)) = a7 → (Ek 103 0 [some (.ref a0), some (.int a2), some (.int a3), some (.int a4), some (.int a5), some (.int a1), none] [] h (fun r h13 => r = none ∧ (K none h13)))))))) ∧ (¬ a5 = 0 → (K none h)))) ∧ (¬ (mI h p6 (((((((((2 * a1) + (a3 - a3 / 2 * 2)) * 30) + a4) * 10) + a2) * 3) + a5).toNatClampNeg)) = a6 → (Ek 103 0 [some (.ref a0), some (.int a2), some (.int a3), some (.int a4), some (.int a5), some (.int a1), none] [] h (fun r h14 => r = none ∧ (K none h14)))))))) ∧ (¬ (0 : Int32) ≤ (mI h p6 (((((((((2 * a1) + (a3 - a3 / 2 * 2)) * 30) + a4) * 10) + a2) * 3) + a5).toNatClampNeg)) → ((mTg h p6 = 20 ∧ ¬ ((((((((2 * a1) + (a3 - a3 / 2 * 2)) * 30) + a4) * 10) + a2) * 3) + a5) < 0 ∧ (((((((((2 * a1) + (a3 - a3 / 2 * 2)) * 30) + a4) * 10) + a2) * 3) + a5).toNatClampNeg) < mLn h p6) ∧ (∀ h16, h16 = wI h p6 (((((((((2 * a1) + (a3 - a3 / 2 * 2)) * 30) + a4) * 10) + a2) * 3) + a5).toNatClampNeg) a6 → (∃ p18, mP h a0 21 = some p18 ∧ ((a5 = 0 → ((mTg h p18 = 20 ∧ ¬ ((((((2 * a1) + (a3 - a3 / 2 * 2)) * 30) + a4) * 10) + a2) < 0 ∧ (((((((2 * a1) + (a3 - a3 / 2 * 2)) * 30) + a4) * 10) + a2).toNatClampNeg) < mLn h p18) ∧ (∀ h20, h20 = wI h16 p18 (((((((2 * a1) + (a3 - a3 / 2 * 2)) * 30) + a4) * 10) + a2).toNatClampNeg) a7 → (K none h20)))) ∧ (¬ a5 = 0 → (((mTg h p18 = 20 ∨ mTg h p18 = 30) ∧ ¬ ((((((2 * a1) + (a3 - a3 / 2 * 2)) * 30) + a4) * 10) + a2) < 0 ∧ (((((((2 * a1) + (a3 - a3 / 2 * 2)) * 30) + a4) * 10) + a2).toNatClampNeg) < mLn h p18) ∧ ((mTg h p18 = 20 ∧ ¬ ((((((2 * a1) + (a3 - a3 / 2 * 2)) * 30) + a4) * 10) + a2) < 0 ∧ (((((((2 * a1) + (a3 - a3 / 2 * 2)) * 30) + a4) * 10) + a2).toNatClampNeg) < mLn h p18) ∧ (∀ h24, h24 = wI h16 p18 (((((((2 * a1) + (a3 - a3 / 2 * 2)) * 30) + a4) * 10) + a2).toNatClampNeg) (mI h16 p18 (((((((2 * a1) + (a3 - a3 / 2 * 2)) * 30) + a4) * 10) + a2).toNatClampNeg)) → (K none h24))))))))))))))) ∧ (¬ a3 ≤ 40 → (K none h)))) ∧ (¬ a3 = (mI h p2 (a1.toNatClampNeg)) → ((a3 = ((mI h p2 (a1.toNatClampNeg)) + 1) → ((a3 ≤ 40 → ((¬ 2 = 0) ∧ (∃ p28, mP h a0 20 = some p28 ∧ (((mTg h p28 = 20 ∨ mTg h p28 = 30) ∧ ¬ ((((((((2 * a1) + (a3 - a3 / 2 * 2)) * 30) + a4) * 10) + a2) * 3) + a5) < 0 ∧ (((((((((2 * a1) + (a3 - a3 / 2 * 2)) * 30) + a4) * 10) + a2) * 3) + a5).toNatClampNeg) < mLn h p28) ∧ (((0 : Int32) ≤ (mI h p28 (((((((((2 * a1) + (a3 - a3 / 2 * 2)) * 30) + a4) * 10) + a2) * 3) + a5).toNatClampNeg)) → ((a8 = 0 → (K none h)) ∧ (¬ a8 = 0 → (((mI h p28 (((((((((2 * a1) + (a3 - a3 / 2 * 2)) * 30) + a4) * 10) + a2) * 3) + a5).toNatClampNeg)) = a6 → ((a5 = 0 → (∃ p32, mP h a0 21 = some p32 ∧ (((mTg h p32 = 20 ∨ mTg h p32 = 30) ∧ ¬ ((((((2 * a1) + (a3 - a3 / 2 * 2)) * 30) + a4) * 10) + a2) < 0 ∧ (((((((2 * a1) + (a3 - a3 / 2 * 2)) * 30) + a4) * 10) + a2).toNatClampNeg) < mLn h p32) ∧ (((mI h p32 (((((((2 * a1) + (a3 - a3 / 2 * 2)) * 30) + a4) * 10) + a2).toNatClampNeg)) = a7 → (K none h)) ∧ (¬ (mI h p32 (((((((2 * a1) + (a3 - a3 / 2 * 2)) * 30) + a4) * 10) + a2).toNatClampNeg)) = a7 → (Ek 103 0 [some (.ref a0), some (.int a2), some (.int a3), some (.int a4), some (.int a5), some (.int a1), none] [] h (fun r h35 => r = none ∧ (K none h35)))))))) ∧ (¬ a5 = 0 → (K none h)))) ∧ (¬ (mI h p28 (((((((((2 * a1) + (a3 - a3 / 2 * 2)) * 30) + a4) * 10) + a2) * 3) + a5).toNatClampNeg)) = a6 → (Ek 103 0 [some (.ref a0), some (.int a2), some (.int a3), some (.int a4), some (.int a5), some (.int a1), none] [] h (fun r h36 => r = none ∧ (K none h36)))))))) ∧ (¬ (0 : Int32) ≤ (mI h p28 (((((((((2 * a1) + (a3 - a3 / 2 * 2)) * 30) + a4) * 10) + a2) * 3) + a5).toNatClampNeg)) → ((mTg h p28 = 20 ∧ ¬ ((((((((2 * a1) + (a3 - a3 / 2 * 2)) * 30) + a4) * 10) + a2) * 3) + a5) < 0 ∧ (((((((((2 * a1) + (a3 - a3 / 2 * 2)) * 30) + a4) * 10) + a2) * 3) + a5).toNatClampNeg) < mLn h p28) ∧ (∀ h38, h38 = wI h p28 (((((((((2 * a1) + (a3 - a3 / 2 * 2)) * 30) + a4) * 10) + a2) * 3) + a5).toNatClampNeg) a6 → (∃ p40, mP h a0 21 = some p40 ∧ ((a5 = 0 → ((mTg h p40 = 20 ∧ ¬ ((((((2 * a1) + (a3 - a3 / 2 * 2)) * 30) + a4) * 10) + a2) < 0 ∧ (((((((2 * a1) + (a3 - a3 / 2 * 2)) * 30) + a4) * 10) + a2).toNatClampNeg) < mLn h p40) ∧ (∀ h42, h42 = wI h38 p40 (((((((2 * a1) + (a3 - a3 / 2 * 2)) * 30) + a4) * 10) + a2).toNatClampNeg) a7 → (K none h42)))) ∧ (¬ a5 = 0 → (((mTg h p40 = 20 ∨ mTg h p40 = 30) ∧ ¬ ((((((2 * a1) + (a3 - a3 / 2 * 2)) * 30) + a4) * 10) + a2) < 0 ∧ (((((((2 * a1) + (a3 - a3 / 2 * 2)) * 30) + a4) * 10) + a2).toNatClampNeg) < mLn h p40) ∧ ((mTg h p40 = 20 ∧ ¬ ((((((2 * a1) + (a3 - a3 / 2 * 2)) * 30) + a4) * 10) + a2) < 0 ∧ (((((((2 * a1) + (a3 - a3 / 2 * 2)) * 30) + a4) * 10) + a2).toNatClampNeg) < mLn h p40) ∧ (∀ h46, h46 = wI h38 p40 (((((((2 * a1) + (a3 - a3 / 2 * 2)) * 30) + a4) * 10) + a2).toNatClampNeg) (mI h38 p40 (((((((2 * a1) + (a3 - a3 / 2 * 2)) * 30) + a4) * 10) + a2).toNatClampNeg)) → (K none h46))))))))))))))) ∧ (¬ a3 ≤ 40 → (K none h)))) ∧ (¬ a3 = ((mI h p2 (a1.toNatClampNeg)) + 1) → (K none h)))))))) : Ek 102 0 [some (.ref a0), some (.int a1), some (.int a2), some (.int a3), some (.int a4), some (.int a5), some (.int a6), some (.int a7), some (.int a8), none, none] [] h K := by
  have c1 := H.1
  refine Ek.chk 3 (fun n => rfl) c1 ?_
  replace H := H.2
  obtain ⟨p2, e3, H⟩ := H
  show Ek _ _ _ (va_rf (mP h a0 5) :: _) _ _
  rw [e3]
  have c4 := H.1
  refine Ek.chk 2 (fun n => rfl) c4 ?_
  replace H := H.2
  refine Ek.br 1 (fun n => rfl) (fun hc => ?_) (fun hc => ?_)
  · replace H := H.1 hc
    refine Ek.br 3 (fun n => rfl) (fun hc => ?_) (fun hc => ?_)
    · replace H := H.1 hc
      refine Ek.callT 6 (fun n => rfl) c1 ?_
      have c5 := H.1
      refine Ek.nch 6 (fun n => rfl) c5 ?_
      replace H := H.2
      refine Ek.ret 14 (fun n => rfl) ?_
      refine Ek.callT 6 (fun n => rfl) c1 ?_
      refine Ek.nch 6 (fun n => rfl) c5 ?_
      refine Ek.ret 10 (fun n => rfl) ?_
      refine Ek.chk 3 (fun n => rfl) c1 ?_
      obtain ⟨p6, e7, H⟩ := H
      show Ek _ _ _ (va_rf (mP h a0 20) :: _) _ _
      rw [e7]
      have c8 := H.1
      refine Ek.chk 2 (fun n => rfl) c8 ?_
      replace H := H.2
      refine Ek.br 1 (fun n => rfl) (fun hc => ?_) (fun hc => ?_)
      · replace H := H.1 hc
        refine Ek.br 2 (fun n => rfl) (fun hc => ?_) (fun hc => ?_)
        · replace H := H.1 hc
          exact Ek.ret 1 (fun n => rfl) H
        · replace H := H.2 hc
          refine Ek.chk 2 (fun n => rfl) c1 ?_
          show Ek _ _ _ (va_rf (mP h a0 20) :: _) _ _
          rw [e7]
          refine Ek.chk 2 (fun n => rfl) c8 ?_
          refine Ek.br 2 (fun n => rfl) (fun hc => ?_) (fun hc => ?_)
          · replace H := H.1 hc
            refine Ek.br 2 (fun n => rfl) (fun hc => ?_) (fun hc => ?_)
            · replace H := H.1 hc
              refine Ek.chk 2 (fun n => rfl) c1 ?_
              obtain ⟨p10, e11, H⟩ := H
              show Ek _ _ _ (va_rf (mP h a0 21) :: _) _ _
              rw [e11]
              have c12 := H.1
              refine Ek.chk 2 (fun n => rfl) c12 ?_
              replace H := H.2
              refine Ek.br 2 (fun n => rfl) (fun hc => ?_) (fun hc => ?_)
              · replace H := H.1 hc
                exact Ek.ret 1 (fun n => rfl) H
              · replace H := H.2 hc
                refine Ek.callT 6 (fun n => rfl) c1 ?_
                refine Ek.mono H ?_
                rintro _ h13 ⟨rfl, H⟩
                exact Ek.ret 1 (fun n => rfl) H
            · replace H := H.2 hc
              exact Ek.ret 1 (fun n => rfl) H
          · replace H := H.2 hc
            refine Ek.callT 6 (fun n => rfl) c1 ?_
            refine Ek.mono H ?_
            rintro _ h14 ⟨rfl, H⟩
            exact Ek.ret 1 (fun n => rfl) H
      · replace H := H.2 hc
        refine Ek.chk 2 (fun n => rfl) c1 ?_
        show Ek _ _ _ (va_rf (mP h a0 20) :: _) _ _
        rw [e7]
        have c17 := H.1
        refine Ek.chk 3 (fun n => rfl) c17 ?_
        replace H := H.2
        let h16 : mH := wI h p6 (((((((((2 * a1) + (a3 - a3 / 2 * 2)) * 30) + a4) * 10) + a2) * 3) + a5).toNatClampNeg) a6
        replace H := H h16 rfl
        show Ek _ _ _ _ h16 _
        refine Ek.chk 2 (fun n => rfl) c1 ?_
        obtain ⟨p18, e19, H⟩ := H
        show Ek _ _ _ (va_rf (mP h a0 21) :: _) _ _
        rw [e19]
        refine Ek.br 3 (fun n => rfl) (fun hc => ?_) (fun hc => ?_)
        · replace H := H.1 hc
          have c21 := H.1
          refine Ek.chk 3 (fun n => rfl) c21 ?_
          replace H := H.2
          let h20 : mH := wI h16 p18 (((((((2 * a1) + (a3 - a3 / 2 * 2)) * 30) + a4) * 10) + a2).toNatClampNeg) a7
          replace H := H h20 rfl
          show Ek _ _ _ _ h20 _
          exact Ek.ret 2 (fun n => rfl) H
        · replace H := H.2 hc
          refine Ek.chk 2 (fun n => rfl) c1 ?_
          show Ek _ _ _ (va_rf (mP h a0 21) :: _) _ _
          rw [e19]
          have c23 := H.1
          refine Ek.chk 2 (fun n => rfl) c23 ?_
          replace H := H.2
          have c25 := H.1
          refine Ek.chk 1 (fun n => rfl) c25 ?_
          replace H := H.2
          let h24 : mH := wI h16 p18 (((((((2 * a1) + (a3 - a3 / 2 * 2)) * 30) + a4) * 10) + a2).toNatClampNeg) (mI h16 p18 (((((((2 * a1) + (a3 - a3 / 2 * 2)) * 30) + a4) * 10) + a2).toNatClampNeg))
          replace H := H h24 rfl
          show Ek _ _ _ _ h24 _
          exact Ek.ret 2 (fun n => rfl) H
    · replace H := H.2 hc
      exact Ek.ret 1 (fun n => rfl) H
  · replace H := H.2 hc
    refine Ek.chk 3 (fun n => rfl) c1 ?_
    show Ek _ _ _ (va_rf (mP h a0 5) :: _) _ _
    rw [e3]
    refine Ek.chk 2 (fun n => rfl) c4 ?_
    refine Ek.br 3 (fun n => rfl) (fun hc => ?_) (fun hc => ?_)
    · replace H := H.1 hc
      refine Ek.br 3 (fun n => rfl) (fun hc => ?_) (fun hc => ?_)
      · replace H := H.1 hc
        refine Ek.callT 6 (fun n => rfl) c1 ?_
        have c27 := H.1
        refine Ek.nch 6 (fun n => rfl) c27 ?_
        replace H := H.2
        refine Ek.ret 14 (fun n => rfl) ?_
        refine Ek.callT 6 (fun n => rfl) c1 ?_
        refine Ek.nch 6 (fun n => rfl) c27 ?_
        refine Ek.ret 10 (fun n => rfl) ?_
        refine Ek.chk 3 (fun n => rfl) c1 ?_
        obtain ⟨p28, e29, H⟩ := H
        show Ek _ _ _ (va_rf (mP h a0 20) :: _) _ _
        rw [e29]
        have c30 := H.1
        refine Ek.chk 2 (fun n => rfl) c30 ?_
        replace H := H.2
        refine Ek.br 1 (fun n => rfl) (fun hc => ?_) (fun hc => ?_)
        · replace H := H.1 hc
          refine Ek.br 2 (fun n => rfl) (fun hc => ?_) (fun hc => ?_)
          · replace H := H.1 hc
            exact Ek.ret 1 (fun n => rfl) H
          · replace H := H.2 hc
            refine Ek.chk 2 (fun n => rfl) c1 ?_
            show Ek _ _ _ (va_rf (mP h a0 20) :: _) _ _
            rw [e29]
            refine Ek.chk 2 (fun n => rfl) c30 ?_
            refine Ek.br 2 (fun n => rfl) (fun hc => ?_) (fun hc => ?_)
            · replace H := H.1 hc
              refine Ek.br 2 (fun n => rfl) (fun hc => ?_) (fun hc => ?_)
              · replace H := H.1 hc
                refine Ek.chk 2 (fun n => rfl) c1 ?_
                obtain ⟨p32, e33, H⟩ := H
                show Ek _ _ _ (va_rf (mP h a0 21) :: _) _ _
                rw [e33]
                have c34 := H.1
                refine Ek.chk 2 (fun n => rfl) c34 ?_
                replace H := H.2
                refine Ek.br 2 (fun n => rfl) (fun hc => ?_) (fun hc => ?_)
                · replace H := H.1 hc
                  exact Ek.ret 1 (fun n => rfl) H
                · replace H := H.2 hc
                  refine Ek.callT 6 (fun n => rfl) c1 ?_
                  refine Ek.mono H ?_
                  rintro _ h35 ⟨rfl, H⟩
                  exact Ek.ret 1 (fun n => rfl) H
              · replace H := H.2 hc
                exact Ek.ret 1 (fun n => rfl) H
            · replace H := H.2 hc
              refine Ek.callT 6 (fun n => rfl) c1 ?_
              refine Ek.mono H ?_
              rintro _ h36 ⟨rfl, H⟩
              exact Ek.ret 1 (fun n => rfl) H
        · replace H := H.2 hc
          refine Ek.chk 2 (fun n => rfl) c1 ?_
          show Ek _ _ _ (va_rf (mP h a0 20) :: _) _ _
          rw [e29]
          have c39 := H.1
          refine Ek.chk 3 (fun n => rfl) c39 ?_
          replace H := H.2
          let h38 : mH := wI h p28 (((((((((2 * a1) + (a3 - a3 / 2 * 2)) * 30) + a4) * 10) + a2) * 3) + a5).toNatClampNeg) a6
          replace H := H h38 rfl
          show Ek _ _ _ _ h38 _
          refine Ek.chk 2 (fun n => rfl) c1 ?_
          obtain ⟨p40, e41, H⟩ := H
          show Ek _ _ _ (va_rf (mP h a0 21) :: _) _ _
          rw [e41]
          refine Ek.br 3 (fun n => rfl) (fun hc => ?_) (fun hc => ?_)
          · replace H := H.1 hc
            have c43 := H.1
            refine Ek.chk 3 (fun n => rfl) c43 ?_
            replace H := H.2
            let h42 : mH := wI h38 p40 (((((((2 * a1) + (a3 - a3 / 2 * 2)) * 30) + a4) * 10) + a2).toNatClampNeg) a7
            replace H := H h42 rfl
            show Ek _ _ _ _ h42 _
            exact Ek.ret 2 (fun n => rfl) H
          · replace H := H.2 hc
            refine Ek.chk 2 (fun n => rfl) c1 ?_
            show Ek _ _ _ (va_rf (mP h a0 21) :: _) _ _
            rw [e41]
            have c45 := H.1
            refine Ek.chk 2 (fun n => rfl) c45 ?_
            replace H := H.2
            have c47 := H.1
            refine Ek.chk 1 (fun n => rfl) c47 ?_
            replace H := H.2
            let h46 : mH := wI h38 p40 (((((((2 * a1) + (a3 - a3 / 2 * 2)) * 30) + a4) * 10) + a2).toNatClampNeg) (mI h38 p40 (((((((2 * a1) + (a3 - a3 / 2 * 2)) * 30) + a4) * 10) + a2).toNatClampNeg))
            replace H := H h46 rfl
            show Ek _ _ _ _ h46 _
            exact Ek.ret 2 (fun n => rfl) H
      · replace H := H.2 hc
        exact Ek.ret 1 (fun n => rfl) H
    · replace H := H.2 hc
      exact Ek.ret 1 (fun n => rfl) H

/-- RoundVotesModel.accuse(IIIII)V, from 0 -/
set_option maxRecDepth 4000 in
theorem T103 {a0 : Nat} {a1 : Int32} {a2 : Int32} {a3 : Int32} {a4 : Int32} {a5 : Int32} {h : mH} {K : Option Value → mH → Prop} (H : Ek 103 3 [some (.ref a0), some (.int a1), some (.int a2), some (.int a3), some (.int a4), some (.int a5), some (.int 0)] [] h K) : Ek 103 0 [some (.ref a0), some (.int a1), some (.int a2), some (.int a3), some (.int a4), some (.int a5), none] [] h K := by
  exact Ek.go 2 (fun n => rfl) H

/-- RoundVotesModel.accuse(IIIII)V, from 3 -/
set_option maxRecDepth 4000 in
theorem T103_3 {v0 : Nat} {v1 : Int32} {v2 : Int32} {v3 : Int32} {v4 : Int32} {v5 : Int32} {v6 : Int32} {h : mH} {K : Option Value → mH → Prop} (H : (mTg h v0 = 12) ∧ (((mI h v0 50) ≤ v6 → (((200 : Int32) ≤ (mI h v0 50) → (K none h)) ∧ (¬ (200 : Int32) ≤ (mI h v0 50) → (∃ p2, mP h v0 49 = some p2 ∧ ((mTg h p2 = 20 ∧ ¬ (6 * (mI h v0 50)) < 0 ∧ ((6 * (mI h v0 50)).toNatClampNeg) < mLn h p2) ∧ (∀ h4, h4 = wI h p2 ((6 * (mI h v0 50)).toNatClampNeg) v1 → ((mTg h p2 = 20 ∧ ¬ ((6 * (mI h v0 50)) + 1) < 0 ∧ (((6 * (mI h v0 50)) + 1).toNatClampNeg) < mLn h p2) ∧ (∀ h7, h7 = wI h4 p2 (((6 * (mI h v0 50)) + 1).toNatClampNeg) v2 → ((mTg h p2 = 20 ∧ ¬ ((6 * (mI h v0 50)) + 2) < 0 ∧ (((6 * (mI h v0 50)) + 2).toNatClampNeg) < mLn h p2) ∧ (∀ h10, h10 = wI h7 p2 (((6 * (mI h v0 50)) + 2).toNatClampNeg) v3 → ((mTg h p2 = 20 ∧ ¬ ((6 * (mI h v0 50)) + 3) < 0 ∧ (((6 * (mI h v0 50)) + 3).toNatClampNeg) < mLn h p2) ∧ (∀ h13, h13 = wI h10 p2 (((6 * (mI h v0 50)) + 3).toNatClampNeg) v4 → ((mTg h p2 = 20 ∧ ¬ ((6 * (mI h v0 50)) + 4) < 0 ∧ (((6 * (mI h v0 50)) + 4).toNatClampNeg) < mLn h p2) ∧ (∀ h16, h16 = wI h13 p2 (((6 * (mI h v0 50)) + 4).toNatClampNeg) v5 → ((mTg h p2 = 20 ∧ ¬ ((6 * (mI h v0 50)) + 5) < 0 ∧ (((6 * (mI h v0 50)) + 5).toNatClampNeg) < mLn h p2) ∧ (∀ h19, h19 = wI h16 p2 (((6 * (mI h v0 50)) + 5).toNatClampNeg) (mI h16 v0 3) → (∀ h21, h21 = wI h19 v0 50 ((mI h19 v0 50) + 1) → (K none h21)))))))))))))))))) ∧ (¬ (mI h v0 50) ≤ v6 → (∃ p22, mP h v0 49 = some p22 ∧ (((mTg h p22 = 20 ∨ mTg h p22 = 30) ∧ ¬ (6 * v6) < 0 ∧ ((6 * v6).toNatClampNeg) < mLn h p22) ∧ (((mI h p22 ((6 * v6).toNatClampNeg)) = v1 → (((mTg h p22 = 20 ∨ mTg h p22 = 30) ∧ ¬ ((6 * v6) + 1) < 0 ∧ (((6 * v6) + 1).toNatClampNeg) < mLn h p22) ∧ (((mI h p22 (((6 * v6) + 1).toNatClampNeg)) = v2 → (((mTg h p22 = 20 ∨ mTg h p22 = 30) ∧ ¬ ((6 * v6) + 2) < 0 ∧ (((6 * v6) + 2).toNatClampNeg) < mLn h p22) ∧ (((mI h p22 (((6 * v6) + 2).toNatClampNeg)) = v3 → (((mTg h p22 = 20 ∨ mTg h p22 = 30) ∧ ¬ ((6 * v6) + 3) < 0 ∧ (((6 * v6) + 3).toNatClampNeg) < mLn h p22) ∧ (((mI h p22 (((6 * v6) + 3).toNatClampNeg)) = v4 → (K none h)) ∧ (¬ (mI h p22 (((6 * v6) + 3).toNatClampNeg)) = v4 → (Ek 103 3 [some (.ref v0), some (.int v1), some (.int v2), some (.int v3), some (.int v4), some (.int v5), some (.int (v6 + 1))] [] h K))))) ∧ (¬ (mI h p22 (((6 * v6) + 2).toNatClampNeg)) = v3 → (Ek 103 3 [some (.ref v0), some (.int v1), some (.int v2), some (.int v3), some (.int v4), some (.int v5), some (.int (v6 + 1))] [] h K))))) ∧ (¬ (mI h p22 (((6 * v6) + 1).toNatClampNeg)) = v2 → (Ek 103 3 [some (.ref v0), some (.int v1), some (.int v2), some (.int v3), some (.int v4), some (.int v5), some (.int (v6 + 1))] [] h K))))) ∧ (¬ (mI h p22 ((6 * v6).toNatClampNeg)) = v1 → (Ek 103 3 [some (.ref v0), some (.int v1), some (.int v2), some (.int v3), some (.int v4), some (.int v5), some (.int (v6 + 1))] [] h K)))))))) : Ek 103 3 [some (.ref v0), some (.int v1), some (.int v2), some (.int v3), some (.int v4), some (.int v5), some (.int v6)] [] h K := by
  have c1 := H.1
  refine Ek.chk 3 (fun n => rfl) c1 ?_
  replace H := H.2
  refine Ek.br 1 (fun n => rfl) (fun hc => ?_) (fun hc => ?_)
  · replace H := H.1 hc
    refine Ek.chk 2 (fun n => rfl) c1 ?_
    refine Ek.br 2 (fun n => rfl) (fun hc => ?_) (fun hc => ?_)
    · replace H := H.1 hc
      exact Ek.ret 1 (fun n => rfl) H
    · replace H := H.2 hc
      refine Ek.chk 3 (fun n => rfl) c1 ?_
      refine Ek.chk 4 (fun n => rfl) c1 ?_
      obtain ⟨p2, e3, H⟩ := H
      show Ek _ _ _ (va_rf (mP h v0 49) :: _) _ _
      rw [e3]
      have c5 := H.1
      refine Ek.chk 3 (fun n => rfl) c5 ?_
      replace H := H.2
      let h4 : mH := wI h p2 ((6 * (mI h v0 50)).toNatClampNeg) v1
      replace H := H h4 rfl
      show Ek _ _ _ _ h4 _
      refine Ek.chk 2 (fun n => rfl) c1 ?_
      show Ek _ _ _ (va_rf (mP h v0 49) :: _) _ _
      rw [e3]
      have c8 := H.1
      refine Ek.chk 5 (fun n => rfl) c8 ?_
      replace H := H.2
      let h7 : mH := wI h4 p2 (((6 * (mI h v0 50)) + 1).toNatClampNeg) v2
      replace H := H h7 rfl
      show Ek _ _ _ _ h7 _
      refine Ek.chk 2 (fun n => rfl) c1 ?_
      show Ek _ _ _ (va_rf (mP h v0 49) :: _) _ _
      rw [e3]
      have c11 := H.1
      refine Ek.chk 5 (fun n => rfl) c11 ?_
      replace H := H.2
      let h10 : mH := wI h7 p2 (((6 * (mI h v0 50)) + 2).toNatClampNeg) v3
      replace H := H h10 rfl
      show Ek _ _ _ _ h10 _
      refine Ek.chk 2 (fun n => rfl) c1 ?_
      show Ek _ _ _ (va_rf (mP h v0 49) :: _) _ _
      rw [e3]
      have c14 := H.1
      refine Ek.chk 5 (fun n => rfl) c14 ?_
      replace H := H.2
      let h13 : mH := wI h10 p2 (((6 * (mI h v0 50)) + 3).toNatClampNeg) v4
      replace H := H h13 rfl
      show Ek _ _ _ _ h13 _
      refine Ek.chk 2 (fun n => rfl) c1 ?_
      show Ek _ _ _ (va_rf (mP h v0 49) :: _) _ _
      rw [e3]
      have c17 := H.1
      refine Ek.chk 5 (fun n => rfl) c17 ?_
      replace H := H.2
      let h16 : mH := wI h13 p2 (((6 * (mI h v0 50)) + 4).toNatClampNeg) v5
      replace H := H h16 rfl
      show Ek _ _ _ _ h16 _
      refine Ek.chk 2 (fun n => rfl) c1 ?_
      show Ek _ _ _ (va_rf (mP h v0 49) :: _) _ _
      rw [e3]
      refine Ek.chk 5 (fun n => rfl) c1 ?_
      have c20 := H.1
      refine Ek.chk 1 (fun n => rfl) c20 ?_
      replace H := H.2
      let h19 : mH := wI h16 p2 (((6 * (mI h v0 50)) + 5).toNatClampNeg) (mI h16 v0 3)
      replace H := H h19 rfl
      show Ek _ _ _ _ h19 _
      refine Ek.chk 3 (fun n => rfl) c1 ?_
      refine Ek.chk 3 (fun n => rfl) c1 ?_
      let h21 : mH := wI h19 v0 50 ((mI h19 v0 50) + 1)
      replace H := H h21 rfl
      show Ek _ _ _ _ h21 _
      exact Ek.ret 1 (fun n => rfl) H
  · replace H := H.2 hc
    refine Ek.chk 2 (fun n => rfl) c1 ?_
    obtain ⟨p22, e23, H⟩ := H
    show Ek _ _ _ (va_rf (mP h v0 49) :: _) _ _
    rw [e23]
    have c24 := H.1
    refine Ek.chk 4 (fun n => rfl) c24 ?_
    replace H := H.2
    refine Ek.br 2 (fun n => rfl) (fun hc => ?_) (fun hc => ?_)
    · replace H := H.1 hc
      refine Ek.chk 2 (fun n => rfl) c1 ?_
      show Ek _ _ _ (va_rf (mP h v0 49) :: _) _ _
      rw [e23]
      have c26 := H.1
      refine Ek.chk 6 (fun n => rfl) c26 ?_
      replace H := H.2
      refine Ek.br 2 (fun n => rfl) (fun hc => ?_) (fun hc => ?_)
      · replace H := H.1 hc
        refine Ek.chk 2 (fun n => rfl) c1 ?_
        show Ek _ _ _ (va_rf (mP h v0 49) :: _) _ _
        rw [e23]
        have c28 := H.1
        refine Ek.chk 6 (fun n => rfl) c28 ?_
        replace H := H.2
        refine Ek.br 2 (fun n => rfl) (fun hc => ?_) (fun hc => ?_)
        · replace H := H.1 hc
          refine Ek.chk 2 (fun n => rfl) c1 ?_
          show Ek _ _ _ (va_rf (mP h v0 49) :: _) _ _
          rw [e23]
          have c30 := H.1
          refine Ek.chk 6 (fun n => rfl) c30 ?_
          replace H := H.2
          refine Ek.br 2 (fun n => rfl) (fun hc => ?_) (fun hc => ?_)
          · replace H := H.1 hc
            exact Ek.ret 1 (fun n => rfl) H
          · replace H := H.2 hc
            exact Ek.go 2 (fun n => rfl) H
        · replace H := H.2 hc
          exact Ek.go 2 (fun n => rfl) H
      · replace H := H.2 hc
        exact Ek.go 2 (fun n => rfl) H
    · replace H := H.2 hc
      exact Ek.go 2 (fun n => rfl) H

/-- RoundVotesModel.otherValue(II)I, from 0 -/
set_option maxRecDepth 4000 in
theorem T104 {a1 : Int32} {a2 : Int32} {h : mH} {K : Option Value → mH → Prop} (H : (a1 = 0 → (K (some (.int (a2 + 1))) h)) ∧ (¬ a1 = 0 → ((a2 = 0 → (K (some (.int 1)) h)) ∧ (¬ a2 = 0 → (K (some (.int 0)) h))))) : Ek 104 0 [some (.int a1), some (.int a2)] [] h K := by
  refine Ek.br 2 (fun n => rfl) (fun hc => ?_) (fun hc => ?_)
  · replace H := H.1 hc
    exact Ek.ret 5 (fun n => rfl) H
  · replace H := H.2 hc
    refine Ek.br 2 (fun n => rfl) (fun hc => ?_) (fun hc => ?_)
    · replace H := H.1 hc
      exact Ek.ret 3 (fun n => rfl) H
    · replace H := H.2 hc
      exact Ek.ret 2 (fun n => rfl) H

/-- RoundVotesModel.copy(IIIIIII)V, from 0 -/
set_option maxRecDepth 4000 in
theorem T105 {a0 : Nat} {a1 : Int32} {a2 : Int32} {a3 : Int32} {a4 : Int32} {a5 : Int32} {a6 : Int32} {a7 : Int32} {h : mH} {K : Option Value → mH → Prop} (H : (mTg h a0 = 12) ∧ (∀ h2, h2 = wI h a0 39 ((mI h a0 39) + 1) → (∃ p3, mP h a0 19 = some p3 ∧ (((mTg h p3 = 20 ∨ mTg h p3 = 30) ∧ ¬ a1 < 0 ∧ (a1.toNatClampNeg) < mLn h p3) ∧ ((mTg h p3 = 20 ∧ ¬ a1 < 0 ∧ (a1.toNatClampNeg) < mLn h p3) ∧ (∀ h6, h6 = wI h2 p3 (a1.toNatClampNeg) ((mI h2 p3 (a1.toNatClampNeg)) + 1) → (Ek 106 0 [some (.ref a0), some (.int a1), some (.int a3), some (.int a4), some (.int a5), some (.int a6), none] [] h6 (fun r h8 => r = none ∧ (Ek 105 47 [some (.ref a0), some (.int a1), some (.int a2), some (.int a3), some (.int a4), some (.int a5), some (.int a6), some (.int a7), some (.int (mI h a0 39)), some (.int (-1)), some (.int 0), some (.int 0), none] [] h8 K))))))))) : Ek 105 0 [some (.ref a0), some (.int a1), some (.int a2), some (.int a3), some (.int a4), some (.int a5), some (.int a6), some (.int a7), none, none, none, none, none] [] h K := by
  have c1 := H.1
  refine Ek.chk 2 (fun n => rfl) c1 ?_
  replace H := H.2
  refine Ek.chk 4 (fun n => rfl) c1 ?_
  refine Ek.chk 3 (fun n => rfl) c1 ?_
  let h2 : mH := wI h a0 39 ((mI h a0 39) + 1)
  replace H := H h2 rfl
  show Ek _ _ _ _ h2 _
  refine Ek.chk 2 (fun n => rfl) c1 ?_
  obtain ⟨p3, e4, H⟩ := H
  show Ek _ _ _ (va_rf (mP h a0 19) :: _) _ _
  rw [e4]
  have c5 := H.1
  refine Ek.chk 3 (fun n => rfl) c5 ?_
  replace H := H.2
  have c7 := H.1
  refine Ek.chk 3 (fun n => rfl) c7 ?_
  replace H := H.2
  let h6 : mH := wI h2 p3 (a1.toNatClampNeg) ((mI h2 p3 (a1.toNatClampNeg)) + 1)
  replace H := H h6 rfl
  show Ek _ _ _ _ h6 _
  refine Ek.callT 6 (fun n => rfl) c1 ?_
  refine Ek.mono H ?_
  rintro _ h8 ⟨rfl, H⟩
  exact Ek.go 6 (fun n => rfl) H

/-- RoundVotesModel.copy(IIIIIII)V, from 47 -/
set_option maxRecDepth 4000 in
theorem T105_47 {v0 : Nat} {v1 : Int32} {v2 : Int32} {v3 : Int32} {v4 : Int32} {v5 : Int32} {v6 : Int32} {v7 : Int32} {v8 : Int32} {v9 : Int32} {v10 : Int32} {v11 : Int32} {h : mH} {K : Option Value → mH → Prop} (H : (mTg h v0 = 12) ∧ (((mI h v0 45) ≤ v11 → ((v9 = 0 → (∀ h2, h2 = wI h v0 41 ((mI h v0 41) + 1) → (K none h2))) ∧ (¬ v9 = 0 → (Ek 108 0 [some (.ref v0), some (.int v1), some (.int v2)] [] h (fun r h3 => ∃ x4 : Int32, r = some (.int x4) ∧ ((x4 = 0 → ((mTg h3 v0 = 12) ∧ (((mI h3 v0 38) = 6000 → (∀ h6, h6 = wI h3 v0 41 ((mI h3 v0 41) + 1) → (K none h6))) ∧ (¬ (mI h3 v0 38) = 6000 → ((v9 = 2 → (Ek 109 0 [some (.ref v0), some (.int v1), some (.int v2), some (.int v3), some (.int v4), some (.int v5), some (.int v6), some (.int v7), some (.int (((mI h3 v0 3) + 1) + v10)), some (.int 0), none] [] h3 (fun r h7 => r = none ∧ ((v9 = 1 → ((mTg h7 v0 = 12) ∧ (((mI h7 v0 38) = 6000 → (∀ h9, h9 = wI h7 v0 41 ((mI h7 v0 41) + 1) → (K none h9))) ∧ (¬ (mI h7 v0 38) = 6000 → (Ek 109 0 [some (.ref v0), some (.int v1), some (.int v2), some (.int v3), some (.int v4), some (.int v5), some (.int v6), some (.int v7), some (.int ((mI h7 v0 3) + 2)), some (.int 1), none] [] h7 (fun r h10 => r = none ∧ (K none h10))))))) ∧ (¬ v9 = 1 → (K none h7)))))) ∧ (¬ v9 = 2 → (Ek 109 0 [some (.ref v0), some (.int v1), some (.int v2), some (.int v3), some (.int v4), some (.int v5), some (.int v6), some (.int v7), some (.int (((mI h3 v0 3) + 1) + 0)), some (.int 0), none] [] h3 (fun r h11 => r = none ∧ ((v9 = 1 → ((mTg h11 v0 = 12) ∧ (((mI h11 v0 38) = 6000 → (∀ h13, h13 = wI h11 v0 41 ((mI h11 v0 41) + 1) → (K none h13))) ∧ (¬ (mI h11 v0 38) = 6000 → (Ek 109 0 [some (.ref v0), some (.int v1), some (.int v2), some (.int v3), some (.int v4), some (.int v5), some (.int v6), some (.int v7), some (.int ((mI h11 v0 3) + 2)), some (.int 1), none] [] h11 (fun r h14 => r = none ∧ (K none h14))))))) ∧ (¬ v9 = 1 → (K none h11))))))))))) ∧ (¬ x4 = 0 → ((mTg h3 v0 = 12) ∧ (∀ h16, h16 = wI h3 v0 41 ((mI h3 v0 41) + 1) → (K none h16)))))))))) ∧ (¬ (mI h v0 45) ≤ v11 → (∃ p17, mP h v0 42 = some p17 ∧ (((mTg h p17 = 20 ∨ mTg h p17 = 30) ∧ ¬ v11 < 0 ∧ (v11.toNatClampNeg) < mLn h p17) ∧ (((mI h p17 (v11.toNatClampNeg)) = v8 → (∃ p20, mP h v0 43 = some p20 ∧ (((mTg h p20 = 20 ∨ mTg h p20 = 30) ∧ ¬ v11 < 0 ∧ (v11.toNatClampNeg) < mLn h p20) ∧ (∃ p23, mP h v0 44 = some p23 ∧ (((mTg h p23 = 20 ∨ mTg h p23 = 30) ∧ ¬ v11 < 0 ∧ (v11.toNatClampNeg) < mLn h p23) ∧ (∀ h26, h26 = wI h v0 45 ((mI h v0 45) - 1) → (Ek 105 100 [some (.ref v0), some (.int v1), some (.int v2), some (.int v3), some (.int v4), some (.int v5), some (.int v6), some (.int v7), some (.int v8), some (.int (mI h p20 (v11.toNatClampNeg))), some (.int (mI h p23 (v11.toNatClampNeg))), some (.int v11), some (.int v11)] [] h26 K))))))) ∧ (¬ (mI h p17 (v11.toNatClampNeg)) = v8 → (Ek 105 47 [some (.ref v0), some (.int v1), some (.int v2), some (.int v3), some (.int v4), some (.int v5), some (.int v6), some (.int v7), some (.int v8), some (.int v9), some (.int v10), some (.int (v11 + 1)), none] [] h K)))))))) : Ek 105 47 [some (.ref v0), some (.int v1), some (.int v2), some (.int v3), some (.int v4), some (.int v5), some (.int v6), some (.int v7), some (.int v8), some (.int v9), some (.int v10), some (.int v11), none] [] h K := by
  have c1 := H.1
  refine Ek.chk 3 (fun n => rfl) c1 ?_
  replace H := H.2
  refine Ek.br 1 (fun n => rfl) (fun hc => ?_) (fun hc => ?_)
  · replace H := H.1 hc
    refine Ek.br 2 (fun n => rfl) (fun hc => ?_) (fun hc => ?_)
    · replace H := H.1 hc
      refine Ek.chk 3 (fun n => rfl) c1 ?_
      refine Ek.chk 3 (fun n => rfl) c1 ?_
      let h2 : mH := wI h v0 41 ((mI h v0 41) + 1)
      replace H := H h2 rfl
      show Ek _ _ _ _ h2 _
      exact Ek.ret 1 (fun n => rfl) H
    · replace H := H.2 hc
      refine Ek.callT 3 (fun n => rfl) c1 ?_
      refine Ek.mono H ?_
      rintro _ h3 ⟨x4, rfl, H⟩
      refine Ek.br 1 (fun n => rfl) (fun hc => ?_) (fun hc => ?_)
      · replace H := H.1 hc
        have c5 := H.1
        refine Ek.chk 2 (fun n => rfl) c5 ?_
        replace H := H.2
        refine Ek.br 2 (fun n => rfl) (fun hc => ?_) (fun hc => ?_)
        · replace H := H.1 hc
          refine Ek.chk 3 (fun n => rfl) c5 ?_
          refine Ek.chk 3 (fun n => rfl) c5 ?_
          let h6 : mH := wI h3 v0 41 ((mI h3 v0 41) + 1)
          replace H := H h6 rfl
          show Ek _ _ _ _ h6 _
          exact Ek.ret 1 (fun n => rfl) H
        · replace H := H.2 hc
          refine Ek.chk 10 (fun n => rfl) c5 ?_
          refine Ek.br 5 (fun n => rfl) (fun hc => ?_) (fun hc => ?_)
          · replace H := H.1 hc
            refine Ek.callT 4 (fun n => rfl) c5 ?_
            refine Ek.mono H ?_
            rintro _ h7 ⟨rfl, H⟩
            refine Ek.br 3 (fun n => rfl) (fun hc => ?_) (fun hc => ?_)
            · replace H := H.1 hc
              have c8 := H.1
              refine Ek.chk 2 (fun n => rfl) c8 ?_
              replace H := H.2
              refine Ek.br 2 (fun n => rfl) (fun hc => ?_) (fun hc => ?_)
              · replace H := H.1 hc
                refine Ek.chk 3 (fun n => rfl) c8 ?_
                refine Ek.chk 3 (fun n => rfl) c8 ?_
                let h9 : mH := wI h7 v0 41 ((mI h7 v0 41) + 1)
                replace H := H h9 rfl
                show Ek _ _ _ _ h9 _
                exact Ek.ret 2 (fun n => rfl) H
              · replace H := H.2 hc
                refine Ek.chk 10 (fun n => rfl) c8 ?_
                refine Ek.callT 3 (fun n => rfl) c8 ?_
                refine Ek.mono H ?_
                rintro _ h10 ⟨rfl, H⟩
                exact Ek.ret 1 (fun n => rfl) H
            · replace H := H.2 hc
              exact Ek.ret 1 (fun n => rfl) H
          · replace H := H.2 hc
            refine Ek.callT 3 (fun n => rfl) c5 ?_
            refine Ek.mono H ?_
            rintro _ h11 ⟨rfl, H⟩
            refine Ek.br 3 (fun n => rfl) (fun hc => ?_) (fun hc => ?_)
            · replace H := H.1 hc
              have c12 := H.1
              refine Ek.chk 2 (fun n => rfl) c12 ?_
              replace H := H.2
              refine Ek.br 2 (fun n => rfl) (fun hc => ?_) (fun hc => ?_)
              · replace H := H.1 hc
                refine Ek.chk 3 (fun n => rfl) c12 ?_
                refine Ek.chk 3 (fun n => rfl) c12 ?_
                let h13 : mH := wI h11 v0 41 ((mI h11 v0 41) + 1)
                replace H := H h13 rfl
                show Ek _ _ _ _ h13 _
                exact Ek.ret 2 (fun n => rfl) H
              · replace H := H.2 hc
                refine Ek.chk 10 (fun n => rfl) c12 ?_
                refine Ek.callT 3 (fun n => rfl) c12 ?_
                refine Ek.mono H ?_
                rintro _ h14 ⟨rfl, H⟩
                exact Ek.ret 1 (fun n => rfl) H
            · replace H := H.2 hc
              exact Ek.ret 1 (fun n => rfl) H
      · replace H := H.2 hc
        have c15 := H.1
        refine Ek.chk 3 (fun n => rfl) c15 ?_
        replace H := H.2
        refine Ek.chk 3 (fun n => rfl) c15 ?_
        let h16 : mH := wI h3 v0 41 ((mI h3 v0 41) + 1)
        replace H := H h16 rfl
        show Ek _ _ _ _ h16 _
        exact Ek.ret 1 (fun n => rfl) H
  · replace H := H.2 hc
    refine Ek.chk 2 (fun n => rfl) c1 ?_
    obtain ⟨p17, e18, H⟩ := H
    show Ek _ _ _ (va_rf (mP h v0 42) :: _) _ _
    rw [e18]
    have c19 := H.1
    refine Ek.chk 2 (fun n => rfl) c19 ?_
    replace H := H.2
    refine Ek.br 2 (fun n => rfl) (fun hc => ?_) (fun hc => ?_)
    · replace H := H.1 hc
      refine Ek.chk 2 (fun n => rfl) c1 ?_
      obtain ⟨p20, e21, H⟩ := H
      show Ek _ _ _ (va_rf (mP h v0 43) :: _) _ _
      rw [e21]
      have c22 := H.1
      refine Ek.chk 2 (fun n => rfl) c22 ?_
      replace H := H.2
      refine Ek.chk 3 (fun n => rfl) c1 ?_
      obtain ⟨p23, e24, H⟩ := H
      show Ek _ _ _ (va_rf (mP h v0 44) :: _) _ _
      rw [e24]
      have c25 := H.1
      refine Ek.chk 2 (fun n => rfl) c25 ?_
      replace H := H.2
      refine Ek.chk 4 (fun n => rfl) c1 ?_
      refine Ek.chk 3 (fun n => rfl) c1 ?_
      let h26 : mH := wI h v0 45 ((mI h v0 45) - 1)
      replace H := H h26 rfl
      show Ek _ _ _ _ h26 _
      exact Ek.go 2 (fun n => rfl) H
    · replace H := H.2 hc
      exact Ek.go 2 (fun n => rfl) H

/-- RoundVotesModel.copy(IIIIIII)V, from 100 -/
set_option maxRecDepth 4000 in
theorem T105_100 {v0 : Nat} {v1 : Int32} {v2 : Int32} {v3 : Int32} {v4 : Int32} {v5 : Int32} {v6 : Int32} {v7 : Int32} {v8 : Int32} {v9 : Int32} {v10 : Int32} {v11 : Int32} {v12 : Int32} {h : mH} {K : Option Value → mH → Prop} (H : (mTg h v0 = 12) ∧ (((mI h v0 45) ≤ v12 → (Ek 105 47 [some (.ref v0), some (.int v1), some (.int v2), some (.int v3), some (.int v4), some (.int v5), some (.int v6), some (.int v7), some (.int v8), some (.int v9), some (.int v10), some (.int ((mI h v0 45) + 1)), some (.int v12)] [] h K)) ∧ (¬ (mI h v0 45) ≤ v12 → (∃ p2, mP h v0 42 = some p2 ∧ (((mTg h p2 = 20 ∨ mTg h p2 = 30) ∧ ¬ (v12 + 1) < 0 ∧ ((v12 + 1).toNatClampNeg) < mLn h p2) ∧ ((mTg h p2 = 20 ∧ ¬ v12 < 0 ∧ (v12.toNatClampNeg) < mLn h p2) ∧ (∀ h6, h6 = wI h p2 (v12.toNatClampNeg) (mI h p2 ((v12 + 1).toNatClampNeg)) → (∃ p8, mP h v0 43 = some p8 ∧ (((mTg h p8 = 20 ∨ mTg h p8 = 30) ∧ ¬ (v12 + 1) < 0 ∧ ((v12 + 1).toNatClampNeg) < mLn h p8) ∧ ((mTg h p8 = 20 ∧ ¬ v12 < 0 ∧ (v12.toNatClampNeg) < mLn h p8) ∧ (∀ h12, h12 = wI h6 p8 (v12.toNatClampNeg) (mI h6 p8 ((v12 + 1).toNatClampNeg)) → (∃ p14, mP h v0 44 = some p14 ∧ (((mTg h p14 = 20 ∨ mTg h p14 = 30) ∧ ¬ (v12 + 1) < 0 ∧ ((v12 + 1).toNatClampNeg) < mLn h p14) ∧ ((mTg h p14 = 20 ∧ ¬ v12 < 0 ∧ (v12.toNatClampNeg) < mLn h p14) ∧ (∀ h18, h18 = wI h12 p14 (v12.toNatClampNeg) (mI h12 p14 ((v12 + 1).toNatClampNeg)) → (Ek 105 100 [some (.ref v0), some (.int v1), some (.int v2), some (.int v3), some (.int v4), some (.int v5), some (.int v6), some (.int v7), some (.int v8), some (.int v9), some (.int v10), some (.int v11), some (.int (v12 + 1))] [] h18 K)))))))))))))))) : Ek 105 100 [some (.ref v0), some (.int v1), some (.int v2), some (.int v3), some (.int v4), some (.int v5), some (.int v6), some (.int v7), some (.int v8), some (.int v9), some (.int v10), some (.int v11), some (.int v12)] [] h K := by
  have c1 := H.1
  refine Ek.chk 3 (fun n => rfl) c1 ?_
  replace H := H.2
  refine Ek.br 1 (fun n => rfl) (fun hc => ?_) (fun hc => ?_)
  · replace H := H.1 hc
    refine Ek.chk 2 (fun n => rfl) c1 ?_
    exact Ek.go 3 (fun n => rfl) H
  · replace H := H.2 hc
    refine Ek.chk 2 (fun n => rfl) c1 ?_
    obtain ⟨p2, e3, H⟩ := H
    show Ek _ _ _ (va_rf (mP h v0 42) :: _) _ _
    rw [e3]
    refine Ek.chk 3 (fun n => rfl) c1 ?_
    show Ek _ _ _ (va_rf (mP h v0 42) :: _) _ _
    rw [e3]
    have c5 := H.1
    refine Ek.chk 4 (fun n => rfl) c5 ?_
    replace H := H.2
    have c7 := H.1
    refine Ek.chk 1 (fun n => rfl) c7 ?_
    replace H := H.2
    let h6 : mH := wI h p2 (v12.toNatClampNeg) (mI h p2 ((v12 + 1).toNatClampNeg))
    replace H := H h6 rfl
    show Ek _ _ _ _ h6 _
    refine Ek.chk 2 (fun n => rfl) c1 ?_
    obtain ⟨p8, e9, H⟩ := H
    show Ek _ _ _ (va_rf (mP h v0 43) :: _) _ _
    rw [e9]
    refine Ek.chk 3 (fun n => rfl) c1 ?_
    show Ek _ _ _ (va_rf (mP h v0 43) :: _) _ _
    rw [e9]
    have c11 := H.1
    refine Ek.chk 4 (fun n => rfl) c11 ?_
    replace H := H.2
    have c13 := H.1
    refine Ek.chk 1 (fun n => rfl) c13 ?_
    replace H := H.2
    let h12 : mH := wI h6 p8 (v12.toNatClampNeg) (mI h6 p8 ((v12 + 1).toNatClampNeg))
    replace H := H h12 rfl
    show Ek _ _ _ _ h12 _
    refine Ek.chk 2 (fun n => rfl) c1 ?_
    obtain ⟨p14, e15, H⟩ := H
    show Ek _ _ _ (va_rf (mP h v0 44) :: _) _ _
    rw [e15]
    refine Ek.chk 3 (fun n => rfl) c1 ?_
    show Ek _ _ _ (va_rf (mP h v0 44) :: _) _ _
    rw [e15]
    have c17 := H.1
    refine Ek.chk 4 (fun n => rfl) c17 ?_
    replace H := H.2
    have c19 := H.1
    refine Ek.chk 1 (fun n => rfl) c19 ?_
    replace H := H.2
    let h18 : mH := wI h12 p14 (v12.toNatClampNeg) (mI h12 p14 ((v12 + 1).toNatClampNeg))
    replace H := H h18 rfl
    show Ek _ _ _ _ h18 _
    exact Ek.go 2 (fun n => rfl) H

/-- RoundVotesModel.noteSent(IIIII)V, from 0 -/
set_option maxRecDepth 4000 in
theorem T106 {a0 : Nat} {a1 : Int32} {a2 : Int32} {a3 : Int32} {a4 : Int32} {a5 : Int32} {h : mH} {K : Option Value → mH → Prop} (H : (mTg h a0 = 12) ∧ (∃ p2, mP h a0 51 = some p2 ∧ (((mTg h p2 = 20 ∨ mTg h p2 = 30) ∧ ¬ ((((((41 * a1) + a2) * 30) + a3) * 3) + a4) < 0 ∧ (((((((41 * a1) + a2) * 30) + a3) * 3) + a4).toNatClampNeg) < mLn h p2) ∧ (((0 : Int32) ≤ (mI h p2 (((((((41 * a1) + a2) * 30) + a3) * 3) + a4).toNatClampNeg)) → (((mI h p2 (((((((41 * a1) + a2) * 30) + a3) * 3) + a4).toNatClampNeg)) = a5 → (K none h)) ∧ (¬ (mI h p2 (((((((41 * a1) + a2) * 30) + a3) * 3) + a4).toNatClampNeg)) = a5 → (∃ p6, mP h a0 52 = some p6 ∧ ((mTg h p6 = 21 ∧ ((1 : Int32) = 0 ∨ (1 : Int32) = 1) ∧ ¬ ((((((41 * a1) + a2) * 30) + a3) * 3) + a4) < 0 ∧ (((((((41 * a1) + a2) * 30) + a3) * 3) + a4).toNatClampNeg) < mLn h p6) ∧ (∀ h8, h8 = wI h p6 (((((((41 * a1) + a2) * 30) + a3) * 3) + a4).toNatClampNeg) 1 → (K none h8))))))) ∧ (¬ (0 : Int32) ≤ (mI h p2 (((((((41 * a1) + a2) * 30) + a3) * 3) + a4).toNatClampNeg)) → ((mTg h p2 = 20 ∧ ¬ ((((((41 * a1) + a2) * 30) + a3) * 3) + a4) < 0 ∧ (((((((41 * a1) + a2) * 30) + a3) * 3) + a4).toNatClampNeg) < mLn h p2) ∧ (∀ h11, h11 = wI h p2 (((((((41 * a1) + a2) * 30) + a3) * 3) + a4).toNatClampNeg) a5 → (K none h11)))))))) : Ek 106 0 [some (.ref a0), some (.int a1), some (.int a2), some (.int a3), some (.int a4), some (.int a5), none] [] h K := by
  have c1 := H.1
  refine Ek.callT 5 (fun n => rfl) c1 ?_
  replace H := H.2
  refine Ek.ret 14 (fun n => rfl) ?_
  refine Ek.chk 3 (fun n => rfl) c1 ?_
  obtain ⟨p2, e3, H⟩ := H
  show Ek _ _ _ (va_rf (mP h a0 51) :: _) _ _
  rw [e3]
  have c4 := H.1
  refine Ek.chk 2 (fun n => rfl) c4 ?_
  replace H := H.2
  refine Ek.br 1 (fun n => rfl) (fun hc => ?_) (fun hc => ?_)
  · replace H := H.1 hc
    refine Ek.chk 2 (fun n => rfl) c1 ?_
    show Ek _ _ _ (va_rf (mP h a0 51) :: _) _ _
    rw [e3]
    refine Ek.chk 2 (fun n => rfl) c4 ?_
    refine Ek.br 2 (fun n => rfl) (fun hc => ?_) (fun hc => ?_)
    · replace H := H.1 hc
      exact Ek.ret 1 (fun n => rfl) H
    · replace H := H.2 hc
      refine Ek.chk 2 (fun n => rfl) c1 ?_
      obtain ⟨p6, e7, H⟩ := H
      show Ek _ _ _ (va_rf (mP h a0 52) :: _) _ _
      rw [e7]
      have c9 := H.1
      refine Ek.chk 3 (fun n => rfl) c9 ?_
      replace H := H.2
      let h8 : mH := wI h p6 (((((((41 * a1) + a2) * 30) + a3) * 3) + a4).toNatClampNeg) 1
      replace H := H h8 rfl
      show Ek _ _ _ _ h8 _
      exact Ek.ret 1 (fun n => rfl) H
  · replace H := H.2 hc
    refine Ek.chk 2 (fun n => rfl) c1 ?_
    show Ek _ _ _ (va_rf (mP h a0 51) :: _) _ _
    rw [e3]
    have c12 := H.1
    refine Ek.chk 3 (fun n => rfl) c12 ?_
    replace H := H.2
    let h11 : mH := wI h p2 (((((((41 * a1) + a2) * 30) + a3) * 3) + a4).toNatClampNeg) a5
    replace H := H h11 rfl
    show Ek _ _ _ _ h11 _
    exact Ek.ret 2 (fun n => rfl) H

/-- RoundVotesModel.sentPlace(IIII)I, from 0 -/
set_option maxRecDepth 4000 in
theorem T107 {a0 : Nat} {a1 : Int32} {a2 : Int32} {a3 : Int32} {a4 : Int32} {h : mH} {K : Option Value → mH → Prop} (H : K (some (.int ((((((41 * a1) + a2) * 30) + a3) * 3) + a4))) h) : Ek 107 0 [some (.ref a0), some (.int a1), some (.int a2), some (.int a3), some (.int a4)] [] h K := by
  exact Ek.ret 14 (fun n => rfl) H

/-- RoundVotesModel.areApart(II)Z, from 0 -/
set_option maxRecDepth 4000 in
theorem T108 {a0 : Nat} {a1 : Int32} {a2 : Int32} {h : mH} {K : Option Value → mH → Prop} (H : (mTg h a0 = 12) ∧ (((lg_cmp ((mI h a0 3)).toInt64 ((mI h a0 47)).toInt64) < 0 → (K (some (.int 0)) h)) ∧ (¬ (lg_cmp ((mI h a0 3)).toInt64 ((mI h a0 47)).toInt64) < 0 → (((0 : Int32) < (lg_cmp ((mI h a0 3)).toInt64 ((mI h a0 48)).toInt64) → (K (some (.int 0)) h)) ∧ (¬ (0 : Int32) < (lg_cmp ((mI h a0 3)).toInt64 ((mI h a0 48)).toInt64) → (((((mI h a0 46) >>> (a1 &&& 31)) &&& 1) = (((mI h a0 46) >>> (a2 &&& 31)) &&& 1) → (K (some (.int 0)) h)) ∧ (¬ (((mI h a0 46) >>> (a1 &&& 31)) &&& 1) = (((mI h a0 46) >>> (a2 &&& 31)) &&& 1) → (K (some (.int 1)) h)))))))) : Ek 108 0 [some (.ref a0), some (.int a1), some (.int a2)] [] h K := by
  have c1 := H.1
  refine Ek.chk 2 (fun n => rfl) c1 ?_
  replace H := H.2
  refine Ek.chk 3 (fun n => rfl) c1 ?_
  refine Ek.chk 3 (fun n => rfl) c1 ?_
  refine Ek.call 1 (fun n => rfl) ?_
  refine Ek.br 4 (fun n => rfl) (fun hc => ?_) (fun hc => ?_)
  · replace H := H.1 hc
    refine Ek.ret 2 (fun n => rfl) ?_
    exact Ek.ret 3 (fun n => rfl) H
  · replace H := H.2 hc
    refine Ek.br 4 (fun n => rfl) (fun hc => ?_) (fun hc => ?_)
    · replace H := H.1 hc
      refine Ek.ret 2 (fun n => rfl) ?_
      exact Ek.ret 3 (fun n => rfl) H
    · replace H := H.2 hc
      refine Ek.ret 3 (fun n => rfl) ?_
      refine Ek.chk 3 (fun n => rfl) c1 ?_
      refine Ek.chk 6 (fun n => rfl) c1 ?_
      refine Ek.br 5 (fun n => rfl) (fun hc => ?_) (fun hc => ?_)
      · replace H := H.1 hc
        exact Ek.ret 2 (fun n => rfl) H
      · replace H := H.2 hc
        exact Ek.ret 3 (fun n => rfl) H

/-- RoundVotesModel.put(IIIIIIIIZ)V, from 0 -/
set_option maxRecDepth 4000 in
theorem T109 {a0 : Nat} {a1 : Int32} {a2 : Int32} {a3 : Int32} {a4 : Int32} {a5 : Int32} {a6 : Int32} {a7 : Int32} {a8 : Int32} {a9 : Int32} {h : mH} {K : Option Value → mH → Prop} (H : (mTg h a0 = 12) ∧ (∃ p2, mP h a0 28 = some p2 ∧ ((mTg h p2 = 20 ∧ ¬ (mI h a0 37) < 0 ∧ ((mI h a0 37).toNatClampNeg) < mLn h p2) ∧ (∀ h4, h4 = wI h p2 ((mI h a0 37).toNatClampNeg) a8 → (∃ p6, mP h a0 29 = some p6 ∧ ((mTg h p6 = 20 ∧ ¬ (mI h a0 37) < 0 ∧ ((mI h a0 37).toNatClampNeg) < mLn h p6) ∧ (∀ h8, h8 = wI h4 p6 ((mI h a0 37).toNatClampNeg) a1 → (∃ p10, mP h a0 30 = some p10 ∧ ((mTg h p10 = 20 ∧ ¬ (mI h a0 37) < 0 ∧ ((mI h a0 37).toNatClampNeg) < mLn h p10) ∧ (∀ h12, h12 = wI h8 p10 ((mI h a0 37).toNatClampNeg) a2 → (∃ p14, mP h a0 31 = some p14 ∧ ((mTg h p14 = 20 ∧ ¬ (mI h a0 37) < 0 ∧ ((mI h a0 37).toNatClampNeg) < mLn h p14) ∧ (∀ h16, h16 = wI h12 p14 ((mI h a0 37).toNatClampNeg) a3 → (∃ p18, mP h a0 32 = some p18 ∧ ((mTg h p18 = 20 ∧ ¬ (mI h a0 37) < 0 ∧ ((mI h a0 37).toNatClampNeg) < mLn h p18) ∧ (∀ h20, h20 = wI h16 p18 ((mI h a0 37).toNatClampNeg) a4 → (∃ p22, mP h a0 33 = some p22 ∧ ((mTg h p22 = 20 ∧ ¬ (mI h a0 37) < 0 ∧ ((mI h a0 37).toNatClampNeg) < mLn h p22) ∧ (∀ h24, h24 = wI h20 p22 ((mI h a0 37).toNatClampNeg) a5 → (∃ p26, mP h a0 34 = some p26 ∧ ((mTg h p26 = 20 ∧ ¬ (mI h a0 37) < 0 ∧ ((mI h a0 37).toNatClampNeg) < mLn h p26) ∧ (∀ h28, h28 = wI h24 p26 ((mI h a0 37).toNatClampNeg) a6 → (∃ p30, mP h a0 35 = some p30 ∧ ((mTg h p30 = 20 ∧ ¬ (mI h a0 37) < 0 ∧ ((mI h a0 37).toNatClampNeg) < mLn h p30) ∧ (∀ h32, h32 = wI h28 p30 ((mI h a0 37).toNatClampNeg) a7 → (∃ p34, mP h a0 36 = some p34 ∧ ((mTg h p34 = 21 ∧ (a9 = 0 ∨ a9 = 1) ∧ ¬ (mI h a0 37) < 0 ∧ ((mI h a0 37).toNatClampNeg) < mLn h p34) ∧ (∀ h36, h36 = wI h32 p34 ((mI h a0 37).toNatClampNeg) a9 → (∀ h38, h38 = wI h36 a0 37 ((mI h36 a0 37) + 1) → (∀ h39, h39 = wI h38 a0 38 ((mI h38 a0 38) + 1) → (K none h39))))))))))))))))))))))))))))))) : Ek 109 0 [some (.ref a0), some (.int a1), some (.int a2), some (.int a3), some (.int a4), some (.int a5), some (.int a6), some (.int a7), some (.int a8), some (.int a9), none] [] h K := by
  have c1 := H.1
  refine Ek.chk 2 (fun n => rfl) c1 ?_
  replace H := H.2
  refine Ek.chk 3 (fun n => rfl) c1 ?_
  obtain ⟨p2, e3, H⟩ := H
  show Ek _ _ _ (va_rf (mP h a0 28) :: _) _ _
  rw [e3]
  have c5 := H.1
  refine Ek.chk 3 (fun n => rfl) c5 ?_
  replace H := H.2
  let h4 : mH := wI h p2 ((mI h a0 37).toNatClampNeg) a8
  replace H := H h4 rfl
  show Ek _ _ _ _ h4 _
  refine Ek.chk 2 (fun n => rfl) c1 ?_
  obtain ⟨p6, e7, H⟩ := H
  show Ek _ _ _ (va_rf (mP h a0 29) :: _) _ _
  rw [e7]
  have c9 := H.1
  refine Ek.chk 3 (fun n => rfl) c9 ?_
  replace H := H.2
  let h8 : mH := wI h4 p6 ((mI h a0 37).toNatClampNeg) a1
  replace H := H h8 rfl
  show Ek _ _ _ _ h8 _
  refine Ek.chk 2 (fun n => rfl) c1 ?_
  obtain ⟨p10, e11, H⟩ := H
  show Ek _ _ _ (va_rf (mP h a0 30) :: _) _ _
  rw [e11]
  have c13 := H.1
  refine Ek.chk 3 (fun n => rfl) c13 ?_
  replace H := H.2
  let h12 : mH := wI h8 p10 ((mI h a0 37).toNatClampNeg) a2
  replace H := H h12 rfl
  show Ek _ _ _ _ h12 _
  refine Ek.chk 2 (fun n => rfl) c1 ?_
  obtain ⟨p14, e15, H⟩ := H
  show Ek _ _ _ (va_rf (mP h a0 31) :: _) _ _
  rw [e15]
  have c17 := H.1
  refine Ek.chk 3 (fun n => rfl) c17 ?_
  replace H := H.2
  let h16 : mH := wI h12 p14 ((mI h a0 37).toNatClampNeg) a3
  replace H := H h16 rfl
  show Ek _ _ _ _ h16 _
  refine Ek.chk 2 (fun n => rfl) c1 ?_
  obtain ⟨p18, e19, H⟩ := H
  show Ek _ _ _ (va_rf (mP h a0 32) :: _) _ _
  rw [e19]
  have c21 := H.1
  refine Ek.chk 3 (fun n => rfl) c21 ?_
  replace H := H.2
  let h20 : mH := wI h16 p18 ((mI h a0 37).toNatClampNeg) a4
  replace H := H h20 rfl
  show Ek _ _ _ _ h20 _
  refine Ek.chk 2 (fun n => rfl) c1 ?_
  obtain ⟨p22, e23, H⟩ := H
  show Ek _ _ _ (va_rf (mP h a0 33) :: _) _ _
  rw [e23]
  have c25 := H.1
  refine Ek.chk 3 (fun n => rfl) c25 ?_
  replace H := H.2
  let h24 : mH := wI h20 p22 ((mI h a0 37).toNatClampNeg) a5
  replace H := H h24 rfl
  show Ek _ _ _ _ h24 _
  refine Ek.chk 2 (fun n => rfl) c1 ?_
  obtain ⟨p26, e27, H⟩ := H
  show Ek _ _ _ (va_rf (mP h a0 34) :: _) _ _
  rw [e27]
  have c29 := H.1
  refine Ek.chk 3 (fun n => rfl) c29 ?_
  replace H := H.2
  let h28 : mH := wI h24 p26 ((mI h a0 37).toNatClampNeg) a6
  replace H := H h28 rfl
  show Ek _ _ _ _ h28 _
  refine Ek.chk 2 (fun n => rfl) c1 ?_
  obtain ⟨p30, e31, H⟩ := H
  show Ek _ _ _ (va_rf (mP h a0 35) :: _) _ _
  rw [e31]
  have c33 := H.1
  refine Ek.chk 3 (fun n => rfl) c33 ?_
  replace H := H.2
  let h32 : mH := wI h28 p30 ((mI h a0 37).toNatClampNeg) a7
  replace H := H h32 rfl
  show Ek _ _ _ _ h32 _
  refine Ek.chk 2 (fun n => rfl) c1 ?_
  obtain ⟨p34, e35, H⟩ := H
  show Ek _ _ _ (va_rf (mP h a0 36) :: _) _ _
  rw [e35]
  have c37 := H.1
  refine Ek.chk 3 (fun n => rfl) c37 ?_
  replace H := H.2
  let h36 : mH := wI h32 p34 ((mI h a0 37).toNatClampNeg) a9
  replace H := H h36 rfl
  show Ek _ _ _ _ h36 _
  refine Ek.chk 3 (fun n => rfl) c1 ?_
  refine Ek.chk 3 (fun n => rfl) c1 ?_
  let h38 : mH := wI h36 a0 37 ((mI h36 a0 37) + 1)
  replace H := H h38 rfl
  show Ek _ _ _ _ h38 _
  refine Ek.chk 3 (fun n => rfl) c1 ?_
  refine Ek.chk 3 (fun n => rfl) c1 ?_
  let h39 : mH := wI h38 a0 38 ((mI h38 a0 38) + 1)
  replace H := H h39 rfl
  show Ek _ _ _ _ h39 _
  exact Ek.ret 1 (fun n => rfl) H

/-- RoundVotesModel.ownValue(III)I, from 0 -/
set_option maxRecDepth 4000 in
theorem T110 {a0 : Nat} {a1 : Int32} {a2 : Int32} {a3 : Int32} {h : mH} {K : Option Value → mH → Prop} (H : (mTg h a0 = 12) ∧ (K (some (.int (2 + (2 * (((((mI h a0 2) ^^^ (7919 * a1)) ^^^ (104729 * a2)) ^^^ (1299709 * a3)) &&& 1048575))))) h)) : Ek 110 0 [some (.ref a0), some (.int a1), some (.int a2), some (.int a3)] [] h K := by
  have c1 := H.1
  refine Ek.chk 4 (fun n => rfl) c1 ?_
  replace H := H.2
  exact Ek.ret 17 (fun n => rfl) H

/-- RoundVotesModel.rules(I)V, from 0 -/
set_option maxRecDepth 4000 in
theorem T111 {a0 : Nat} {a1 : Int32} {h : mH} {K : Option Value → mH → Prop} (H : Ek 111 2 [some (.ref a0), some (.int a1), some (.int 1)] [] h K) : Ek 111 0 [some (.ref a0), some (.int a1), none] [] h K := by
  exact Ek.go 2 (fun n => rfl) H

/-- RoundVotesModel.rules(I)V, from 2 -/
set_option maxRecDepth 4000 in
theorem T111_2 {v0 : Nat} {v1 : Int32} {v2 : Int32} {h : mH} {K : Option Value → mH → Prop} (H : (v2 = 0 → (K none h)) ∧ (¬ v2 = 0 → ((mTg h v0 = 12) ∧ (∃ p2, mP h v0 13 = some p2 ∧ ((mTg h p2 = 21 ∧ ¬ v1 < 0 ∧ (v1.toNatClampNeg) < mLn h p2) ∧ (((mI h p2 (v1.toNatClampNeg)) = 0 → (∃ p5, mP h v0 5 = some p5 ∧ (((mTg h p5 = 20 ∨ mTg h p5 = 30) ∧ ¬ v1 < 0 ∧ (v1.toNatClampNeg) < mLn h p5) ∧ (((40 : Int32) < (mI h p5 (v1.toNatClampNeg)) → (K none h)) ∧ (¬ (40 : Int32) < (mI h p5 (v1.toNatClampNeg)) → (Ek 112 0 [some (.ref v0), some (.int v1), none, none, none, none, none] [] h (fun r h8 => ∃ x9 : Int32, r = some (.int x9) ∧ ((x9 = 0 → ((mTg h8 v0 = 12) ∧ (Ek 119 0 [some (.ref v0), some (.int v1), none, none, none, none, none, none] [] h8 (fun r h11 => ∃ x12 : Int32, r = some (.int x12) ∧ ((x12 = 0 → ((mTg h11 v0 = 12) ∧ (Ek 120 0 [some (.ref v0), some (.int v1), none, none, none, none] [] h11 (fun r h14 => ∃ x15 : Int32, r = some (.int x15) ∧ ((x15 = 0 → ((mTg h14 v0 = 12) ∧ (Ek 122 0 [some (.ref v0), some (.int v1), none, none] [] h14 (fun r h17 => ∃ x18 : Int32, r = some (.int x18) ∧ ((x18 = 0 → ((mTg h17 v0 = 12) ∧ (Ek 123 0 [some (.ref v0), some (.int v1)] [] h17 (fun r h20 => ∃ x21 : Int32, r = some (.int x21) ∧ ((x21 = 0 → ((mTg h20 v0 = 12) ∧ (Ek 124 0 [some (.ref v0), some (.int v1)] [] h20 (fun r h23 => ∃ x24 : Int32, r = some (.int x24) ∧ ((x24 = 0 → ((mTg h23 v0 = 12) ∧ (Ek 125 0 [some (.ref v0), some (.int v1)] [] h23 (fun r h26 => ∃ x27 : Int32, r = some (.int x27) ∧ ((x27 = 0 → (Ek 111 2 [some (.ref v0), some (.int v1), some (.int 0)] [] h26 K)) ∧ (¬ x27 = 0 → (Ek 111 2 [some (.ref v0), some (.int v1), some (.int 1)] [] h26 K))))))) ∧ (¬ x24 = 0 → (Ek 111 2 [some (.ref v0), some (.int v1), some (.int 1)] [] h23 K))))))) ∧ (¬ x21 = 0 → (Ek 111 2 [some (.ref v0), some (.int v1), some (.int 1)] [] h20 K))))))) ∧ (¬ x18 = 0 → (Ek 111 2 [some (.ref v0), some (.int v1), some (.int 1)] [] h17 K))))))) ∧ (¬ x15 = 0 → (Ek 111 2 [some (.ref v0), some (.int v1), some (.int 1)] [] h14 K))))))) ∧ (¬ x12 = 0 → (Ek 111 2 [some (.ref v0), some (.int v1), some (.int 1)] [] h11 K))))))) ∧ (¬ x9 = 0 → (Ek 111 2 [some (.ref v0), some (.int v1), some (.int 1)] [] h8 K)))))))))) ∧ (¬ (mI h p2 (v1.toNatClampNeg)) = 0 → (K none h)))))))) : Ek 111 2 [some (.ref v0), some (.int v1), some (.int v2)] [] h K := by
  refine Ek.br 2 (fun n => rfl) (fun hc => ?_) (fun hc => ?_)
  · replace H := H.1 hc
    exact Ek.ret 1 (fun n => rfl) H
  · replace H := H.2 hc
    have c1 := H.1
    refine Ek.chk 2 (fun n => rfl) c1 ?_
    replace H := H.2
    obtain ⟨p2, e3, H⟩ := H
    show Ek _ _ _ (va_rf (mP h v0 13) :: _) _ _
    rw [e3]
    have c4 := H.1
    refine Ek.chk 2 (fun n => rfl) c4 ?_
    replace H := H.2
    refine Ek.br 1 (fun n => rfl) (fun hc => ?_) (fun hc => ?_)
    · replace H := H.1 hc
      refine Ek.chk 2 (fun n => rfl) c1 ?_
      obtain ⟨p5, e6, H⟩ := H
      show Ek _ _ _ (va_rf (mP h v0 5) :: _) _ _
      rw [e6]
      have c7 := H.1
      refine Ek.chk 2 (fun n => rfl) c7 ?_
      replace H := H.2
      refine Ek.br 2 (fun n => rfl) (fun hc => ?_) (fun hc => ?_)
      · replace H := H.1 hc
        exact Ek.ret 1 (fun n => rfl) H
      · replace H := H.2 hc
        refine Ek.callT 2 (fun n => rfl) c1 ?_
        refine Ek.mono H ?_
        rintro _ h8 ⟨x9, rfl, H⟩
        refine Ek.br 1 (fun n => rfl) (fun hc => ?_) (fun hc => ?_)
        · replace H := H.1 hc
          have c10 := H.1
          refine Ek.callT 2 (fun n => rfl) c10 ?_
          replace H := H.2
          refine Ek.mono H ?_
          rintro _ h11 ⟨x12, rfl, H⟩
          refine Ek.br 1 (fun n => rfl) (fun hc => ?_) (fun hc => ?_)
          · replace H := H.1 hc
            have c13 := H.1
            refine Ek.callT 2 (fun n => rfl) c13 ?_
            replace H := H.2
            refine Ek.mono H ?_
            rintro _ h14 ⟨x15, rfl, H⟩
            refine Ek.br 1 (fun n => rfl) (fun hc => ?_) (fun hc => ?_)
            · replace H := H.1 hc
              have c16 := H.1
              refine Ek.callT 2 (fun n => rfl) c16 ?_
              replace H := H.2
              refine Ek.mono H ?_
              rintro _ h17 ⟨x18, rfl, H⟩
              refine Ek.br 1 (fun n => rfl) (fun hc => ?_) (fun hc => ?_)
              · replace H := H.1 hc
                have c19 := H.1
                refine Ek.callT 2 (fun n => rfl) c19 ?_
                replace H := H.2
                refine Ek.mono H ?_
                rintro _ h20 ⟨x21, rfl, H⟩
                refine Ek.br 1 (fun n => rfl) (fun hc => ?_) (fun hc => ?_)
                · replace H := H.1 hc
                  have c22 := H.1
                  refine Ek.callT 2 (fun n => rfl) c22 ?_
                  replace H := H.2
                  refine Ek.mono H ?_
                  rintro _ h23 ⟨x24, rfl, H⟩
                  refine Ek.br 1 (fun n => rfl) (fun hc => ?_) (fun hc => ?_)
                  · replace H := H.1 hc
                    have c25 := H.1
                    refine Ek.callT 2 (fun n => rfl) c25 ?_
                    replace H := H.2
                    refine Ek.mono H ?_
                    rintro _ h26 ⟨x27, rfl, H⟩
                    refine Ek.br 1 (fun n => rfl) (fun hc => ?_) (fun hc => ?_)
                    · replace H := H.1 hc
                      exact Ek.go 3 (fun n => rfl) H
                    · replace H := H.2 hc
                      exact Ek.go 4 (fun n => rfl) H
                  · replace H := H.2 hc
                    exact Ek.go 4 (fun n => rfl) H
                · replace H := H.2 hc
                  exact Ek.go 4 (fun n => rfl) H
              · replace H := H.2 hc
                exact Ek.go 4 (fun n => rfl) H
            · replace H := H.2 hc
              exact Ek.go 4 (fun n => rfl) H
          · replace H := H.2 hc
            exact Ek.go 4 (fun n => rfl) H
        · replace H := H.2 hc
          exact Ek.go 4 (fun n => rfl) H
    · replace H := H.2 hc
      exact Ek.ret 1 (fun n => rfl) H

