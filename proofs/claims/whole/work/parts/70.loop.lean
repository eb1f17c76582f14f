/-! ===== the law's loop ===== -/
section Loop
variable {E : mE} {A B : mS} {L : List Mg} {T : Nat}
theorem law_step {m n T' : Nat} {l lr : mL} {v : Int32} {K : Option Value → mS → Prop} (a : ANS E T' m l n lr A B) (nx : ∀ A2 B2 L2, CI E T' A2 B2 L2 → ES E 146 38 [some (.ref (eb E)), some (.ref (aK E 0)), some (.ref (aS E 0)), some (.int v)] [] (mix A2 B2) K) :
    ES E m 0 l [] (mix A B) (fun r S6 => ∃ x7 : Int32, r = some (.int x7) ∧ (ES E n 0 lr [] S6 (fun r S8 => ∃ x9 : Int32, r = some (.int x9) ∧ ((x7 = x9 → (ES E 146 38 [some (.ref (eb E)), some (.ref (aK E 0)), some (.ref (aS E 0)), some (.int v)] [] S8 K)) ∧ (¬ x7 = x9 → (K (some (.int 0)) S8)))))) := by
  obtain ⟨x, A2, B2, L2, c, r, ci⟩ := a
  exact c B _ ⟨x, rfl, r A2 _ ⟨x, rfl, aq_T rfl (nx A2 B2 L2 ci)⟩⟩
theorem law_loop (hL : eL E ≤ 322) {K : Option Value → mS → Prop} (hK : ∀ S, sU S ≤ 12000 → K (some (.int 1)) S) : ∀ d v T A B L, eL E ≤ v + 5 * d → v ≤ 400 → T + 100 * d ≤ 40000 → CI E T A B L → ES E 146 38 [some (.ref (eb E)), some (.ref (aK E 0)), some (.ref (aS E 0)), some (.int (nI v))] [] (mix A B) K := by
  intro d
  induction d with
  | zero =>
    intro v T A B L hv hv4 hT hC
    obtain ⟨u, m1, -⟩ := hC.1.1.2.2.2.1
    refine T146_38 (aq_T ?_ (hK _ m1.2.2.1))
    rw [show (5 : Int32) = nI 5 from rfl, Int32.lt_iff_toInt_lt, pk_sub_toInt (by omega) (by omega), nI_toInt (by omega)]
    omega
  | succ d ih =>
    intro v T A B L hv hv4 hT hC
    obtain ⟨u, m1, -⟩ := hC.1.1.2.2.2.1
    by_cases e : eL E < v + 5
    · refine T146_38 (aq_T ?_ (hK _ m1.2.2.1))
      rw [show (5 : Int32) = nI 5 from rfl, Int32.lt_iff_toInt_lt, pk_sub_toInt (by omega) (by omega), nI_toInt (by omega)]
      omega
    · have nx : ∀ A2 B2 L2, CI E (T + 100) A2 B2 L2 → ES E 146 38 [some (.ref (eb E)), some (.ref (aK E 0)), some (.ref (aS E 0)), some (.int (nI v + 5))] [] (mix A2 B2) K := fun A2 B2 L2 h => by
        rw [show nI v + 5 = nI (v + 5) from nI_add v 5]
        exact ih (v + 5) (T + 100) A2 B2 L2 (by omega) (by omega) (by omega) h
      have g1 : ¬ (nI v + 1) < 0 ∧ (nI v + 1).toNatClampNeg < eL E := in_n (show nI v + 1 = nI (v + 1) from nI_add v 1) (by omega) (by omega)
      have g2 : ¬ (nI v + 2) < 0 ∧ (nI v + 2).toNatClampNeg < eL E := in_n (show nI v + 2 = nI (v + 2) from nI_add v 2) (by omega) (by omega)
      have g3 : ¬ (nI v + 3) < 0 ∧ (nI v + 3).toNatClampNeg < eL E := in_n (show nI v + 3 = nI (v + 3) from nI_add v 3) (by omega) (by omega)
      have g4 : ¬ (nI v + 4) < 0 ∧ (nI v + 4).toNatClampNeg < eL E := in_n (show nI v + 4 = nI (v + 4) from nI_add v 4) (by omega) (by omega)
      refine T146_38 (aq_F ?_ ⟨in_n rfl (by omega) (by omega), 
        fun _ => ⟨g1, g2, law_step (k_weight hC (by omega) _ _) nx⟩,
        fun _ => ⟨g1, g2, law_step (k_behave hC _ _) nx⟩,
        fun _ => ⟨g1, g2, g3, law_step (k_disturb hC _ _ _) nx⟩,
        fun _ => ⟨g1, g2, law_step (k_sides hC (by omega) _ _) nx⟩,
        fun _ => ⟨g1, g2, law_step (k_cut hC (by omega) _ _) nx⟩,
        fun _ => ⟨g1, law_step (k_turn hC (by omega) _) nx⟩,
        fun _ => ⟨g1, law_step (k_catch hC (by omega) _) nx⟩,
        fun _ => ⟨g1, g2, law_step (k_node hC (by omega) _ _) nx⟩,
        fun _ => ⟨g1, g2, g3, g4, law_step (k_vote hC _ _ _ _) nx⟩,
        fun _ => ⟨g1, g2, g3, law_step (k_decided hC _ _ _) nx⟩,
        fun _ => ⟨g1, law_step (k_unlike hC _) nx⟩,
        fun _ => ⟨g1, g2, law_step (k_evidence hC _ _) nx⟩,
        fun _ => ⟨g1, law_step (k_against hC _) nx⟩,
        fun _ => ⟨g1, law_step (k_count hC (by omega) _) nx⟩,
        fun _ => ⟨g1, g2, law_step (k_weightOf hC _ _) nx⟩,
        fun _ _ _ _ _ _ _ _ _ _ _ _ _ _ _ => nx A B L (hC.mono (by omega))⟩)
      rw [show (5 : Int32) = nI 5 from rfl, Int32.lt_iff_toInt_lt, pk_sub_toInt (by omega) (by omega), nI_toInt (by omega)]
      omega
end Loop
