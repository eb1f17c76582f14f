/-! ===== a copy goes, in the reference ===== -/
def mkR (a b h r k v q due sec : Int32) : Mg := fun j => match j with
  | 0 => a
  | 1 => b
  | 2 => h
  | 3 => r
  | 4 => k
  | 5 => v
  | 6 => q
  | 7 => due
  | _ => sec
/-- what a copy that goes leaves of the reference's part, but for what is told and noted -/
def FBt (B B' : mS) : Prop := (∀ v k, v < 25 ∨ 33 < v → ¬ (v = 0 ∧ (k = 37 ∨ k = 38 ∨ k = 41)) → sS B' v k = sS B v k) ∧ ∀ k, sW B' k = sW B k
section RCopy
variable {E : mE} {B : mS} {N : List Mg} {u d dd : Nat} {a b h r k v q x kd y : Int32} {R : Int32 → Int32 → Int32 → Prop}
theorem sW_rP (B : mS) (c : Nat) (m : Mg) (k : Nat) : sW (rP B c m) k = sW B k := by
  unfold rP
  simp only [fNK, fRK, fQK, fMK, fUK, fSK, fWK, fKN, fRN, fQN, fMN, fUN, fSN, fWN, fKR, fNR, fQR, fMR, fUR, fSR, fWR, fKQ, fNQ, fRQ, fMQ, fUQ, fSQ, fWQ, fKM, fNM, fRM, fQM, fUM, fSM, fWM, fKA, fNA, fRA, fQA, fSA, fWA, fKS, fNS, fRS, fQS, fMS, fUS, fWS, fKW, fNW, fRW, fQW, fMW, fUW, fSW]
theorem r_tail (hM : MR B N) (hu : sS B 0 38 = nI u) (h6 : u ≤ 6000) (hl : N.length ≤ u + 6000) (hd : sS B 0 45 = nI dd) (hdd : dd ≤ d) (hd6 : d ≤ 60) : ∃ B', (∀ (A : mS) (K : Option Value → mS → Prop), K none (mix A B') → ES E 105 47 [some (.ref (aS E 0)), some (.int a), some (.int b), some (.int h), some (.int r), some (.int k), some (.int v), some (.int q), some (.int x), some (.int kd), some (.int y), some (.int (nI d)), none] [] (mix A B) K) ∧
    MR B' (N ++ oc kd y (apB (sS B 0 3) (sS B 0 47) (sS B 0 48) (sS B 0 46) a b) u (sS B 0 3) (mkR a b h r k v q)) ∧ sS B' 0 38 = nI (u + (oc kd y (apB (sS B 0 3) (sS B 0 47) (sS B 0 48) (sS B 0 46) a b) u (sS B 0 3) (mkR a b h r k v q)).length) ∧ sS B' 0 41 = sS B 0 41 + ol kd (apB (sS B 0 3) (sS B 0 47) (sS B 0 48) (sS B 0 46) a b) u ∧ FBt B B' := by
  generalize hap : apB (sS B 0 3) (sS B 0 47) (sS B 0 48) (sS B 0 46) a b = ap
  have ha := r_apart (E := E) (B := B) (a := a) (b := b)
  rw [hap] at ha
  have hin : ∀ A : mS, sS (mix A B) 0 45 ≤ nI d := fun A => by rw [mxS, hd]; exact nI_le hdd (by omega)
  have lost1 : MR (uS B 0 41 (sS B 0 41 + 1)) N ∧ FBt B (uS B 0 41 (sS B 0 41 + 1)) := ⟨by
    refine ⟨by rw [rSo _ (by omega)]; exact hM.1, fun j m hj k hk h6 => ?_⟩
    have := fR_b k
    rw [rSo _ (by omega)]
    exact hM.2 j m hj k hk h6, fun v k _ h => by rw [rSo _ (by omega)], fun _ => by rw [fWS]⟩
  have e6 : (6000 : Int32) = nI 6000 := rfl
  by_cases h0 : kd = 0
  · have e1 : oc kd y ap u (sS B 0 3) (mkR a b h r k v q) = [] := if_pos (Or.inl h0)
    have e2 : ol kd ap u = 1 := if_pos (Or.inl h0)
    refine ⟨uS B 0 41 (sS B 0 41 + 1), fun A K hK => T105_47 ⟨fun _ => ⟨fun _ => ?_, fun q => absurd h0 q⟩, fun q => absurd (hin A) q⟩, ?_, ?_, ?_, lost1.2⟩
    · rintro _ rfl
      rw [pS, mxS]
      exact hK
    · rw [e1, List.append_nil]
      exact lost1.1
    · rw [e1, rSo _ (by omega)]
      exact hu
    · rw [e2, rSs]
  · by_cases h1 : ap = true
    · have e1 : oc kd y ap u (sS B 0 3) (mkR a b h r k v q) = [] := if_pos (Or.inr (Or.inl h1))
      have e2 : ol kd ap u = 1 := if_pos (Or.inr (Or.inl h1))
      rw [if_pos h1] at ha
      refine ⟨uS B 0 41 (sS B 0 41 + 1), fun A K hK => T105_47 ⟨fun _ => ⟨fun q => absurd q h0, fun _ => ha A _ ⟨1, rfl, fun q => absurd q (by decide), fun _ => ?_⟩⟩, fun q => absurd (hin A) q⟩, ?_, ?_, ?_, lost1.2⟩
      · rintro _ rfl
        rw [pS, mxS]
        exact hK
      · rw [e1, List.append_nil]
        exact lost1.1
      · rw [e1, rSo _ (by omega)]
        exact hu
      · rw [e2, rSs]
    · rw [if_neg h1] at ha
      by_cases h2 : u = 6000
      · have e1 : oc kd y ap u (sS B 0 3) (mkR a b h r k v q) = [] := if_pos (Or.inr (Or.inr h2))
        have e2 : ol kd ap u = 1 := if_pos (Or.inr (Or.inr h2))
        refine ⟨uS B 0 41 (sS B 0 41 + 1), fun A K hK => T105_47 ⟨fun _ => ⟨fun q => absurd q h0, fun _ => ha A _ ⟨0, rfl, fun _ => ⟨fun _ => ?_, fun q => absurd (by rw [mxS, hu, h2]; rfl) q⟩, fun q => absurd rfl q⟩⟩, fun q => absurd (hin A) q⟩, ?_, ?_, ?_, lost1.2⟩
        · rintro _ rfl
          rw [pS, mxS]
          exact hK
        · rw [e1, List.append_nil]
          exact lost1.1
        · rw [e1, rSo _ (by omega)]
          exact hu
        · rw [e2, rSs]
      · have hn : ¬ (kd = 0 ∨ ap = true ∨ u = 6000) := by
          rintro (q | q | q)
          · exact h0 q
          · exact h1 q
          · exact h2 q
        have n6 : ∀ A : mS, ¬ sS (mix A B) 0 38 = 6000 := fun A => by
          rw [mxS, hu, e6, nI_eq (by omega) (by omega)]
          exact h2
        have hF : ∀ m, FBt B (rP B N.length m) := fun m => ⟨fun v k g1 g2 => rP_o _ _ _ _ _ (by omega) (by omega), sW_rP _ _ _⟩
        have h38 : ∀ (B : mS) c m, sS (rP B c m) 0 38 = sS B 0 38 + 1 := fun B c m => by unfold rP; rw [rSs]
        by_cases hk1 : kd = 1
        · have p1 := r_put (E := E) (m := mkR a b h r k v q (sS B 0 3 + 1 + 0) 0) hM (by omega) (Or.inl rfl)
          have p2 := mr_put (m := mkR a b h r k v q (sS B 0 3 + 1 + 0) 0) hM
          generalize hB1 : rP B N.length (mkR a b h r k v q (sS B 0 3 + 1 + 0) 0) = B1 at p1 p2
          have hF1 : FBt B B1 := hB1 ▸ hF _
          have hu1 : sS B1 0 38 = nI (u + 1) := by rw [← hB1, h38, hu, nI_1]
          by_cases h3 : u + 1 = 6000
          · have e1 : oc kd y ap u (sS B 0 3) (mkR a b h r k v q) = [mkR a b h r k v q (sS B 0 3 + 1 + 0) 0] := by unfold oc; rw [if_neg hn, if_pos hk1, if_pos h3]
            have e2 : ol kd ap u = 1 := by unfold ol; rw [if_neg hn, if_pos ⟨hk1, h3⟩]
            refine ⟨uS B1 0 41 (sS B1 0 41 + 1), fun A K hK => T105_47 ⟨fun _ => ⟨fun q => absurd q h0, fun _ => ha A _ ⟨0, rfl, fun _ => ⟨fun q => absurd q (n6 A), fun _ => ⟨fun q => absurd q (by rw [hk1]; decide), fun _ => p1 A _ ⟨rfl, fun _ => ⟨fun _ => ?_, fun q => absurd (by rw [mxS, hu1, h3]; rfl) q⟩, fun q => absurd hk1 q⟩⟩⟩, fun q => absurd rfl q⟩⟩, fun q => absurd (hin A) q⟩, ?_, ?_, ?_, ?_⟩
            · rintro _ rfl
              rw [pS, mxS]
              exact hK
            · rw [e1]
              refine ⟨by rw [rSo _ (by omega)]; exact p2.1, fun j m hj k hk h6 => ?_⟩
              have := fR_b k
              rw [rSo _ (by omega)]
              exact p2.2 j m hj k hk h6
            · rw [e1, rSo _ (by omega), hu1]
              rfl
            · rw [e2, rSs, ← hB1, rP_o _ _ _ _ _ (by omega) (by omega)]
            · exact ⟨fun v k g1 g2 => by rw [rSo _ (by omega), hF1.1 v k g1 g2], fun k => by rw [fWS, hF1.2]⟩
          · have e1 : oc kd y ap u (sS B 0 3) (mkR a b h r k v q) = [mkR a b h r k v q (sS B 0 3 + 1 + 0) 0, mkR a b h r k v q (sS B 0 3 + 2) 1] := by unfold oc; rw [if_neg hn, if_pos hk1, if_neg h3]
            have e2 : ol kd ap u = 0 := by unfold ol; rw [if_neg hn, if_neg (fun q => h3 q.2)]
            have t3 : sS B1 0 3 = sS B 0 3 := hF1.1 0 3 (by omega) (by omega)
            have l1 : (N ++ [mkR a b h r k v q (sS B 0 3 + 1 + 0) 0]).length < 20000 := by rw [List.length_append]; simp; omega
            have q1 := r_put (E := E) (m := mkR a b h r k v q (sS B1 0 3 + 2) 1) p2 l1 (Or.inr rfl)
            have q2 := mr_put (m := mkR a b h r k v q (sS B1 0 3 + 2) 1) p2
            refine ⟨rP B1 (N ++ [mkR a b h r k v q (sS B 0 3 + 1 + 0) 0]).length (mkR a b h r k v q (sS B1 0 3 + 2) 1), fun A K hK => T105_47 ⟨fun _ => ⟨fun q => absurd q h0, fun _ => ha A _ ⟨0, rfl, fun _ => ⟨fun q => absurd q (n6 A), fun _ => ⟨fun q => absurd q (by rw [hk1]; decide), fun _ => p1 A _ ⟨rfl, fun _ => ⟨fun q => absurd q (by rw [mxS, hu1, e6, nI_eq (by omega) (by omega)]; exact h3), fun _ => q1 A _ ⟨rfl, hK⟩⟩, fun q => absurd hk1 q⟩⟩⟩, fun q => absurd rfl q⟩⟩, fun q => absurd (hin A) q⟩, ?_, ?_, ?_, ?_⟩
            · rw [e1, ← t3]
              rw [List.append_assoc, t3] at q2
              rw [t3]
              exact q2
            · rw [e1, h38, hu1, nI_1]
              rfl
            · rw [e2, Int32.add_zero, rP_o _ _ _ _ _ (by omega) (by omega), ← hB1]
              unfold rP
              simp [rS]
            · refine ⟨fun v k g1 g2 => ?_, fun k => ?_⟩
              · rw [rP_o _ _ _ _ _ (by omega) (by omega), hF1.1 v k g1 g2]
              · rw [sW_rP, hF1.2]
        · have e2 : ol kd ap u = 0 := by unfold ol; rw [if_neg hn, if_neg (fun q => hk1 q.1)]
          have e1 : oc kd y ap u (sS B 0 3) (mkR a b h r k v q) = [mkR a b h r k v q (sS B 0 3 + 1 + (if kd = 2 then y else 0)) 0] := by unfold oc; rw [if_neg hn, if_neg hk1]
          have p1 := r_put (E := E) (m := mkR a b h r k v q (sS B 0 3 + 1 + (if kd = 2 then y else 0)) 0) hM (by omega) (Or.inl rfl)
          have p2 := mr_put (m := mkR a b h r k v q (sS B 0 3 + 1 + (if kd = 2 then y else 0)) 0) hM
          refine ⟨rP B N.length (mkR a b h r k v q (sS B 0 3 + 1 + (if kd = 2 then y else 0)) 0), fun A K hK => T105_47 ⟨fun _ => ⟨fun q => absurd q h0, fun _ => ha A _ ⟨0, rfl, fun _ => ⟨fun q => absurd q (n6 A), fun _ => ⟨fun h2 => ?_, fun h2 => ?_⟩⟩, fun q => absurd rfl q⟩⟩, fun q => absurd (hin A) q⟩, ?_, ?_, ?_, hF _⟩
          · rw [if_pos h2] at p1 hK
            exact p1 A _ ⟨rfl, fun q => absurd q hk1, fun _ => hK⟩
          · rw [if_neg h2] at p1 hK
            exact p1 A _ ⟨rfl, fun q => absurd q hk1, fun _ => hK⟩
          · rw [e1]
            exact p2
          · rw [e1, h38, hu, nI_1]
            rfl
          · rw [e2, Int32.add_zero]
            unfold rP
            simp [rS]
end RCopy
