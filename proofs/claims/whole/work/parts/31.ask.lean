/-! ===== what the asking methods answer ===== -/
section Ask
variable {E : mE} {S : mS} {K : Option Value → mS → Prop}
theorem ix_lt {r z j k : Nat} (hr : r < 30) (hj : j < z) (hk : k < 3) : (r * z + j) * 3 + k < 90 * z := by
  have h1 : (r + 1) * z ≤ 30 * z := Nat.mul_le_mul_right z hr
  rw [Nat.succ_mul] at h1
  omega
/-- votersFor: the bits of those whose message of kind k in round r is v -/
theorem sp_votersFor {i c r k z : Nat} {v : Int32} (hi : i < eN E) (hc : Bal c) (hz : sN S i c 0 = nI z) (hz1 : z ≤ 10) (hl : lnB (eN E) c = 90 * z) (hr : r < 30) (hk : k < 3)
    (hK : K (some (.int (vbits (fun s => decide (sN S i (c + 2) ((r * z + s) * 3 + k) = v)) z))) S) : ES E 12 0 [some (.ref (aN E i c)), some (.int (nI r)), some (.int (nI k)), some (.int v), none, none] [] S K := by
  refine T12 hi hc ?_
  have key : ∀ d j, j + d = z → ES E 12 6 [some (.ref (aN E i c)), some (.int (nI r)), some (.int (nI k)), some (.int v), some (.int (vbits (fun s => decide (sN S i (c + 2) ((r * z + s) * 3 + k) = v)) j)), some (.int (nI j))] [] S K := by
    intro d
    induction d with
    | zero =>
      intro j hj
      have e : j = z := by omega
      subst e
      exact T12_6 hi hc ⟨fun _ => hK, fun h => absurd (by rw [hz]; exact nI_le (Nat.le_refl _) (by omega)) h⟩
    | succ d ih =>
      intro j hj
      have hb := ix_lt hr (show j < z by omega) hk
      refine T12_6 hi hc ⟨fun h => ?_, fun _ => ?_⟩
      · rw [hz, le_n (by omega) (by omega)] at h
        omega
      · rw [hz, ix_b, nI_1]
        refine ⟨in_n rfl (by rw [hl]; exact hb) (by rw [hl]; omega), ?_⟩
        rw [nI_clamp (by omega)]
        have hn := ih (j + 1) (by omega)
        unfold vbits at hn
        refine ⟨fun h => ?_, fun h => ?_⟩
        · rw [if_pos (decide_eq_true h)] at hn
          exact hn
        · rw [if_neg (fun q => h (of_decide_eq_true q))] at hn
          exact hn
  exact key z 0 (by omega)
/-- voters: the bits of those of whom there is a message of kind k in round r -/
theorem sp_voters {i c r k z : Nat} (hi : i < eN E) (hc : Bal c) (hz : sN S i c 0 = nI z) (hz1 : z ≤ 10) (hl : lnB (eN E) c = 90 * z) (hr : r < 30) (hk : k < 3)
    (hK : K (some (.int (vbits (fun s => decide (¬ sN S i (c + 2) ((r * z + s) * 3 + k) = -2)) z))) S) : ES E 14 0 [some (.ref (aN E i c)), some (.int (nI r)), some (.int (nI k)), none, none] [] S K := by
  refine T14 hi hc ?_
  have key : ∀ d j, j + d = z → ES E 14 5 [some (.ref (aN E i c)), some (.int (nI r)), some (.int (nI k)), some (.int (vbits (fun s => decide (¬ sN S i (c + 2) ((r * z + s) * 3 + k) = -2)) j)), some (.int (nI j))] [] S K := by
    intro d
    induction d with
    | zero =>
      intro j hj
      have e : j = z := by omega
      subst e
      exact T14_5 hi hc ⟨fun _ => hK, fun h => absurd (by rw [hz]; exact nI_le (Nat.le_refl _) (by omega)) h⟩
    | succ d ih =>
      intro j hj
      have hb := ix_lt hr (show j < z by omega) hk
      refine T14_5 hi hc ⟨fun h => ?_, fun _ => ?_⟩
      · rw [hz, le_n (by omega) (by omega)] at h
        omega
      · rw [hz, ix_b, nI_1]
        refine ⟨in_n rfl (by rw [hl]; exact hb) (by rw [hl]; omega), ?_⟩
        rw [nI_clamp (by omega)]
        have hn := ih (j + 1) (by omega)
        unfold vbits at hn
        refine ⟨fun h => ?_, fun h => ?_⟩
        · rw [if_neg (fun q => absurd h (of_decide_eq_true q))] at hn
          exact hn
        · rw [if_pos (decide_eq_true h)] at hn
          exact hn
  exact key z 0 (by omega)
/-- weightOfAll: the weights of those whose bits are set -/
theorem sp_weightOfAll {x : Int32} {hh : Nat} (hz : sK S 9 0 = nI (eN E)) (hn : eN E ≤ 10) (h41 : hh < 41) (hK : K (some (.int (wsum (fun s => bt x s) (fun s => sK S (12 + hh) s) (eN E)))) S) : ES E 30 0 [some (.ref (aK E 9)), some (.int x), some (.int (nI hh)), none, none] [] S K := by
  refine T30 ?_
  have key : ∀ d j, j + d = eN E → ES E 30 5 [some (.ref (aK E 9)), some (.int x), some (.int (nI hh)), some (.int (wsum (fun s => bt x s) (fun s => sK S (12 + hh) s) j)), some (.int (nI j))] [] S K := by
    intro d
    induction d with
    | zero =>
      intro j hj
      have e : j = eN E := by omega
      subst e
      exact T30_5 ⟨fun _ => hK, fun h => absurd (by rw [hz]; exact nI_le (Nat.le_refl _) (by omega)) h⟩
    | succ d ih =>
      intro j hj
      refine T30_5 ⟨fun h => ?_, fun _ => ?_⟩
      · rw [hz, le_n (by omega) (by omega)] at h
        omega
      · have hn2 := ih (j + 1) (by omega)
        unfold wsum at hn2
        rw [b_test (by omega), nI_1]
        refine ⟨fun h => ?_, fun h => ?_⟩
        · refine ⟨in_n rfl h41 (by omega), in_n rfl (by omega) (by omega), ?_⟩
          rw [nI_clamp (by omega), nI_clamp (by omega)]
          rw [if_pos h] at hn2
          exact hn2
        · rw [if_neg h] at hn2
          exact hn2
  exact key (eN E) 0 (by omega)
/-- areMany, areSome -/
theorem sp_areMany {i hh : Nat} {x : Int32} (hi : i < eN E) (hz : sK S 9 0 = nI (eN E)) (hn : eN E ≤ 10) (hg : sN S i 0 2 = nI hh) (h41 : hh < 41)
    (hK : K (some (.int (if 3 * wsum (fun s => bt x s) (fun s => sK S (12 + hh) s) (eN E) ≤ 2 * sK S 10 hh then 0 else 1))) S) : ES E 46 0 [some (.ref (aN E i 0)), some (.int x)] [] S K := by
  refine T46 hi ?_
  rw [hg]
  refine sp_weightOfAll hz hn h41 ⟨_, rfl, ?_⟩
  rw [hg]
  refine ⟨in_n rfl h41 (by omega), ?_⟩
  rw [nI_clamp (by omega)]
  refine ⟨fun h => ?_, fun h => ?_⟩
  · rw [if_pos h] at hK
    exact hK
  · rw [if_neg h] at hK
    exact hK
theorem sp_areSome {i hh : Nat} {x : Int32} (hi : i < eN E) (hz : sK S 9 0 = nI (eN E)) (hn : eN E ≤ 10) (hg : sN S i 0 2 = nI hh) (h41 : hh < 41)
    (hK : K (some (.int (if 3 * wsum (fun s => bt x s) (fun s => sK S (12 + hh) s) (eN E) ≤ sK S 10 hh then 0 else 1))) S) : ES E 50 0 [some (.ref (aN E i 0)), some (.int x)] [] S K := by
  refine T50 hi ?_
  rw [hg]
  refine sp_weightOfAll hz hn h41 ⟨_, rfl, ?_⟩
  rw [hg]
  refine ⟨in_n rfl h41 (by omega), ?_⟩
  rw [nI_clamp (by omega)]
  refine ⟨fun h => ?_, fun h => ?_⟩
  · rw [if_pos h] at hK
    exact hK
  · rw [if_neg h] at hK
    exact hK
/-- the reference: all -/
theorem sp_all {hh : Nat} (hz : sS S 0 1 = nI (eN E)) (hn : eN E ≤ 10) (h41 : hh < 42) (hK : K (some (.long (wsumL (fun _ => true) (fun s => sS S 1 (10 * hh + s)) (eN E)))) S) : ES E 117 0 [some (.ref (aS E 0)), some (.int (nI hh)), none, none, none] [] S K := by
  refine T117 ?_
  have key : ∀ d j, j + d = eN E → ES E 117 5 [some (.ref (aS E 0)), some (.int (nI hh)), some (.long (wsumL (fun _ => true) (fun s => sS S 1 (10 * hh + s)) j)), none, some (.int (nI j))] [] S K := by
    intro d
    induction d with
    | zero =>
      intro j hj
      have e : j = eN E := by omega
      subst e
      exact T117_5 ⟨fun _ => hK, fun h => absurd (by rw [hz]; exact nI_le (Nat.le_refl _) (by omega)) h⟩
    | succ d ih =>
      intro j hj
      refine T117_5 ⟨fun h => ?_, fun _ => ?_⟩
      · rw [hz, le_n (by omega) (by omega)] at h
        omega
      · have hn2 := ih (j + 1) (by omega)
        rw [ix_w, nI_1]
        refine ⟨in_n rfl (by omega) (by omega), ?_⟩
        rw [nI_clamp (by omega)]
        exact hn2
  exact key (eN E) 0 (by omega)
/-- the reference: isMany -/
theorem sp_isMany {hh : Nat} {x : Int64} (hz : sS S 0 1 = nI (eN E)) (hn : eN E ≤ 10) (h41 : hh < 42) (hK : K (some (.int (if lg_cmp (3 * x) (2 * wsumL (fun _ => true) (fun s => sS S 1 (10 * hh + s)) (eN E)) ≤ 0 then 0 else 1))) S) : ES E 116 0 [some (.ref (aS E 0)), some (.long x), none, some (.int (nI hh))] [] S K := by
  refine T116 (sp_all hz hn h41 ⟨_, rfl, fun h => ?_, fun h => ?_⟩)
  · rw [if_pos h] at hK
    exact hK
  · rw [if_neg h] at hK
    exact hK
/-- the place of a message in the reference's rows -/
def pl (i h r s k : Nat) : Nat := (((2 * i + h % 2) * 30 + r) * 10 + s) * 3 + k
theorem pl_lt {i h r s k : Nat} (hi : i < 10) (hr : r < 30) (hs : s < 10) (hk : k < 3) : pl i h r s k < 18000 := by
  unfold pl
  have : h % 2 < 2 := Nat.mod_lt _ (by omega)
  omega
/-- the reference: votes -/
theorem sp_votes {i hh r k : Nat} {v : Int32} (hi : i < eN E) (hz : sS S 0 1 = nI (eN E)) (hn : eN E ≤ 10) (hg : sS S 2 i = nI hh) (h42 : hh < 42) (hr : r < 30) (hk : k < 3)
    (hK : K (some (.long (wsumL (fun s => decide (0 ≤ sS S 17 (pl i hh r s k) ∧ (v < 0 ∨ sS S 17 (pl i hh r s k) = v))) (fun s => sS S 1 (10 * hh + s)) (eN E)))) S) : ES E 115 0 [some (.ref (aS E 0)), some (.int (nI i)), some (.int (nI r)), some (.int (nI k)), some (.int v), none, none, none, none] [] S K := by
  refine T115 ?_
  have key : ∀ d j, j + d = eN E → ES E 115 6 [some (.ref (aS E 0)), some (.int (nI i)), some (.int (nI r)), some (.int (nI k)), some (.int v), some (.long (wsumL (fun s => decide (0 ≤ sS S 17 (pl i hh r s k) ∧ (v < 0 ∨ sS S 17 (pl i hh r s k) = v))) (fun s => sS S 1 (10 * hh + s)) j)), none, some (.int (nI j)), none] [] S K := by
    intro d
    induction d with
    | zero =>
      intro j hj
      have e : j = eN E := by omega
      subst e
      exact T115_6 ⟨fun _ => hK, fun h => absurd (by rw [hz]; exact nI_le (Nat.le_refl _) (by omega)) h⟩
    | succ d ih =>
      intro j hj
      have hb := pl_lt (i := i) (h := hh) (r := r) (s := j) (k := k) (by omega) hr (by omega) hk
      refine T115_6 ⟨fun h => ?_, fun _ => ?_⟩
      · rw [hz, le_n (by omega) (by omega)] at h
        omega
      · have hn2 := ih (j + 1) (by omega)
        unfold wsumL at hn2
        rw [nI_clamp (show i < 2 ^ 31 by omega), hg, ix_p (by omega) (by omega) hr (by omega) hk, ix_w, nI_1]
        refine ⟨⟨nI_pos (by omega), by omega⟩, by decide, in_n rfl hb (by omega), ?_⟩
        rw [nI_clamp (show (((2 * i + hh % 2) * 30 + r) * 10 + j) * 3 + k < 2 ^ 31 from Nat.lt_trans hb (by omega)), nI_clamp (show 10 * hh + j < 2 ^ 31 by omega)]
        refine ⟨fun h => ?_, fun h => ?_⟩
        · rw [if_neg (fun q => by
            have q1 := (of_decide_eq_true q).1
            rw [Int32.le_iff_toInt_le] at q1
            rw [Int32.lt_iff_toInt_lt] at h
            unfold pl at q1
            omega)] at hn2
          exact hn2
        · have h0 : (0 : Int32) ≤ sS S 17 (pl i hh r j k) := by
            rw [Int32.le_iff_toInt_le]
            rw [Int32.lt_iff_toInt_lt] at h
            unfold pl
            omega
          refine ⟨fun h2 => ?_, fun h2 => ⟨fun h3 => ?_, fun h3 => ?_⟩⟩
          · rw [if_pos (decide_eq_true ⟨h0, Or.inl h2⟩)] at hn2
            exact ⟨⟨nI_pos (by omega), by omega⟩, hn2⟩
          · rw [if_pos (decide_eq_true ⟨h0, Or.inr h3⟩)] at hn2
            exact ⟨⟨nI_pos (by omega), by omega⟩, hn2⟩
          · rw [if_neg (fun q => (of_decide_eq_true q).2.elim h2 h3)] at hn2
            exact hn2
  exact key (eN E) 0 (by omega)
end Ask
