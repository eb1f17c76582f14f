/-! ===== what holds between calls holds at first ===== -/
theorem wsum_0 {p : Nat → Bool} {w : Nat → Int32} : ∀ n, (∀ k, k < n → w k = 0) → wsum p w n = 0
  | 0, _ => rfl
  | n + 1, h => by
    unfold wsum
    rw [wsum_0 n (fun k hk => h k (by omega)), h n (by omega)]
    split
    · rfl
    · rfl
theorem nsum_1 : ∀ n, nsum (fun _ => true) (fun _ => 1) n = n
  | 0 => rfl
  | n + 1 => by
    unfold nsum
    rw [if_pos rfl, nsum_1 n]
section Begun
variable {g : Nat → mCe} {B s z b L : Nat} {xs : Nat → Int32} {seed : Int32} {h : mH} {R : mS}
set_option maxHeartbeats 4000000 in
theorem MADE.ci (H : MADE g B s seed z h) (z1 : 1 ≤ z) (z10 : z ≤ 10) (hR : RI R seed z) : CI (B, z, b, L, xs) 0 (stH (B, z, b, L, xs) h) R [] := by
  obtain ⟨r01, r02, r0, r1, r2, r17, r18, r19, r38, ro⟩ := hR
  generalize hA : stH (B, z, b, L, xs) h = A
  have K0 : ∀ k, sK A 0 k = 0 := fun k => by rw [← hA]; exact congrFun (H.k (v := 0) rfl).2.2.1 k
  have K1 : ∀ k, sK A 1 k = 0 := fun k => by rw [← hA]; exact congrFun (H.k (v := 1) rfl).2.2.1 k
  have K3 : sK A 3 3 = 0 := by rw [← hA]; exact congrFun (H.k (v := 3) rfl).2.2.1 3
  have K7 : sK A 7 1 = 0 := by rw [← hA]; exact congrFun (H.k (v := 7) rfl).2.2.1 1
  have K90 : sK A 9 0 = nI z := by rw [← hA]; exact congrFun (H.k (v := 9) rfl).2.2.1 0
  have K91 : sK A 9 1 = seed := by rw [← hA]; exact congrFun (H.k (v := 9) rfl).2.2.1 1
  have K10 : ∀ k, 1 ≤ k → k ≤ 40 → sK A 10 k = nI z := fun k q1 q2 => by rw [← hA]; exact (congrFun (H.k (v := 10) rfl).2.2.1 k).trans (if_pos ⟨q1, by omega⟩)
  have Kr : ∀ k i, 1 ≤ k → k ≤ 40 → i < z → sK A (12 + k) i = 1 := fun k i q1 q2 q3 => by
    rw [← hA, Nat.add_comm]
    exact (congrFun (H.k (clC_row (show k < 41 by omega))).2.2.1 i).trans (if_pos ⟨⟨q1, by omega⟩, q3⟩)
  have U : sU A = 0 := by rw [← hA]; rfl
  have Q : ∀ j, sQ A j = none := fun j => by rw [← hA]; rfl
  have R0 : ∀ i, sR A i 0 = 17 := fun i => by rw [← hA]; rfl
  have R1' : ∀ i, sR A i 1 = 20 := fun i => by rw [← hA]; rfl
  have N : ∀ i c x, i < z → c < 23 → (ndC (B + 54 + 23 * i) (B + 9) i z)[c]? = some x → ∀ k, sN A i c k = x.2.2.1 k := fun i c x hi hc hx k => by rw [← hA]; exact congrFun (H.n hi hc hx).2.2.1 k
  have m1 : (-1 : Int32) = nI 0 - 1 := by decide
  have v11 : ∀ i k, i < z → k < 90 → sN A i 11 k = -2 := fun i k hi hk => (N i 11 _ hi (by decide) rfl k).trans (if_pos hk)
  have v15 : ∀ i k, i < z → k < 90 → sN A i 15 k = -2 := fun i k hi hk => (N i 15 _ hi (by decide) rfl k).trans (if_pos hk)
  have v19 : ∀ i k, i < z → k < 90 * z → sN A i 19 k = -2 := fun i k hi hk => (N i 19 _ hi (by decide) rfl k).trans (if_pos hk)
  have v22 : ∀ i k, i < z → k < 90 * z → sN A i 22 k = -2 := fun i k hi hk => (N i 22 _ hi (by decide) rfl k).trans (if_pos hk)
  have bv : ∀ i c t, i < z → (c = 17 ∨ c = 20) → BV (B, z, b, L, xs) A R i c t := fun i c t hi hc => by
    have f0 : sN A i c 0 = nI z := by
      rcases hc with rfl | rfl
      · exact N i 17 _ hi (by decide) rfl 0
      · exact N i 20 _ hi (by decide) rfl 0
    have f3 : sN A i c 3 = -1 := by
      rcases hc with rfl | rfl
      · exact N i 17 _ hi (by decide) rfl 3
      · exact N i 20 _ hi (by decide) rfl 3
    have fv : ∀ r s k, r < 30 → s < z → k < 3 → sN A i (c + 2) ((r * z + s) * 3 + k) = -2 := fun r s k hr hs hk => by
      rcases hc with rfl | rfl
      · exact v19 i _ hi (ix_lt hr hs hk)
      · exact v22 i _ hi (ix_lt hr hs hk)
    have q17 : ∀ r s k, r < 30 → s < z → k < 3 → sS R 17 (pl i t r s k) = -1 := fun r s k hr hs hk => r17 _ (pl_lt (by omega) hr (by omega) hk)
    refine ⟨f0, fun r s k hr hs hk => Or.inl ⟨fv r s k hr hs hk, q17 r s k hr hs hk⟩, fun r s hr hs => ⟨fun _ => r18 _ ?_, fun q => absurd q (by rw [q17 r s 0 hr hs (by omega)]; decide)⟩, 0, by omega, f3.trans m1, fun r s k _ hr hs hk => fv r s k hr hs hk⟩
    have hs' : s < z := hs
    unfold rp
    have : t % 2 < 2 := Nat.mod_lt _ (by omega)
    omega
  have z0 : ∀ k, ¬ k = 1 → ¬ k = 2 → sS R 0 k = 0 := r0
  refine ⟨⟨⟨⟨r01, K90, z1, z10⟩, ⟨(r0 3 (by omega) (by omega)).trans (K0 5).symm, (r0 39 (by omega) (by omega)).trans (K0 6).symm, (r0 41 (by omega) (by omega)).trans (K0 8).symm, (r0 46 (by omega) (by omega)).trans (K0 9).symm, (r0 47 (by omega) (by omega)).trans (K0 10).symm, (r0 48 (by omega) (by omega)).trans (K0 11).symm⟩,
      ⟨0, fun _ _ _ => False, ⟨by omega, K3, fun a b ha => absurd ha (by omega), fun x k y => ⟨fun ⟨j, hj, _⟩ => absurd hj (by omega), fun q => q.elim⟩⟩, ⟨by omega, r0 45 (by omega) (by omega), fun a b ha => absurd ha (by omega), fun x k y => ⟨fun ⟨j, hj, _⟩ => absurd hj (by omega), fun q => q.elim⟩⟩, fun x k y q => q.elim⟩,
      ⟨0, ⟨K1 1, Nat.zero_le _, by rw [U]; omega, fun j hj => absurd (U ▸ hj) (Nat.not_lt_zero j), fun j _ => Q j, fun a b q h1 => (by rw [Q a] at h1; cases h1), fun j m hm => by simp at hm⟩, ⟨r0 37 (by omega) (by omega), fun j m hm => by simp at hm⟩, K1 2, r0 38 (by omega) (by omega), by omega, Nat.zero_le _, Nat.zero_le _, rfl⟩,
      ⟨0, by omega, K0 5⟩, fun i hi => ?_, fun i hi => N i 0 _ hi (by decide) rfl 0⟩,
    fun i hi => ⟨by rw [R0]; exact Or.inl rfl, by rw [R1']; exact Or.inr rfl, by rw [R0, R1']; decide, fun t _ _ => by rw [R0, R1']; exact ⟨bv i 17 t hi (Or.inl rfl), bv i 20 (t + 1) hi (Or.inr rfl)⟩⟩,
    fun i hi => ?_, ⟨⟨fun k q1 q2 => ⟨fun i hi => ⟨?_, 1, by omega, by omega, Kr k i q1 q2 hi⟩, ?_⟩, ⟨0, by omega, r0 50 (by omega) (by omega), K7, fun k hk => absurd hk (by omega)⟩, (r0 40 (by omega) (by omega)).trans (K0 7).symm, r02.trans K91.symm⟩, fun i hi => ?_⟩⟩,
    fun i hi => N i 0 _ hi (by decide) rfl 17, fun m hm => absurd hm List.not_mem_nil, ⟨0, by omega, K0 5⟩, fun i hi => Or.inl (ro 10 i (by omega)), fun _ i hi => ⟨?_, ro 3 i (by omega), ro 10 i (by omega)⟩, 0, by omega, K0 11⟩
  · have hi' : i < z := hi
    have hsp : ∀ g r k, g ≤ 40 → r < 30 → k < 3 → sp i g r k < 36900 := fun g r k q1 q2 q3 => by
      unfold sp
      omega
    refine ⟨(N i 12 _ hi (by decide) rfl 0).trans (ro 16 i (by omega)).symm, (N i 12 _ hi (by decide) rfl 1).trans (wsum_0 _ (fun k _ => if_pos (ro 39 _ (by omega)))).symm, N i 13 _ hi (by decide) rfl 0, fun t r k _ q1 q2 q3 => Or.inl ⟨v15 i _ hi (by omega), r38 _ (hsp t r k q1 q2 q3), ro 39 _ (by omega)⟩, fun t u r k _ _ q1 q2 q3 => ⟨r38 _ (hsp u r k q1 q2 q3), ro 39 _ (by omega)⟩, 0, by omega, (N i 13 _ hi (by decide) rfl 3).trans m1, fun r k _ q2 q3 => v15 i _ hi (by omega)⟩
  · have hi' : i < z := hi
    exact ⟨N i 9 _ hi (by decide) rfl 0, fun r k q1 q2 => Or.inl ⟨v11 i _ hi (by omega), r19 _ (by omega)⟩, fun r t q1 _ _ q => absurd q (by rw [r19 _ (by omega)]; decide), 0, by omega, (N i 9 _ hi (by decide) rfl 3).trans m1, fun r k _ q2 q3 => v11 i _ hi (by omega), fun _ => rfl⟩
  · have hi' : i < z := hi
    rw [r1 _ (by omega), Kr k i q1 q2 hi]
  · exact (K10 k q1 q2).trans ((wsum_n (p := fun _ => true) (w := fun s => sK A (12 + k) s) (ω := fun _ => 1) z (fun s hs => Kr k s q1 q2 hs)).trans (congrArg nI (nsum_1 z))).symm
  · have hi' : i < z := hi
    obtain ⟨w2, w6, w8⟩ := r2 i (by omega)
    refine ⟨⟨⟨1, by omega, by omega, N i 0 _ hi (by decide) rfl 2, w2⟩, (N i 0 _ hi (by decide) rfl 7).trans (ro 11 i (by omega)).symm, Or.inr ⟨ro 10 i (by omega), N i 0 _ hi (by decide) rfl 8⟩, ⟨(N i 1 _ hi (by decide) rfl 0).trans (ro 5 i (by omega)).symm, (N i 1 _ hi (by decide) rfl 1).trans w6.symm, Or.inl ⟨ro 5 i (by omega), w6⟩⟩, fun t u q1 q2 q3 q4 => ?_⟩, ⟨⟨0, by omega, N i 0 _ hi (by decide) rfl 3, ro 3 i (by omega)⟩, ⟨⟨0, by omega, N i 0 _ hi (by decide) rfl 4, ro 4 i (by omega)⟩, fun _ => ro 4 i (by omega)⟩, fun r _ _ => ⟨(N i 2 _ hi (by decide) rfl 0).trans (ro 7 i (by omega)).symm, (N i 2 _ hi (by decide) rfl 1).trans w8.symm, Or.inl ⟨ro 7 i (by omega), w8⟩⟩, fun k _ => ⟨(N i 3 _ hi (by decide) rfl k).trans (ro 12 _ (by omega)).symm, fun _ => ro 12 _ (by omega)⟩, fun _ => ⟨(N i 4 _ hi (by decide) rfl 0).trans (ro 13 i (by omega)).symm, (N i 4 _ hi (by decide) rfl 1).trans (ro 14 i (by omega)).symm, (N i 4 _ hi (by decide) rfl 2).trans (ro 15 i (by omega)).symm, Or.inl (ro 13 i (by omega)), Or.inl (ro 14 i (by omega)), Or.inl (ro 15 i (by omega))⟩⟩⟩
    rw [w2, il1, nI_eq (by omega) (by omega)] at q4
    exact ⟨fun q => absurd q (by omega), fun _ => ⟨N i 6 _ hi (by decide) rfl t, ro 21 _ (by omega)⟩⟩
  · have hi' : i < z := hi
    exact (r2 i (by omega)).1
end Begun
