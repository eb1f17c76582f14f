/-! ===== the rest of what class and reference share ===== -/
section Rest
variable (E : mE) (A B : mS)
def PHt1 (i : Nat) : Prop := ∃ h, 1 ≤ h ∧ h ≤ 41 ∧ sN A i 0 2 = nI h ∧ sS B 2 i = nI h
def PBe1 (i : Nat) : Prop := sN A i 0 7 = sS B 11 i
def PCu1 (i : Nat) : Prop := (sS B 10 i = 1 ∧ sN A i 0 8 = sS B 9 i ∧ 0 < sN A i 0 8) ∨ (sS B 10 i = 0 ∧ sN A i 0 8 = 0)
def PLk1 (i : Nat) : Prop := sN A i 1 0 = sS B 5 i ∧ sN A i 1 1 = sS B 6 i ∧ ((sS B 5 i = 0 ∧ sS B 6 i = -1) ∨ (0 < sS B 5 i ∧ 0 ≤ sS B 6 i))
def PDe1 (i : Nat) : Prop := ∀ h hh, 1 ≤ h → h ≤ 40 → hh ≤ 41 → sS B 2 i = nI hh → (h < hh → sN A i 6 h = sS B 21 (10 * h + i) ∧ 0 < sS B 21 (10 * h + i) ∧ sN A i 7 h = sS B 22 (10 * h + i) ∧ sN A i 8 h = sS B 23 (10 * h + i) ∧ (sW B (10 * h + i)).toInt32 = wsum (fun s => bt (sN A i 8 h) s) (fun s => sK A (12 + h) s) (eN E)) ∧ (hh ≤ h → sN A i 6 h = 0 ∧ sS B 21 (10 * h + i) = 0)
def R1 (i : Nat) : Prop := PHt1 A B i ∧ PBe1 A B i ∧ PCu1 A B i ∧ PLk1 A B i ∧ PDe1 E A B i
def PRd1 (i : Nat) : Prop := ∃ r, r < 30 ∧ sN A i 0 3 = nI r ∧ sS B 3 i = nI r
def PSt1 (i : Nat) : Prop := (∃ s, s < 3 ∧ sN A i 0 4 = nI s ∧ sS B 4 i = nI s) ∧ (sS B 2 i = nI 41 → sS B 4 i = 0)
/-- the valid value, of round r at most -/
def VA (i r : Nat) : Prop := sN A i 2 0 = sS B 7 i ∧ sN A i 2 1 = sS B 8 i ∧ ((sS B 7 i = 0 ∧ sS B 8 i = -1) ∨ ∃ q h, q ≤ r ∧ h ≤ 41 ∧ sS B 8 i = nI q ∧ sS B 2 i = nI h ∧ gv E i h q (sS B 7 i))
def PVa1 (i : Nat) : Prop := ∀ r, r < 30 → sS B 3 i = nI r → VA E A B i r
def PTi1 (i : Nat) : Prop := ∀ k, k < 3 → sN A i 3 k = sS B 12 (3 * i + k) ∧ (sS B 2 i = nI 41 → sS B 12 (3 * i + k) = 0)
def POn1 (i : Nat) : Prop := ¬ sS B 2 i = nI 41 → sN A i 4 0 = sS B 13 i ∧ sN A i 4 1 = sS B 14 i ∧ sN A i 4 2 = sS B 15 i ∧ (sS B 13 i = 0 ∨ sS B 13 i = 1) ∧ (sS B 14 i = 0 ∨ sS B 14 i = 1) ∧ (sS B 15 i = 0 ∨ sS B 15 i = 1)
def R2 (i : Nat) : Prop := PRd1 A B i ∧ PSt1 A B i ∧ PVa1 E A B i ∧ PTi1 A B i ∧ POn1 A B i
/-- weights -/
def GW : Prop := ∀ h, 1 ≤ h → h ≤ 40 → (∀ i, i < eN E → sS B 1 (10 * h + i) = sK A (12 + h) i ∧ ∃ w, 1 ≤ w ∧ w ≤ 1000000 ∧ sK A (12 + h) i = nI w) ∧ sK A 10 h = wsum (fun _ => true) (fun s => sK A (12 + h) s) (eN E)
/-- evidence -/
def GE : Prop := ∃ e, e ≤ 200 ∧ sS B 0 50 = nI e ∧ sK A 7 1 = nI e ∧ ∀ k, k < 6 * e → sS B 37 k = sK A 8 k
def RG : Prop := GW E A B ∧ GE A B ∧ sS B 0 40 = sK A 0 7 ∧ sS B 0 2 = sK A 9 1
def REST : Prop := RG E A B ∧ ∀ i, i < eN E → R1 E A B i ∧ R2 E A B i
def Idle : Prop := ∀ i, i < eN E → sN A i 0 17 = 0
def Sim (M N : List Mg) : Prop := NET E A B M N ∧ PBa E A B ∧ PSi E A B ∧ REST E A B
end Rest
section RestF
variable {E : mE} {A B A' B' : mS} {i : Nat}
theorem R1.fr (h : R1 E A B i) (h2 : sN A' i 0 2 = sN A i 0 2) (h7 : sN A' i 0 7 = sN A i 0 7) (h8 : sN A' i 0 8 = sN A i 0 8) (hd : ∀ d l, d = 1 ∨ (6 ≤ d ∧ d ≤ 8) → sN A' i d l = sN A i d l) (hw : ∀ v l, 12 ≤ v → sK A' v l = sK A v l) (hB : ∀ v, v = 2 ∨ v = 5 ∨ v = 6 ∨ v = 9 ∨ v = 10 ∨ v = 11 → sS B' v i = sS B v i) (hB2 : ∀ v h, 21 ≤ v → v ≤ 23 → h ≤ 40 → sS B' v (10 * h + i) = sS B v (10 * h + i)) (hW : ∀ h, h ≤ 40 → sW B' (10 * h + i) = sW B (10 * h + i)) : R1 E A' B' i := by
  obtain ⟨a, b, c, d, e⟩ := h
  refine ⟨?_, ?_, ?_, ?_, ?_⟩
  · unfold PHt1 at a ⊢
    rw [h2, hB 2 (by omega)]
    exact a
  · unfold PBe1 at b ⊢
    rw [h7, hB 11 (by omega)]
    exact b
  · unfold PCu1 at c ⊢
    rw [h8, hB 10 (by omega), hB 9 (by omega)]
    exact c
  · unfold PLk1 at d ⊢
    rw [hd 1 0 (by omega), hd 1 1 (by omega), hB 5 (by omega), hB 6 (by omega)]
    exact d
  · intro h hh q1 q2 q3 q4
    rw [hB 2 (by omega)] at q4
    have := e h hh q1 q2 q3 q4
    rw [hd 6 h (by omega), hd 7 h (by omega), hd 8 h (by omega), hB2 21 h (by omega) (by omega) q2, hB2 22 h (by omega) (by omega) q2, hB2 23 h (by omega) (by omega) q2, hW h q2, wsum_cg (w := fun s => sK A' (12 + h) s) (w' := fun s => sK A (12 + h) s) _ (fun k _ => hw _ _ (by omega))]
    exact this
theorem VA.fr {r r' : Nat} (h : VA E A B i r) (hr : r ≤ r') (h1 : ∀ l, sN A' i 2 l = sN A i 2 l) (hB : ∀ v, v = 2 ∨ v = 7 ∨ v = 8 → sS B' v i = sS B v i) : VA E A' B' i r' := by
  unfold VA at h ⊢
  rw [h1, h1, hB 2 (by omega), hB 7 (by omega), hB 8 (by omega)]
  refine ⟨h.1, h.2.1, ?_⟩
  rcases h.2.2 with z | ⟨q, g, z1, z2⟩
  · exact Or.inl z
  · exact Or.inr ⟨q, g, by omega, z2⟩
theorem R2.fr (h : R2 E A B i) (h3 : sN A' i 0 3 = sN A i 0 3) (h4 : sN A' i 0 4 = sN A i 0 4) (hd : ∀ d l, 2 ≤ d → d ≤ 4 → sN A' i d l = sN A i d l) (hB : ∀ v, v = 2 ∨ v = 3 ∨ v = 4 ∨ v = 7 ∨ v = 8 ∨ v = 13 ∨ v = 14 ∨ v = 15 → sS B' v i = sS B v i) (hB2 : ∀ k, k < 3 → sS B' 12 (3 * i + k) = sS B 12 (3 * i + k)) : R2 E A' B' i := by
  obtain ⟨a, b, c, d, e⟩ := h
  refine ⟨?_, ?_, ?_, ?_, ?_⟩
  · unfold PRd1 at a ⊢
    rw [h3, hB 3 (by omega)]
    exact a
  · unfold PSt1 at b ⊢
    rw [h4, hB 4 (by omega), hB 2 (by omega)]
    exact b
  · intro r hr h3'
    rw [hB 3 (by omega)] at h3'
    exact (c r hr h3').fr (Nat.le_refl _) (fun l => hd 2 l (by omega) (by omega)) (fun v hv => hB v (by omega))
  · intro k hk
    rw [hd 3 k (by omega) (by omega), hB2 k hk, hB 2 (by omega)]
    exact d k hk
  · unfold POn1 at e ⊢
    rw [hB 2 (by omega), hB 13 (by omega), hB 14 (by omega), hB 15 (by omega), hd 4 0 (by omega) (by omega), hd 4 1 (by omega) (by omega), hd 4 2 (by omega) (by omega)]
    exact e
theorem RG.fr (h : RG E A B) (hK : ∀ v l, 7 ≤ v → sK A' v l = sK A v l) (h7 : sK A' 0 7 = sK A 0 7) (h1 : ∀ l, sS B' 1 l = sS B 1 l) (h37 : ∀ l, sS B' 37 l = sS B 37 l) (h0 : ∀ l, l = 2 ∨ l = 40 ∨ l = 50 → sS B' 0 l = sS B 0 l) : RG E A' B' := by
  obtain ⟨a, ⟨e, e1, e2, e3, e4⟩, c, d⟩ := h
  refine ⟨fun h q1 q2 => ?_, ⟨e, e1, by rw [h0 50 (by omega)]; exact e2, by rw [hK 7 1 (by omega)]; exact e3, fun k hk => by rw [h37, hK 8 k (by omega)]; exact e4 k hk⟩, by rw [h0 40 (by omega), h7]; exact c, by rw [h0 2 (by omega), hK 9 1 (by omega)]; exact d⟩
  obtain ⟨w1, w2⟩ := a h q1 q2
  refine ⟨fun i hi => ?_, ?_⟩
  · rw [h1, hK (12 + h) i (by omega)]
    exact w1 i hi
  · rw [hK 10 h (by omega), w2]
    exact wsum_cg _ (fun k _ => (hK _ _ (by omega)).symm)
/-- what sending leaves, the rest bears -/
theorem R1.snd (h : R1 E A B i) (hA : ∀ d l, d < 9 → ¬ (d = 0 ∧ (l = 4 ∨ l = 17)) → sN A' i d l = sN A i d l) (hK : ∀ v l, 7 ≤ v → sK A' v l = sK A v l) (hB : FBS B B') : R1 E A' B' i :=
  h.fr (hA 0 2 (by omega) (by omega)) (hA 0 7 (by omega) (by omega)) (hA 0 8 (by omega) (by omega)) (fun d l _ => hA d l (by omega) (by omega)) (fun v l _ => hK v l (by omega)) (fun v _ => hB.1 v i (by omega) (by omega) (by omega)) (fun v h _ _ _ => hB.1 v _ (by omega) (by omega) (by omega)) (fun h _ => hB.2 _)
theorem R2.snd (h : R2 E A B i) (hA : ∀ d l, d < 9 → ¬ (d = 0 ∧ l = 17) → sN A' i d l = sN A i d l) (hB : FBS B B') : R2 E A' B' i :=
  h.fr (hA 0 3 (by omega) (by omega)) (hA 0 4 (by omega) (by omega)) (fun d l _ _ => hA d l (by omega) (by omega)) (fun v _ => hB.1 v i (by omega) (by omega) (by omega)) (fun k _ => hB.1 12 _ (by omega) (by omega) (by omega))
theorem RG.snd (h : RG E A B) (hK : ∀ v l, 7 ≤ v → sK A' v l = sK A v l) (h7 : sK A' 0 7 = sK A 0 7) (hB : FBS B B') : RG E A' B' :=
  h.fr hK h7 (fun l => hB.1 1 l (by omega) (by omega) (by omega)) (fun l => hB.1 37 l (by omega) (by omega) (by omega)) (fun l _ => hB.1 0 l (by omega) (by omega) (by omega))
theorem FBS.u (h : FBS B B') (v k : Nat) (x : Int32) : FBS (uS B v k x) (uS B' v k x) := ⟨fun w l a b c => by rw [rS, rS, h.1 w l a b c], fun l => by rw [fWS, fWS, h.2]⟩
theorem FBS.rf (B : mS) : FBS B B := ⟨fun _ _ _ _ _ => rfl, fun _ => rfl⟩
/-- nothing waits: nothing goes -/
theorem disp0 (hi : i < eN E) (h : sN A i 0 17 = 0) : CR E 72 0 [some (.ref (aK E 0)), some (.ref (aN E i 0)), none, none, none, none, none, none] A none A := fun B K hK => T72 hi ⟨fun _ => hK, fun z => absurd h z⟩
end RestF
