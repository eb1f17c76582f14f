/-! ===== what is put into ballots; what a node has sent ===== -/
/-- the class's parts but for the nodes' ints -/
def FNn (A A' : mS) : Prop := (∀ v k, sK A' v k = sK A v k) ∧ (∀ i j, sR A' i j = sR A i j) ∧ (∀ j, sQ A' j = sQ A j) ∧ (∀ q k, sM A' q k = sM A q k) ∧ sU A' = sU A
theorem FNn.rf (A : mS) : FNn A A := ⟨fun _ _ => rfl, fun _ _ => rfl, fun _ => rfl, fun _ _ => rfl, rfl⟩
theorem FNn.tr {A A1 A2 : mS} (h : FNn A A1) (g : FNn A1 A2) : FNn A A2 := ⟨fun v k => (g.1 v k).trans (h.1 v k), fun i j => (g.2.1 i j).trans (h.2.1 i j), fun j => (g.2.2.1 j).trans (h.2.2.1 j), fun q k => (g.2.2.2.1 q k).trans (h.2.2.2.1 q k), g.2.2.2.2.trans h.2.2.2.2⟩
theorem FNn.u (A : mS) (i c k : Nat) (x : Int32) : FNn A (uN A i c k x) := ⟨fun _ _ => by rw [fKN], fun _ _ => by rw [fRN], fun _ => by rw [fQN], fun _ _ => by rw [fMN], by rw [fUN]⟩
theorem MC.fr {A A' : mS} {M : List Mg} (h : MC A M) (h1 : sK A' 1 1 = sK A 1 1) (h2 : ∀ j, sQ A' j = sQ A j) (h3 : ∀ q k, sM A' q k = sM A q k) (h4 : sU A' = sU A) : MC A' M := by
  unfold MC mgC at h ⊢
  simp only [h1, h2, h3, h4]
  exact h
theorem MR.fr {B B' : mS} {N : List Mg} (h : MR B N) (h1 : sS B' 0 37 = sS B 0 37) (h2 : ∀ v k, 25 ≤ v → v ≤ 33 → sS B' v k = sS B v k) : MR B' N := by
  refine ⟨h1.trans h.1, fun j m hj k hk h6 => ?_⟩
  have := fR_b k
  rw [h2 _ _ this.1 this.2]
  exact h.2 j m hj k hk h6
theorem TC.fr {A A' : mS} {d : Nat} {R : Int32 → Int32 → Int32 → Prop} (h : TC A d R) (f : ∀ v k, 3 ≤ v → v ≤ 6 → sK A' v k = sK A v k) : TC A' d R := by
  unfold TC at h ⊢
  have e4 : sK A' 4 = sK A 4 := funext (fun k => f 4 k (by omega) (by omega))
  have e5 : sK A' 5 = sK A 5 := funext (fun k => f 5 k (by omega) (by omega))
  have e6 : sK A' 6 = sK A 6 := funext (fun k => f 6 k (by omega) (by omega))
  rw [e4, e5, e6, f 3 3 (by omega) (by omega)]
  exact h
theorem TR.fr {A A' : mS} {d : Nat} {R : Int32 → Int32 → Int32 → Prop} (h : TR A d R) (f : ∀ v k, 34 ≤ v → v ≤ 36 → sS A' v k = sS A v k) (f0 : sS A' 0 45 = sS A 0 45) : TR A' d R := by
  unfold TR at h ⊢
  have e4 : sS A' 34 = sS A 34 := funext (fun k => f 34 k (by omega) (by omega))
  have e5 : sS A' 35 = sS A 35 := funext (fun k => f 35 k (by omega) (by omega))
  have e6 : sS A' 36 = sS A 36 := funext (fun k => f 36 k (by omega) (by omega))
  rw [e4, e5, e6, f0]
  exact h
theorem top_le {r t : Nat} (hr : r < 2 ^ 30) (ht : t < 2 ^ 30) : nI r ≤ nI t - 1 ↔ r < t := by
  rw [Int32.le_iff_toInt_le, nI_toInt (by omega), il1, pk_sub_toInt ht (by omega)]
  omega
/-- the class puts a message into ballots -/
theorem c_put {E : mE} {A : mS} {i c z r s k : Nat} {v q : Int32} (hi : i < eN E) (hn : eN E ≤ 10) (hc : Bal c) (hz : sN A i c 0 = nI z) (hl : lnB (eN E) c = 90 * z) (hr : r < 30) (hs : s < z) (hk : k < 3) : ∃ A', CR E 11 0 [some (.ref (aN E i c)), some (.int (nI r)), some (.int (nI s)), some (.int (nI k)), some (.int v), some (.int q)] A none A' ∧ FNn A A' ∧
    (∀ j d l, ¬ (j = i ∧ (d = c + 2 ∨ d = c + 1 ∨ d = c)) → sN A' j d l = sN A j d l) ∧ (∀ l, sN A' i (c + 2) l = if l = (r * z + s) * 3 + k then v else sN A i (c + 2) l) ∧ (∀ l, sN A' i (c + 1) l = if k = 0 ∧ l = r then q else sN A i (c + 1) l) ∧
    (∀ l, ¬ l = 3 → sN A' i c l = sN A i c l) ∧ sN A' i c 3 = if nI r ≤ sN A i c 3 then sN A i c 3 else nI r := by
  have hb := ix_lt hr hs hk
  have hz2 : z ≤ 10 := by
    unfold lnB at hl
    split at hl <;> omega
  have cx : ∀ B : mS, ((nI r * sN (mix A B) i c 0 + nI s) * 3 + nI k).toNatClampNeg = (r * z + s) * 3 + k := fun B => cl_n (by rw [mxN, hz]; exact ix_b r z s k) (by omega)
  have cr : (nI r).toNatClampNeg = r := nI_clamp (by omega)
  have g1 : ∀ B : mS, (¬ (nI r * sN (mix A B) i c 0 + nI s) * 3 + nI k < 0 ∧ ((nI r * sN (mix A B) i c 0 + nI s) * 3 + nI k).toNatClampNeg < lnB (eN E) c) := fun B => in_n (by rw [mxN, hz]; exact ix_b r z s k) (by omega) (by omega)
  by_cases hk0 : k = 0
  · subst hk0
    by_cases ht : nI r ≤ sN A i c 3
    · refine ⟨uN (uN A i (c + 2) ((r * z + s) * 3 + 0) v) i (c + 1) r q, fun B K hK => T11 hi hc ⟨g1 B, ?_⟩, (FNn.u _ _ _ _ _).tr (FNn.u _ _ _ _ _), fun j d l h => ?_, fun l => ?_, fun l => ?_, fun l hl3 => ?_, ?_⟩
      · rw [cx]
        rintro _ rfl
        refine ⟨fun _ => ⟨in_n rfl hr (by omega), ?_⟩, fun q => absurd rfl q⟩
        rw [cr]
        rintro _ rfl
        refine ⟨fun _ => ?_, fun q2 => absurd ?_ q2⟩
        · simp only [pN]
          exact hK
        · rw [rNo _ (by omega), rNo _ (by omega), mxN]
          exact ht
      · rw [rNo _ (by omega), rNo _ (by omega)]
      · rw [rNo _ (by omega), rN]
        by_cases e : l = (r * z + s) * 3 + 0
        · rw [if_pos ⟨rfl, e, rfl⟩, if_pos e]
        · rw [if_neg (fun q => e q.2.1), if_neg e]
      · rw [rN]
        by_cases e : l = r
        · rw [if_pos ⟨rfl, e, rfl⟩, if_pos ⟨rfl, e⟩]
        · rw [if_neg (fun q => e q.2.1), if_neg (fun q => e q.2), rNo _ (by omega)]
      · rw [rNo _ (by omega), rNo _ (by omega)]
      · rw [rNo _ (by omega), rNo _ (by omega), if_pos ht]
    · refine ⟨uN (uN (uN A i (c + 2) ((r * z + s) * 3 + 0) v) i (c + 1) r q) i c 3 (nI r), fun B K hK => T11 hi hc ⟨g1 B, ?_⟩, ((FNn.u _ _ _ _ _).tr (FNn.u _ _ _ _ _)).tr (FNn.u _ _ _ _ _), fun j d l h => ?_, fun l => ?_, fun l => ?_, fun l hl3 => ?_, ?_⟩
      · rw [cx]
        rintro _ rfl
        refine ⟨fun _ => ⟨in_n rfl hr (by omega), ?_⟩, fun q => absurd rfl q⟩
        rw [cr]
        rintro _ rfl
        refine ⟨fun q2 => absurd ?_ ht, fun _ => ?_⟩
        · rw [rNo _ (by omega), rNo _ (by omega), mxN] at q2
          exact q2
        · rintro _ rfl
          simp only [pN]
          exact hK
      · rw [rNo _ (by omega), rNo _ (by omega), rNo _ (by omega)]
      · rw [rNo _ (by omega), rNo _ (by omega), rN]
        by_cases e : l = (r * z + s) * 3 + 0
        · rw [if_pos ⟨rfl, e, rfl⟩, if_pos e]
        · rw [if_neg (fun q => e q.2.1), if_neg e]
      · rw [rNo _ (by omega), rN]
        by_cases e : l = r
        · rw [if_pos ⟨rfl, e, rfl⟩, if_pos ⟨rfl, e⟩]
        · rw [if_neg (fun q => e q.2.1), if_neg (fun q => e q.2), rNo _ (by omega)]
      · rw [rNo _ (by omega), rNo _ (by omega), rNo _ (by omega)]
      · rw [rNs, if_neg ht]
  · have hk1 : ¬ nI k = 0 := nI_ne0 (by omega) (by omega)
    by_cases ht : nI r ≤ sN A i c 3
    · refine ⟨uN A i (c + 2) ((r * z + s) * 3 + k) v, fun B K hK => T11 hi hc ⟨g1 B, ?_⟩, FNn.u _ _ _ _ _, fun j d l h => ?_, fun l => ?_, fun l => ?_, fun l hl3 => ?_, ?_⟩
      · rw [cx]
        rintro _ rfl
        refine ⟨fun q => absurd q hk1, fun _ => ⟨fun _ => ?_, fun q2 => absurd ?_ q2⟩⟩
        · simp only [pN]
          exact hK
        · rw [rNo _ (by omega), mxN]
          exact ht
      · rw [rNo _ (by omega)]
      · rw [rN]
        by_cases e : l = (r * z + s) * 3 + k
        · rw [if_pos ⟨rfl, e, rfl⟩, if_pos e]
        · rw [if_neg (fun q => e q.2.1), if_neg e]
      · rw [rNo _ (by omega), if_neg (fun q => hk0 q.1)]
      · rw [rNo _ (by omega)]
      · rw [rNo _ (by omega), if_pos ht]
    · refine ⟨uN (uN A i (c + 2) ((r * z + s) * 3 + k) v) i c 3 (nI r), fun B K hK => T11 hi hc ⟨g1 B, ?_⟩, (FNn.u _ _ _ _ _).tr (FNn.u _ _ _ _ _), fun j d l h => ?_, fun l => ?_, fun l => ?_, fun l hl3 => ?_, ?_⟩
      · rw [cx]
        rintro _ rfl
        refine ⟨fun q => absurd q hk1, fun _ => ⟨fun q2 => absurd ?_ ht, fun _ => ?_⟩⟩
        · rw [rNo _ (by omega), mxN] at q2
          exact q2
        · rintro _ rfl
          simp only [pN]
          exact hK
      · rw [rNo _ (by omega), rNo _ (by omega)]
      · rw [rNo _ (by omega), rN]
        by_cases e : l = (r * z + s) * 3 + k
        · rw [if_pos ⟨rfl, e, rfl⟩, if_pos e]
        · rw [if_neg (fun q => e q.2.1), if_neg e]
      · rw [rNo _ (by omega), rNo _ (by omega), if_neg (fun q => hk0 q.1)]
      · rw [rNo _ (by omega), rNo _ (by omega)]
      · rw [rNs, if_neg ht]
/-- places in the reference's rows -/
def rp (i h r s : Nat) : Nat := ((2 * i + h % 2) * 30 + r) * 10 + s
def sp (i h r k : Nat) : Nat := ((41 * i + h) * 30 + r) * 3 + k
def sd3 (x f u : Int32) : Prop := (x = -2 ∧ f = -1 ∧ u = 0) ∨ (x = -3 ∧ 0 ≤ f ∧ u = 1) ∨ (x = f ∧ 0 ≤ f ∧ u = 0)
/-- what node i has sent -/
def PSe1 (A B : mS) (i : Nat) : Prop := sN A i 12 0 = sS B 16 i ∧ sN A i 12 1 = wsum (fun _ => true) (fun k => if sS B 39 (3690 * i + k) = 0 then 0 else 1) 3690 ∧ sN A i 13 0 = 1 ∧
  (∀ h r k, sS B 2 i = nI h → h ≤ 40 → r < 30 → k < 3 → sd3 (sN A i 15 (r * 3 + k)) (sS B 38 (sp i h r k)) (sS B 39 (sp i h r k))) ∧
  (∀ h g r k, sS B 2 i = nI h → h < g → g ≤ 40 → r < 30 → k < 3 → sS B 38 (sp i g r k) = -1 ∧ sS B 39 (sp i g r k) = 0) ∧
  ∃ t, t ≤ 30 ∧ sN A i 13 3 = nI t - 1 ∧ ∀ r k, t ≤ r → r < 30 → k < 3 → sN A i 15 (r * 3 + k) = -2
def PSe (E : mE) (A B : mS) : Prop := ∀ i, i < eN E → PSe1 A B i
theorem wsum_cg {p : Nat → Bool} {w w' : Nat → Int32} : ∀ n, (∀ k, k < n → w k = w' k) → wsum p w n = wsum p w' n
  | 0, _ => rfl
  | n + 1, h => by
    unfold wsum
    rw [wsum_cg n (fun k hk => h k (by omega)), h n (by omega)]
/-- one more is counted -/
theorem wsum_1 {w w' : Nat → Int32} {j : Nat} (h0 : w j = 0) (h1 : w' j = 1) (ho : ∀ k, ¬ k = j → w' k = w k) : ∀ n, j < n → wsum (fun _ => true) w' n = wsum (fun _ => true) w n + 1
  | 0, h => absurd h (by omega)
  | n + 1, h => by
    unfold wsum
    rw [if_pos rfl, if_pos rfl]
    by_cases e : n = j
    · subst e
      rw [wsum_cg n (fun k hk => ho k (by omega)), h0, h1, Int32.add_zero]
    · rw [wsum_1 h0 h1 ho n (by omega), ho n e, Int32.add_assoc, Int32.add_assoc, Int32.add_comm 1]
theorem sp_inj {i h r k i' h' r' k' : Nat} (h1 : r < 30) (h2 : k < 3) (h3 : h ≤ 40) (h4 : r' < 30) (h5 : k' < 3) (h6 : h' ≤ 40) (e : sp i h r k = sp i' h' r' k') : i = i' ∧ h = h' ∧ r = r' ∧ k = k' := by
  unfold sp at e
  omega
theorem PSe1.fr {A B A' B' : mS} {i : Nat} (h : PSe1 A B i) (h1 : ∀ c k, 12 ≤ c → c ≤ 15 → sN A' i c k = sN A i c k) (h2 : sS B' 16 i = sS B 16 i) (h3 : sS B' 2 i = sS B 2 i) (h4 : ∀ g r k, g ≤ 40 → r < 30 → k < 3 → sS B' 38 (sp i g r k) = sS B 38 (sp i g r k) ∧ sS B' 39 (sp i g r k) = sS B 39 (sp i g r k)) : PSe1 A' B' i := by
  obtain ⟨a, b, c, d, e, f⟩ := h
  refine ⟨by rw [h1 12 0 (by omega) (by omega), h2, a], ?_, by rw [h1 13 0 (by omega) (by omega), c], fun h r k q1 q2 q3 q4 => ?_, fun h g r k q1 q2 q3 q4 q5 => ?_, ?_⟩
  · rw [h1 12 1 (by omega) (by omega), b]
    refine wsum_cg _ (fun k hk => ?_)
    have := (h4 (k / 90) (k % 90 / 3) (k % 3) (by omega) (by omega) (by omega)).2
    have e : sp i (k / 90) (k % 90 / 3) (k % 3) = 3690 * i + k := by unfold sp; omega
    rw [e] at this
    show (if sS B 39 (3690 * i + k) = 0 then (0 : Int32) else 1) = if sS B' 39 (3690 * i + k) = 0 then 0 else 1
    rw [this]
  · rw [h3] at q1
    rw [h1 15 _ (by omega) (by omega), (h4 h r k q2 q3 q4).1, (h4 h r k q2 q3 q4).2]
    exact d h r k q1 q2 q3 q4
  · rw [h3] at q1
    rw [(h4 g r k q3 q4 q5).1, (h4 g r k q3 q4 q5).2]
    exact e h g r k q1 q2 q3 q4 q5
  · obtain ⟨t, t1, t2, t3⟩ := f
    refine ⟨t, t1, by rw [h1 13 3 (by omega) (by omega), t2], fun r k q1 q2 q3 => ?_⟩
    rw [h1 15 _ (by omega) (by omega)]
    exact t3 r k q1 q2 q3
