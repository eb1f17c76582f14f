/-! ===== many and some ===== -/
def nsum (p : Nat → Bool) (w : Nat → Nat) : Nat → Nat
  | 0 => 0
  | s + 1 => if p s then nsum p w s + w s else nsum p w s
theorem nsum_le {p : Nat → Bool} {w : Nat → Nat} {m : Nat} : ∀ n, (∀ s, s < n → w s ≤ m) → nsum p w n ≤ n * m
  | 0, _ => by simp [nsum]
  | n + 1, h => by
    have h1 := nsum_le n (p := p) (fun s hs => h s (by omega))
    have h2 := h n (by omega)
    unfold nsum
    rw [Nat.succ_mul]
    split <;> omega
theorem nsum_cg {p q : Nat → Bool} {w w' : Nat → Nat} : ∀ n, (∀ s, s < n → p s = q s ∧ w s = w' s) → nsum p w n = nsum q w' n
  | 0, _ => rfl
  | n + 1, h => by
    unfold nsum
    rw [nsum_cg n (fun s hs => h s (by omega)), (h n (by omega)).1, (h n (by omega)).2]
theorem wsum_n {p : Nat → Bool} {w : Nat → Int32} {ω : Nat → Nat} : ∀ n, (∀ s, s < n → w s = nI (ω s)) → wsum p w n = nI (nsum p ω n)
  | 0, _ => rfl
  | n + 1, h => by
    unfold wsum nsum
    rw [wsum_n n (fun s hs => h s (by omega)), h n (by omega)]
    split
    · rw [nI_add]
    · rfl
theorem wsumL_n {p : Nat → Bool} {w : Nat → Int32} {ω : Nat → Nat} : ∀ n, (∀ s, s < n → w s = nI (ω s) ∧ ω s < 2 ^ 31) → wsumL p w n = lN (nsum p ω n)
  | 0, _ => rfl
  | n + 1, h => by
    unfold wsumL nsum
    rw [wsumL_n n (fun s hs => h s (by omega)), (h n (by omega)).1]
    split
    · rw [nI_l (h n (by omega)).2, lN_add]
    · rw [show (0 : Int32).toInt64 = lN 0 from rfl, lN_add]
      rfl
/-- weights of a height, as numbers -/
def ww (B : mS) (h s : Nat) : Nat := (sS B 1 (10 * h + s)).toNatClampNeg
def MANY (E : mE) (B : mS) (h : Nat) (p : Nat → Bool) : Bool := decide (2 * nsum (fun _ => true) (ww B h) (eN E) < 3 * nsum p (ww B h) (eN E))
def SOME (E : mE) (B : mS) (h : Nat) (p : Nat → Bool) : Bool := decide (nsum (fun _ => true) (ww B h) (eN E) < 3 * nsum p (ww B h) (eN E))
/-- who said v; who said something -/
def pF (B : mS) (i h r k : Nat) (v : Int32) (s : Nat) : Bool := decide (sS B 17 (pl i h r s k) = v)
def pH (B : mS) (i h r k : Nat) (s : Nat) : Bool := decide (0 ≤ sS B 17 (pl i h r s k))
theorem MANY.cg {E : mE} {B : mS} {h : Nat} {p q : Nat → Bool} (hpq : ∀ s, s < eN E → p s = q s) : MANY E B h p = MANY E B h q := by
  unfold MANY
  rw [nsum_cg (p := p) (q := q) (w := ww B h) (w' := ww B h) (eN E) (fun s hs => ⟨hpq s hs, rfl⟩)]
theorem SOME.cg {E : mE} {B : mS} {h : Nat} {p q : Nat → Bool} (hpq : ∀ s, s < eN E → p s = q s) : SOME E B h p = SOME E B h q := by
  unfold SOME
  rw [nsum_cg (p := p) (q := q) (w := ww B h) (w' := ww B h) (eN E) (fun s hs => ⟨hpq s hs, rfl⟩)]
section Many
variable {E : mE} {A B : mS} {M N : List Mg} {i g r k : Nat}
theorem GW.w (h : GW E A B) (h1 : 1 ≤ g) (h40 : g ≤ 40) (s : Nat) (hs : s < eN E) : sK A (12 + g) s = nI (ww B g s) ∧ sS B 1 (10 * g + s) = nI (ww B g s) ∧ ww B g s ≤ 1000000 := by
  obtain ⟨a, w, w1, w2, w3⟩ := (h g h1 h40).1 s hs
  have e : ww B g s = w := by
    unfold ww
    rw [a, w3, nI_clamp (by omega)]
  rw [e, a, w3]
  exact ⟨rfl, rfl, w2⟩
theorem GW.all (h : GW E A B) (h1 : 1 ≤ g) (h40 : g ≤ 40) : sK A 10 g = nI (nsum (fun _ => true) (ww B g) (eN E)) := by
  rw [(h g h1 h40).2]
  exact wsum_n _ (fun s hs => (h.w h1 h40 s hs).1)
theorem GW.b (h : GW E A B) (hn : eN E ≤ 10) (h1 : 1 ≤ g) (h40 : g ≤ 40) (p : Nat → Bool) : nsum p (ww B g) (eN E) ≤ 10000000 := by
  have := nsum_le (p := p) (w := ww B g) (m := 1000000) (eN E) (fun s hs => (h.w h1 h40 s hs).2.2)
  omega
/-- the class: areMany -/
theorem c_many {x : Int32} (hW : GW E A B) (hG : G1 E A B) (hi : i < eN E) (a2 : sN A i 0 2 = nI g) (h1 : 1 ≤ g) (h40 : g ≤ 40) : CR E 46 0 [some (.ref (aN E i 0)), some (.int x)] A (some (.int (if MANY E B g (fun s => bt x s) = true then 1 else 0))) A := by
  intro B0 K hK
  have hn := hG.2.2.2
  refine sp_areMany (S := mix A B0) hi hG.2.1 hn a2 (by omega) ?_
  simp only [mxK]
  rw [hW.all h1 h40, wsum_n (ω := ww B g) _ (fun s hs => (hW.w h1 h40 s hs).1), il3, il2, pk_mul, pk_mul]
  have b1 := hW.b hn h1 h40 (fun s => bt x s)
  have b2 := hW.b hn h1 h40 (fun _ => true)
  by_cases e : MANY E B g (fun s => bt x s) = true
  · rw [if_pos e] at hK
    unfold MANY at e
    rw [decide_eq_true_iff] at e
    rw [if_neg]
    · exact hK
    · rw [le_n (by omega) (by omega)]
      omega
  · rw [if_neg e] at hK
    unfold MANY at e
    rw [decide_eq_true_iff] at e
    rw [if_pos]
    · exact hK
    · rw [le_n (by omega) (by omega)]
      omega
theorem c_some {x : Int32} (hW : GW E A B) (hG : G1 E A B) (hi : i < eN E) (a2 : sN A i 0 2 = nI g) (h1 : 1 ≤ g) (h40 : g ≤ 40) : CR E 50 0 [some (.ref (aN E i 0)), some (.int x)] A (some (.int (if SOME E B g (fun s => bt x s) = true then 1 else 0))) A := by
  intro B0 K hK
  have hn := hG.2.2.2
  refine sp_areSome (S := mix A B0) hi hG.2.1 hn a2 (by omega) ?_
  simp only [mxK]
  rw [hW.all h1 h40, wsum_n (ω := ww B g) _ (fun s hs => (hW.w h1 h40 s hs).1), il3, pk_mul]
  have b1 := hW.b hn h1 h40 (fun s => bt x s)
  have b2 := hW.b hn h1 h40 (fun _ => true)
  by_cases e : SOME E B g (fun s => bt x s) = true
  · rw [if_pos e] at hK
    unfold SOME at e
    rw [decide_eq_true_iff] at e
    rw [if_neg]
    · exact hK
    · rw [le_n (by omega) (by omega)]
      omega
  · rw [if_neg e] at hK
    unfold SOME at e
    rw [decide_eq_true_iff] at e
    rw [if_pos]
    · exact hK
    · rw [le_n (by omega) (by omega)]
      omega
theorem RB.ln {c : Nat} (h : RB c) : lnB (eN E) c = 90 * eN E := by rcases h with rfl | rfl <;> rfl
/-- the class: votersFor -/
theorem c_vf {v : Int32} (hP : PBa1 E A B i) (hi : i < eN E) (hn : eN E ≤ 10) (b2 : sS B 2 i = nI g) (h40 : g ≤ 40) (hr : r < 30) (hk : k < 3) (hv : 0 ≤ v) : CR E 12 0 [some (.ref (aN E i (sR A i 0))), some (.int (nI r)), some (.int (nI k)), some (.int v), none, none] A (some (.int (vbits (pF B i g r k v) (eN E)))) A := by
  intro B0 K hK
  obtain ⟨p1, p2, p3, p4⟩ := hP
  obtain ⟨v1, v2⟩ := p4 g (by omega) b2
  refine sp_votersFor (S := mix A B0) hi p1.b v1.1 hn p1.ln hr hk ?_
  have e : vbits (fun s => decide (sN (mix A B0) i (sR A i 0 + 2) ((r * eN E + s) * 3 + k) = v)) (eN E) = vbits (pF B i g r k v) (eN E) := by
    refine b_ext (fun s hs => ?_)
    rw [bt_vbits (by omega) s hs, bt_vbits (by omega) s hs]
    by_cases z : s < eN E
    · rw [decide_eq_true z, Bool.true_and, Bool.true_and]
      unfold pF
      rw [mxN]
      obtain ⟨n1, n2, n3, n4⟩ := m2_n hv
      rcases (v1.2.1 r s k hr z hk).c with ⟨x1, x2, x3, x4⟩ | ⟨x1, x2, x3, x4⟩
      · rw [x1, x2, decide_eq_false (fun q => n1 q.symm), decide_eq_false (fun q => n4 q.symm)]
      · rw [x1]
    · rw [decide_eq_false z, Bool.false_and, Bool.false_and]
  rw [e]
  exact hK
/-- the class: voters -/
theorem c_va (hP : PBa1 E A B i) (hi : i < eN E) (hn : eN E ≤ 10) (b2 : sS B 2 i = nI g) (h40 : g ≤ 40) (hr : r < 30) (hk : k < 3) : CR E 14 0 [some (.ref (aN E i (sR A i 0))), some (.int (nI r)), some (.int (nI k)), none, none] A (some (.int (vbits (pH B i g r k) (eN E)))) A := by
  intro B0 K hK
  obtain ⟨p1, p2, p3, p4⟩ := hP
  obtain ⟨v1, v2⟩ := p4 g (by omega) b2
  refine sp_voters (S := mix A B0) hi p1.b v1.1 hn p1.ln hr hk ?_
  have e : vbits (fun s => decide (¬ sN (mix A B0) i (sR A i 0 + 2) ((r * eN E + s) * 3 + k) = -2)) (eN E) = vbits (pH B i g r k) (eN E) := by
    refine b_ext (fun s hs => ?_)
    rw [bt_vbits (by omega) s hs, bt_vbits (by omega) s hs]
    by_cases z : s < eN E
    · rw [decide_eq_true z, Bool.true_and, Bool.true_and]
      unfold pH
      rw [mxN]
      rcases (v1.2.1 r s k hr z hk).c with ⟨x1, x2, x3, x4⟩ | ⟨x1, x2, x3, x4⟩
      · rw [x1, decide_eq_false x3, decide_eq_false (fun q => q rfl)]
      · rw [decide_eq_true x2, decide_eq_true x3]
    · rw [decide_eq_false z, Bool.false_and, Bool.false_and]
  rw [e]
  exact hK
theorem bt_vb {p : Nat → Bool} {n : Nat} (hn : n ≤ 10) (s : Nat) (hs : s < n) : bt (vbits p n) s = p s := by
  rw [bt_vbits (by omega) s (by omega), decide_eq_true hs, Bool.true_and]
/-- the reference: votes and isMany -/
theorem r_votes {v : Int32} (hW : GW E A B) (hG : G1 E A B) (hi : i < eN E) (b2 : sS B 2 i = nI g) (h1 : 1 ≤ g) (h40 : g ≤ 40) (hr : r < 30) (hk : k < 3) (p : Nat → Bool) (hp : ∀ s, s < eN E → p s = decide (0 ≤ sS B 17 (pl i g r s k) ∧ (v < 0 ∨ sS B 17 (pl i g r s k) = v))) : RR E 115 0 [some (.ref (aS E 0)), some (.int (nI i)), some (.int (nI r)), some (.int (nI k)), some (.int v), none, none, none, none] B (some (.long (lN (nsum p (ww B g) (eN E))))) B := by
  intro A0 K hK
  refine sp_votes (S := mix A0 B) hi hG.1 hG.2.2.2 b2 (by omega) hr hk ?_
  simp only [mxS]
  rw [wsumL_n (ω := ww B g) _ (fun s hs => ⟨(hW.w h1 h40 s hs).2.1, by have := (hW.w h1 h40 s hs).2.2; omega⟩)]
  rw [nsum_cg (q := p) (w' := ww B g) _ (fun s hs => ⟨(hp s hs).symm, rfl⟩)]
  exact hK
theorem r_all (hW : GW E A B) (hG : G1 E A B) (h1 : 1 ≤ g) (h40 : g ≤ 40) : RR E 117 0 [some (.ref (aS E 0)), some (.int (nI g)), none, none, none] B (some (.long (lN (nsum (fun _ => true) (ww B g) (eN E))))) B := by
  intro A0 K hK
  refine sp_all (S := mix A0 B) hG.1 hG.2.2.2 (by omega) ?_
  simp only [mxS]
  rw [wsumL_n (ω := ww B g) _ (fun s hs => ⟨(hW.w h1 h40 s hs).2.1, by have := (hW.w h1 h40 s hs).2.2; omega⟩)]
  exact hK
theorem r_many (hW : GW E A B) (hG : G1 E A B) (h1 : 1 ≤ g) (h40 : g ≤ 40) (p : Nat → Bool) : RR E 116 0 [some (.ref (aS E 0)), some (.long (lN (nsum p (ww B g) (eN E)))), none, some (.int (nI g))] B (some (.int (if MANY E B g p = true then 1 else 0))) B := by
  intro A0 K hK
  refine sp_isMany (S := mix A0 B) hG.1 hG.2.2.2 (by omega) ?_
  simp only [mxS]
  rw [wsumL_n (ω := ww B g) _ (fun s hs => ⟨(hW.w h1 h40 s hs).2.1, by have := (hW.w h1 h40 s hs).2.2; omega⟩)]
  have b1 := hW.b hG.2.2.2 h1 h40 p
  have b2 := hW.b hG.2.2.2 h1 h40 (fun _ => true)
  have key : lg_cmp (3 * lN (nsum p (ww B g) (eN E))) (2 * lN (nsum (fun _ => true) (ww B g) (eN E))) ≤ 0 ↔ ¬ 2 * nsum (fun _ => true) (ww B g) (eN E) < 3 * nsum p (ww B g) (eN E) := by
    rw [lgc_le, show (3 : Int64) = lN 3 from rfl, show (2 : Int64) = lN 2 from rfl, lN_mul, lN_mul, lN_lt (by omega) (by omega)]
  by_cases e : MANY E B g p = true
  · rw [if_pos e] at hK
    unfold MANY at e
    rw [decide_eq_true_iff] at e
    rw [if_neg (fun z => key.1 z e)]
    exact hK
  · rw [if_neg e] at hK
    unfold MANY at e
    rw [decide_eq_true_iff] at e
    rw [if_pos (key.2 e)]
    exact hK
theorem pF_p {v : Int32} (hv : 0 ≤ v) (s : Nat) : pF B i g r k v s = decide (0 ≤ sS B 17 (pl i g r s k) ∧ (v < 0 ∨ sS B 17 (pl i g r s k) = v)) := by
  unfold pF
  by_cases e : sS B 17 (pl i g r s k) = v
  · rw [decide_eq_true e, decide_eq_true ⟨by rw [e]; exact hv, Or.inr e⟩]
  · rw [decide_eq_false e, decide_eq_false (fun z => z.2.elim (fun z => (m2_n hv).2.2.1 z) e)]
theorem pH_p (s : Nat) : pH B i g r k s = decide (0 ≤ sS B 17 (pl i g r s k) ∧ ((-1 : Int32) < 0 ∨ sS B 17 (pl i g r s k) = -1)) := by
  unfold pH
  by_cases e : 0 ≤ sS B 17 (pl i g r s k)
  · rw [decide_eq_true e, decide_eq_true ⟨e, Or.inl (by decide)⟩]
  · rw [decide_eq_false e, decide_eq_false (fun z => e z.1)]
end Many
