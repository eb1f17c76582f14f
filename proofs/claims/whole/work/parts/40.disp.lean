/-! ===== a message goes to all others ===== -/
/-- what a message that goes leaves of the class's part -/
def FA2 (A A' : mS) : Prop := (∀ j c k, c < 12 ∨ 16 < c → sN A' j c k = sN A j c k) ∧ (∀ i j, sR A' i j = sR A i j) ∧ (∀ v k, 7 ≤ v → sK A' v k = sK A v k) ∧ ∀ k, ¬ k = 6 → ¬ k = 8 → sK A' 0 k = sK A 0 k
theorem FA2.rf (A : mS) : FA2 A A := ⟨fun _ _ _ _ => rfl, fun _ _ => rfl, fun _ _ _ => rfl, fun _ _ _ => rfl⟩
theorem FA2.tr {A A1 A2 : mS} (h : FA2 A A1) (g : FA2 A1 A2) : FA2 A A2 := ⟨fun j c k q => (g.1 j c k q).trans (h.1 j c k q), fun i j => (g.2.1 i j).trans (h.2.1 i j), fun v k q => (g.2.2.1 v k q).trans (h.2.2.1 v k q), fun k q1 q2 => (g.2.2.2 k q1 q2).trans (h.2.2.2 k q1 q2)⟩
/-- the message that node i is sending -/
def OUT (A : mS) (i g r k : Nat) (qc : Int32) : Prop := sN A i 16 0 = nI i ∧ sN A i 16 2 = nI g ∧ sN A i 16 3 = nI r ∧ sN A i 16 4 = nI k ∧ sN A i 16 6 = qc
def CA (E : mE) (A : mS) (i : Nat) (be : Int32) : Prop := sN A i 0 0 = nI i ∧ sN A i 0 7 = be ∧ sK A 9 0 = nI (eN E)
def CB (E : mE) (B : mS) (i g : Nat) (be : Int32) : Prop := sS B 11 i = be ∧ sS B 2 i = nI g ∧ sS B 0 1 = nI (eN E)
/-- node i's outgoing message gets receiver and value -/
theorem NET.out {E : mE} {A B : mS} {M N : List Mg} {i : Nat} {x y : Int32} (h : NET E A B M N) : NET E (uN (uN A i 16 1 x) i 16 5 y) B M N := by
  obtain ⟨h1, h2, ⟨d, R, a, b, c⟩, ⟨u, m1, m2, m3, m4, m5⟩, ⟨t, t1, t2⟩, h6, h7⟩ := h
  refine ⟨⟨h1.1, by rw [fKN, fKN]; exact h1.2.1, h1.2.2⟩, ?_, ⟨d, R, a.fr (fun v k _ _ => by rw [fKN, fKN]), b, c⟩, ⟨u, m1.fr (by rw [fKN, fKN]) (fun _ => by rw [fQN, fQN]) (fun _ _ => by rw [fMN, fMN]) (by rw [fUN, fUN]), m2, by rw [fKN, fKN]; exact m3, m4, m5⟩, ⟨t, t1, by rw [fKN, fKN]; exact t2⟩, fun j hj => (h6 j hj).fr (fun c k _ _ => by rw [rNo _ (by omega), rNo _ (by omega)]) rfl rfl (fun _ _ _ _ _ _ => ⟨rfl, rfl⟩), fun j hj => by rw [rNo _ (by omega), rNo _ (by omega)]; exact h7 j hj⟩
  unfold NT at h2 ⊢
  simp only [fKN]
  exact h2
section Disp
variable {E : mE} {i g r k pcr : Nat} {v o tm p qc qr v3 v4 v9 be : Int32}
theorem dloop (hi : i < eN E) (hg : 1 ≤ g) (h40 : g ≤ 40) (hr : r < 30) (hk : k < 3) (w : Nat → Int32)
    (hc : ∀ A B K j, j < eN E → ¬ j = i → CA E A i be → ES E 35 0 [some (.ref (aN E i 12)), some (.ref (aN E i 16)), none] [] (mix (uN (uN A i 16 1 (nI j)) i 16 5 (w j)) B) (fun r0 S6 => r0 = none ∧ ES E 73 0 [some (.ref (aK E 0)), some (.ref (aN E i 16)), none, none, none] [] S6 (fun r0 S7 => r0 = none ∧ ES E 72 48 [some (.ref (aK E 0)), some (.ref (aN E i 0)), some (.ref (aN E i 16)), some (.int v), some (.int o), some (.int tm), some (.int (p)), some (.int (nI (j + 1)))] [] S7 K)) → ES E 72 48 [some (.ref (aK E 0)), some (.ref (aN E i 0)), some (.ref (aN E i 16)), some (.int v), some (.int o), some (.int tm), some (.int (p)), some (.int (nI j))] [] (mix A B) K)
    (hc0 : ∀ A B K, CA E A i be → ES E 72 48 [some (.ref (aK E 0)), some (.ref (aN E i 0)), some (.ref (aN E i 16)), some (.int v), some (.int o), some (.int tm), some (.int (p)), some (.int (nI (i + 1)))] [] (mix A B) K → ES E 72 48 [some (.ref (aK E 0)), some (.ref (aN E i 0)), some (.ref (aN E i 16)), some (.int v), some (.int o), some (.int tm), some (.int (p)), some (.int (nI i))] [] (mix A B) K)
    (hr1 : ∀ A B K j, j < eN E → ¬ j = i → CB E B i g be → ES E 105 0 [some (.ref (aS E 0)), some (.int (nI i)), some (.int (nI j)), some (.int (nI g)), some (.int (nI r)), some (.int (nI k)), some (.int (w j)), some (.int qr), none, none, none, none, none] [] (mix A B) (fun r0 S8 => r0 = none ∧ ES E 101 pcr [some (.ref (aS E 0)), some (.int (nI i)), some (.int (nI k)), some (.int v3), some (.int v4), some (.int (nI g)), some (.int (nI r)), some (.int v), some (.int qr), some (.int v9), some (.int (nI (j + 1))), none] [] S8 K) → ES E 101 pcr [some (.ref (aS E 0)), some (.int (nI i)), some (.int (nI k)), some (.int v3), some (.int v4), some (.int (nI g)), some (.int (nI r)), some (.int v), some (.int qr), some (.int v9), some (.int (nI j)), none] [] (mix A B) K)
    (hr0 : ∀ A B K, CB E B i g be → ES E 101 pcr [some (.ref (aS E 0)), some (.int (nI i)), some (.int (nI k)), some (.int v3), some (.int v4), some (.int (nI g)), some (.int (nI r)), some (.int v), some (.int qr), some (.int v9), some (.int (nI (i + 1))), none] [] (mix A B) K → ES E 101 pcr [some (.ref (aS E 0)), some (.int (nI i)), some (.int (nI k)), some (.int v3), some (.int v4), some (.int (nI g)), some (.int (nI r)), some (.int v), some (.int qr), some (.int v9), some (.int (nI i)), none] [] (mix A B) K)
    (hw : ∀ j, j < eN E → ¬ j = i → 0 ≤ w j ∧ (k = 0 → gv E j g r (w j))) (hq : k = 0 → qc = qr ∧ (g + r) % eN E = i ∧ -1 ≤ qr) :
    ∀ m j A B M N, j + m = eN E → NET E A B M N → CA E A i be → CB E B i g be → OUT A i g r k qc → ∃ A' B' X, (∀ B0 K, ES E 72 48 [some (.ref (aK E 0)), some (.ref (aN E i 0)), some (.ref (aN E i 16)), some (.int v), some (.int o), some (.int tm), some (.int (p)), some (.int (nI (eN E)))] [] (mix A' B0) K → ES E 72 48 [some (.ref (aK E 0)), some (.ref (aN E i 0)), some (.ref (aN E i 16)), some (.int v), some (.int o), some (.int tm), some (.int (p)), some (.int (nI j))] [] (mix A B0) K) ∧ (∀ A0 K, ES E 101 pcr [some (.ref (aS E 0)), some (.int (nI i)), some (.int (nI k)), some (.int v3), some (.int v4), some (.int (nI g)), some (.int (nI r)), some (.int v), some (.int qr), some (.int v9), some (.int (nI (eN E))), none] [] (mix A0 B') K → ES E 101 pcr [some (.ref (aS E 0)), some (.int (nI i)), some (.int (nI k)), some (.int v3), some (.int v4), some (.int (nI g)), some (.int (nI r)), some (.int v), some (.int qr), some (.int v9), some (.int (nI j)), none] [] (mix A0 B) K) ∧
      NET E A' B' (M ++ X) (N ++ X) ∧ CA E A' i be ∧ CB E B' i g be ∧ OUT A' i g r k qc ∧ FA2 A A' ∧ FB1 B B' ∧ ∀ m, m ∈ X → GM E m ∧ sK A 0 5 < m 7 := by
  intro m
  induction m with
  | zero =>
    intro j A B M N hj hN hA hB hO
    have e : j = eN E := by omega
    subst e
    exact ⟨A, B, [], fun _ _ h => h, fun _ _ h => h, by rw [List.append_nil, List.append_nil]; exact hN, hA, hB, hO, FA2.rf A, FB1.rf B, fun m hm => by cases hm⟩
  | succ m ih =>
    intro j A B M N hj hN hA hB hO
    by_cases hji : j = i
    · subst hji
      obtain ⟨A', B', X, h1, h2, h3⟩ := ih (j + 1) A B M N (by omega) hN hA hB hO
      exact ⟨A', B', X, fun B0 K h => hc0 A B0 K hA (h1 B0 K h), fun A0 K h => hr0 A0 B K hB (h2 A0 K h), h3⟩
    · have hjn : j < eN E := by omega
      obtain ⟨o0, o2, o3, o4, o6⟩ := hO
      have no : ∀ c l, ¬ (c = 16 ∧ (l = 1 ∨ l = 5)) → sN (uN (uN A i 16 1 (nI j)) i 16 5 (w j)) i c l = sN A i c l := fun c l h => by rw [rNo _ (by omega), rNo _ (by omega)]
      obtain ⟨A1, A2, B2, X1, c1, c2, c3, c4, c5, c6, c7⟩ := cp1 (A := uN (uN A i 16 1 (nI j)) i 16 5 (w j)) (qr := qr) hN.out hi hjn hji hB.2.1 hg h40 hr hk (by rw [no _ _ (by omega)]; exact o0) (by rw [rNo _ (by omega), rNs]) (by rw [no _ _ (by omega)]; exact o2) (by rw [no _ _ (by omega)]; exact o3) (by rw [no _ _ (by omega)]; exact o4) (rNs _ _ _ _ _) (by rw [no _ _ (by omega)]; exact o6) (hw j hjn hji).1 (fun e => ⟨(hq e).1, (hw j hjn hji).2 e, (hq e).2⟩)
      have c5' : ∀ c l, ¬ (c = 16 ∧ (l = 1 ∨ l = 5)) → (c < 12 ∨ 15 < c) → sN A2 i c l = sN A i c l := fun c l h h2 => by rw [c5.1 i c l h2, no c l h]
      have c5t : sK A2 0 5 = sK A 0 5 := by rw [c5.2.2.2 5 (by omega) (by omega), fKN, fKN]
      obtain ⟨A', B', X, h1, h2, h3, h4, h5, h6, h7, h8, h9⟩ := ih (j + 1) A2 B2 (M ++ X1) (N ++ X1) (by omega) c4 ⟨by rw [c5' _ _ (by omega) (by omega)]; exact hA.1, by rw [c5' _ _ (by omega) (by omega)]; exact hA.2.1, by rw [c5.2.2.1 9 0 (by omega), fKN, fKN]; exact hA.2.2⟩ ⟨by rw [c6.1 11 i (by omega) (by omega) (by omega)]; exact hB.1, by rw [c6.1 2 i (by omega) (by omega) (by omega)]; exact hB.2.1, by rw [c6.1 0 1 (by omega) (by omega) (by omega)]; exact hB.2.2⟩ ⟨by rw [c5' _ _ (by omega) (by omega)]; exact o0, by rw [c5' _ _ (by omega) (by omega)]; exact o2, by rw [c5' _ _ (by omega) (by omega)]; exact o3, by rw [c5' _ _ (by omega) (by omega)]; exact o4, by rw [c5' _ _ (by omega) (by omega)]; exact o6⟩
      refine ⟨A', B', X1 ++ X, fun B0 K h => hc A B0 K j hjn hji hA (c1 B0 _ ⟨rfl, c2 B0 _ ⟨rfl, h1 B0 K h⟩⟩), fun A0 K h => hr1 A0 B K j hjn hji hB (c3 A0 _ ⟨rfl, h2 A0 K h⟩), ?_, h4, h5, h6, FA2.tr ⟨fun j2 c l q => ?_, fun a b => ?_, fun v k q => ?_, fun k q1 q2 => ?_⟩ h7, c6.tr h8, fun m hm => ?_⟩
      · rw [← List.append_assoc, ← List.append_assoc]
        exact h3
      · rw [c5.1 j2 c l (by omega), rNo _ (by omega), rNo _ (by omega)]
      · rw [c5.2.1, fRN, fRN]
      · rw [c5.2.2.1 v k q, fKN, fKN]
      · rw [c5.2.2.2 k q1 q2, fKN, fKN]
      · rw [List.mem_append] at hm
        rcases hm with hm | hm
        · have := c7 m hm
          rw [fKN, fKN] at this
          exact this
        · have := h9 m hm
          rw [c5t] at this
          exact this

def otV (k : Nat) (v : Int32) : Int32 := if k = 0 then v + 1 else if v = 0 then 1 else 0
/-- the pending message of node i goes to all others; the reference's loops beside it -/
theorem disp {A B : mS} {M N : List Mg} (hN : NET E A B M N) (hi : i < eN E) (hg : 1 ≤ g) (h40 : g ≤ 40) (hr : r < 30) (hk : k < 3) (hbe : sN A i 0 7 = sS B 11 i) (hh : sS B 2 i = nI g) (hO : OUT A i g r k qc) (o5 : sN A i 16 5 = v) (hv : 0 ≤ v) (hp : sN A i 0 17 = 1)
    (hq : k = 0 → qc = qr ∧ (g + r) % eN E = i ∧ -1 ≤ qr ∧ ∃ w, 1 ≤ w ∧ w ≤ MOSTV + r ∧ v = nI w) : ∃ A2 B2 X, CR E 72 0 [some (.ref (aK E 0)), some (.ref (aN E i 0)), none, none, none, none, none, none] A none A2 ∧
      ((sS B 11 i = 1 ∧ B2 = B) ∨ (¬ sS B 11 i = 1 ∧ RR E 101 143 [some (.ref (aS E 0)), some (.int (nI i)), some (.int (nI k)), some (.int v3), some (.int v4), some (.int (nI g)), some (.int (nI r)), some (.int v), some (.int qr), some (.int v9), some (.int 0), none] B none B2)) ∧ NET E A2 B2 (M ++ X) (N ++ X) ∧ (∀ j c l, c < 12 ∨ 16 < c → ¬ (j = i ∧ c = 0 ∧ l = 17) → sN A2 j c l = sN A j c l) ∧ sN A2 i 0 17 = 0 ∧ FA2 (uN A i 0 17 0) A2 ∧ FB1 B B2 ∧ ∀ m, m ∈ X → GM E m ∧ sK A 0 5 < m 7 := by
  have hn := hN.1
  have hn10 : eN E ≤ 10 := hn.2.2.2
  have hn1 : 1 ≤ eN E := hn.2.2.1
  generalize hA0 : uN A i 0 17 0 = A0
  have a0 : ∀ j c l, ¬ (j = i ∧ c = 0 ∧ l = 17) → sN A0 j c l = sN A j c l := fun j c l h => by rw [← hA0, rNo _ (by omega)]
  have hN0 : NET E A0 B M N := by
    obtain ⟨h1, h2, ⟨d, R, a, b, c⟩, ⟨u, m1, m2, m3, m4, m5⟩, ⟨t, t1, t2⟩, h6, h7⟩ := hN
    rw [← hA0]
    refine ⟨⟨h1.1, by rw [fKN]; exact h1.2.1, h1.2.2⟩, ?_, ⟨d, R, a.fr (fun v k _ _ => by rw [fKN]), b, c⟩, ⟨u, m1.fr (by rw [fKN]) (fun _ => by rw [fQN]) (fun _ _ => by rw [fMN]) (by rw [fUN]), m2, by rw [fKN]; exact m3, m4, m5⟩, ⟨t, t1, by rw [fKN]; exact t2⟩, fun j hj => (h6 j hj).fr (fun c k _ _ => by rw [rNo _ (by omega)]) rfl rfl (fun _ _ _ _ _ _ => ⟨rfl, rfl⟩), fun j hj => by rw [rNo _ (by omega)]; exact h7 j hj⟩
    unfold NT at h2 ⊢
    simp only [fKN]
    exact h2
  have k0 : sK A0 0 5 = sK A 0 5 := by rw [← hA0, fKN]
  have hcA : CA E A0 i (sS B 11 i) := ⟨by rw [a0 _ _ _ (by omega)]; exact hN.2.2.2.2.2.2 i hi, by rw [a0 _ _ _ (by omega)]; exact hbe, by rw [← hA0, fKN]; exact hn.2.1⟩
  have hcB : CB E B i g (sS B 11 i) := ⟨rfl, hh, hn.1⟩
  have hO0 : OUT A0 i g r k qc := by
    unfold OUT at hO ⊢
    rw [a0 _ _ _ (by omega), a0 _ _ _ (by omega), a0 _ _ _ (by omega), a0 _ _ _ (by omega), a0 _ _ _ (by omega)]
    exact hO
  have hk31 : k = 0 ↔ nI k = 0 := by rw [il0, nI_eq (by omega) (by omega)]
  have hov : 0 ≤ otV k v := by
    unfold otV
    split
    · rename_i e
      obtain ⟨w, w1, w2, rfl⟩ := (hq e).2.2.2
      unfold MOSTV at w2
      rw [nI_1]
      exact nI_pos' (by omega)
    · split <;> decide
  have gvs : k = 0 → ∀ j, ¬ j = i → gv E j g r v ∧ gv E j g r (otV k v) := fun e j hj => by
    obtain ⟨w, w1, w2, rfl⟩ := (hq e).2.2.2
    have hpi := (hq e).2.1
    unfold gv otV
    rw [if_neg (by omega), if_pos e]
    exact ⟨⟨w, w1, by omega, rfl⟩, ⟨w + 1, by omega, by omega, by rw [nI_1]⟩⟩
  -- the first round of copies
  have hcomp : ∀ (tm : Int32) (K : Option Value → mS → Prop) (B0 : mS), (sS B 11 i = 1 → tm = 0) → (¬ sS B 11 i = 1 → sS B 11 i = 3 → tm = 2) → (¬ sS B 11 i = 1 → ¬ sS B 11 i = 3 → tm = 1) → ES E 72 38 [some (.ref (aK E 0)), some (.ref (aN E i 0)), some (.ref (aN E i 16)), some (.int v), some (.int (otV k v)), some (.int tm), some (.int 0), none] [] (mix A0 B0) K → ES E 72 0 [some (.ref (aK E 0)), some (.ref (aN E i 0)), none, none, none, none, none, none] [] (mix A B0) K := by
    intro tm K B0 t1 t2 t3 h
    refine T72 hi ⟨fun q => absurd (hp.symm.trans q) (by decide), fun _ => ?_⟩
    rw [pN, hA0]
    rintro _ rfl
    simp only [mxN]
    rw [a0 i 16 4 (by omega), a0 i 16 5 (by omega), a0 i 0 7 (by omega), hO.2.2.2.1, o5, hbe]
    refine ⟨fun e => ?_, fun e => ⟨fun e2 => ?_, fun e2 => ?_⟩⟩
    · have eo : otV k v = v + 1 := if_pos (hk31.2 e)
      rw [eo] at h
      refine ⟨fun z => ?_, fun z => ⟨fun z2 => ?_, fun z2 => ?_⟩⟩
      · rw [t1 z] at h; exact h
      · rw [t2 z z2] at h; exact h
      · rw [t3 z z2] at h; exact h
    · have eo : otV k v = 1 := by unfold otV; rw [if_neg (fun q => e (hk31.1 q)), if_pos e2]
      rw [eo] at h
      refine ⟨fun z => ?_, fun z => ⟨fun z2 => ?_, fun z2 => ?_⟩⟩
      · rw [t1 z] at h; exact h
      · rw [t2 z z2] at h; exact h
      · rw [t3 z z2] at h; exact h
    · have eo : otV k v = 0 := by unfold otV; rw [if_neg (fun q => e (hk31.1 q)), if_neg e2]
      rw [eo] at h
      refine ⟨fun z => ?_, fun z => ⟨fun z2 => ?_, fun z2 => ?_⟩⟩
      · rw [t1 z] at h; exact h
      · rw [t2 z z2] at h; exact h
      · rw [t3 z z2] at h; exact h
  have frame0 : ∀ A2, FA2 A0 A2 → (∀ j c l, c < 12 ∨ 16 < c → ¬ (j = i ∧ c = 0 ∧ l = 17) → sN A2 j c l = sN A j c l) ∧ sN A2 i 0 17 = 0 := fun A2 h => ⟨fun j c l h1 h2 => by rw [h.1 j c l h1, a0 j c l h2], by rw [h.1 i 0 17 (by omega), ← hA0, rNs]⟩
  by_cases hs : sS B 11 i = 1
  · refine ⟨A0, B, [], fun B0 K hK => hcomp 0 K B0 (fun _ => rfl) (fun q => absurd hs q) (fun q => absurd hs q) (T72_38 hi ⟨fun _ => hK, fun q => absurd (by decide) q⟩), Or.inl ⟨hs, rfl⟩, by rw [List.append_nil, List.append_nil]; exact hN0, (frame0 A0 (FA2.rf A0)).1, (frame0 A0 (FA2.rf A0)).2, FA2.rf A0, FB1.rf B, fun m hm => by cases hm⟩
  · have godd : ∀ j, j < eN E → ((nI j - nI j / 2 * 2) = 1 ↔ j % 2 = 1) := fun j hj => by
      rw [il2, pk_rem (by omega) (by omega) (by omega), il1, nI_eq (by omega) (by omega)]
    have nle : ∀ j, j < eN E → ¬ nI (eN E) ≤ nI j := fun j hj => nI_ge hj (by omega)
    have nij : ∀ j, j < eN E → ¬ j = i → ¬ nI j = nI i := fun j hj h => by
      rw [nI_eq (by omega) (by omega)]
      exact h
    -- loops of the first pass
    obtain ⟨A1, B1, X1, d1, d2, d3, d4, d5, d6, d7, d8, d9⟩ := dloop (v := v) (o := otV k v) (tm := if sS B 11 i = 3 then 2 else 1) (p := 0) (qc := qc) (qr := qr) (v3 := v3) (v4 := v4) (v9 := v9) (be := sS B 11 i) (pcr := 143) hi hg h40 hr hk (fun j => if sS B 11 i = 2 ∧ j % 2 = 1 then otV k v else v)
      (fun A B0 K j hj hji hA h => by
        refine T72_48 hi ⟨fun q => absurd (by rw [mxK, hA.2.2] at q; exact q) (nle j hj), fun _ => ⟨fun q => absurd (by rw [mxN, hA.1] at q; exact q) (nij j hj hji), fun _ => ?_⟩⟩
        rw [pN]
        rintro _ rfl
        refine ⟨fun q => absurd q (by decide), fun _ => ⟨fun e2 => ⟨by decide, fun e3 => ?_, fun e3 => ?_⟩, fun e2 => ?_⟩⟩
        · rw [mxN, rNo _ (by omega), hA.2.1] at e2
          rw [godd j hj] at e3
          rintro _ rfl
          rw [if_pos ⟨e2, e3⟩] at h
          rw [pN, nI_1]
          exact h
        · rw [godd j hj] at e3
          rintro _ rfl
          rw [if_neg (fun z => e3 z.2)] at h
          rw [pN, nI_1]
          exact h
        · rw [mxN, rNo _ (by omega), hA.2.1] at e2
          rintro _ rfl
          rw [if_neg (fun z => e2 z.1)] at h
          rw [pN, nI_1]
          exact h)
      (fun A B0 K hA h => by
        refine T72_48 hi ⟨fun q => absurd (by rw [mxK, hA.2.2] at q; exact q) (nle i hi), fun _ => ⟨fun _ => ?_, fun q => absurd (by rw [mxN, hA.1]) q⟩⟩
        rw [nI_1]
        exact h)
      (fun A B0 K j hj hji hB h => by
        have ci : (nI i).toNatClampNeg = i := nI_clamp (by omega)
        refine T101_143 ⟨fun q => absurd (by rw [mxS, hB.2.2] at q; exact q) (nle j hj), fun _ => ⟨fun q => absurd q (nij j hj hji), fun _ => ⟨in_n rfl (by omega) (by omega), ?_⟩⟩⟩
        rw [ci, mxS, hB.1, nI_1]
        refine ⟨fun e2 => ⟨by decide, fun e3 => ⟨fun e4 => ?_, fun e4 => ⟨fun e5 => ?_, fun e5 => ?_⟩⟩, fun e3 => ?_⟩, fun e2 => ?_⟩
        · rw [godd j hj] at e3
          rw [if_pos ⟨e2, e3⟩] at h
          unfold otV at h
          rw [if_pos (hk31.2 e4)] at h
          exact h
        · rw [godd j hj] at e3
          rw [if_pos ⟨e2, e3⟩] at h
          unfold otV at h
          rw [if_neg (fun z => e4 (hk31.1 z)), if_pos e5] at h
          exact h
        · rw [godd j hj] at e3
          rw [if_pos ⟨e2, e3⟩] at h
          unfold otV at h
          rw [if_neg (fun z => e4 (hk31.1 z)), if_neg e5] at h
          exact h
        · rw [godd j hj] at e3
          rw [if_neg (fun z => e3 z.2)] at h
          exact h
        · rw [if_neg (fun z => e2 z.1)] at h
          exact h)
      (fun A B0 K hB h => by
        refine T101_143 ⟨fun q => absurd (by rw [mxS, hB.2.2] at q; exact q) (nle i hi), fun _ => ⟨fun _ => ?_, fun q => absurd rfl q⟩⟩
        rw [nI_1]
        exact h)
      (fun j hj hji => by
        by_cases e : sS B 11 i = 2 ∧ j % 2 = 1
        · rw [if_pos e]
          exact ⟨hov, fun z => (gvs z j hji).2⟩
        · rw [if_neg e]
          exact ⟨hv, fun z => (gvs z j hji).1⟩) (fun e => ⟨(hq e).1, (hq e).2.1, (hq e).2.2.1⟩) (eN E) 0 A0 B M N (by omega) hN0 hcA hcB hO0
    have nle2 : ∀ (A0 : mS), (sK (mix A1 A0) 9 0 ≤ nI (eN E)) := fun A0 => by
      rw [mxK, d4.2.2]
      exact nI_le (Nat.le_refl _) (by omega)
    have nle3 : ∀ (A0 : mS), (sS (mix A0 B1) 0 1 ≤ nI (eN E)) := fun A0 => by
      rw [mxS, d5.2.2]
      exact nI_le (Nat.le_refl _) (by omega)
    by_cases h3 : sS B 11 i = 3
    · rw [if_pos h3] at d1
      obtain ⟨A2, B2, X2, f1, f2, f3, f4, f5, f6, f7, f8, f9⟩ := dloop (v := v) (o := otV k v) (tm := 2) (p := 0 + 1) (qc := qc) (qr := qr) (v3 := v3) (v4 := v4) (v9 := v9) (be := sS B 11 i) (pcr := 222) hi hg h40 hr hk (fun j => otV k v)
        (fun A B0 K j hj hji hA h => by
          refine T72_48 hi ⟨fun q => absurd (by rw [mxK, hA.2.2] at q; exact q) (nle j hj), fun _ => ⟨fun q => absurd (by rw [mxN, hA.1] at q; exact q) (nij j hj hji), fun _ => ?_⟩⟩
          rw [pN]
          rintro _ rfl
          refine ⟨fun _ => ?_, fun q => absurd rfl q⟩
          rintro _ rfl
          rw [pN, nI_1]
          exact h)
        (fun A B0 K hA h => by
          refine T72_48 hi ⟨fun q => absurd (by rw [mxK, hA.2.2] at q; exact q) (nle i hi), fun _ => ⟨fun _ => ?_, fun q => absurd (by rw [mxN, hA.1]) q⟩⟩
          rw [nI_1]
          exact h)
        (fun A B0 K j hj hji hB h => by
          have ci : (nI i).toNatClampNeg = i := nI_clamp (by omega)
          refine T101_222 ⟨fun q => absurd (by rw [mxS, hB.2.2] at q; exact q) (nle j hj), fun _ => ⟨in_n rfl (by omega) (by omega), ?_⟩⟩
          rw [ci, mxS, hB.1, nI_1]
          refine ⟨fun _ => ⟨fun q => absurd q (nij j hj hji), fun _ => ⟨fun e4 => ?_, fun e4 => ⟨fun e5 => ?_, fun e5 => ?_⟩⟩⟩, fun q => absurd h3 q⟩
          · unfold otV at h
            rw [if_pos (hk31.2 e4)] at h
            exact h
          · unfold otV at h
            rw [if_neg (fun z => e4 (hk31.1 z)), if_pos e5] at h
            exact h
          · unfold otV at h
            rw [if_neg (fun z => e4 (hk31.1 z)), if_neg e5] at h
            exact h)
        (fun A B0 K hB h => by
          have ci : (nI i).toNatClampNeg = i := nI_clamp (by omega)
          refine T101_222 ⟨fun q => absurd (by rw [mxS, hB.2.2] at q; exact q) (nle i hi), fun _ => ⟨in_n rfl (by omega) (by omega), ?_⟩⟩
          rw [ci, mxS, hB.1, nI_1]
          exact ⟨fun _ => ⟨fun _ => h, fun q => absurd rfl q⟩, fun q => absurd h3 q⟩)
        (fun j hj hji => ⟨hov, fun z => (gvs z j hji).2⟩) (fun e => ⟨(hq e).1, (hq e).2.1, (hq e).2.2.1⟩) (eN E) 0 A1 B1 (M ++ X1) (N ++ X1) (by omega) d3 d4 d5 d6
      have nle4 : ∀ (A0 : mS), (sK (mix A2 A0) 9 0 ≤ nI (eN E)) := fun A0 => by
        rw [mxK, f4.2.2]
        exact nI_le (Nat.le_refl _) (by omega)
      have nle5 : ∀ (A0 : mS), (sS (mix A0 B2) 0 1 ≤ nI (eN E)) := fun A0 => by
        rw [mxS, f5.2.2]
        exact nI_le (Nat.le_refl _) (by omega)
      refine ⟨A2, B2, X1 ++ X2, fun B0 K hK => hcomp 2 K B0 (fun q => absurd q hs) (fun _ _ => rfl) (fun _ q => absurd h3 q) (T72_38 hi ⟨fun q => absurd q (by decide), fun _ => d1 B0 K (T72_48 hi ⟨fun _ => T72_38 hi ⟨fun q => absurd q (by decide), fun _ => f1 B0 K (T72_48 hi ⟨fun _ => T72_38 hi ⟨fun _ => hK, fun q => absurd (by decide) q⟩, fun q => absurd (nle4 B0) q⟩)⟩, fun q => absurd (nle2 B0) q⟩)⟩), Or.inr ⟨hs, fun A K hK => d2 A K (T101_143 ⟨fun _ => f2 A K (T101_222 ⟨fun _ => hK, fun q => absurd (nle5 A) q⟩), fun q => absurd (nle3 A) q⟩)⟩, ?_, (frame0 A2 (d7.tr f7)).1, (frame0 A2 (d7.tr f7)).2, d7.tr f7, d8.tr f8, fun m hm => ?_⟩
      · rw [← List.append_assoc, ← List.append_assoc]
        exact f3
      · rw [List.mem_append] at hm
        rcases hm with hm | hm
        · have := d9 m hm
          rw [k0] at this
          exact this
        · have := f9 m hm
          rw [d7.2.2.2 5 (by omega) (by omega), k0] at this
          exact this
    · rw [if_neg h3] at d1
      refine ⟨A1, B1, X1, fun B0 K hK => hcomp 1 K B0 (fun q => absurd q hs) (fun _ q => absurd q h3) (fun _ _ => rfl) (T72_38 hi ⟨fun q => absurd q (by decide), fun _ => d1 B0 K (T72_48 hi ⟨fun _ => T72_38 hi ⟨fun _ => hK, fun q => absurd (by decide) q⟩, fun q => absurd (nle2 B0) q⟩)⟩), Or.inr ⟨hs, fun A K hK => d2 A K (T101_143 ⟨fun _ => T101_222 ⟨fun q => absurd q ?_, fun _ => ⟨in_n rfl (by omega) (by omega), fun q => absurd ?_ h3, fun _ => hK⟩⟩, fun q => absurd (nle3 A) q⟩)⟩, d3, (frame0 A1 d7).1, (frame0 A1 d7).2, d7, d8, fun m hm => ?_⟩
      · rw [mxS, d5.2.2, il0, le_n (by omega) (by omega)]
        omega
      · rw [mxS, nI_clamp (by omega), d5.1] at q
        exact q
      · have := d9 m hm
        rw [k0] at this
        exact this
end Disp
