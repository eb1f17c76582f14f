/-! ===== ballots and signed messages of both sides ===== -/
/-- a value of the class beside one of the reference: -2 beside -1, or the same -/
def vm (x y : Int32) : Prop := (x = -2 ∧ y = -1) ∨ (x = y ∧ 0 ≤ y)
theorem vm.c {x y : Int32} (h : vm x y) : (x = -2 ∧ y = -1 ∧ ¬ 0 ≤ y ∧ y < 0) ∨ (x = y ∧ 0 ≤ y ∧ ¬ x = -2 ∧ ¬ y < 0) := by
  rcases h with ⟨a, b⟩ | ⟨a, b⟩
  · subst b
    exact Or.inl ⟨a, rfl, by decide, by decide⟩
  · subst a
    obtain ⟨c1, c2, c3, c4⟩ := m2_n b
    exact Or.inr ⟨rfl, b, c1, c3⟩
/-- messages of one height in ballots c beside the reference's rows; h has the parity -/
def BV (E : mE) (A B : mS) (i c h : Nat) : Prop := sN A i c 0 = nI (eN E) ∧ (∀ r s k, r < 30 → s < eN E → k < 3 → vm (sN A i (c + 2) ((r * eN E + s) * 3 + k)) (sS B 17 (pl i h r s k))) ∧
  (∀ r s, r < 30 → s < eN E → (sS B 17 (pl i h r s 0) = -1 → sS B 18 (rp i h r s) = -9) ∧ (0 ≤ sS B 17 (pl i h r s 0) → gv E i h r (sS B 17 (pl i h r s 0)) ∧ (h + r) % eN E = s ∧ sS B 18 (rp i h r s) = sN A i (c + 1) r ∧ -1 ≤ sN A i (c + 1) r)) ∧
  ∃ t, t ≤ 30 ∧ sN A i c 3 = nI t - 1 ∧ ∀ r s k, t ≤ r → r < 30 → s < eN E → k < 3 → sN A i (c + 2) ((r * eN E + s) * 3 + k) = -2
def PBa1 (E : mE) (A B : mS) (i : Nat) : Prop := RB (sR A i 0) ∧ RB (sR A i 1) ∧ ¬ sR A i 0 = sR A i 1 ∧ ∀ h, h ≤ 41 → sS B 2 i = nI h → BV E A B i (sR A i 0) h ∧ BV E A B i (sR A i 1) (h + 1)
def PBa (E : mE) (A B : mS) : Prop := ∀ i, i < eN E → PBa1 E A B i
def PSi1 (E : mE) (A B : mS) (i : Nat) : Prop := sN A i 9 0 = 1 ∧ (∀ r k, r < 30 → k < 3 → vm (sN A i 11 (r * 3 + k)) (sS B 19 (90 * i + 3 * r + k))) ∧
  (∀ r h, r < 30 → h ≤ 41 → sS B 2 i = nI h → 0 ≤ sS B 19 (90 * i + 3 * r) → (∃ w, 1 ≤ w ∧ w ≤ MOSTV + r ∧ sS B 19 (90 * i + 3 * r) = nI w) ∧ (h + r) % eN E = i ∧ sS B 20 (90 * i + 3 * r) = sN A i 10 r ∧ -1 ≤ sN A i 10 r) ∧
  ∃ t, t ≤ 30 ∧ sN A i 9 3 = nI t - 1 ∧ (∀ r k, t ≤ r → r < 30 → k < 3 → sN A i 11 (r * 3 + k) = -2) ∧ (sS B 2 i = nI 41 → t = 0)
def PSi (E : mE) (A B : mS) : Prop := ∀ i, i < eN E → PSi1 E A B i
theorem pl_inj {i h r s k i' h' r' s' k' : Nat} (a1 : r < 30) (a2 : s < 10) (a3 : k < 3) (b1 : r' < 30) (b2 : s' < 10) (b3 : k' < 3) (e : pl i h r s k = pl i' h' r' s' k') : i = i' ∧ h % 2 = h' % 2 ∧ r = r' ∧ s = s' ∧ k = k' := by
  unfold pl at e
  omega
theorem rp_inj {i h r s i' h' r' s' : Nat} (a1 : r < 30) (a2 : s < 10) (b1 : r' < 30) (b2 : s' < 10) (e : rp i h r s = rp i' h' r' s') : i = i' ∧ h % 2 = h' % 2 ∧ r = r' ∧ s = s' := by
  unfold rp at e
  omega
theorem ix_inj {n r s k r' s' k' : Nat} (a2 : s < n) (a3 : k < 3) (b2 : s' < n) (b3 : k' < 3) (e : (r * n + s) * 3 + k = (r' * n + s') * 3 + k') : r = r' ∧ s = s' ∧ k = k' := by
  have h1 : r * n + s = r' * n + s' := by omega
  have h2 : k = k' := by omega
  have h3 : r = r' := by
    have e1 : (r * n + s) / n = r := by rw [Nat.mul_comm, Nat.mul_add_div (by omega), Nat.div_eq_of_lt a2, Nat.add_zero]
    have e2 : (r' * n + s') / n = r' := by rw [Nat.mul_comm, Nat.mul_add_div (by omega), Nat.div_eq_of_lt b2, Nat.add_zero]
    rw [← e1, h1, e2]
  subst h3
  exact ⟨rfl, by omega, h2⟩
section Bv
variable {E : mE} {A B A' B' : mS} {i c h r s k : Nat} {v q qr : Int32}
theorem BV.fr (hb : BV E A B i c h) (h1 : ∀ d l, c ≤ d → d ≤ c + 2 → sN A' i d l = sN A i d l) (h2 : ∀ r s k, r < 30 → s < eN E → k < 3 → sS B' 17 (pl i h r s k) = sS B 17 (pl i h r s k)) (h3 : ∀ r s, r < 30 → s < eN E → sS B' 18 (rp i h r s) = sS B 18 (rp i h r s)) : BV E A' B' i c h := by
  obtain ⟨a, b, d, t, t1, t2, t3⟩ := hb
  refine ⟨by rw [h1 c 0 (by omega) (by omega)]; exact a, fun r s k hr hs hk => ?_, fun r s hr hs => ?_, t, t1, by rw [h1 c 3 (by omega) (by omega)]; exact t2, fun r s k q1 q2 q3 q4 => ?_⟩
  · rw [h1 (c + 2) _ (by omega) (by omega), h2 r s k hr hs hk]
    exact b r s k hr hs hk
  · rw [h1 (c + 1) _ (by omega) (by omega), h2 r s 0 hr hs (by omega), h3 r s hr hs]
    exact d r s hr hs
  · rw [h1 (c + 2) _ (by omega) (by omega)]
    exact t3 r s k q1 q2 q3 q4
theorem BV.put (hb : BV E A B i c h) (hn : eN E ≤ 10) (hr : r < 30) (hs : s < eN E) (hk : k < 3) (e2 : ∀ l, sN A' i (c + 2) l = if l = (r * eN E + s) * 3 + k then v else sN A i (c + 2) l) (e1 : ∀ l, sN A' i (c + 1) l = if k = 0 ∧ l = r then q else sN A i (c + 1) l) (e0 : sN A' i c 0 = sN A i c 0) (e3 : sN A' i c 3 = if nI r ≤ sN A i c 3 then sN A i c 3 else nI r)
    (f17 : ∀ p, sS B' 17 p = if p = pl i h r s k then v else sS B 17 p) (f18 : ∀ p, sS B' 18 p = if k = 0 ∧ p = rp i h r s then qr else sS B 18 p) (hv : 0 ≤ v) (hg : k = 0 → q = qr ∧ gv E i h r v ∧ (h + r) % eN E = s ∧ -1 ≤ q) : BV E A' B' i c h := by
  obtain ⟨a, b, d, t, t1, t2, t3⟩ := hb
  refine ⟨by rw [e0]; exact a, fun r' s' k' hr' hs' hk' => ?_, fun r' s' hr' hs' => ?_, ?_⟩
  · rw [e2, f17]
    by_cases e : r' = r ∧ s' = s ∧ k' = k
    · obtain ⟨rfl, rfl, rfl⟩ := e
      rw [if_pos rfl, if_pos rfl]
      exact Or.inr ⟨rfl, hv⟩
    · rw [if_neg (fun z => e (ix_inj hs' hk' hs hk z)), if_neg (fun z => e (pl_inj hr' (by omega) hk' hr (by omega) hk z).2.2)]
      exact b r' s' k' hr' hs' hk'
  · rw [e1, f17, f18]
    by_cases k0 : k = 0
    · subst k0
      obtain ⟨g1, g2, g3, g4⟩ := hg rfl
      subst g1
      by_cases e : r' = r ∧ s' = s
      · obtain ⟨rfl, rfl⟩ := e
        rw [if_pos rfl, if_pos ⟨rfl, rfl⟩, if_pos ⟨rfl, rfl⟩]
        exact ⟨fun z => absurd z (m2_n hv).2.2.2, fun _ => ⟨g2, g3, rfl, g4⟩⟩
      · have n1 : ¬ pl i h r' s' 0 = pl i h r s 0 := fun z => by
          have := (pl_inj hr' (by omega) (by omega) hr (by omega) (by omega) z).2.2
          exact e ⟨this.1, this.2.1⟩
        have n2 : ¬ rp i h r' s' = rp i h r s := fun z => e (rp_inj hr' (by omega) hr (by omega) z).2.2
        rw [if_neg n1, if_neg (fun z => n2 z.2)]
        refine ⟨(d r' s' hr' hs').1, fun z => ?_⟩
        obtain ⟨z1, z2, z3, z4⟩ := (d r' s' hr' hs').2 z
        have n3 : ¬ r' = r := fun z5 => by
          subst z5
          exact e ⟨rfl, z2.symm.trans g3⟩
        rw [if_neg (fun z => n3 z.2)]
        exact ⟨z1, z2, z3, z4⟩
    · have n1 : ¬ pl i h r' s' 0 = pl i h r s k := fun z => k0 ((pl_inj hr' (by omega) (by omega) hr (by omega) hk z).2.2.2.2).symm
      rw [if_neg n1, if_neg (fun z => k0 z.1), if_neg (fun z => k0 z.1)]
      exact d r' s' hr' hs'
  · rw [e3, t2]
    by_cases z : r < t
    · rw [if_pos ((top_le (by omega) (by omega)).2 z)]
      refine ⟨t, t1, rfl, fun r' s' k' q1 q2 q3 q4 => ?_⟩
      rw [e2, if_neg (fun z2 => by
        have := (ix_inj q3 q4 hs hk z2).1
        omega)]
      exact t3 r' s' k' q1 q2 q3 q4
    · rw [if_neg (fun z2 => z ((top_le (by omega) (by omega)).1 z2))]
      refine ⟨r + 1, by omega, (nI_pred r).symm, fun r' s' k' q1 q2 q3 q4 => ?_⟩
      rw [e2, if_neg (fun z2 => by
        have := (ix_inj q3 q4 hs hk z2).1
        omega)]
      exact t3 r' s' k' (by omega) q2 q3 q4
/-- a message is put into the ballots c of node i: those of height h -/
theorem PBa.put {g : Nat} (hP : PBa E A B) (hn : eN E ≤ 10) (hi : i < eN E) (hg41 : g ≤ 41) (hh : sS B 2 i = nI g) (hc : (c = sR A i 0 ∧ h = g) ∨ (c = sR A i 1 ∧ h = g + 1)) (hR : ∀ a b, sR A' a b = sR A a b) (h2 : ∀ l, sS B' 2 l = sS B 2 l) (ho : ∀ j d l, ¬ (j = i ∧ (d = c + 2 ∨ d = c + 1 ∨ d = c)) → 16 < d → sN A' j d l = sN A j d l)
    (hr : r < 30) (hs : s < eN E) (hk : k < 3) (e2 : ∀ l, sN A' i (c + 2) l = if l = (r * eN E + s) * 3 + k then v else sN A i (c + 2) l) (e1 : ∀ l, sN A' i (c + 1) l = if k = 0 ∧ l = r then q else sN A i (c + 1) l) (e0 : sN A' i c 0 = sN A i c 0) (e3 : sN A' i c 3 = if nI r ≤ sN A i c 3 then sN A i c 3 else nI r)
    (f17 : ∀ p, sS B' 17 p = if p = pl i h r s k then v else sS B 17 p) (f18 : ∀ p, sS B' 18 p = if k = 0 ∧ p = rp i h r s then qr else sS B 18 p) (hv : 0 ≤ v) (hg : k = 0 → q = qr ∧ gv E i h r v ∧ (h + r) % eN E = s ∧ -1 ≤ q) : PBa E A' B' := by
  intro j hj
  obtain ⟨p1, p2, p3, p4⟩ := hP j hj
  refine ⟨by rw [hR]; exact p1, by rw [hR]; exact p2, by rw [hR, hR]; exact p3, fun h' h41 hh' => ?_⟩
  rw [h2] at hh'
  rw [hR, hR]
  obtain ⟨b1, b2⟩ := p4 h' h41 hh'
  have g17 : ∀ r2 s2 k2 j2 h3, r2 < 30 → s2 < eN E → k2 < 3 → ¬ (j2 = i ∧ h3 % 2 = h % 2) → sS B' 17 (pl j2 h3 r2 s2 k2) = sS B 17 (pl j2 h3 r2 s2 k2) := fun r2 s2 k2 j2 h3 z1 z2 z3 z4 => by
    rw [f17, if_neg (fun z => by
      have := pl_inj z1 (by omega) z3 hr (by omega) hk z
      exact z4 ⟨this.1, this.2.1⟩)]
  have g18 : ∀ r2 s2 j2 h3, r2 < 30 → s2 < eN E → ¬ (j2 = i ∧ h3 % 2 = h % 2) → sS B' 18 (rp j2 h3 r2 s2) = sS B 18 (rp j2 h3 r2 s2) := fun r2 s2 j2 h3 z1 z2 z4 => by
    rw [f18, if_neg (fun z => by
      have := rp_inj z1 (by omega) hr (by omega) z.2
      exact z4 ⟨this.1, this.2.1⟩)]
  have l0 : ∀ {d}, RB d → 16 < d := fun hd => by rcases hd with rfl | rfl <;> omega
  by_cases e : j = i
  · subst e
    have eh : h' = g := by
      rw [hh, nI_eq (by omega) (by omega)] at hh'
      exact hh'.symm
    subst eh
    have apart : ∀ {a b}, RB a → RB b → ¬ a = b → ∀ d, a ≤ d → d ≤ a + 2 → ¬ (d = b + 2 ∨ d = b + 1 ∨ d = b) := fun ha hb hab d => by
      rcases ha with rfl | rfl <;> rcases hb with rfl | rfl <;> omega
    rcases hc with ⟨rfl, rfl⟩ | ⟨rfl, rfl⟩
    · refine ⟨b1.put hn hr hs hk e2 e1 e0 e3 f17 f18 hv hg, b2.fr (fun d l q1 q2 => ho j d l (fun z => apart p2 p1 (fun y => p3 y.symm) d q1 q2 z.2) (by have := l0 p2; omega)) (fun r2 s2 k2 z1 z2 z3 => g17 r2 s2 k2 j _ z1 z2 z3 (by omega)) (fun r2 s2 z1 z2 => g18 r2 s2 j _ z1 z2 (by omega))⟩
    · refine ⟨b1.fr (fun d l q1 q2 => ho j d l (fun z => apart p1 p2 p3 d q1 q2 z.2) (by have := l0 p1; omega)) (fun r2 s2 k2 z1 z2 z3 => g17 r2 s2 k2 j _ z1 z2 z3 (by omega)) (fun r2 s2 z1 z2 => g18 r2 s2 j _ z1 z2 (by omega)), b2.put hn hr hs hk e2 e1 e0 e3 f17 f18 hv hg⟩
  · exact ⟨b1.fr (fun d l q1 q2 => ho j d l (fun z => e z.1) (by have := l0 p1; omega)) (fun r2 s2 k2 z1 z2 z3 => g17 r2 s2 k2 j _ z1 z2 z3 (fun z => e z.1)) (fun r2 s2 z1 z2 => g18 r2 s2 j _ z1 z2 (fun z => e z.1)), b2.fr (fun d l q1 q2 => ho j d l (fun z => e z.1) (by have := l0 p2; omega)) (fun r2 s2 k2 z1 z2 z3 => g17 r2 s2 k2 j _ z1 z2 z3 (fun z => e z.1)) (fun r2 s2 z1 z2 => g18 r2 s2 j _ z1 z2 (fun z => e z.1))⟩
theorem PBa.fr (hP : PBa E A B) (hR : ∀ a b, sR A' a b = sR A a b) (h2 : ∀ l, sS B' 2 l = sS B 2 l) (hA : ∀ j d l, 16 < d → sN A' j d l = sN A j d l) (h17 : ∀ p, sS B' 17 p = sS B 17 p) (h18 : ∀ p, sS B' 18 p = sS B 18 p) : PBa E A' B' := by
  intro j hj
  obtain ⟨p1, p2, p3, p4⟩ := hP j hj
  refine ⟨by rw [hR]; exact p1, by rw [hR]; exact p2, by rw [hR, hR]; exact p3, fun h' h41 hh' => ?_⟩
  rw [h2] at hh'
  rw [hR, hR]
  obtain ⟨b1, b2⟩ := p4 h' h41 hh'
  have l0 : ∀ {d}, RB d → 16 < d := fun hd => by rcases hd with rfl | rfl <;> omega
  have := l0 p1
  have := l0 p2
  exact ⟨b1.fr (fun d l q1 q2 => hA j d l (by omega)) (fun _ _ _ _ _ _ => h17 _) (fun _ _ _ _ => h18 _), b2.fr (fun d l q1 q2 => hA j d l (by omega)) (fun _ _ _ _ _ _ => h17 _) (fun _ _ _ _ => h18 _)⟩
theorem PSi.fr (hP : PSi E A B) (h2 : ∀ l, sS B' 2 l = sS B 2 l) (hA : ∀ j d l, 9 ≤ d → d ≤ 11 → sN A' j d l = sN A j d l) (h19 : ∀ p, sS B' 19 p = sS B 19 p) (h20 : ∀ p, sS B' 20 p = sS B 20 p) : PSi E A' B' := by
  intro j hj
  have := hP j hj
  unfold PSi1 at this ⊢
  have h9 : ∀ l, sN A' j 9 l = sN A j 9 l := fun l => hA j 9 l (by omega) (by omega)
  have h10 : ∀ l, sN A' j 10 l = sN A j 10 l := fun l => hA j 10 l (by omega) (by omega)
  have h11 : ∀ l, sN A' j 11 l = sN A j 11 l := fun l => hA j 11 l (by omega) (by omega)
  simp only [h9, h10, h11, h2, h19, h20]
  exact this
/-- the reference keeps a first message -/
theorem ix_r {i h r s : Nat} (hi : i < 10) (hh : h < 100) (hr : r < 30) (hs : s < 10) : (((2 * nI i + (nI h - nI h / 2 * 2)) * 30 + nI r) * 10 + nI s) = nI (rp i h r s) := by
  rw [il2, il10, il30, pk_rem (by omega) (by omega) (by omega), pk_mul, nI_add, pk_mul, nI_add, pk_mul, nI_add]
  unfold rp
  rw [Nat.mul_comm 2 i]
theorem rp_lt {i h r s : Nat} (hi : i < 10) (hr : r < 30) (hs : s < 10) : rp i h r s < 6000 := by
  unfold rp
  have : h % 2 < 2 := Nat.mod_lt _ (by omega)
  omega
def rK0 (B : mS) (i h r s k : Nat) (v q : Int32) : mS := uS (uS B 17 (pl i h r s k) v) 18 (rp i h r s) (if k = 0 then q else sS B 18 (rp i h r s))
theorem r_keep0 {g : Nat} {j : Int32} (hi : i < 10) (hs : s < 10) (hr : r < 30) (hk : k < 3) (hh : sS B 2 i = nI g) (hg : h = g ∨ h = g + 1) (h40 : h ≤ 40) (he : sS B 17 (pl i h r s k) < 0) : RR E 102 0 [some (.ref (aS E 0)), some (.int (nI i)), some (.int (nI s)), some (.int (nI h)), some (.int (nI r)), some (.int (nI k)), some (.int v), some (.int q), some (.int j), none, none] B none (rK0 B i h r s k v q) := by
  intro A K hK
  have ci : (nI i).toNatClampNeg = i := nI_clamp (by omega)
  have hp := pl_lt (h := h) hi hr hs hk
  have hp2 := rp_lt (h := h) hi hr hs
  have ep := ix_p (i := i) (h := h) (r := r) (s := s) (k := k) hi (by omega) hr hs hk
  have er := ix_r (i := i) (h := h) (r := r) (s := s) hi (by omega) hr hs
  have cp : (((((2 * nI i + (nI h - nI h / 2 * 2)) * 30 + nI r) * 10 + nI s) * 3 + nI k)).toNatClampNeg = pl i h r s k := cl_n ep (Nat.lt_trans hp (by omega))
  have cr : ((((2 * nI i + (nI h - nI h / 2 * 2)) * 30 + nI r) * 10 + nI s)).toNatClampNeg = rp i h r s := cl_n er (by omega)
  have go : ES E 102 22 [some (.ref (aS E 0)), some (.int (nI i)), some (.int (nI s)), some (.int (nI h)), some (.int (nI r)), some (.int (nI k)), some (.int v), some (.int q), some (.int j), none, none] [] (mix A B) K := by
    refine T102_22 ⟨fun _ => ⟨by decide, in_n ep (Nat.lt_of_lt_of_le hp (Nat.le_refl _)) (by omega), fun z => ?_, fun _ => ?_⟩, fun z => absurd (nI_le h40 (by omega)) z⟩
    · rw [cp, mxS] at z
      exact absurd he (m2_n z).2.2.1
    · rw [cp]
      rintro _ rfl
      refine ⟨fun z => ⟨in_n er hp2 (by omega), ?_⟩, fun z => ⟨in_n er hp2 (by omega), ?_⟩⟩
      · rw [cr, pS]
        rintro _ rfl
        refine T102_144 ?_
        unfold rK0 at hK
        rw [il0, nI_eq (by omega) (by omega)] at z
        rw [if_pos z] at hK
        rw [pS]
        exact hK
      · rw [cr, pS]
        rintro _ rfl
        refine T102_144 ?_
        unfold rK0 at hK
        rw [il0, nI_eq (by omega) (by omega)] at z
        rw [if_neg z] at hK
        rw [mxS, rSo _ (by omega), pS]
        exact hK
  refine T102 ⟨in_n rfl hi (by omega), ?_⟩
  rw [ci, mxS, hh, nI_1, nI_eq (by omega) (by omega), nI_eq (by omega) (by omega)]
  exact ⟨fun _ => go, fun z => ⟨fun _ => go, fun z2 => absurd (hg.resolve_left z) z2⟩⟩
/-- the reference keeps no second message, and doesn't judge it -/
theorem r_keepN {g : Nat} (hi : i < 10) (hs : s < 10) (hr : r < 30) (hk : k < 3) (hh : sS B 2 i = nI g) (hg : h = g ∨ h = g + 1) (h40 : h ≤ 40) (he : 0 ≤ sS B 17 (pl i h r s k)) : RR E 102 0 [some (.ref (aS E 0)), some (.int (nI i)), some (.int (nI s)), some (.int (nI h)), some (.int (nI r)), some (.int (nI k)), some (.int v), some (.int q), some (.int 0), none, none] B none B := by
  intro A K hK
  have ci : (nI i).toNatClampNeg = i := nI_clamp (by omega)
  have hp := pl_lt (h := h) hi hr hs hk
  have ep := ix_p (i := i) (h := h) (r := r) (s := s) (k := k) hi (by omega) hr hs hk
  have cp : (((((2 * nI i + (nI h - nI h / 2 * 2)) * 30 + nI r) * 10 + nI s) * 3 + nI k)).toNatClampNeg = pl i h r s k := cl_n ep (Nat.lt_trans hp (by omega))
  have go : ES E 102 22 [some (.ref (aS E 0)), some (.int (nI i)), some (.int (nI s)), some (.int (nI h)), some (.int (nI r)), some (.int (nI k)), some (.int v), some (.int q), some (.int 0), none, none] [] (mix A B) K := by
    refine T102_22 ⟨fun _ => ⟨by decide, in_n ep (Nat.lt_of_lt_of_le hp (Nat.le_refl _)) (by omega), fun _ => ⟨fun _ => T102_144 hK, fun z => absurd rfl z⟩, fun z => ?_⟩, fun z => absurd (nI_le h40 (by omega)) z⟩
    rw [cp, mxS] at z
    exact absurd he z
  refine T102 ⟨in_n rfl hi (by omega), ?_⟩
  rw [ci, mxS, hh, nI_1, nI_eq (by omega) (by omega), nI_eq (by omega) (by omega)]
  exact ⟨fun _ => go, fun z => ⟨fun _ => go, fun z2 => absurd (hg.resolve_left z) z2⟩⟩
end Bv
