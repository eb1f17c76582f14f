/-! ===== the net of both sides; one copy ===== -/
def MOSTV : Nat := 2097152
/-- a proposal's value as node b may hold it -/
def gv (E : mE) (b h r : Nat) (v : Int32) : Prop := ∃ w : Nat, 1 ≤ w ∧ w ≤ MOSTV + r + (if (h + r) % eN E = b then 0 else 1) ∧ v = nI w
theorem gv.pos {E : mE} {b h r : Nat} {v : Int32} (hr : r < 30) (h1 : gv E b h r v) : 0 ≤ v ∧ 0 < v ∧ ¬ v = 0 := by
  obtain ⟨w, w1, w2, rfl⟩ := h1
  have : w < 2 ^ 31 := by
    unfold MOSTV at w2
    split at w2 <;> omega
  exact ⟨nI_pos' this, (by rw [il0]; exact nI_lt (by omega) this), nI_ne0 (by omega) this⟩
/-- a good message -/
def GM (E : mE) (m : Mg) : Prop := ∃ a b h r k : Nat, a < eN E ∧ b < eN E ∧ ¬ b = a ∧ 1 ≤ h ∧ h ≤ 40 ∧ r < 30 ∧ k < 3 ∧ m 0 = nI a ∧ m 1 = nI b ∧ m 2 = nI h ∧ m 3 = nI r ∧ m 4 = nI k ∧ 0 ≤ m 5 ∧ (m 8 = 0 ∨ m 8 = 1) ∧ (k = 0 → gv E b h r (m 5) ∧ (h + r) % eN E = a ∧ -1 ≤ m 6)
/-- numbers of the whole -/
def G1 (E : mE) (A B : mS) : Prop := sS B 0 1 = nI (eN E) ∧ sK A 9 0 = nI (eN E) ∧ 1 ≤ eN E ∧ eN E ≤ 10
def NT (A B : mS) : Prop := sS B 0 3 = sK A 0 5 ∧ sS B 0 39 = sK A 0 6 ∧ sS B 0 41 = sK A 0 8 ∧ sS B 0 46 = sK A 0 9 ∧ sS B 0 47 = sK A 0 10 ∧ sS B 0 48 = sK A 0 11
def GT (A B : mS) : Prop := ∃ d R, TC A d R ∧ TR B d R ∧ ∀ x k y, R x k y → k = 2 → 1 ≤ y ∧ y ≤ 20
/-- how many are under way still: those that came bear -1 -/
def lv (N : List Mg) : Nat := (N.filter (fun m => decide (0 ≤ m 7))).length
theorem lv_app (N X : List Mg) : lv (N ++ X) = lv N + lv X := by
  unfold lv
  rw [List.filter_append, List.length_append]
theorem lv_all {X : List Mg} (h : ∀ m, m ∈ X → 0 ≤ m 7) : lv X = X.length := by
  unfold lv
  rw [List.filter_eq_self.2 (fun m hm => decide_eq_true (h m hm))]
def ML (A B : mS) (M N : List Mg) : Prop := ∃ u, MC A M ∧ MR B N ∧ sK A 1 2 = nI u ∧ sS B 0 38 = nI u ∧ u ≤ 6000 ∧ M.length ≤ u + 6000 ∧ N.length ≤ u + 6000 ∧ u = lv N
def TM (A : mS) : Prop := ∃ t, t ≤ 100000 ∧ sK A 0 5 = nI t
def PNum (E : mE) (A : mS) : Prop := ∀ i, i < eN E → sN A i 0 0 = nI i
def NET (E : mE) (A B : mS) (M N : List Mg) : Prop := G1 E A B ∧ NT A B ∧ GT A B ∧ ML A B M N ∧ TM A ∧ PSe E A B ∧ PNum E A
/-- what copies that go leave -/
def FA1 (A A' : mS) : Prop := (∀ j c k, c < 12 ∨ 15 < c → sN A' j c k = sN A j c k) ∧ (∀ i j, sR A' i j = sR A i j) ∧ (∀ v k, 7 ≤ v → sK A' v k = sK A v k) ∧ ∀ k, ¬ k = 6 → ¬ k = 8 → sK A' 0 k = sK A 0 k
def FB1 (B B' : mS) : Prop := (∀ v k, v < 25 ∨ v = 37 → ¬ v = 16 → (v = 0 → k < 37 ∨ k = 40 ∨ 45 < k) → sS B' v k = sS B v k) ∧ ∀ k, sW B' k = sW B k
theorem FA1.rf (A : mS) : FA1 A A := ⟨fun _ _ _ _ => rfl, fun _ _ => rfl, fun _ _ _ => rfl, fun _ _ _ => rfl⟩
theorem FA1.tr {A A1 A2 : mS} (h : FA1 A A1) (g : FA1 A1 A2) : FA1 A A2 := ⟨fun j c k q => (g.1 j c k q).trans (h.1 j c k q), fun i j => (g.2.1 i j).trans (h.2.1 i j), fun v k q => (g.2.2.1 v k q).trans (h.2.2.1 v k q), fun k q1 q2 => (g.2.2.2 k q1 q2).trans (h.2.2.2 k q1 q2)⟩
theorem FB1.rf (B : mS) : FB1 B B := ⟨fun _ _ _ _ _ => rfl, fun _ => rfl⟩
theorem FB1.tr {B B1 B2 : mS} (h : FB1 B B1) (g : FB1 B1 B2) : FB1 B B2 := ⟨fun v k a b c => (g.1 v k a b c).trans (h.1 v k a b c), fun k => (g.2 k).trans (h.2 k)⟩
theorem oc_mem {kd y : Int32} {ap : Bool} {u : Nat} {t : Int32} {mk : Int32 → Int32 → Mg} {m : Mg} (h : m ∈ oc kd y ap u t mk) : ∃ due sec, m = mk due sec ∧ (sec = 0 ∨ sec = 1) ∧ (due = t + 1 + 0 ∨ due = t + 2 ∨ (kd = 2 ∧ due = t + 1 + y)) := by
  unfold oc at h
  split at h
  · cases h
  · split at h
    · split at h
      · rw [List.mem_singleton] at h
        exact ⟨_, _, h, Or.inl rfl, Or.inl rfl⟩
      · rw [List.mem_cons, List.mem_singleton] at h
        rcases h with h | h
        · exact ⟨_, _, h, Or.inl rfl, Or.inl rfl⟩
        · exact ⟨_, _, h, Or.inr rfl, Or.inr (Or.inl rfl)⟩
    · rw [List.mem_singleton] at h
      refine ⟨_, _, h, Or.inl rfl, ?_⟩
      by_cases e : kd = 2
      · rw [if_pos e]
        exact Or.inr (Or.inr ⟨e, rfl⟩)
      · rw [if_neg e]
        exact Or.inl rfl
theorem oc_len (kd y : Int32) (ap : Bool) (u : Nat) (t : Int32) (mk : Int32 → Int32 → Mg) (hu : u ≤ 6000) : u + (oc kd y ap u t mk).length ≤ 6000 := by
  unfold oc
  split
  · exact hu
  · rename_i h
    have h3 : ¬ u = 6000 := fun q => h (Or.inr (Or.inr q))
    split
    · split
      · show u + 1 ≤ 6000
        omega
      · show u + 2 ≤ 6000
        omega
    · show u + 1 ≤ 6000
      omega
theorem oc_map (φ : Mg → Mg) (kd y : Int32) (ap : Bool) (u : Nat) (t : Int32) (mk mk' : Int32 → Int32 → Mg) (h : ∀ a b, mk' a b = φ (mk a b)) : oc kd y ap u t mk' = (oc kd y ap u t mk).map φ := by
  unfold oc
  split
  · rfl
  · split
    · split
      · rw [h]
        rfl
      · rw [h, h]
        rfl
    · rw [h]
      rfl
theorem oc_len2 (kd y : Int32) (ap : Bool) (u : Nat) (t : Int32) (mk mk' : Int32 → Int32 → Mg) : (oc kd y ap u t mk).length = (oc kd y ap u t mk').length := by
  unfold oc
  split
  · rfl
  · split
    · split <;> rfl
    · rfl
/-- of votes the since doesn't count -/
theorem MC.since {A : mS} {M X : List Mg} {φ : Mg → Mg} (h : MC A (M ++ X.map φ)) (hφ : ∀ m, m ∈ X → (φ m) 4 = m 4 ∧ ∀ k, k < 9 → (k = 6 → m 4 = 0) → φ m k = m k) : MC A (M ++ X) := by
  obtain ⟨h1, h2, h3, h4, h5, h6, h7⟩ := h
  have el : (M ++ X.map φ).length = (M ++ X).length := by simp
  rw [el] at h1 h2
  refine ⟨h1, h2, h3, h4, h5, h6, fun j m hj => ?_⟩
  by_cases q : j < M.length
  · rw [List.getElem?_append_left q] at hj
    exact h7 j m (by rw [List.getElem?_append_left q]; exact hj)
  · rw [List.getElem?_append_right (by omega)] at hj
    obtain ⟨p, hp, hm⟩ := h7 j (φ m) (by rw [List.getElem?_append_right (by omega), List.getElem?_map, hj]; rfl)
    have hmem := List.mem_of_getElem? hj
    refine ⟨p, hp, fun k hk h6' => ?_⟩
    rw [hm k hk (fun e => by rw [(hφ m hmem).1]; exact h6' e)]
    exact (hφ m hmem).2 k hk h6'
section Cp
variable {E : mE} {A B : mS} {M N : List Mg} {i b g r k : Nat} {v qc qr : Int32}
theorem tm_lt {t : Nat} (h : t ≤ 100000) {due y : Int32} (hy : due = nI t + 1 + 0 ∨ due = nI t + 2 ∨ ((1 ≤ y ∧ y ≤ 20) ∧ due = nI t + 1 + y)) : nI t < due := by
  rcases hy with rfl | rfl | ⟨⟨y1, y2⟩, rfl⟩
  · rw [Int32.add_zero, nI_1]
    exact nI_lt (by omega) (by omega)
  · rw [il2, nI_add]
    exact nI_lt (by omega) (by omega)
  · have h0 : ¬ y < 0 := fun q => by
      rw [Int32.lt_iff_toInt_lt] at q
      rw [Int32.le_iff_toInt_le] at y1
      have e1 : (1 : Int32).toInt = 1 := rfl
      have e0 : (0 : Int32).toInt = 0 := rfl
      omega
    obtain ⟨j, hj, rfl⟩ := nI_of2 (M := 20) (n := 20) rfl h0 y2
    rw [nI_1, nI_add]
    exact nI_lt (by omega) (by omega)
/-- one copy goes, on both sides -/
theorem cp1 (hN : NET E A B M N) (hi : i < eN E) (hb : b < eN E) (hbi : ¬ b = i) (hh : sS B 2 i = nI g) (hg : 1 ≤ g) (h40 : g ≤ 40) (hr : r < 30) (hk : k < 3) (o0 : sN A i 16 0 = nI i) (o1 : sN A i 16 1 = nI b) (o2 : sN A i 16 2 = nI g) (o3 : sN A i 16 3 = nI r) (o4 : sN A i 16 4 = nI k) (o5 : sN A i 16 5 = v) (o6 : sN A i 16 6 = qc) (hv : 0 ≤ v) (hq : k = 0 → qc = qr ∧ gv E b g r v ∧ (g + r) % eN E = i ∧ -1 ≤ qr) :
    ∃ A1 A2 B' X, CR E 35 0 [some (.ref (aN E i 12)), some (.ref (aN E i 16)), none] A none A1 ∧ CR E 73 0 [some (.ref (aK E 0)), some (.ref (aN E i 16)), none, none, none] A1 none A2 ∧
      RR E 105 0 [some (.ref (aS E 0)), some (.int (nI i)), some (.int (nI b)), some (.int (nI g)), some (.int (nI r)), some (.int (nI k)), some (.int v), some (.int qr), none, none, none, none, none] B none B' ∧
      NET E A2 B' (M ++ X) (N ++ X) ∧ FA1 A A2 ∧ FB1 B B' ∧ ∀ m, m ∈ X → GM E m ∧ sK A 0 5 < m 7 := by
  obtain ⟨hG1, ⟨nt1, nt2, nt3, nt4, nt5, nt6⟩, ⟨d, R, hTC, hTR, hR2⟩, ⟨u, hMC, hMR, hu1, hu2, hu6, hl1, hl2, hlv⟩, ⟨t, ht, hti⟩, hPS, hnum⟩ := hN
  have hn := hG1.2.2.2
  -- sent
  obtain ⟨A1, B1, n1, n2, n3, n4, n5, n6, n7⟩ := noteP (B := uS B 0 39 (sS B 0 39 + 1)) hi hn (fun j hj => (hPS j hj).fr (fun _ _ _ _ => rfl) (by rw [rSo _ (by omega)]) (by rw [rSo _ (by omega)]) (fun _ _ _ _ _ _ => ⟨by rw [rSo _ (by omega)], by rw [rSo _ (by omega)]⟩)) (by rw [rSo _ (by omega)]; exact hh) h40 hr hk o3 o4 o5 hv
  have B1o : ∀ v k, ¬ v = 16 → ¬ v = 38 → ¬ v = 39 → ¬ (v = 0 ∧ k = 39) → sS B1 v k = sS B v k := fun v k a b c d => by rw [n6 v k a b c, rSo _ d]
  have hMC1 : MC A1 M := hMC.fr (n4.1 1 1) n4.2.2.1 n4.2.2.2.1 n4.2.2.2.2
  have hTC1 : TC A1 d R := hTC.fr (fun v k _ _ => n4.1 v k)
  have hMR1 : MR B1 N := hMR.fr (B1o 0 37 (by omega) (by omega) (by omega) (by omega)) (fun v k _ _ => B1o v k (by omega) (by omega) (by omega) (by omega))
  have hTR1 : TR B1 d R := hTR.fr (fun v k _ _ => B1o v k (by omega) (by omega) (by omega) (by omega)) (B1o 0 45 (by omega) (by omega) (by omega) (by omega))
  -- class
  obtain ⟨kd, y, A2, d', cw, c1, c2, c3, c4, c5, c6, c7, c8, c9, c10⟩ := c_copy (E := E) (a := nI i) (b := nI b) hi hTC1 hMC1 (by rw [n4.1]; exact hu1) hu6 hl1 (by rw [n5 _ _ _ (by omega)]; exact o0) (by rw [n5 _ _ _ (by omega)]; exact o1)
  -- reference
  have hap : apB (sS B1 0 3) (sS B1 0 47) (sS B1 0 48) (sS B1 0 46) (nI i) (nI b) = apB (sK A1 0 5) (sK A1 0 10) (sK A1 0 11) (sK A1 0 9) (nI i) (nI b) := by
    rw [B1o 0 3 (by omega) (by omega) (by omega) (by omega), B1o 0 47 (by omega) (by omega) (by omega) (by omega), B1o 0 48 (by omega) (by omega) (by omega) (by omega), B1o 0 46 (by omega) (by omega) (by omega) (by omega), nt1, nt4, nt5, nt6, n4.1, n4.1, n4.1, n4.1]
  have htB : sS B1 0 3 = sK A1 0 5 := by rw [B1o 0 3 (by omega) (by omega) (by omega) (by omega), nt1, n4.1]
  have hgo : sS B 0 39 = sK A1 0 6 := by rw [nt2, n4.1]
  have rr : ∃ B2 kd' y', RR E 105 0 [some (.ref (aS E 0)), some (.int (nI i)), some (.int (nI b)), some (.int (nI g)), some (.int (nI r)), some (.int (nI k)), some (.int v), some (.int qr), none, none, none, none, none] B none B2 ∧
      oc kd' y' (apB (sS B1 0 3) (sS B1 0 47) (sS B1 0 48) (sS B1 0 46) (nI i) (nI b)) u (sS B1 0 3) (mkR (nI i) (nI b) (nI g) (nI r) (nI k) v qr) = oc kd y (apB (sK A1 0 5) (sK A1 0 10) (sK A1 0 11) (sK A1 0 9) (nI i) (nI b)) u (sK A1 0 5) (mkR (nI i) (nI b) (nI g) (nI r) (nI k) v qr) ∧
      ol kd' (apB (sS B1 0 3) (sS B1 0 47) (sS B1 0 48) (sS B1 0 46) (nI i) (nI b)) u = ol kd (apB (sK A1 0 5) (sK A1 0 10) (sK A1 0 11) (sK A1 0 9) (nI i) (nI b)) u ∧ TR B2 d' (fun x k y => R x k y ∧ ¬ x = sK A1 0 6) ∧ (kd = 2 → 1 ≤ y ∧ y ≤ 20) ∧
      MR B2 (N ++ oc kd' y' (apB (sS B1 0 3) (sS B1 0 47) (sS B1 0 48) (sS B1 0 46) (nI i) (nI b)) u (sS B1 0 3) (mkR (nI i) (nI b) (nI g) (nI r) (nI k) v qr)) ∧ sS B2 0 38 = nI (u + (oc kd' y' (apB (sS B1 0 3) (sS B1 0 47) (sS B1 0 48) (sS B1 0 46) (nI i) (nI b)) u (sS B1 0 3) (mkR (nI i) (nI b) (nI g) (nI r) (nI k) v qr)).length) ∧ sS B2 0 41 = sS B1 0 41 + ol kd' (apB (sS B1 0 3) (sS B1 0 47) (sS B1 0 48) (sS B1 0 46) (nI i) (nI b)) u ∧
      (∀ v k, v < 25 ∨ 36 < v → ¬ (v = 0 ∧ (k = 37 ∨ k = 38 ∨ k = 41 ∨ k = 45)) → sS B2 v k = sS B1 v k) ∧ ∀ k, sW B2 k = sW B1 k := by
    have hd60 := hTR1.1
    have run : ∀ B2 : mS, (∀ (A : mS) (K : Option Value → mS → Prop), K none (mix A B2) → ES E 105 47 [some (.ref (aS E 0)), some (.int (nI i)), some (.int (nI b)), some (.int (nI g)), some (.int (nI r)), some (.int (nI k)), some (.int v), some (.int qr), some (.int (sS B 0 39)), some (.int (-1)), some (.int 0), some (.int 0), none] [] (mix A B1) K) → RR E 105 0 [some (.ref (aS E 0)), some (.int (nI i)), some (.int (nI b)), some (.int (nI g)), some (.int (nI r)), some (.int (nI k)), some (.int v), some (.int qr), none, none, none, none, none] B none B2 := by
      intro B2 hB2 A K hK
      refine T105 ?_
      rintro _ rfl
      refine ⟨in_n rfl (by omega) (by omega), ?_⟩
      rw [nI_clamp (show i < 2 ^ 31 by omega), mxS, pS, mxS]
      rintro _ rfl
      rw [pS]
      exact n2 A _ ⟨rfl, hB2 A K hK⟩
    rcases r_find (E := E) (v1 := nI i) (v2 := nI b) (v3 := nI g) (v4 := nI r) (v5 := nI k) (v6 := v) (v7 := qr) hTR1 (sS B 0 39) with ⟨p, B', f1, f2, f3, f4, f5⟩ | ⟨f1, f2⟩
    · have hRp : R (sK A1 0 6) (sS B1 35 p) (sS B1 36 p) := (hTR1.2.2.2 _ _ _).1 ⟨p, f1, by rw [← hgo]; exact f2, rfl, rfl⟩
      obtain ⟨j, hj, j1, j2, j3⟩ := (hTC1.2.2.2 _ _ _).2 hRp
      rcases cw with ⟨p', q1, q2, q3, q4, q5⟩ | ⟨q1, _⟩
      · have ej : j = p' := hTC1.2.2.1 j p' hj q1 (j1.trans q2.symm)
        subst ej
        subst q5
        have ek : sS B1 35 p = kd := by rw [← j2, q3]
        have ey : sS B1 36 p = y := by rw [← j3, q4]
        obtain ⟨B2, t1, t2, t3, t4, t5⟩ := r_tail (E := E) (B := B') (u := u) (d := d) (dd := d - 1) (a := nI i) (b := nI b) (h := nI g) (r := nI r) (k := nI k) (v := v) (q := qr) (x := sS B 0 39) (kd := kd) (y := y) (hMR1.fr (f4.1 0 37 (by omega) (by omega)) (fun v k _ _ => f4.1 v k (by omega) (by omega))) (by rw [f4.1 0 38 (by omega) (by omega), B1o 0 38 (by omega) (by omega) (by omega) (by omega)]; exact hu2) hu6 hl2 f3.2.1 (by omega) hd60
        rw [f4.1 0 3 (by omega) (by omega), f4.1 0 47 (by omega) (by omega), f4.1 0 48 (by omega) (by omega), f4.1 0 46 (by omega) (by omega)] at t2 t3 t4
        rw [f4.1 0 41 (by omega) (by omega)] at t4
        refine ⟨B2, kd, y, run B2 (fun A K hK => f5 A K ?_), ?_, ?_, ?_, ?_, t2, t3, t4, fun v k h1 h2 => ?_, fun k => ?_⟩
        · rw [ek, ey]
          exact t1 A K hK
        · rw [hap, htB]
        · rw [hap]
        · rw [hgo] at f3
          exact f3.fr (fun v k _ _ => t5.1 v k (by omega) (by omega)) (t5.1 0 45 (by omega) (by omega))
        · intro e2
          rw [ek, ey] at hRp
          exact hR2 _ _ _ hRp e2
        · rw [t5.1 v k (by omega) (by omega), f4.1 v k (by omega) (by omega)]
        · rw [t5.2, f4.2]
      · exact absurd j1 (q1 j hj)
    · rcases cw with ⟨p', q1, q2, q3, q4, q5⟩ | ⟨q1, q2, q3, q4⟩
      · have hRp : R (sK A1 0 6) (sK A1 5 p') (sK A1 6 p') := (hTC1.2.2.2 _ _ _).1 ⟨p', q1, q2, rfl, rfl⟩
        obtain ⟨j, hj, j1, _⟩ := (hTR1.2.2.2 _ _ _).2 hRp
        exact absurd (by rw [hgo]; exact j1) (f1 j hj)
      · subst q2 q3 q4
        obtain ⟨B2, t1, t2, t3, t4, t5⟩ := r_tail (E := E) (B := B1) (u := u) (d := d') (dd := d') (a := nI i) (b := nI b) (h := nI g) (r := nI r) (k := nI k) (v := v) (q := qr) (x := sS B 0 39) (kd := -1) (y := 0) hMR1 (by rw [B1o 0 38 (by omega) (by omega) (by omega) (by omega)]; exact hu2) hu6 hl2 hTR1.2.1 (Nat.le_refl _) hd60
        refine ⟨B2, -1, 0, run B2 (fun A K hK => f2 A K (t1 A K hK)), ?_, ?_, ?_, fun q => absurd q (by decide), t2, t3, t4, fun v k h1 h2 => ?_, t5.2⟩
        · rw [hap, htB, oc_none]
        · rw [hap, ol_none]
        · have : TR B1 d' (fun x k y => R x k y ∧ ¬ x = sK A1 0 6) := ⟨hTR1.1, hTR1.2.1, hTR1.2.2.1, fun x k y => by
            rw [hTR1.2.2.2]
            refine ⟨fun h => ⟨h, fun e => ?_⟩, fun h => h.1⟩
            obtain ⟨j, hj, hj2, _⟩ := (hTR1.2.2.2 x k y).2 h
            exact f1 j hj (by rw [hgo, hj2, e])⟩
          exact this.fr (fun v k _ _ => t5.1 v k (by omega) (by omega)) (t5.1 0 45 (by omega) (by omega))
        · exact t5.1 v k (by omega) (by omega)
  obtain ⟨B2, kd', y', r1, r2, r3, r4, r5, r6, r7, r8, r9, r10⟩ := rr
  rw [r2] at r6 r7
  rw [r3] at r8
  -- the same messages
  have hc3 : MC A2 (M ++ oc kd y (apB (sK A1 0 5) (sK A1 0 10) (sK A1 0 11) (sK A1 0 9) (nI i) (nI b)) u (sK A1 0 5) (mkR (nI i) (nI b) (nI g) (nI r) (nI k) v qr)) := by
    rw [oc_map (fun m j => if j = 6 then qc else m j) kd y _ u _ (mkR (nI i) (nI b) (nI g) (nI r) (nI k) v qr) (mkM A1 i) (fun due sec => by
      funext j
      unfold mkM
      have n5' : ∀ k, sN A1 i 16 k = sN A i 16 k := fun k => n5 _ _ _ (by omega)
      match j with
      | 0 => exact (n5' 0).trans o0
      | 1 => exact (n5' 1).trans o1
      | 2 => exact (n5' 2).trans o2
      | 3 => exact (n5' 3).trans o3
      | 4 => exact (n5' 4).trans o4
      | 5 => exact (n5' 5).trans o5
      | 6 => exact (n5' 6).trans o6
      | 7 => rfl
      | j + 8 =>
        rw [if_neg (by omega), if_pos (by omega), if_neg (by omega)]
        rfl)] at c3
    refine c3.since (fun m hm => ?_)
    obtain ⟨due, sec, rfl, _, _⟩ := oc_mem hm
    refine ⟨rfl, fun j hj h6 => ?_⟩
    by_cases e : j = 6
    · subst e
      have hk0 : k = 0 := by
        have : nI k = 0 := h6 rfl
        rw [il0, nI_eq (by omega) (by omega)] at this
        exact this
      show qc = qr
      exact (hq hk0).1
    · exact if_neg e
  rw [oc_len2 _ _ _ _ _ _ (mkR (nI i) (nI b) (nI g) (nI r) (nI k) v qr)] at c4
  have hlen := oc_len kd y (apB (sK A1 0 5) (sK A1 0 10) (sK A1 0 11) (sK A1 0 9) (nI i) (nI b)) u (sK A1 0 5) (mkR (nI i) (nI b) (nI g) (nI r) (nI k) v qr) hu6
  have htA : sK A1 0 5 = nI t := by rw [n4.1]; exact hti
  have hX : ∀ m, m ∈ oc kd y (apB (sK A1 0 5) (sK A1 0 10) (sK A1 0 11) (sK A1 0 9) (nI i) (nI b)) u (sK A1 0 5) (mkR (nI i) (nI b) (nI g) (nI r) (nI k) v qr) → GM E m ∧ sK A 0 5 < m 7 := fun m hm => by
    obtain ⟨due, sec, rfl, s1, s2⟩ := oc_mem hm
    refine ⟨⟨i, b, g, r, k, hi, hb, hbi, hg, h40, hr, hk, rfl, rfl, rfl, rfl, rfl, hv, s1, fun e => ?_⟩, ?_⟩
    · have := hq e
      exact ⟨this.2.1, this.2.2.1, this.2.2.2⟩
    · rw [hti]
      rw [htA] at s2
      refine tm_lt (y := y) ht ?_
      rcases s2 with s2 | s2 | ⟨s2, s3⟩
      · exact Or.inl s2
      · exact Or.inr (Or.inl s2)
      · exact Or.inr (Or.inr ⟨r5 s2, s3⟩)
  refine ⟨A1, A2, B2, _, n1, c1, r1, ⟨⟨?_, ?_, hG1.2.2⟩, ⟨?_, ?_, ?_, ?_, ?_, ?_⟩, ⟨d', _, c2, r4, fun x k y h => hR2 x k y h.1⟩, ⟨_, hc3, r6, c4, r7, hlen, ?_, ?_, ?_⟩, ⟨t, ht, ?_⟩, fun j hj => ?_, fun j hj => ?_⟩, ⟨fun j c k h => ?_, fun i j => ?_, fun v k h => ?_, fun k h1 h2 => ?_⟩, ⟨fun v k h1 h2 h3 => ?_, fun k => ?_⟩, fun m hm => ?_⟩
  · rw [r9 0 1 (by omega) (by omega), B1o 0 1 (by omega) (by omega) (by omega) (by omega)]
    exact hG1.1
  · rw [c9 9 0 (by omega), n4.1]
    exact hG1.2.1
  · rw [r9 0 3 (by omega) (by omega), htB, c10 5 (by omega) (by omega)]
  · rw [r9 0 39 (by omega) (by omega), n6 0 39 (by omega) (by omega) (by omega), rSs, hgo, c5]
  · rw [r8, c6, B1o 0 41 (by omega) (by omega) (by omega) (by omega), nt3, n4.1 0 8]
  · rw [r9 0 46 (by omega) (by omega), B1o 0 46 (by omega) (by omega) (by omega) (by omega), nt4, c10 9 (by omega) (by omega), n4.1]
  · rw [r9 0 47 (by omega) (by omega), B1o 0 47 (by omega) (by omega) (by omega) (by omega), nt5, c10 10 (by omega) (by omega), n4.1]
  · rw [r9 0 48 (by omega) (by omega), B1o 0 48 (by omega) (by omega) (by omega) (by omega), nt6, c10 11 (by omega) (by omega), n4.1]
  · rw [List.length_append]
    omega
  · rw [List.length_append]
    omega
  · have hl := lv_all (fun m hm => (by
      have h2 := (hX m hm).2
      rw [hti, Int32.lt_iff_toInt_lt, nI_toInt (by omega)] at h2
      rw [Int32.le_iff_toInt_le, Int32.toInt_zero]
      omega : 0 ≤ m 7))
    rw [lv_app, hl, ← hlv]
  · rw [c10 5 (by omega) (by omega)]
    exact htA
  · exact (n3 j hj).fr (fun c k _ _ => c7 j c k) (r9 16 j (by omega) (by omega)) (r9 2 j (by omega) (by omega)) (fun g2 r2 k2 _ _ _ => ⟨r9 38 _ (by omega) (by omega), r9 39 _ (by omega) (by omega)⟩)
  · rw [c7, n5 _ _ _ (by omega)]
    exact hnum j hj
  · rw [c7, n5 _ _ _ h]
  · rw [c8, n4.2.1]
  · rw [c9 v k h, n4.1]
  · rw [c10 k h1 h2, n4.1]
  · rw [r9 v k (by omega) (by omega), B1o v k (by omega) (by omega) (by omega) (by omega)]
  · rw [r10, n7, fWS]
  · exact hX m hm
end Cp
