/-! ===== Setup's constructor ===== -/
def suX (t0 : Nat) (seed : Int32) (z : Nat) : mCe := ceP (ceI (ceI (ceP (nC 9 4) 3 (t0 + 1)) 0 (nI z)) 1 seed) 2 (t0 + 2)
def allC (z h : Nat) : mCe := (20, 41, fun k => if 1 ≤ k ∧ k < h then nI z else 0, fun _ => 0, fun _ => none)
def rowC (z h j : Nat) : mCe := (20, z, fun k => if (1 ≤ j ∧ j < h) ∧ k < z then 1 else 0, fun _ => 0, fun _ => none)
def suC (t0 : Nat) (seed : Int32) (z h : Nat) : List mCe := suX t0 seed z :: allC z h :: ceM (t0 + 2) 41 :: (List.range 41).map (rowC z h)
theorem rowC_at {z h j : Nat} (hj : j < 41) : ((List.range 41).map (rowC z h))[j]? = some (rowC z h j) := by
  rw [List.getElem?_map, List.getElem?_range hj]
  rfl
theorem suC_len (t0 : Nat) (seed : Int32) (z h : Nat) : (suC t0 seed z h).length = 44 := by
  unfold suC
  rw [List.length_cons, List.length_cons, List.length_cons, List.length_map, List.length_range]
theorem suC_1 (t0 : Nat) (seed : Int32) (z : Nat) : suX t0 seed z :: nC 20 41 :: ceM (t0 + 2) 41 :: List.replicate 41 (nC 20 z) = suC t0 seed z 1 := by
  unfold suC
  have e1 : nC 20 41 = allC z 1 := by
    unfold nC allC
    congr 3
    funext k
    rw [if_neg (by omega)]
  have e2 : List.replicate 41 (nC 20 z) = (List.range 41).map (rowC z 1) := by
    apply List.ext_getElem?
    intro j
    rw [List.getElem?_replicate]
    by_cases hj : j < 41
    · rw [if_pos hj, rowC_at hj]
      unfold nC rowC
      congr 4
      funext k
      rw [if_neg (by omega)]
    · rw [if_neg hj, List.getElem?_eq_none (by rw [List.length_map, List.length_range]; omega)]
  rw [e1, e2]
theorem allC_up {z h : Nat} (h1 : 1 ≤ h) : ceI (allC z h) h (nI z) = allC z (h + 1) := by
  show (20, 41, up1 (fun k => if 1 ≤ k ∧ k < h then nI z else 0) h (nI z), fun _ => 0, fun _ => none) = allC z (h + 1)
  unfold allC
  congr 3
  funext k
  show (if k = h then nI z else if 1 ≤ k ∧ k < h then nI z else 0) = if 1 ≤ k ∧ k < h + 1 then nI z else 0
  by_cases e : k = h
  · rw [if_pos e, if_pos (by omega)]
  · rw [if_neg e]
    by_cases e2 : 1 ≤ k ∧ k < h
    · rw [if_pos e2, if_pos (by omega)]
    · rw [if_neg e2, if_neg (by omega)]
theorem rowC_up {z h : Nat} (h1 : 1 ≤ h) : ((List.range 41).map (rowC z h)).set h (20, z, fun k => if k < z then 1 else (rowC z h h).2.2.1 k, fun _ => 0, fun _ => none) = (List.range 41).map (rowC z (h + 1)) := by
  apply List.ext_getElem?
  intro j
  rw [List.getElem?_set]
  by_cases hj : j < 41
  · by_cases e : h = j
    · subst e
      rw [if_pos rfl, if_pos (by rw [List.length_map, List.length_range]; exact hj), rowC_at hj]
      unfold rowC
      congr 4
      funext k
      show (if k < z then (1 : Int32) else if (1 ≤ h ∧ h < h) ∧ k < z then 1 else 0) = if (1 ≤ h ∧ h < h + 1) ∧ k < z then 1 else 0
      by_cases e2 : k < z
      · rw [if_pos e2, if_pos (by omega)]
      · rw [if_neg e2, if_neg (by omega), if_neg (by omega)]
    · rw [if_neg e, rowC_at hj, rowC_at hj]
      unfold rowC
      congr 4
      funext k
      by_cases e2 : (1 ≤ j ∧ j < h) ∧ k < z
      · rw [if_pos e2, if_pos (by omega)]
      · rw [if_neg e2, if_neg (by omega)]
  · rw [List.getElem?_eq_none (l := (List.range 41).map (rowC z (h + 1))) (by rw [List.length_map, List.length_range]; omega), List.getElem?_eq_none (l := (List.range 41).map (rowC z h)) (by rw [List.length_map, List.length_range]; omega)]
    split
    · rw [if_neg (by rw [List.length_map, List.length_range]; omega)]
    · rfl
section Setup
variable {g : Nat → mCe} {t0 s z : Nat} {K : Option Value → mH → Prop} {n0 seed : Int32}
theorem ct26 (hz : (if (1 : Int32) < (if n0 < 10 then n0 else 10) then (if n0 < 10 then n0 else 10) else 1) = nI z) (z10 : z ≤ 10) (hK : ∀ h, PH g t0 (s + 41 + (41 + 41 * z)) (suC t0 seed z 41) h → K none h) : EP g t0 s [nC 9 4] 26 0 [some (.ref t0), some (.int n0), some (.int seed), none] [] K := by
  have loop : ∀ d h, h + d = 41 → 1 ≤ h → EP g t0 (s + 41 + (41 + 41 * z)) (suC t0 seed z h) 26 47 [some (.ref t0), some (.int n0), some (.int seed), some (.int (nI h))] [] K := by
    intro d
    induction d with
    | zero =>
      intro h hd h1
      have e : h = 41 := by omega
      subst e
      exact p_il x26_47 rfl (p_ic x26_48 (p_gt x26_50 (fun _ => p_rv x26_79 hK) (fun q => absurd (by decide) q)))
    | succ d ih =>
      intro h hd h1
      have nx := ih (h + 1) (by omega) (by omega)
      have hp : (ceM (t0 + 2) 41).2.2.2.2 h = some (t0 + (h + 3)) := by
        show (if h < 41 then some (t0 + 2 + 1 + h) else none) = _
        rw [if_pos (by omega)]
        exact congrArg some (by omega)
      refine p_il x26_47 rfl (p_ic x26_48 (p_gt x26_50 (fun q => ?_) (fun _ => ?_)))
      · rw [show (40 : Int32) = nI 40 from rfl, nI_ltI (by omega) (by omega)] at q
        omega
      · refine p_al x26_53 rfl (p_gP (j := 0) (p := t0 + 2) x26_54 rfl rfl rfl rfl (p_il x26_57 rfl (p_aal (n := h) (j := 2) (p := t0 + (h + 3)) x26_58 rfl rfl (Or.inr (Or.inr rfl)) rfl (show h < 41 by omega) (by omega) hp (p_ic x26_59 (p_cS x26_60 rfl rfl rfl rfl rfl (fill_run (j := h + 3) (rowC_at (show h < 41 by omega)) (by omega) ?_))))))
        show EP g t0 (s + 41 + (41 + 41 * z)) (suX t0 seed z :: allC z h :: ceM (t0 + 2) 41 :: ((List.range 41).map (rowC z h)).set h (20, z, fun k => if k < z then 1 else (rowC z h h).2.2.1 k, fun _ => 0, fun _ => none)) 26 63 [some (.ref t0), some (.int n0), some (.int seed), some (.int (nI h))] [] K
        rw [rowC_up h1]
        refine p_al x26_63 rfl (p_gP (j := 0) (p := t0 + 1) x26_64 rfl rfl rfl rfl (p_il x26_67 rfl (p_al x26_68 rfl (p_gI (j := 0) (x := nI z) x26_69 rfl rfl rfl rfl (p_ias (n := h) (j := 1) (cs' := suC t0 seed z (h + 1)) x26_72 rfl rfl rfl rfl (show h < 41 by omega) (by omega) ?_ (p_inc x26_73 rfl rfl rfl (p_back x26_76 rfl ?_)))))))
        · show suX t0 seed z :: ceI (allC z h) h (nI z) :: ceM (t0 + 2) 41 :: (List.range 41).map (rowC z (h + 1)) = _
          rw [allC_up h1]
          rfl
        · show EP _ _ _ _ _ _ [some (.ref t0), some (.int n0), some (.int seed), some (.int (nI h + 1))] _ _
          rw [nI_1]
          exact nx
  refine p_al x26_0 rfl ?_
  refine p_obj x26_1 rfl ?_
  refine p_al x26_4 rfl ?_
  refine p_ic x26_5 ?_
  refine p_nwa (n := 41) (a := t0 + 1) (cs' := [nC 9 4, nC 20 41]) x26_7 rfl (by decide) rfl rfl ?_
  refine p_pP (j := 0) (cs' := [ceP (nC 9 4) 3 (t0 + 1), nC 20 41]) x26_9 rfl rfl rfl rfl ?_
  refine p_al x26_12 rfl ?_
  refine p_ic x26_13 ?_
  refine p_ic x26_14 ?_
  refine p_il x26_16 rfl ?_
  refine p_min x26_17 rfl ?_
  refine p_max x26_20 rfl ?_
  rw [hz]
  refine p_pI (j := 0) (cs' := [ceI (ceP (nC 9 4) 3 (t0 + 1)) 0 (nI z), nC 20 41]) x26_23 rfl rfl rfl rfl ?_
  refine p_al x26_26 rfl ?_
  refine p_il x26_27 rfl ?_
  refine p_pI (j := 0) (cs' := [ceI (ceI (ceP (nC 9 4) 3 (t0 + 1)) 0 (nI z)) 1 seed, nC 20 41]) x26_28 rfl rfl rfl rfl ?_
  refine p_al x26_31 rfl ?_
  refine p_ic x26_32 ?_
  refine p_al x26_34 rfl ?_
  refine p_gI (j := 0) (x := nI z) x26_35 rfl rfl rfl rfl ?_
  refine p_mna (n := 41) (k := z) (a := t0 + 2) (cs' := ceI (ceI (ceP (nC 9 4) 3 (t0 + 1)) 0 (nI z)) 1 seed :: nC 20 41 :: ceM (t0 + 2) 41 :: List.replicate 41 (nC 20 z)) x26_38 rfl (by decide) rfl (by omega) rfl rfl ?_
  refine p_pP (j := 0) (cs' := suX t0 seed z :: nC 20 41 :: ceM (t0 + 2) 41 :: List.replicate 41 (nC 20 z)) x26_42 rfl rfl rfl rfl ?_
  rw [suC_1]
  exact p_ic x26_45 (p_ist x26_46 rfl rfl (loop 40 1 (by omega) (by omega)))
end Setup
