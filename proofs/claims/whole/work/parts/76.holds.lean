/-! ===== the heap that is made holds a state ===== -/
/-- the state that a heap holds -/
def stH (E : mE) (h : mH) : mS := (fun v k => mI h (aK E v) k, fun i c k => mI h (aN E i c) k, fun _ j => if j = 0 then 17 else 20, fun _ => none, fun _ _ => 0, 0, fun v k => mI h (aS E v) k, fun k => mJ h (aS E 24) k)
theorem map_at {cs : List mCe} {n : Nat} {F : Nat → Nat × Nat} (h : cs.map (fun c => (c.1, c.2.1)) = (List.range n).map F) {v : Nat} (hv : v < n) : ∃ c, cs[v]? = some c ∧ c.1 = (F v).1 ∧ c.2.1 = (F v).2 := by
  have e : (cs.map (fun c => (c.1, c.2.1)))[v]? = ((List.range n).map F)[v]? := by rw [h]
  rw [List.getElem?_map, List.getElem?_map, List.getElem?_range hv] at e
  cases hc : cs[v]? with
  | none =>
    rw [hc] at e
    cases e
  | some c =>
    rw [hc] at e
    have e2 : (c.1, c.2.1) = F v := Option.some.inj e
    exact ⟨c, rfl, by rw [← e2], by rw [← e2]⟩
theorem clC_row {t0 z i j : Nat} {seed : Int32} (hj : j < 41) : (clC t0 seed z i)[j + 12]? = some (rowC z 41 j) := by
  show (suC (t0 + 9) seed z 41 ++ [naC (t0 + 54) z i])[j + 3]? = _
  rw [List.getElem?_append, suC_len, if_pos (by omega)]
  exact rowC_at hj
section Made
variable {g : Nat → mCe} {B s z b L : Nat} {xs : Nat → Int32} {seed : Int32} {h : mH}
def MADE (g : Nat → mCe) (B s : Nat) (seed : Int32) (z : Nat) (h : mH) : Prop := PH g B s (clC B seed z z ++ nds (B + 54) (B + 9) z z ++ moC (B + 54 + 23 * z)) h
theorem MADE.k (H : MADE g B s seed z h) {v : Nat} {c : mCe} (hv : (clC B seed z z)[v]? = some c) : CE h (B + v) c := by
  have l1 := some_lt hv
  refine H.2.2.2 v c ?_
  rw [List.getElem?_append, List.length_append, if_pos (by omega), List.getElem?_append, if_pos l1]
  exact hv
theorem MADE.n (H : MADE g B s seed z h) {i c : Nat} {x : mCe} (hi : i < z) (hc : c < 23) (hx : (ndC (B + 54 + 23 * i) (B + 9) i z)[c]? = some x) : CE h (B + 54 + 23 * i + c) x := by
  have := H.2.2.2 (54 + (23 * i + c)) x (by
    rw [List.getElem?_append, List.length_append, clC_len, nds_len, if_pos (by omega), List.getElem?_append, clC_len, if_neg (by omega), Nat.add_sub_cancel_left, nds_at hc hi]
    exact hx)
  rw [show B + 54 + 23 * i + c = B + (54 + (23 * i + c)) by omega]
  exact this
theorem MADE.mo (H : MADE g B s seed z h) {v : Nat} {x : mCe} (hx : (moC (B + 54 + 23 * z))[v]? = some x) : CE h (B + 54 + 23 * z + v) x := by
  have := H.2.2.2 (54 + 23 * z + v) x (by
    rw [List.getElem?_append, List.length_append, clC_len, nds_len, if_neg (by omega), Nat.add_sub_cancel_left]
    exact hx)
  rw [show B + 54 + 23 * z + v = B + (54 + 23 * z + v) by omega]
  exact this
theorem clC_tl (B : Nat) (seed : Int32) (z : Nat) : (clC B seed z z).map (fun c => (c.1, c.2.1)) = (List.range 54).map (fun v => (tgK v, lnK z v)) := rfl
theorem ndC_tl (t a9 i z : Nat) : (ndC t a9 i z).map (fun c => (c.1, c.2.1)) = (List.range 23).map (fun c => (tgN c, lnN z c)) := rfl
theorem moC_tl (t : Nat) : (moC t).map (fun c => (c.1, c.2.1)) = (List.range 40).map (fun v => (tgS v, lnS v)) := rfl
set_option maxHeartbeats 4000000 in
theorem MADE.hhp (H : MADE g B s seed z h) (hb : b < B) (hg : (g b).1 = 30 ∧ (g b).2.1 = L ∧ (g b).2.2.1 = xs) (z1 : 1 ≤ z) (z10 : z ≤ 10) (hs : s ≤ 400000) : HHp (B, z, b, L, xs) h (stH (B, z, b, L, xs) h) := by
  obtain ⟨g1, g2, g3⟩ := hg
  obtain ⟨s1, s2, s3, -, -⟩ := H.2.2.1 b hb
  refine ⟨?_, hb, ⟨z1, z10⟩, fun v hv => ?_, ⟨fun v f t ht => ?_, fun j hj => ?_, fun j hj => ?_, fun j hj => ?_⟩, fun i hi c hc => ?_, fun i hi => ⟨fun c f t ht => ?_, ?_, ?_, ?_, Or.inl rfl, Or.inr rfl⟩, fun v hv => ?_, ⟨fun f t ht => ?_, fun _ => rfl⟩, fun q hq => absurd hq (Nat.not_lt_zero q), ⟨?_, s1.trans g1, s2.trans g2, s3.trans g3⟩, fun j q _ hq => by cases hq⟩
  · rw [H.1, List.length_append, List.length_append, clC_len, nds_len, moC_len]
    show B + (54 + 23 * z + 40) = B + 54 + 23 * z + 40 + 0
    omega
  · obtain ⟨c, c1, c2, c3⟩ := map_at (clC_tl B seed z) hv
    obtain ⟨e1, e2, -⟩ := H.k c1
    exact ⟨e1.trans c2, e2.trans c3, fun _ => rfl⟩
  · unfold ptK at ht
    split at ht <;> cases ht
    · exact congrFun (H.k (v := 0) rfl).2.2.2.2 0
    · exact congrFun (H.k (v := 0) rfl).2.2.2.2 1
    · exact congrFun (H.k (v := 0) rfl).2.2.2.2 2
    · exact congrFun (H.k (v := 0) rfl).2.2.2.2 3
    · exact congrFun (H.k (v := 0) rfl).2.2.2.2 4
    · exact congrFun (H.k (v := 1) rfl).2.2.2.2 0
    · exact congrFun (H.k (v := 3) rfl).2.2.2.2 0
    · exact congrFun (H.k (v := 3) rfl).2.2.2.2 1
    · exact congrFun (H.k (v := 3) rfl).2.2.2.2 2
    · exact congrFun (H.k (v := 7) rfl).2.2.2.2 0
    · exact congrFun (H.k (v := 9) rfl).2.2.2.2 2
    · exact congrFun (H.k (v := 9) rfl).2.2.2.2 3
  · refine (congrFun (H.k (v := 11) rfl).2.2.2.2 j).trans ?_
    show (if j < 41 then some (B + 9 + 2 + 1 + j) else none) = some (B + (12 + j))
    rw [if_pos hj]
    exact congrArg some (by omega)
  · refine (congrFun (H.k (clC_53 B seed z z)).2.2.2.2 j).trans ?_
    show (if j < z then some (B + 54 + 23 * j) else none) = some (B + 54 + 23 * j + 0)
    rw [if_pos (show j < z from hj)]
    rfl
  · exact congrFun (H.k (v := 2) rfl).2.2.2.2 j
  · obtain ⟨x, c1, c2, c3⟩ := map_at (ndC_tl (B + 54 + 23 * i) (B + 9) i z) hc
    obtain ⟨e1, e2, -⟩ := H.n hi hc c1
    exact ⟨e1.trans c2, e2.trans c3, fun _ => rfl⟩
  · unfold ptN at ht
    split at ht <;> cases ht
    · exact congrFun (H.n (c := 0) hi (by decide) rfl).2.2.2.2 5
    · exact congrFun (H.n (c := 0) hi (by decide) rfl).2.2.2.2 6
    · exact congrFun (H.n (c := 0) hi (by decide) rfl).2.2.2.2 9
    · exact congrFun (H.n (c := 0) hi (by decide) rfl).2.2.2.2 10
    · exact congrFun (H.n (c := 0) hi (by decide) rfl).2.2.2.2 11
    · exact congrFun (H.n (c := 0) hi (by decide) rfl).2.2.2.2 14
    · exact congrFun (H.n (c := 0) hi (by decide) rfl).2.2.2.2 15
    · exact congrFun (H.n (c := 0) hi (by decide) rfl).2.2.2.2 16
    · exact congrFun (H.n (c := 5) hi (by decide) rfl).2.2.2.2 0
    · exact congrFun (H.n (c := 5) hi (by decide) rfl).2.2.2.2 1
    · exact congrFun (H.n (c := 5) hi (by decide) rfl).2.2.2.2 2
    · exact congrFun (H.n (c := 9) hi (by decide) rfl).2.2.2.2 1
    · exact congrFun (H.n (c := 9) hi (by decide) rfl).2.2.2.2 2
    · exact congrFun (H.n (c := 12) hi (by decide) rfl).2.2.2.2 2
    · exact congrFun (H.n (c := 13) hi (by decide) rfl).2.2.2.2 1
    · exact congrFun (H.n (c := 13) hi (by decide) rfl).2.2.2.2 2
    · exact congrFun (H.n (c := 17) hi (by decide) rfl).2.2.2.2 1
    · exact congrFun (H.n (c := 17) hi (by decide) rfl).2.2.2.2 2
    · exact congrFun (H.n (c := 20) hi (by decide) rfl).2.2.2.2 1
    · exact congrFun (H.n (c := 20) hi (by decide) rfl).2.2.2.2 2
  · exact congrFun (H.n (c := 0) hi (by decide) rfl).2.2.2.2 1
  · exact congrFun (H.n (c := 0) hi (by decide) rfl).2.2.2.2 12
  · exact congrFun (H.n (c := 0) hi (by decide) rfl).2.2.2.2 13
  · obtain ⟨x, c1, c2, c3⟩ := map_at (moC_tl (B + 54 + 23 * z)) hv
    obtain ⟨e1, e2, -⟩ := H.mo c1
    exact ⟨e1.trans c2, e2.trans c3, fun _ => rfl⟩
  · unfold ptS at ht
    split at ht <;> cases ht
    · exact congrFun (H.mo (v := 0) rfl).2.2.2.2 4
    · exact congrFun (H.mo (v := 0) rfl).2.2.2.2 5
    · exact congrFun (H.mo (v := 0) rfl).2.2.2.2 6
    · exact congrFun (H.mo (v := 0) rfl).2.2.2.2 7
    · exact congrFun (H.mo (v := 0) rfl).2.2.2.2 8
    · exact congrFun (H.mo (v := 0) rfl).2.2.2.2 9
    · exact congrFun (H.mo (v := 0) rfl).2.2.2.2 10
    · exact congrFun (H.mo (v := 0) rfl).2.2.2.2 11
    · exact congrFun (H.mo (v := 0) rfl).2.2.2.2 12
    · exact congrFun (H.mo (v := 0) rfl).2.2.2.2 13
    · exact congrFun (H.mo (v := 0) rfl).2.2.2.2 14
    · exact congrFun (H.mo (v := 0) rfl).2.2.2.2 15
    · exact congrFun (H.mo (v := 0) rfl).2.2.2.2 16
    · exact congrFun (H.mo (v := 0) rfl).2.2.2.2 17
    · exact congrFun (H.mo (v := 0) rfl).2.2.2.2 18
    · exact congrFun (H.mo (v := 0) rfl).2.2.2.2 19
    · exact congrFun (H.mo (v := 0) rfl).2.2.2.2 20
    · exact congrFun (H.mo (v := 0) rfl).2.2.2.2 21
    · exact congrFun (H.mo (v := 0) rfl).2.2.2.2 22
    · exact congrFun (H.mo (v := 0) rfl).2.2.2.2 23
    · exact congrFun (H.mo (v := 0) rfl).2.2.2.2 24
    · exact congrFun (H.mo (v := 0) rfl).2.2.2.2 25
    · exact congrFun (H.mo (v := 0) rfl).2.2.2.2 26
    · exact congrFun (H.mo (v := 0) rfl).2.2.2.2 27
    · exact congrFun (H.mo (v := 0) rfl).2.2.2.2 28
    · exact congrFun (H.mo (v := 0) rfl).2.2.2.2 29
    · exact congrFun (H.mo (v := 0) rfl).2.2.2.2 30
    · exact congrFun (H.mo (v := 0) rfl).2.2.2.2 31
    · exact congrFun (H.mo (v := 0) rfl).2.2.2.2 32
    · exact congrFun (H.mo (v := 0) rfl).2.2.2.2 33
    · exact congrFun (H.mo (v := 0) rfl).2.2.2.2 34
    · exact congrFun (H.mo (v := 0) rfl).2.2.2.2 35
    · exact congrFun (H.mo (v := 0) rfl).2.2.2.2 36
    · exact congrFun (H.mo (v := 0) rfl).2.2.2.2 42
    · exact congrFun (H.mo (v := 0) rfl).2.2.2.2 43
    · exact congrFun (H.mo (v := 0) rfl).2.2.2.2 44
    · exact congrFun (H.mo (v := 0) rfl).2.2.2.2 49
    · exact congrFun (H.mo (v := 0) rfl).2.2.2.2 51
    · exact congrFun (H.mo (v := 0) rfl).2.2.2.2 52
  · show mSl h ≤ 400000 + 9 * 0
    rw [H.2.1]
    omega
end Made
