/-! ===== the law's run, whole ===== -/
def gH0 (b L : Nat) (xs : Nat → Int32) : Nat → mCe := fun a => (if a = b then 30 else 0, L, xs, fun _ => 0, fun _ => none)
theorem ph0 (B b L : Nat) (xs : Nat → Int32) : PH (gH0 b L xs) B 0 [] (mH0 B b L xs) := ⟨rfl, rfl, fun _ _ => ⟨rfl, rfl, rfl, rfl, rfl⟩, fun j c hj => by simp at hj⟩
set_option maxHeartbeats 4000000 in
theorem run0 {B b L : Nat} {xs : Nat → Int32} (hb : b < B) (hL : L ≤ 322) : EP (gH0 b L xs) B 0 [] 146 0 [some (.ref b), none, none, none] [] (fun r h => r = some (.int 1) ∧ mTop h ≤ B + 600000 ∧ mSl h ≤ 7302250) := by
  generalize hK : (fun (r : Option Value) (h : mH) => r = some (.int 1) ∧ mTop h ≤ B + 600000 ∧ mSl h ≤ 7302250) = K
  have gb : (gH0 b L xs b).1 = 30 := if_pos rfl
  have gL : (gH0 b L xs b).2.1 < 2 ^ 31 := show L < 2 ^ 31 by omega
  obtain ⟨n0, hn0⟩ : ∃ n0 : Int32, n0 = if 0 < L then xs 0 else 0 := ⟨_, rfl⟩
  obtain ⟨seed, hseed⟩ : ∃ seed : Int32, seed = if 1 < L then xs 1 else 0 := ⟨_, rfl⟩
  obtain ⟨z, z1, z10, hz, hz'⟩ := clampZ n0
  have c0 : ∀ {s : Nat} {cs : List mCe} {K : Option Value → mH → Prop}, (∀ h, PH (gH0 b L xs) B s cs h → K (some (.int n0)) h) → EP (gH0 b L xs) B s cs 145 0 [some (.ref b), some (.int 0)] [] K := fun {s cs K} e => cell_run (k := 0) hb gb (by omega) gL (by
    rw [hn0] at e
    exact e)
  have c1 : ∀ {s : Nat} {cs : List mCe} {K : Option Value → mH → Prop}, (∀ h, PH (gH0 b L xs) B s cs h → K (some (.int seed)) h) → EP (gH0 b L xs) B s cs 145 0 [some (.ref b), some (.int 1)] [] K := fun {s cs K} e => cell_run (k := 1) hb gb (by omega) gL (by
    rw [hseed] at e
    exact e)
  refine p_new (a := B) (cs' := [nC 11 12]) x146_0 rfl rfl ?_
  refine p_dup x146_3 (p_al x146_4 rfl (p_ic x146_5 (p_cS x146_6 rfl rfl rfl rfl rfl (c0 ?_))))
  show EP (gH0 b L xs) B (0 + 12) [nC 11 12] 146 9 [some (.ref b), none, none, none] [.int n0, .ref B, .ref B] K
  refine p_al x146_9 rfl (p_ic x146_10 (p_cS x146_11 rfl rfl rfl rfl rfl (c1 ?_)))
  show EP (gH0 b L xs) B (0 + 12) [nC 11 12] 146 14 [some (.ref b), none, none, none] [.int seed, .int n0, .ref B, .ref B] K
  refine p_cI x146_14 rfl rfl rfl rfl rfl (ct61 hz z10 ?_)
  show EP (gH0 b L xs) B (rvS (0 + 12) z + (18 + ndS z) * z) (clC B seed z z ++ nds (B + 54) (B + 9) z z) 146 17 [some (.ref b), none, none, none] [.ref B] K
  have hlen : B + (clC B seed z z ++ nds (B + 54) (B + 9) z z).length = aS (B, z, b, L, xs) 0 := by
    rw [List.length_append, clC_len, nds_len]
    show B + (54 + 23 * z) = B + 54 + 23 * z + 0
    omega
  refine p_ast (l' := [some (.ref b), some (.ref B), none, none]) x146_17 rfl rfl (p_new (a := B + (clC B seed z z ++ nds (B + 54) (B + 9) z z).length) (cs' := clC B seed z z ++ nds (B + 54) (B + 9) z z ++ [nC 12 53]) x146_18 rfl rfl ?_)
  rw [hlen]
  refine p_dup x146_21 (p_al x146_22 rfl (p_ic x146_23 (p_cS x146_24 rfl rfl rfl rfl rfl (c0 ?_))))
  show EP (gH0 b L xs) B (rvS (0 + 12) z + (18 + ndS z) * z + 53) (clC B seed z z ++ nds (B + 54) (B + 9) z z ++ [nC 12 53]) 146 27 [some (.ref b), some (.ref B), none, none] [.int n0, .ref (aS (B, z, b, L, xs) 0), .ref (aS (B, z, b, L, xs) 0)] K
  refine p_al x146_27 rfl (p_ic x146_28 (p_cS x146_29 rfl rfl rfl rfl rfl (c1 ?_)))
  show EP (gH0 b L xs) B (rvS (0 + 12) z + (18 + ndS z) * z + 53) (clC B seed z z ++ nds (B + 54) (B + 9) z z ++ [nC 12 53]) 146 32 [some (.ref b), some (.ref B), none, none] [.int seed, .int n0, .ref (aS (B, z, b, L, xs) 0), .ref (aS (B, z, b, L, xs) 0)] K
  refine p_cI (l0 := [some (.ref (aS (B, z, b, L, xs) 0)), some (.int n0), some (.int seed), none]) x146_32 rfl rfl rfl rfl rfl (EP.up ?_)
  rw [hlen]
  refine ct91 ?_
  intro h hh
  rw [← hlen] at hh
  have hm := hh.dn
  rw [hlen] at hm
  have hM : MADE (gH0 b L xs) B (rvS (0 + 12) z + (18 + ndS z) * z + 53 + moS) seed z h := hm
  have hs : rvS (0 + 12) z + (18 + ndS z) * z + 53 + moS ≤ 400000 := by
    have h1 : (18 + ndS z) * z ≤ (18 + 2500) * 10 := Nat.mul_le_mul (by unfold ndS; omega) z10
    have h2 : rvS (0 + 12) z ≤ 15000 := by unfold rvS; omega
    have h3 : moS ≤ 330000 := by decide
    omega
  have HH := hM.hhp (b := b) (L := L) (xs := xs) hb ⟨gb, rfl, rfl⟩ z1 z10 hs
  obtain ⟨R, hRI, hRR⟩ := r_init (E := (B, z, b, L, xs)) (B := stH (B, z, b, L, xs) h) (n0 := n0) (seed := seed) (z := z) (fun v k hv => by
    obtain ⟨x, x1, -⟩ := map_at (moC_tl (B + 54 + 23 * z)) hv
    have e := congrFun (hM.mo x1).2.2.1 k
    have zr : ∀ (v : Nat) (x : mCe), (moC (B + 54 + 23 * z))[v]? = some x → x.2.2.1 = fun _ => 0 := fun v x hx => by
      have hz0 : (moC (B + 54 + 23 * z)).map (fun c => c.2.2.1) = (List.range 40).map (fun (_ : Nat) (_ : Nat) => (0 : Int32)) := rfl
      have e3 : ((moC (B + 54 + 23 * z)).map (fun c => c.2.2.1))[v]? = some x.2.2.1 := by rw [List.getElem?_map, hx]; rfl
      rw [hz0, List.getElem?_map] at e3
      have hv : v < 40 := some_lt hx
      rw [List.getElem?_range hv] at e3
      exact (Option.some.inj e3).symm
    rw [zr v x x1] at e
    exact e) hz'
  have ci := hM.ci (b := b) (L := L) (xs := xs) z1 z10 hRI
  have lp : ES (B, z, b, L, xs) 146 38 [some (.ref b), some (.ref B), some (.ref (aS (B, z, b, L, xs) 0)), some (.int 2)] [] (mix (stH (B, z, b, L, xs) h) R) (fun r S => r = some (.int 1) ∧ sU S ≤ 12000) := law_loop (E := (B, z, b, L, xs)) hL (fun S hS => ⟨rfl, hS⟩) 65 2 0 _ _ [] (by show L ≤ 2 + 5 * 65; omega) (by omega) (by omega) ci
  have st : ES (B, z, b, L, xs) 146 35 [some (.ref b), some (.ref B), none, none] [.ref (aS (B, z, b, L, xs) 0)] (mix (stH (B, z, b, L, xs) h) R) (fun r S => r = some (.int 1) ∧ sU S ≤ 12000) := e_ast x146_35 rfl rfl (e_ic x146_36 (e_ist x146_37 rfl rfl lp))
  have rr := hRR (stH (B, z, b, L, xs) h) (fun r S => r = none ∧ ES (B, z, b, L, xs) 146 35 [some (.ref b), some (.ref B), none, none] [.ref (aS (B, z, b, L, xs) 0)] S (fun r S => r = some (.int 1) ∧ sU S ≤ 12000)) ⟨rfl, st⟩ h HH
  refine Ek.mono rr (fun r h' q => ?_)
  obtain ⟨S', q1, rfl, q3⟩ := q
  refine Ek.mono (q3 h' q1) (fun r h2 q => ?_)
  obtain ⟨S2, q4, q5, q6⟩ := q
  rw [← hK]
  refine ⟨q5, ?_, ?_⟩
  · rw [q4.1]
    show B + 54 + 23 * z + 40 + sU S2 ≤ B + 600000
    omega
  · have := q4.2.2.2.2.2.2.2.2.2.2.1.1
    omega
theorem mMain_holds : mMain := by
  intro B b L xs hb hL
  obtain ⟨r, h, ev, rfl, k1, k2⟩ := run0 hb hL (mH0 B b L xs) (ph0 B b L xs)
  obtain ⟨n, hn⟩ := ev.main
  exact ⟨n, h, hn, k1, k2⟩
