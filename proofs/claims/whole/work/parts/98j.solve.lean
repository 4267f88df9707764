/-! THE CLASS SOLVES -/
theorem trI_nat (c l x : Nat) : trI c l (x : Int) = ((tr c l x : Nat) : Int) := by
  rw [trI_iff, tr_inv]
theorem cs_place {c m : Nat} {v : Int} (hm : m ≤ 7) (hc : c < m) (hv : 0 ≤ v ∧ v ≤ (m : Int)) (M : tp_M) : fx_X0_place v ((c : Int) + 1) (m : Int) M = some (trI c (m - 1) (v - 1), M) := by
  unfold fx_X0_place trI
  rw [w32_id (show -2147483648 ≤ v ∧ v < 2147483648 by omega), w32_id (show -2147483648 ≤ (c : Int) + 1 ∧ (c : Int) + 1 < 2147483648 by omega), w32_id (show -2147483648 ≤ (m : Int) ∧ (m : Int) < 2147483648 by omega)]
  by_cases h1 : v = (c : Int) + 1
  · rw [if_pos h1, if_pos (show v - 1 = (c : Int) by omega), show (m : Int) - 1 = ((m - 1 : Nat) : Int) by omega]
  · rw [if_neg h1, if_neg (show ¬ v - 1 = (c : Int) by omega)]
    by_cases h2 : v = (m : Int)
    · rw [if_pos h2, if_pos (show v - 1 = ((m - 1 : Nat) : Int) by omega), show (c : Int) + 1 - 1 = (c : Int) by omega]
    · rw [if_neg h2, if_neg (show ¬ v - 1 = ((m - 1 : Nat) : Int) by omega)]
theorem trI_lt {c m : Nat} {v : Int} (hc : c < m) (hv : -1 ≤ v ∧ v < (m : Int)) : -1 ≤ trI c (m - 1) v ∧ trI c (m - 1) v < (m : Int) := by
  unfold trI
  split
  · omega
  · split <;> omega
theorem lpA_row {p c m : Nat} {D : Nat → Nat} {g : Nat → Nat → Int} (i j : Nat) : lpA p c m D g i j = dt_sum (fun k => (if i = j then 1 else 0) - (if trI c (m - 1) (lpG p g (tr c (m - 1) i) k) = (j : Int) then 1 else 0)) (lpD p D (tr c (m - 1) i)) := by
  unfold lpA tmx
  rw [if_neg (Nat.not_lt_zero i)]
section SV
variable {C : tp_M} {n : Int} {D G : Int → Int} {m c p : Nat}
theorem cs_solve {x y : Int} (hN : nC C n D G) (hm : (n - 1).toNat = m) (hc : c < m) (hp : p ≤ m) (hdet : 1 ≤ dt_det m (lpL p (nD D) (nG G)))
    (hF : ∀ C : tp_M, fx_X0_tellFraction (dt_det m (lpLC p c (nD D) (nG G))) (dt_det m (lpL p (nD D) (nG G))) C = some (0, tp_up (tp_up C 40 3 x) 40 4 y)) :
    wp (fx_X0_solve ((c : Int) + 1) (p : Int) C) (fun _ C1 => tp_fr (40 :: elC) C C1 ∧ C1 40 3 = x ∧ C1 40 4 = y) := by
  have n8 := cn_n hN
  have hmn : n - 1 = (m : Int) := by omega
  have hD4 : ∀ i : Nat, i < m → 1 ≤ nD D i ∧ nD D i ≤ 4 ∧ ((nD D i : Nat) : Int) = D ((i : Int) + 1) := nt_D hN.2.1 hm
  have hG : ∀ (i k : Nat), i < m → k < nD D i → -1 ≤ nG G i k ∧ nG G i k < (m : Int) := fun i k hi hk => by
    have := cn_G hN (a := (i : Int) + 1) (k := (k : Int)) (by omega) (by have := hD4 i hi; omega)
    unfold nG
    omega
  refine wp_K (fun Q hQ => ?_)
  unfold fx_X0_solve
  rw [cn_crossings hN, tp_bd_s, hmn]
  refine wp_lt ?_
  rw [w32_id (show -2147483648 ≤ (m : Int) ∧ (m : Int) < 2147483648 by omega), if_neg (by omega), if_pos (by omega)]
  refine wp_call (cs_clearCells C) (fun _ C0 q => ?_)
  obtain ⟨q1, q2⟩ := q
  refine wp_lt ?_
  refine wp_lp1 (fun z C1 => ∃ a : Nat, z = (a : Int) + 1 ∧ a ≤ m ∧ tp_fr elC C C1 ∧ ∀ i : Nat, i < m → (tr c (m - 1) i < a → ∀ j : Nat, j ≤ m → C1 (42 + i) (j : Int) = lpAA p c m (nD D) (nG G) i j) ∧ (a ≤ tr c (m - 1) i → ∀ j : Nat, j ≤ 8 → C1 (42 + i) (j : Int) = 0)) (fun z _ => (9 - z).toNat) ?_ tp_F 1 C0 ⟨0, rfl, by omega, q1, fun i hi => ⟨fun h => by omega, fun _ j hj => q2 i j (by omega) hj⟩⟩ (tp_F_pos (by omega))
  rintro rec z C1 ⟨a, rfl, a1, a2, a3⟩ hrec
  unfold fx_X0_solve_L29
  rw [w32_id (show -2147483648 ≤ (a : Int) + 1 ∧ (a : Int) + 1 < 2147483648 by omega), w32_id (show -2147483648 ≤ (m : Int) ∧ (m : Int) < 2147483648 by omega), w32_id (show -2147483648 ≤ (p : Int) ∧ (p : Int) < 2147483648 by omega)]
  by_cases ha : a < m
  · rw [if_pos (by omega), cs_place (by omega) hc (by omega), tp_bd_s, show (a : Int) + 1 - 1 = (a : Int) by omega, trI_nat]
    generalize hx : tr c (m - 1) a = x0
    have hxm : x0 < m := by rw [← hx]; exact tr_lt hc (by omega) ha
    have hxa : tr c (m - 1) x0 = a := by rw [← hx, tr_inv]
    have hxu : ∀ i : Nat, tr c (m - 1) i = a → i = x0 := fun i h => by rw [← hx, ← h, tr_inv]
    refine wp_lt ?_
    refine wp_jn0 ?_
    have hN1 := elC_net hN a2
    rw [w32_id (show -2147483648 ≤ (x0 : Int) ∧ (x0 : Int) < 2147483648 by omega), if_neg (by omega), if_pos (by omega), Int.toNat_natCast]
    have next : ∀ C3 : tp_M, tp_fr [42 + x0] C1 C3 → (∀ j : Nat, j ≤ m → C3 (42 + x0) (j : Int) = lpAA p c m (nD D) (nG G) x0 j) → wp (tp_lt ((a : Int) + 1 + 1) (fun x13 => rec x13 C3)) Q := fun C3 f3 b3 => by
      refine wp_lt ?_
      refine hrec _ _ ⟨a + 1, by omega, by omega, fr_tr a2 (fr_mono f3 (by simp; omega)), fun i hi => ?_⟩ (by omega)
      by_cases e : i = x0
      · rw [e]
        exact ⟨fun _ => b3, fun h => by rw [hxa] at h; omega⟩
      · have : ¬ tr c (m - 1) i = a := fun h => e (hxu i h)
        rw [f3 (42 + i) (by simp; omega)]
        exact ⟨fun h => (a3 i hi).1 (by omega), fun h => (a3 i hi).2 (by omega)⟩
    have a4 := (a3 x0 hxm).2 (by omega)
    by_cases hpa : a + 1 = p
    · rw [if_pos (by omega)]
      refine wp_call (cs_addCell (a := x0) (w := -1) (by omega) (by omega) C1) (fun _ C2 w => ?_)
      obtain ⟨w1, w2⟩ := w
      refine wp_ck (by omega) ?_
      refine wp_ck (by omega) ?_
      refine wp_lm ?_
      refine next _ (fr_up w1 (by simp)) (fun j hj => ?_)
      rw [up_c]
      unfold lpAA
      by_cases e : j = m
      · rw [if_pos (by omega), if_neg (by omega), hxa]
        unfold lprh
        rw [if_neg (by omega), if_pos hpa]
      · rw [if_neg (by omega), if_pos (by omega), w2 j, a4 j (by omega)]
        rw [lpA_row, hxa, show lpD p (nD D) a = 1 by unfold lpD; rw [if_pos hpa]]
        show _ = 0 + ((if x0 = j then (1 : Int) else 0) - (if trI c (m - 1) (lpG p (nG G) a 0) = (j : Int) then 1 else 0))
        rw [show lpG p (nG G) a 0 = -1 by unfold lpG; rw [if_pos hpa], show trI c (m - 1) (-1) = -1 by unfold trI; rw [if_neg (by omega), if_neg (by omega)]]
    · rw [if_neg (by omega)]
      refine wp_lt ?_
      obtain ⟨d1, d4, dE⟩ := hD4 a ha
      refine wp_lp1 (fun z C2 => ∃ t : Nat, z = (t : Int) ∧ t ≤ nD D a ∧ tp_fr [42 + x0] C1 C2 ∧ ∀ j : Nat, j ≤ m → C2 (42 + x0) (j : Int) = dt_sum (fun k => (if x0 = j then 1 else 0) - (if trI c (m - 1) (nG G a k) = (j : Int) then 1 else 0)) t) (fun z _ => (9 - z).toNat) ?_ tp_F 0 C1 ⟨0, rfl, by omega, fr_rf, fun j hj => a4 j (by omega)⟩ (tp_F_pos (by omega))
      rintro rec2 z C2 ⟨t, rfl, t1, t2, t5⟩ hrec2
      have hN2 := elC_net hN (fr_tr a2 (fr_mono t2 (by simp; omega)))
      unfold fx_X0_solve_L91
      rw [cn_degree hN2 (a := (a : Int) + 1) (by omega), tp_bd_s, w32_id (show -2147483648 ≤ (t : Int) ∧ (t : Int) < 2147483648 by omega), w32_id (show -2147483648 ≤ D ((a : Int) + 1) ∧ D ((a : Int) + 1) < 2147483648 by omega)]
      by_cases ht : (t : Int) < D ((a : Int) + 1)
      · have hg := hG a t ha (by omega)
        have eg : G (4 * ((a : Int) + 1) + (t : Int)) - 1 = nG G a t := rfl
        rw [if_pos ht, cn_goal hN2 (a := (a : Int) + 1) (k := (t : Int)) (by omega) (by omega), tp_bd_s, cs_place (by omega) hc (by omega), tp_bd_s, eg]
        refine wp_call (cs_addCell (a := x0) (w := trI c (m - 1) (nG G a t)) (by omega) (by have := trI_lt hc hg; omega) C2) (fun _ C3 w => ?_)
        obtain ⟨w1, w2⟩ := w
        refine wp_lt ?_
        refine hrec2 _ _ ⟨t + 1, by omega, by omega, fr_tr t2 w1, fun j hj => ?_⟩ (by omega)
        rw [w2 j, t5 j hj]
        rfl
      · rw [if_neg ht]; (try dsimp only)
        refine wp_ck (by omega) ?_
        have fin : ∀ v : Int, v = lprh p (nD D) a → wp (tp_ck (m : Int) 9 (tp_lm (tp_up C2 (42 + x0) (m : Int) v) (fun M30 => tp_lt ((a : Int) + 1 + 1) (fun x13 => rec x13 M30)))) Q := fun v hv => by
          refine wp_ck (by omega) ?_
          refine wp_lm ?_
          refine next _ (fr_up t2 (by simp)) (fun j hj => ?_)
          rw [up_c]
          unfold lpAA
          by_cases e : j = m
          · rw [if_pos (by omega), if_neg (by omega), hxa, hv]
          · rw [if_neg (by omega), if_pos (by omega), t5 j hj]
            rw [lpA_row, hxa, show lpD p (nD D) a = nD D a by unfold lpD; rw [if_neg hpa], show t = nD D a by omega]
            refine sumN_cg (fun k _ => ?_)
            rw [show lpG p (nG G) a k = nG G a k by unfold lpG; rw [if_neg hpa]]
        refine wp_jn1 ?_
        by_cases hp0 : p = 0
        · rw [if_pos (by omega), cn_degree hN2 (a := (a : Int) + 1) (by omega), tp_bd_s, w32_id (show -2147483648 ≤ D ((a : Int) + 1) ∧ D ((a : Int) + 1) < 2147483648 by omega)]
          exact fin _ (by unfold lprh; rw [if_pos hp0, dE])
        · rw [if_neg (by omega)]
          exact fin _ (by unfold lprh; rw [if_neg hp0, if_neg hpa])
  · have ham : a = m := by omega
    subst ham
    rw [if_neg (by omega)]
    have hl := lpAA_lead (p := p) (D := nD D) (g := nG G) hc hdet
    refine wp_call (cs_elim (A := lpAA p c a (nD D) (nG G)) (m := a) (by omega) (fun i j hi hj => (a3 i hi).1 (tr_lt hc (by omega) hi) j hj) (fun i j hi hj => lpAA_bd hc (fun i hi => ⟨(hD4 i hi).1, (hD4 i hi).2.1⟩) i j hi)) (fun r C2 w => ?_)
    obtain ⟨w1, w2⟩ := w
    have fr2 := fr_tr a2 w1
    rcases w2 with ⟨rfl, q, q1, q2, q3⟩ | ⟨rfl, q1, q2, q3⟩
    · have := hl q q2
      omega
    · rw [if_neg (show ¬ w32 1 = 0 by decide), w32_id (show -2147483648 ≤ (a : Int) - 1 ∧ (a : Int) - 1 < 2147483648 by omega), show (a : Int) - 1 = ((a - 1 : Nat) : Int) by omega, Int.toNat_natCast, q2, q3, lpAA_mn hc, lpAA_det hc, hF, tp_bd_s]
      refine wp_ck (by omega) ?_
      refine wp_ck (by omega) ?_
      refine wp_ck (by omega) ?_
      refine wp_ck (by omega) ?_
      refine wp_some (hQ _ _ ⟨fr_up (fr_up (fr_mono fr2 (by simp)) (by simp)) (by simp), ?_, up_s _ _ _ _⟩)
      rw [up_j _ _ _ (by decide), up_s]
end SV
