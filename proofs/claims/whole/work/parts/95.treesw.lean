/-! TREES WITH some posts fixed: the class's count -/
def nD (D : Int → Int) : Nat → Nat := fun i => (D ((i : Int) + 1)).toNat
def nG (G : Int → Int) : Nat → Nat → Int := fun i k => G (4 * ((i : Int) + 1) + (k : Int)) - 1
theorem cs_addCell {a : Nat} {w : Int} (ha : a < 8) (hw : -1 ≤ w ∧ w < 8) (C : tp_M) : wp (fx_X0_addWay (a : Int) w C) (fun _ C1 => tp_fr [42 + a] C C1 ∧ ∀ j : Nat, C1 (42 + a) (j : Int) = C (42 + a) (j : Int) + ((if a = j then 1 else 0) - (if w = (j : Int) then 1 else 0))) := by
  unfold fx_X0_addWay
  rw [w32_id (show -2147483648 ≤ (a : Int) ∧ (a : Int) < 2147483648 by omega), w32_id (show -2147483648 ≤ w ∧ w < 2147483648 by omega), if_neg (by omega), if_pos (by omega), Int.toNat_natCast]
  refine wp_ck (by omega) ?_
  refine wp_ck (by omega) ?_
  refine wp_ck (by omega) ?_
  refine wp_lm ?_
  by_cases h : w < 0
  · rw [if_pos h]
    refine wp_some ⟨fr_up fr_rf (by simp), fun j => ?_⟩
    rw [up_c, if_neg (show ¬ w = (j : Int) by omega)]
    by_cases e : a = j
    · rw [if_pos (by omega), if_pos e, e]; omega
    · rw [if_neg (by omega), if_neg e]; omega
  · rw [if_neg h, if_pos hw.2]
    refine wp_ck (by omega) ?_
    refine wp_ck (by omega) ?_
    refine wp_ck (by omega) ?_
    refine wp_lm ?_
    refine wp_some ⟨fr_up (fr_up fr_rf (by simp)) (by simp), fun j => ?_⟩
    rw [up_c, up_c, up_c]
    by_cases e1 : w = (j : Int)
    · rw [if_pos (show (j : Int) = w by omega), if_pos e1]
      by_cases e : a = j
      · rw [if_pos (by omega), if_pos e]
        subst e
        omega
      · rw [if_neg (by omega), if_neg e, e1]; omega
    · rw [if_neg (show ¬ (j : Int) = w by omega), if_neg e1]
      by_cases e : a = j
      · rw [if_pos (by omega), if_pos e, e]; omega
      · rw [if_neg (by omega), if_neg e]; omega
theorem cs_clearCells (C : tp_M) : wp (fx_X0_clearCells C) (fun _ C1 => tp_fr elC C C1 ∧ ∀ i j : Nat, i < 8 → j ≤ 8 → C1 (42 + i) (j : Int) = 0) := by
  refine wp_K (fun Q hQ => ?_)
  unfold fx_X0_clearCells
  refine wp_lt ?_
  refine wp_lp1 (fun z C1 => ∃ a : Nat, z = (a : Int) ∧ a ≤ 8 ∧ tp_fr elC C C1 ∧ ∀ i j : Nat, i < a → j ≤ 8 → C1 (42 + i) (j : Int) = 0) (fun z _ => (8 - z).toNat) ?_ tp_F 0 C ⟨0, rfl, by omega, fr_rf, fun i j h => by omega⟩ (tp_F_pos (by omega))
  rintro rec z C1 ⟨a, rfl, a1, a2, a3⟩ hrec
  unfold fx_X0_clearCells_L2
  rw [w32_id (show -2147483648 ≤ (a : Int) ∧ (a : Int) < 2147483648 by omega)]
  by_cases ha : (a : Int) < 8
  · rw [if_pos ha]
    refine wp_lt ?_
    refine wp_lp1 (fun z C2 => ∃ b : Nat, z = (b : Int) ∧ b ≤ 9 ∧ tp_fr elC C C2 ∧ (∀ i j : Nat, i < a → j ≤ 8 → C2 (42 + i) (j : Int) = 0) ∧ ∀ j : Nat, j < b → C2 (42 + a) (j : Int) = 0) (fun z _ => (9 - z).toNat) ?_ tp_F 0 C1 ⟨0, rfl, by omega, a2, a3, fun j h => by omega⟩ (tp_F_pos (by omega))
    rintro rec2 z C2 ⟨b, rfl, b1, b2, b3, b4⟩ hrec2
    unfold fx_X0_clearCells_L10
    rw [w32_id (show -2147483648 ≤ (b : Int) ∧ (b : Int) < 2147483648 by omega), w32_id (show -2147483648 ≤ (a : Int) ∧ (a : Int) < 2147483648 by omega), Int.toNat_natCast]
    by_cases hb : (b : Int) ≤ 8
    · rw [if_pos hb]
      refine wp_ck (by omega) ?_
      refine wp_ck (by omega) ?_
      refine wp_lm ?_
      refine wp_lt ?_
      refine hrec2 _ _ ⟨b + 1, by omega, by omega, fr_up b2 (elC_mem (by omega)), fun i j hi hj => ?_, fun j hj => ?_⟩ (by omega)
      · rw [up_k _ _ _ (by omega)]; exact b3 i j hi hj
      · rw [up_c]
        by_cases e : j = b
        · rw [if_pos (by omega)]
        · rw [if_neg (by omega)]; exact b4 j (by omega)
    · rw [if_neg hb]
      refine wp_lt ?_
      refine hrec _ _ ⟨a + 1, by omega, by omega, b2, fun i j hi hj => ?_⟩ (by omega)
      by_cases e : i = a
      · rw [e]; exact b4 j (by omega)
      · exact b3 i j (by omega) hj
  · rw [if_neg ha]
    exact wp_some (hQ _ _ ⟨a2, fun i j hi hj => a3 i j (by omega) hj⟩)
theorem elC_net {C C1 : tp_M} {n : Int} {D G : Int → Int} (hN : nC C n D G) (f : tp_fr elC C C1) : nC C1 n D G := nC_fr hN (f 5 (by simp)) (f 6 (by simp)) (f 7 (by simp)) (f 8 (by simp)) (f 9 (by simp))
theorem tmx_bd {v : Nat} {s : Nat → Int} {D : Nat → Nat} {g : Nat → Nat → Int} {i j : Nat} (hD : D i ≤ 4) : (tmx v s D g i j).natAbs ≤ 4 := by
  unfold tmx
  split
  · unfold sgm
    repeat' split
    all_goals decide
  · have := sum_bd (f := fun k => (if i = j then (1 : Int) else 0) - (if g i k = (j : Int) then 1 else 0)) (c := 1) (D i) (fun t _ => by
      repeat' split
      all_goals decide)
    omega
theorem cs_treesWith {C : tp_M} {n : Int} {D G : Int → Int} {f : Nat} {s : Nat → Int} (hN : nC C n D G) (hf : (f : Int) ≤ n - 1) (hs : ∀ i : Nat, i < f → (0 ≤ C 60 ((i : Int) + 1) ∧ C 60 ((i : Int) + 1) < D ((i : Int) + 1)) ∧ s i = G (4 * ((i : Int) + 1) + C 60 ((i : Int) + 1)) - 1) : wp (fx_X0_treesWith 60 8 (f : Int) C) (fun r C1 => tp_fr elC C C1 ∧ r = dt_det (n - 1).toNat (tmx f s (nD D) (nG G)) ∧ 0 ≤ r ∧ r ≤ 82575360) := by
  have n8 := cn_n hN
  generalize hm : (n - 1).toNat = m
  have hmn : (m : Int) = n - 1 := by omega
  have hD4 : ∀ i : Nat, i < m → nD D i ≤ 4 ∧ ((nD D i : Nat) : Int) = D ((i : Int) + 1) := fun i hi => by
    have := cn_D hN (a := (i : Int) + 1) (by omega)
    unfold nD
    omega
  have hG : ∀ (i k : Nat), i < m → k < nD D i → -1 ≤ nG G i k ∧ nG G i k < (m : Int) := fun i k hi hk => by
    have := cn_G hN (a := (i : Int) + 1) (k := (k : Int)) (by omega) (by have := hD4 i hi; omega)
    unfold nG
    omega
  have hsf : ∀ i : Nat, i < f → -1 ≤ s i ∧ s i < (m : Int) := fun i hi => by
    obtain ⟨h1, h2⟩ := hs i hi
    have := cn_G hN (a := (i : Int) + 1) (by omega) h1
    omega
  refine wp_K (fun Q hQ => ?_)
  unfold fx_X0_treesWith
  rw [cn_crossings hN, tp_bd_s]
  refine wp_lt ?_
  refine wp_call (cs_clearCells C) (fun _ C0 q => ?_)
  obtain ⟨q1, q2⟩ := q
  refine wp_lt ?_
  refine wp_lp1 (fun z C1 => ∃ a : Nat, z = (a : Int) + 1 ∧ a ≤ m ∧ tp_fr elC C C1 ∧ (∀ i j : Nat, i < a → j ≤ 8 → C1 (42 + i) (j : Int) = tmx f s (nD D) (nG G) i j) ∧ ∀ i j : Nat, a ≤ i → i < 8 → j ≤ 8 → C1 (42 + i) (j : Int) = 0) (fun z _ => (9 - z).toNat) ?_ tp_F 1 C0 ⟨0, rfl, by omega, q1, fun i j h => by omega, fun i j _ hi hj => q2 i j hi hj⟩ (tp_F_pos (by omega))
  rintro rec z C1 ⟨a, rfl, a1, a2, a3, a4⟩ hrec
  unfold fx_X0_treesWith_L15
  rw [w32_id (show -2147483648 ≤ (a : Int) + 1 ∧ (a : Int) + 1 < 2147483648 by omega), w32_id (show -2147483648 ≤ n - 1 ∧ n - 1 < 2147483648 by omega), w32_id (show -2147483648 ≤ (f : Int) ∧ (f : Int) < 2147483648 by omega)]
  by_cases ha : (a : Int) + 1 ≤ n - 1
  · rw [if_pos ha]
    refine wp_jn0 ?_
    have hN1 := elC_net hN a2
    have next : ∀ C3 : tp_M, tp_fr elC C C3 → (∀ i j : Nat, i < a → j ≤ 8 → C3 (42 + i) (j : Int) = tmx f s (nD D) (nG G) i j) → (∀ i j : Nat, a + 1 ≤ i → i < 8 → j ≤ 8 → C3 (42 + i) (j : Int) = 0) → (∀ j : Nat, j ≤ 8 → C3 (42 + a) (j : Int) = tmx f s (nD D) (nG G) a j) → wp (tp_lt ((a : Int) + 1 + 1) (fun x21 => rec x21 C3)) Q := fun C3 f3 b1 b2 b3 => by
      refine wp_lt ?_
      refine hrec _ _ ⟨a + 1, by omega, by omega, f3, fun i j hi hj => ?_, b2⟩ (by omega)
      by_cases e : i = a
      · rw [e]; exact b3 j hj
      · exact b1 i j (by omega) hj
    by_cases hfa : (a : Int) + 1 ≤ (f : Int)
    · rw [if_pos hfa]
      refine wp_ck (by omega) ?_
      obtain ⟨h1, h2⟩ := hs a (by omega)
      have e60 : C1 60 ((a : Int) + 1) = C 60 ((a : Int) + 1) := by rw [a2 60 (by simp)]
      rw [e60, cn_goal hN1 (a := (a : Int) + 1) (by omega) h1, tp_bd_s, show (a : Int) + 1 - 1 = (a : Int) by omega, ← h2]
      refine wp_call (cs_addCell (a := a) (w := s a) (by omega) (by have := hsf a (by omega); omega) C1) (fun _ C2 w => ?_)
      obtain ⟨w1, w2⟩ := w
      refine wp_lt ?_
      have : ∀ k : Nat, 1 ≤ k → ∀ K : tp_M → tp_O, tp_lp1 (fx_X0_treesWith_L51 60 8 (f : Int) (n - 1) ((a : Int) + 1) K) k 0 C2 = K C2 := fun k hk K => by
        obtain ⟨k, rfl⟩ : ∃ b, k = b + 1 := ⟨k - 1, by omega⟩
        rw [tp_lp1_s]
        unfold fx_X0_treesWith_L51
        rw [w32_id (show -2147483648 ≤ (a : Int) + 1 ∧ (a : Int) + 1 < 2147483648 by omega), w32_id (show -2147483648 ≤ (f : Int) ∧ (f : Int) < 2147483648 by omega), if_pos hfa]
      rw [this tp_F (by unfold tp_F; omega)]
      refine next C2 (fr_tr a2 (fr_mono w1 (by simp; omega))) (fun i j hi hj => ?_) (fun i j hi hi2 hj => ?_) (fun j hj => ?_)
      · rw [w1 (42 + i) (by simp; omega)]; exact a3 i j hi hj
      · rw [w1 (42 + i) (by simp; omega)]; exact a4 i j (by omega) hi2 hj
      · rw [w2 j, a4 a j (Nat.le_refl a) (by omega) hj]
        unfold tmx sgm
        rw [if_pos (show a < f by omega), Int.zero_add]
    · rw [if_neg hfa]
      refine wp_lt ?_
      obtain ⟨d4, dE⟩ := hD4 a (by omega)
      refine wp_lp1 (fun z C2 => ∃ t : Nat, z = (t : Int) ∧ t ≤ nD D a ∧ tp_fr elC C C2 ∧ (∀ i j : Nat, i < a → j ≤ 8 → C2 (42 + i) (j : Int) = tmx f s (nD D) (nG G) i j) ∧ (∀ i j : Nat, a + 1 ≤ i → i < 8 → j ≤ 8 → C2 (42 + i) (j : Int) = 0) ∧ ∀ j : Nat, j ≤ 8 → C2 (42 + a) (j : Int) = dt_sum (fun k => (if a = j then 1 else 0) - (if nG G a k = (j : Int) then 1 else 0)) t) (fun z _ => (9 - z).toNat) ?_ tp_F 0 C1 ⟨0, rfl, by omega, a2, a3, fun i j hi => a4 i j (by omega), fun j hj => a4 a j (Nat.le_refl a) (by omega) hj⟩ (tp_F_pos (by omega))
      rintro rec2 z C2 ⟨t, rfl, t1, t2, t3, t4, t5⟩ hrec2
      have hN2 := elC_net hN t2
      unfold fx_X0_treesWith_L51
      rw [w32_id (show -2147483648 ≤ (a : Int) + 1 ∧ (a : Int) + 1 < 2147483648 by omega), w32_id (show -2147483648 ≤ (f : Int) ∧ (f : Int) < 2147483648 by omega), if_neg hfa, cn_degree hN2 (a := (a : Int) + 1) (by omega), tp_bd_s, w32_id (show -2147483648 ≤ (t : Int) ∧ (t : Int) < 2147483648 by omega), w32_id (show -2147483648 ≤ D ((a : Int) + 1) ∧ D ((a : Int) + 1) < 2147483648 by omega)]
      by_cases ht : (t : Int) < D ((a : Int) + 1)
      · rw [if_pos ht, cn_goal hN2 (a := (a : Int) + 1) (k := (t : Int)) (by omega) (by omega), tp_bd_s, show (a : Int) + 1 - 1 = (a : Int) by omega]
        have hg := hG a t (by omega) (by omega)
        have eg : G (4 * ((a : Int) + 1) + (t : Int)) - 1 = nG G a t := rfl
        rw [eg]
        refine wp_call (cs_addCell (a := a) (w := nG G a t) (by omega) (by omega) C2) (fun _ C3 w => ?_)
        obtain ⟨w1, w2⟩ := w
        refine wp_lt ?_
        refine hrec2 _ _ ⟨t + 1, by omega, by omega, fr_tr t2 (fr_mono w1 (by simp; omega)), fun i j hi hj => ?_, fun i j hi hi2 hj => ?_, fun j hj => ?_⟩ (by omega)
        · rw [w1 (42 + i) (by simp; omega)]; exact t3 i j hi hj
        · rw [w1 (42 + i) (by simp; omega)]; exact t4 i j hi hi2 hj
        · rw [w2 j, t5 j hj]
          rfl
      · rw [if_neg ht]
        refine next C2 t2 t3 t4 (fun j hj => ?_)
        rw [t5 j hj, show t = nD D a by omega]
        unfold tmx
        rw [if_neg (show ¬ a < f by omega)]
  · rw [if_neg ha]
    have ham : a = m := by omega
    subst ham
    rw [← hmn]
    refine wp_call (cs_elim (A := tmx f s (nD D) (nG G)) (m := a) (by omega) (fun i j hi hj => a3 i j hi (by omega)) (fun i j hi hj => tmx_bd (hD4 i hi).1)) (fun r C2 w => ?_)
    obtain ⟨w1, w2⟩ := w
    have fr2 := fr_tr a2 w1
    have hdn : 0 ≤ dt_det a (tmx f s (nD D) (nG G)) ∧ dt_det a (tmx f s (nD D) (nG G)) ≤ 82575360 := by
      have h1 := tn_det (m := a) (D := nD D) (g := nG G) (a - f) f s (by omega)
      have h2 := tn_nn (m := a) (D := nD D) (g := nG G) (a - f) f s
      have h3 := Nat.le_trans (det_bd a (tmx f s (nD D) (nG G)) (fun i j hi hj => tmx_bd (hD4 i hi).1)) (fb_7 a (by omega))
      omega
    rcases w2 with ⟨rfl, q, q1, q2, q3⟩ | ⟨rfl, q1, q2, -⟩
    · rw [if_pos (show w32 0 = 0 by decide)]
      have h0 : dt_det a (tmx f s (nD D) (nG G)) = 0 := Classical.byContradiction (fun c => by
        have := tmx_lead (q := q) (by omega) (by omega) c
        omega)
      exact wp_some (hQ _ _ ⟨fr2, h0.symm, by omega⟩)
    · rw [if_neg (show ¬ w32 1 = 0 by decide), w32_id (show -2147483648 ≤ (a : Int) - 1 ∧ (a : Int) - 1 < 2147483648 by omega), show (a : Int) - 1 = ((a - 1 : Nat) : Int) by omega, Int.toNat_natCast, q2]
      refine wp_ck (by omega) ?_
      refine wp_ck (by omega) ?_
      exact wp_some (hQ _ _ ⟨fr2, rfl, hdn⟩)
