/-! THE REFERENCE'S DETERMINANT -/
theorem pm_cell (a b : Int) (M : tp_M) : fx_X11_cellOf a b M = some (8 * a + b, M) := rfl
theorem det_rowsw {n a b : Nat} (A : Nat → Nat → Int) (hab : ¬ a = b) (ha : a < n) (hb : b < n) : dt_det n (fun i j => A (tr a b i) j) = - dt_det n A := by
  have eq (u v : Nat → Int) (huv : u = v) : dt_det n (dt_ru (dt_ru A a u) b v) = 0 := det_eq2 hab ha hb (fun j hj => by
    have e1 : dt_ru (dt_ru A a u) b v a j = u j := by
      unfold dt_ru
      rw [if_neg (by omega), if_pos rfl]
    have e2 : dt_ru (dt_ru A a u) b v b j = v j := by
      unfold dt_ru
      rw [if_pos rfl]
    rw [e1, e2, huv])
  have sw (x y : Nat → Int) : dt_det n (dt_ru (dt_ru A a x) b y) = - dt_det n (dt_ru (dt_ru A a y) b x) := by
    have l1 := det_lin (dt_ru A a (fun j => 1 * x j + 1 * y j)) (r := b) x y 1 1 hb
    rw [eq _ _ rfl] at l1
    have l2 (z : Nat → Int) : dt_det n (dt_ru (dt_ru A a (fun j => 1 * x j + 1 * y j)) b z) = dt_det n (dt_ru (dt_ru A a x) b z) + dt_det n (dt_ru (dt_ru A a y) b z) := by
      rw [ru_ru _ _ _ hab, det_lin _ x y 1 1 ha, ru_ru _ _ _ (show ¬ b = a by omega), ru_ru _ _ _ (show ¬ b = a by omega)]
      omega
    rw [l2, l2, eq x x rfl, eq y y rfl] at l1
    omega
  have e1 : dt_ru (dt_ru A a (A b)) b (A a) = fun i j => A (tr a b i) j := by
    funext i j
    unfold dt_ru tr
    by_cases c1 : i = b
    · rw [if_pos c1, if_neg (by omega), if_pos c1]
    · rw [if_neg c1]
      by_cases c2 : i = a
      · rw [if_pos c2, if_pos c2]
      · rw [if_neg c2, if_neg c2, if_neg c1]
  have e2 : dt_ru (dt_ru A a (A a)) b (A b) = A := by rw [ru_id]; exact ru_id A b
  have := sw (A b) (A a)
  rw [e1, e2] at this
  exact this
theorem tr_id (c x : Nat) : tr c c x = x := by
  unfold tr
  split
  · omega
  · rfl
section PD
variable {M : tp_M}
theorem ps_swapsUp {V : Nat → Nat → Int} {k : Nat} (hk : k < 7) (hV : ∀ x y : Nat, k ≤ x → x < 8 → k ≤ y → y < 8 → M 21 (8 * (x : Int) + (y : Int)) = V x y) (hb : ∀ x : Nat, k ≤ x → x < 8 → -9000000000000000000 ≤ V x k ∧ V x k < 9000000000000000000) :
    wp (fx_X11_swapsUp (k : Int) M) (fun r M1 => tp_fr [0, 21] M M1 ∧ (∀ j : Int, ¬ j = 36 → M1 0 j = M 0 j) ∧ ((r = 0 ∧ ∀ x : Nat, k ≤ x → x < 8 → V x k = 0) ∨ (r = 1 ∧ ∃ c : Nat, k ≤ c ∧ c < 8 ∧ ¬ V c k = 0 ∧ M1 0 36 = M 0 36 * (if c = k then 1 else -1) ∧ ∀ x y : Nat, k ≤ x → x < 8 → k ≤ y → y < 8 → M1 21 (8 * (x : Int) + (y : Int)) = V (tr k c x) y))) := by
  refine wp_K (fun Q hQ => ?_)
  unfold fx_X11_swapsUp
  refine wp_lt ?_
  refine wp_lp1 (fun z M1 => ∃ c : Nat, z = (c : Int) ∧ k ≤ c ∧ c ≤ 8 ∧ M1 = M ∧ ∀ x : Nat, k ≤ x → x < c → V x k = 0) (fun z _ => (9 - z).toNat) ?_ tp_F (k : Int) M ⟨k, rfl, Nat.le_refl k, by omega, rfl, fun x a b => by omega⟩ (tp_F_pos (by omega))
  rintro rec z M1 ⟨c, rfl, c1, c2, rfl, c3⟩ hrec
  unfold fx_X11_swapsUp_L2
  rw [w32_id (show -2147483648 ≤ (c : Int) ∧ (c : Int) < 2147483648 by omega)]
  by_cases hc : c < 8
  · rw [if_pos (by omega), pm_cell, tp_bd_s, w32_id (show -2147483648 ≤ 8 * (c : Int) + (k : Int) ∧ 8 * (c : Int) + (k : Int) < 2147483648 by omega), hV c k c1 hc (Nat.le_refl k) (by omega)]
    refine wp_ck (by omega) ?_
    by_cases hz : V c k = 0
    · rw [if_pos ((x_lcmp_0 (hb c c1 hc)).mpr hz)]
      refine wp_lt ?_
      refine hrec _ _ ⟨c + 1, by omega, by omega, by omega, rfl, fun x a b => ?_⟩ (by omega)
      by_cases e : x = c
      · rw [e]; exact hz
      · exact c3 x a (by omega)
    · rw [if_neg (fun q => hz ((x_lcmp_0 (hb c c1 hc)).mp q))]; (try dsimp only); rw [w32_id (show -2147483648 ≤ (c : Int) ∧ (c : Int) < 2147483648 by omega), if_neg (by omega)]
      refine wp_lt ?_
      refine wp_lp1 (fun z M2 => ∃ w : Nat, z = (w : Int) ∧ w ≤ 8 ∧ tp_fr [21] M1 M2 ∧ (c = k → w = 0 ∧ M2 = M1) ∧ ∀ x y : Nat, k ≤ x → x < 8 → k ≤ y → y < 8 → M2 21 (8 * (x : Int) + (y : Int)) = if y < w then V (tr k c x) y else V x y) (fun z _ => (9 - z).toNat) ?_ tp_F 0 M1 ⟨0, rfl, by omega, fr_rf, fun _ => ⟨rfl, rfl⟩, fun x y a b d e => by rw [if_neg (by omega)]; exact hV x y a b d e⟩ (tp_F_pos (by omega))
      rintro rec2 z M2 ⟨w, rfl, w1, f, wk, w2⟩ hrec2
      unfold fx_X11_swapsUp_L39
      rw [w32_id (show -2147483648 ≤ (w : Int) ∧ (w : Int) < 2147483648 by omega), w32_id (show -2147483648 ≤ (c : Int) ∧ (c : Int) < 2147483648 by omega), w32_id (show -2147483648 ≤ (k : Int) ∧ (k : Int) < 2147483648 by omega)]
      have e0 : M2 0 = M1 0 := f 0 (by simp)
      by_cases hw : w < 8
      · rw [if_pos (by omega)]
        by_cases hck : c = k
        · rw [if_pos (by omega)]; (try dsimp only); rw [if_pos (by omega)]
          refine wp_lm ?_
          refine wp_some (hQ _ _ ⟨fr_up (fr_mono f (by simp)) (by simp), fun j hj => by rw [up_j _ _ _ hj, e0], Or.inr ⟨rfl, c, c1, hc, hz, by rw [up_s, e0, if_pos hck], fun x y a b d e => ?_⟩⟩)
          rw [up_k _ _ _ (by decide), w2 x y a b d e, hck, tr_id]
          split <;> rfl
        · rw [if_neg (by omega), pm_cell, tp_bd_s, w32_id (show -2147483648 ≤ 8 * (k : Int) + (w : Int) ∧ 8 * (k : Int) + (w : Int) < 2147483648 by omega)]
          refine wp_ck (by omega) ?_
          refine wp_lt ?_
          rw [pm_cell, tp_bd_s, pm_cell, tp_bd_s, w32_id (show -2147483648 ≤ 8 * (k : Int) + (w : Int) ∧ 8 * (k : Int) + (w : Int) < 2147483648 by omega), w32_id (show -2147483648 ≤ 8 * (c : Int) + (w : Int) ∧ 8 * (c : Int) + (w : Int) < 2147483648 by omega)]
          refine wp_ck (by omega) ?_
          refine wp_ck (by omega) ?_
          refine wp_lm ?_
          rw [pm_cell, tp_bd_s, w32_id (show -2147483648 ≤ 8 * (c : Int) + (w : Int) ∧ 8 * (c : Int) + (w : Int) < 2147483648 by omega)]
          refine wp_ck (by omega) ?_
          refine wp_lm ?_
          refine wp_lt ?_
          refine hrec2 _ _ ⟨w + 1, by omega, by omega, fr_up (fr_up f (by simp)) (by simp), fun q => absurd q hck, fun x y a b d e => ?_⟩ (by omega)
          by_cases hyw : y = w
          · subst hyw
            rw [if_pos (by omega)]
            by_cases q1 : x = c
            · rw [q1, up_s, w2 k y (Nat.le_refl k) (by omega) d e, if_neg (by omega), show tr k c c = k by unfold tr; rw [if_neg hck, if_pos rfl]]
            · rw [up_j _ _ _ (by omega)]
              by_cases q2 : x = k
              · rw [q2, up_s, w2 c y c1 hc d e, if_neg (by omega), show tr k c k = c by unfold tr; rw [if_pos rfl]]
              · rw [up_j _ _ _ (by omega), w2 x y a b d e, if_neg (by omega), show tr k c x = x by unfold tr; rw [if_neg q2, if_neg q1]]
          · rw [up_j _ _ _ (by omega), up_j _ _ _ (by omega), w2 x y a b d e]
            by_cases q : y < w
            · rw [if_pos q, if_pos (by omega)]
            · rw [if_neg q, if_neg (by omega)]
      · have hck : ¬ c = k := fun q => by have := (wk q).1; omega
        rw [if_neg (by omega)]; (try dsimp only); rw [if_neg (by omega)]
        refine wp_lm ?_
        refine wp_some (hQ _ _ ⟨fr_up (fr_mono f (by simp)) (by simp), fun j hj => by rw [up_j _ _ _ hj, e0], Or.inr ⟨rfl, c, c1, hc, hz, by rw [up_s, e0, if_neg hck], fun x y a b d e => ?_⟩⟩)
        rw [up_k _ _ _ (by decide), w2 x y a b d e, if_pos (by omega)]
  · have h8 : c = 8 := by omega
    rw [if_neg (by omega)]; (try dsimp only); rw [w32_id (show -2147483648 ≤ (c : Int) ∧ (c : Int) < 2147483648 by omega), if_pos (by omega)]
    exact wp_some (hQ _ _ ⟨fr_rf, fun _ _ => rfl, Or.inl ⟨rfl, fun x a b => c3 x a (by omega)⟩⟩)
theorem mn_tr {A : Nat → Nat → Int} {k c x y : Nat} (hc : k ≤ c) : mn (fun i j => A (tr k c i) j) k x y = mn A k (tr k c x) y := by
  unfold mn mx
  refine det_cg (fun a b _ _ => ?_)
  show A (tr k c (if a < k then a else x)) _ = A (if a < k then a else tr k c x) _
  congr 1
  by_cases h : a < k
  · rw [if_pos h, if_pos h]
    unfold tr
    rw [if_neg (by omega), if_neg (by omega)]
  · rw [if_neg h, if_neg h]
theorem det_tr {A : Nat → Nat → Int} {k c t : Nat} (hc : k ≤ c) (ht : t ≤ k) : dt_det t (fun i j => A (tr k c i) j) = dt_det t A := by
  refine det_cg (fun i j hi _ => ?_)
  rw [show tr k c i = i by unfold tr; rw [if_neg (by omega), if_neg (by omega)]]
theorem tr_lt {k c x n : Nat} (hk : k < n) (hc : c < n) (hx : x < n) : tr k c x < n := by
  unfold tr
  split
  · exact hc
  · split
    · exact hk
    · exact hx
theorem ps_determinant {A0 : Nat → Nat → Int} (hV : ∀ x y : Nat, x < 8 → y < 8 → M 21 (8 * (x : Int) + (y : Int)) = A0 x y) (hb : ∀ x y : Nat, x < 8 → y < 8 → (A0 x y).natAbs ≤ 4) :
    wp (fx_X11_determinant M) (fun r M1 => tp_fr [0, 21] M M1 ∧ (∀ j : Int, ¬ j = 36 → M1 0 j = M 0 j) ∧ r = dt_det 8 A0) := by
  refine wp_K (fun Q hQ => ?_)
  unfold fx_X11_determinant
  refine wp_lt ?_
  refine wp_lm ?_
  refine wp_lt ?_
  refine wp_lp2 (fun p z M1 => ∃ (k : Nat) (A : Nat → Nat → Int), z = (k : Int) ∧ k ≤ 7 ∧ p = dt_det k A ∧ (∀ t : Nat, t ≤ k → ¬ dt_det t A = 0) ∧ (∀ x y : Nat, x < 8 → y < 8 → (A x y).natAbs ≤ 4) ∧ (M1 0 36 = 1 ∨ M1 0 36 = -1) ∧ M1 0 36 * dt_det 8 A = dt_det 8 A0 ∧ tp_fr [0, 21] M M1 ∧ (∀ j : Int, ¬ j = 36 → M1 0 j = M 0 j) ∧ ∀ x y : Nat, k ≤ x → x < 8 → k ≤ y → y < 8 → M1 21 (8 * (x : Int) + (y : Int)) = mn A k x y) (fun _ z _ => (9 - z).toNat) ?_ tp_F 1 0 _ ⟨0, A0, rfl, by omega, rfl, fun t ht => by rw [show t = 0 by omega]; show ¬ (1 : Int) = 0; decide, hb, Or.inl (up_s _ _ _ _), by rw [up_s, Int.one_mul], fr_up fr_rf (by simp), fun j hj => up_j _ _ _ hj, fun x y _ hx _ hy => by rw [up_k _ _ _ (by decide), mn_0]; exact hV x y hx hy⟩ (tp_F_pos (by omega))
  rintro rec p z M1 ⟨k, A, rfl, k1, rfl, k2, k3, k4, k5, f, f0, k6⟩ hrec
  unfold fx_X11_determinant_L9
  rw [w32_id (show -2147483648 ≤ (k : Int) ∧ (k : Int) < 2147483648 by omega)]
  have mb : ∀ x y : Nat, x < 8 → y < 8 → k < 7 → (mn A k x y).natAbs ≤ 82575360 := fun x y hx hy h7 => Nat.le_trans (mn_bd (fun a b ha hb' => k3 a b (by omega) (by omega))) (fb_7 (k + 1) (by omega))
  by_cases hk : k < 7
  · rw [if_pos (by omega)]
    refine wp_call (ps_swapsUp (M := M1) (V := mn A k) hk k6 (fun x a b => by have := mb x k b (by omega) hk; omega)) (fun r M2 w => ?_)
    obtain ⟨w1, w2, w3⟩ := w
    rcases w3 with ⟨rfl, w3⟩ | ⟨rfl, c, c1, c2, c3, c4, c5⟩
    · rw [if_pos (show w32 0 = 0 by decide)]
      have hz : dt_det 8 A = 0 := det_nopiv (k := k) (by omega) k2 w3
      rw [hz, Int.mul_zero] at k5
      exact wp_some (hQ _ _ ⟨fr_tr f w1, fun j hj => by rw [w2 j hj, f0 j hj], k5⟩)
    · rw [if_neg (show ¬ w32 1 = 0 by decide)]
      generalize hA : (fun i j => A (tr k c i) j) = A2
      have g1 : ∀ x y : Nat, k ≤ x → x < 8 → k ≤ y → y < 8 → M2 21 (8 * (x : Int) + (y : Int)) = mn A2 k x y := fun x y a b d e => by
        rw [c5 x y a b d e, ← hA, mn_tr c1]
      have g2 : ∀ x y : Nat, x < 8 → y < 8 → (A2 x y).natAbs ≤ 4 := fun x y a b => by rw [← hA]; exact k3 _ _ (tr_lt (by omega) c2 a) b
      have g3 : ∀ t : Nat, t ≤ k → dt_det t A2 = dt_det t A := fun t ht => by rw [← hA]; exact det_tr c1 ht
      have g4 : ¬ dt_det (k + 1) A2 = 0 := by
        rw [← mn_d, ← hA, mn_tr c1, show tr k c k = c by unfold tr; rw [if_pos rfl]]
        exact c3
      have g5 : (M2 0 36 = 1 ∨ M2 0 36 = -1) ∧ M2 0 36 * dt_det 8 A2 = dt_det 8 A0 := by
        by_cases e : c = k
        · rw [if_pos e, Int.mul_one] at c4
          rw [c4]
          refine ⟨k4, ?_⟩
          rw [← k5, ← hA, e]
          congr 1
          exact det_cg (fun i j _ _ => by rw [tr_id])
        · rw [if_neg e] at c4
          have h := det_rowsw A (a := k) (b := c) (n := 8) (by omega) (by omega) c2
          rw [hA] at h
          rw [c4, h]
          refine ⟨by omega, ?_⟩
          rw [← k5]
          grind
      have g6 : ∀ t : Nat, t ≤ k + 1 → ¬ dt_det t A2 = 0 := fun t ht => by
        by_cases e : t = k + 1
        · rw [e]; exact g4
        · rw [g3 t (by omega)]; exact k2 t (by omega)
      have mb2 : ∀ x y : Nat, x < 8 → y < 8 → (mn A2 k x y).natAbs ≤ 82575360 := fun x y hx hy => Nat.le_trans (mn_bd (fun a b ha hb' => g2 a b (by omega) (by omega))) (fb_7 (k + 1) (by omega))
      have f2 : tp_fr [0, 21] M M2 := fr_tr f w1
      have hp0 : (dt_det k A2).natAbs ≤ 82575360 := Nat.le_trans (det_bd k A2 (fun a b ha hb' => g2 a b (by omega) (by omega))) (fb_7 k (by omega))
      rw [← g3 k (Nat.le_refl k), pm_cell, tp_bd_s, w32_id (show -2147483648 ≤ 8 * (k : Int) + (k : Int) ∧ 8 * (k : Int) + (k : Int) < 2147483648 by omega), g1 k k (Nat.le_refl k) (by omega) (Nat.le_refl k) (by omega), mn_d]
      refine wp_ck (by omega) ?_
      refine wp_lt ?_
      refine wp_lt ?_
      refine wp_lp1 (fun z M3 => ∃ i : Nat, z = (i : Int) ∧ k + 1 ≤ i ∧ i ≤ 8 ∧ tp_fr [21] M2 M3 ∧ ∀ x y : Nat, k ≤ x → x < 8 → k ≤ y → y < 8 → (x = k ∨ i ≤ x → M3 21 (8 * (x : Int) + (y : Int)) = mn A2 k x y) ∧ (k < x → x < i → k < y → M3 21 (8 * (x : Int) + (y : Int)) = mn A2 (k + 1) x y)) (fun z _ => (9 - z).toNat) ?_ tp_F _ M2 ⟨k + 1, by omega, by omega, by omega, fr_rf, fun x y a b d e => ⟨fun _ => g1 x y a b d e, fun _ _ => by omega⟩⟩ (tp_F_pos (by omega))
      rintro rec2 z M3 ⟨i, rfl, i1, i2, f3, i3⟩ hrec2
      unfold fx_X11_determinant_L42
      rw [w32_id (show -2147483648 ≤ (i : Int) ∧ (i : Int) < 2147483648 by omega)]
      by_cases hi : i < 8
      · rw [if_pos (by omega)]
        refine wp_lt ?_
        refine wp_lp1 (fun z M4 => ∃ j : Nat, z = (j : Int) ∧ k + 1 ≤ j ∧ j ≤ 8 ∧ tp_fr [21] M2 M4 ∧ ∀ x y : Nat, k ≤ x → x < 8 → k ≤ y → y < 8 → (x = k ∨ i < x → M4 21 (8 * (x : Int) + (y : Int)) = mn A2 k x y) ∧ (k < x → x < i → k < y → M4 21 (8 * (x : Int) + (y : Int)) = mn A2 (k + 1) x y) ∧ (x = i → (y = k ∨ j ≤ y → M4 21 (8 * (x : Int) + (y : Int)) = mn A2 k x y) ∧ (k < y → y < j → M4 21 (8 * (x : Int) + (y : Int)) = mn A2 (k + 1) x y))) (fun z _ => (9 - z).toNat) ?_ tp_F _ M3 ⟨k + 1, by omega, by omega, by omega, f3, fun x y a b d e => ⟨fun q => (i3 x y a b d e).1 (by omega), (i3 x y a b d e).2, fun q => ⟨fun _ => (i3 x y a b d e).1 (by omega), fun _ _ => by omega⟩⟩⟩ (tp_F_pos (by omega))
        rintro rec3 z M4 ⟨j, rfl, j1, j2, f4, j3⟩ hrec3
        unfold fx_X11_determinant_L54
        rw [w32_id (show -2147483648 ≤ (j : Int) ∧ (j : Int) < 2147483648 by omega)]
        by_cases hj : j < 8
        · rw [if_pos (by omega), pm_cell, tp_bd_s, pm_cell, tp_bd_s, w32_id (show -2147483648 ≤ 8 * (i : Int) + (j : Int) ∧ 8 * (i : Int) + (j : Int) < 2147483648 by omega)]
          refine wp_ck (by omega) ?_
          rw [pm_cell, tp_bd_s, w32_id (show -2147483648 ≤ 8 * (i : Int) + (k : Int) ∧ 8 * (i : Int) + (k : Int) < 2147483648 by omega)]
          refine wp_ck (by omega) ?_
          rw [pm_cell, tp_bd_s, w32_id (show -2147483648 ≤ 8 * (k : Int) + (j : Int) ∧ 8 * (k : Int) + (j : Int) < 2147483648 by omega)]
          refine wp_ck (by omega) ?_
          refine wp_nz (by rw [w64_id (by omega)]; exact g6 k (by omega)) ?_
          refine wp_ck (by omega) ?_
          rw [((j3 i j (by omega) hi (by omega) hj).2.2 rfl).1 (Or.inr (Nat.le_refl j)), ((j3 i k (by omega) hi (Nat.le_refl k) (by omega)).2.2 rfl).1 (Or.inl rfl), (j3 k j (Nat.le_refl k) (by omega) (by omega) hj).1 (Or.inl rfl), Int.mul_comm (mn A2 k i j), el_step (by omega) g6 (fun a b ha hb' => g2 a b (by omega) (by omega))]
          refine wp_lm ?_
          refine wp_lt ?_
          refine hrec3 _ _ ⟨j + 1, by omega, by omega, by omega, fr_up f4 (by simp), fun x y a b d e => ?_⟩ (by omega)
          obtain ⟨x1, x2, x3⟩ := j3 x y a b d e
          refine ⟨fun q => ?_, fun q1 q2 q3 => ?_, fun q => ⟨fun q1 => ?_, fun q1 q2 => ?_⟩⟩
          · rw [up_j _ _ _ (by omega)]; exact x1 q
          · rw [up_j _ _ _ (by omega)]; exact x2 q1 q2 q3
          · rw [up_j _ _ _ (by omega)]; exact (x3 q).1 (by omega)
          · by_cases e2 : y = j
            · rw [q, e2, up_s]
            · rw [up_j _ _ _ (by omega)]; exact (x3 q).2 q1 (by omega)
        · rw [if_neg (by omega)]; (try dsimp only)
          refine wp_lt ?_
          refine hrec2 _ _ ⟨i + 1, by omega, by omega, by omega, f4, fun x y a b d e => ?_⟩ (by omega)
          obtain ⟨x1, x2, x3⟩ := j3 x y a b d e
          refine ⟨fun q => x1 (by omega), fun q1 q2 q3 => ?_⟩
          by_cases e2 : x = i
          · exact (x3 e2).2 q3 (by omega)
          · exact x2 q1 (by omega) q3
      · rw [if_neg (by omega)]; (try dsimp only)
        refine wp_lt ?_
        refine wp_lt ?_
        have e0 : M3 0 = M2 0 := f3 0 (by simp)
        refine hrec _ _ _ ⟨k + 1, A2, by omega, by omega, rfl, g6, g2, by rw [e0]; exact g5.1, by rw [e0]; exact g5.2, fr_tr f2 (fr_mono f3 (by simp)), fun j hj => by rw [e0, w2 j hj, f0 j hj], fun x y a b d e => ?_⟩ (by omega)
        exact (i3 x y (by omega) b (by omega) e).2 (by omega) (by omega) (by omega)
  · have h7 : k = 7 := by omega
    subst h7
    rw [if_neg (by omega)]; (try dsimp only); rw [pm_cell, tp_bd_s]
    refine wp_ck (by decide) ?_
    have e := k6 7 7 (by omega) (by omega) (by omega) (by omega)
    rw [mn_d] at e
    refine wp_some (hQ _ _ ⟨f, f0, ?_⟩)
    rw [show w32 (8 * 7 + 7) = 8 * ((7 : Nat) : Int) + ((7 : Nat) : Int) by decide, e]
    rw [w32_id (by omega)]
    exact k5
end PD
