/-! ODDS: one step of the shares -/
def sp_k (G : Int → Int) (v s u : Int) : Nat → Int
  | 0 => 0
  | k + 1 => sp_k G v s u k + if G (4 * v + (k : Int)) = u then s else 0
def sp_v (D G P : Int → Int) (u : Int) : Nat → Int
  | 0 => if u = 0 then 12 * P 0 else 0
  | t + 1 => sp_v D G P u t + sp_k G ((t : Int) + 1) (P ((t : Int) + 1) * w32 (x_div 12 (D ((t : Int) + 1)))) u (D ((t : Int) + 1)).toNat
theorem sp_ks (G : Int → Int) (v s u : Int) (k : Nat) : sp_k G v s u (k + 1) = sp_k G v s u k + if G (4 * v + (k : Int)) = u then s else 0 := rfl
theorem sp_vs (D G P : Int → Int) (u : Int) (t : Nat) : sp_v D G P u (t + 1) = sp_v D G P u t + sp_k G ((t : Int) + 1) (P ((t : Int) + 1) * w32 (x_div 12 (D ((t : Int) + 1)))) u (D ((t : Int) + 1)).toNat := rfl
theorem sp_kb {G : Int → Int} {v s u : Int} (hs : 0 ≤ s) : ∀ k : Nat, 0 ≤ sp_k G v s u k ∧ sp_k G v s u k ≤ (k : Int) * s := by
  intro k
  induction k with
  | zero => exact ⟨Int.le_refl 0, by show (0 : Int) ≤ ((0 : Nat) : Int) * s; rw [show (((0 : Nat) : Int)) = 0 from rfl, Int.zero_mul]; exact Int.le_refl 0⟩
  | succ k ih =>
    rw [sp_ks, show ((k + 1 : Nat) : Int) = (k : Int) + 1 by omega, Int.add_mul, Int.one_mul]
    split <;> omega
theorem sp_q {d : Int} (h : 1 ≤ d ∧ d ≤ 4) : 0 ≤ w32 (x_div 12 d) ∧ d * w32 (x_div 12 d) = 12 := by
  have : d = 1 ∨ d = 2 ∨ d = 3 ∨ d = 4 := by omega
  rcases this with rfl | rfl | rfl | rfl <;> decide
theorem sp_vb {n : Int} {D G P : Int → Int} {X : Int} (hn : nt_net n D G) (hP : ∀ u : Int, 0 ≤ u → u < 8 → 0 ≤ P u ∧ P u ≤ X) (u : Int) : ∀ t : Nat, (t : Int) < n → 0 ≤ sp_v D G P u t ∧ sp_v D G P u t ≤ 12 * X + 12 * ((t : Int) * X) := by
  have n8 := hn.1
  intro t
  induction t with
  | zero =>
    intro _
    have := hP 0 (by decide) (by decide)
    show 0 ≤ (if u = 0 then 12 * P 0 else 0) ∧ (if u = 0 then 12 * P 0 else 0) ≤ 12 * X + 12 * (((0 : Nat) : Int) * X)
    rw [show (((0 : Nat) : Int)) = 0 from rfl, Int.zero_mul]
    split <;> omega
  | succ t ih =>
    intro ht
    have i := ih (by omega)
    have p := hP ((t : Int) + 1) (by omega) (by omega)
    have d := (hn.2 ((t : Int) + 1) (by omega) (by omega)).1
    obtain ⟨q1, q2⟩ := sp_q d
    have s0 : 0 ≤ P ((t : Int) + 1) * w32 (x_div 12 (D ((t : Int) + 1))) := Int.mul_nonneg p.1 q1
    obtain ⟨k1, k2⟩ := sp_kb (G := G) (v := (t : Int) + 1) (u := u) s0 (D ((t : Int) + 1)).toNat
    rw [show (((D ((t : Int) + 1)).toNat : Nat) : Int) = D ((t : Int) + 1) by omega, Int.mul_left_comm, q2] at k2
    rw [sp_vs, show ((t + 1 : Nat) : Int) = (t : Int) + 1 by omega, Int.add_mul, Int.one_mul]
    omega
theorem sp_b {n : Int} {D G P : Int → Int} {X : Int} (hn : nt_net n D G) (hX : 0 ≤ X) (hP : ∀ u : Int, 0 ≤ u → u < 8 → 0 ≤ P u ∧ P u ≤ X) (u : Int) : 0 ≤ sp_v D G P u (n - 1).toNat ∧ sp_v D G P u (n - 1).toNat ≤ 96 * X := by
  have n8 := hn.1
  have h := sp_vb hn hP u (n - 1).toNat (by omega)
  rw [show (((n - 1).toNat : Nat) : Int) = n - 1 by omega] at h
  have : (n - 1) * X ≤ 7 * X := Int.mul_le_mul_of_nonneg_right (by omega) hX
  omega
theorem cs_spread1 {C : tp_M} {n : Int} {D G P : Int → Int} (hN : nC C n D G) (hP : C 50 = P) : wp (fx_X0_spreadOnce C) (fun _ C1 => tp_fr [50, 51] C C1 ∧ ∀ u : Int, 0 ≤ u → u < 8 → C1 50 u = sp_v D G P u (n - 1).toNat) := by
  have n8 := cn_n hN
  refine wp_K (fun Q hQ => ?_)
  unfold fx_X0_spreadOnce
  refine wp_lt ?_
  refine wp_lp1 (fun z C1 => (0 ≤ z ∧ z ≤ 8) ∧ tp_fr [51] C C1 ∧ ∀ u : Int, 0 ≤ u → u < z → C1 51 u = 0) (fun z _ => (8 - z).toNat) ?_ tp_F 0 C ⟨by omega, fr_rf, fun u u1 u2 => by omega⟩ (tp_F_pos (by omega))
  intro rec z C1 hI hrec
  obtain ⟨i1, i2, i3⟩ := hI
  unfold fx_X0_spreadOnce_L2
  rw [w32_id (show -2147483648 ≤ z ∧ z < 2147483648 by omega)]
  by_cases hz : z < 8
  · rw [if_pos hz]
    refine wp_ck (by omega) ?_
    refine wp_lm ?_
    refine wp_lt ?_
    refine hrec _ _ ⟨by omega, fr_up i2 (by simp), fun u u1 u2 => ?_⟩ (by omega)
    rw [up_c]
    by_cases e : u = z
    · rw [if_pos e]
    · rw [if_neg e]; exact i3 u u1 (by omega)
  · rw [if_neg hz]
    refine wp_lm ?_
    refine wp_lt ?_
    refine wp_lp1 (fun v C2 => ∃ t : Nat, v = (t : Int) + 1 ∧ (t : Int) < n ∧ tp_fr [51] C C2 ∧ ∀ u : Int, 0 ≤ u → u < 8 → C2 51 u = sp_v D G P u t) (fun v _ => (9 - v).toNat) ?_ tp_F 1 _ ⟨0, rfl, by omega, fr_up i2 (by simp), fun u u1 u2 => ?_⟩ (tp_F_pos (by omega))
    · intro rec2 v C2 hI2 hrec2
      obtain ⟨t, rfl, t1, t2, t3⟩ := hI2
      have hN2 : nC C2 n D G := nC_fr hN (t2 5 (by simp)) (t2 6 (by simp)) (t2 7 (by simp)) (t2 8 (by simp)) (t2 9 (by simp))
      unfold fx_X0_spreadOnce_L39
      rw [cn_crossings hN2, tp_bd_s, w32_id (show -2147483648 ≤ (t : Int) + 1 ∧ (t : Int) + 1 < 2147483648 by omega), w32_id (show -2147483648 ≤ n ∧ n < 2147483648 by omega)]
      by_cases hv : (t : Int) + 1 < n
      · rw [if_pos hv]
        have hvv : 1 ≤ (t : Int) + 1 ∧ (t : Int) + 1 < n := by omega
        have d4 := cn_D hN hvv
        rw [cn_degree hN2 hvv, tp_bd_s]
        refine wp_lt ?_
        refine wp_jn0 ?_
        rw [w32_id (show -2147483648 ≤ D ((t : Int) + 1) ∧ D ((t : Int) + 1) < 2147483648 by omega), if_neg (show ¬ D ((t : Int) + 1) < 1 by omega)]
        refine wp_ck (by omega) ?_
        rw [tp_nz_t (show ¬ D ((t : Int) + 1) = 0 by omega), t2 50 (by simp), hP]
        refine wp_lt ?_
        refine wp_lt ?_
        generalize hs : P ((t : Int) + 1) * w32 (x_div 12 (D ((t : Int) + 1))) = s
        refine wp_lp1 (fun k C3 => ∃ l : Nat, k = (l : Int) ∧ (l : Int) ≤ D ((t : Int) + 1) ∧ tp_fr [51] C C3 ∧ ∀ u : Int, 0 ≤ u → u < 8 → C3 51 u = sp_v D G P u t + sp_k G ((t : Int) + 1) s u l) (fun k _ => (4 - k).toNat) ?_ tp_F 0 C2 ⟨0, rfl, by omega, t2, fun u u1 u2 => by rw [t3 u u1 u2]; exact (Int.add_zero _).symm⟩ (tp_F_pos (by omega))
        intro rec3 k C3 hI3 hrec3
        obtain ⟨l, rfl, l1, l2, l3⟩ := hI3
        have hN3 : nC C3 n D G := nC_fr hN (l2 5 (by simp)) (l2 6 (by simp)) (l2 7 (by simp)) (l2 8 (by simp)) (l2 9 (by simp))
        unfold fx_X0_spreadOnce_L78
        rw [w32_id (show -2147483648 ≤ (l : Int) ∧ (l : Int) < 2147483648 by omega), w32_id (show -2147483648 ≤ D ((t : Int) + 1) ∧ D ((t : Int) + 1) < 2147483648 by omega)]
        by_cases hl : (l : Int) < D ((t : Int) + 1)
        · rw [if_pos hl]
          have hg := cn_G hN hvv ⟨show (0 : Int) ≤ (l : Int) by omega, hl⟩
          rw [cn_goal hN3 hvv ⟨show (0 : Int) ≤ (l : Int) by omega, hl⟩, tp_bd_s, tp_lt_s, cn_has hN3 (by unfold pu_in; omega), if_pos (show 0 ≤ G (4 * ((t : Int) + 1) + (l : Int)) ∧ G (4 * ((t : Int) + 1) + (l : Int)) < n from ⟨hg.1, hg.2.1⟩), tp_bd_s]
          refine wp_jn0 ?_
          rw [show w32 1 = 1 from rfl, if_neg (show ¬ (1 : Int) = 0 by decide), w32_id (show -2147483648 ≤ G (4 * ((t : Int) + 1) + (l : Int)) ∧ G (4 * ((t : Int) + 1) + (l : Int)) < 2147483648 by omega)]
          refine wp_ck (by omega) ?_
          refine wp_ck (by omega) ?_
          refine wp_lm ?_
          refine wp_lt ?_
          refine hrec3 _ _ ⟨l + 1, by omega, by omega, fr_up l2 (by simp), fun u u1 u2 => ?_⟩ (by omega)
          rw [up_c, sp_ks]
          by_cases e : u = G (4 * ((t : Int) + 1) + (l : Int))
          · rw [if_pos e, if_pos e.symm, ← e, l3 u u1 u2]; omega
          · rw [if_neg e, if_neg (fun c => e c.symm), l3 u u1 u2]; omega
        · rw [if_neg hl]
          refine wp_lt ?_
          refine hrec2 _ _ ⟨t + 1, by omega, by omega, l2, fun u u1 u2 => ?_⟩ (by omega)
          rw [l3 u u1 u2, sp_vs, hs, show (D ((t : Int) + 1)).toNat = l by omega]
      · rw [if_neg hv]
        refine wp_lt ?_
        have et : (n - 1).toNat = t := by omega
        rw [et] at hQ
        refine wp_lp1 (fun z C3 => (0 ≤ z ∧ z ≤ 8) ∧ tp_fr [50] C2 C3 ∧ ∀ u : Int, 0 ≤ u → u < z → C3 50 u = C2 51 u) (fun z _ => (8 - z).toNat) ?_ tp_F 0 C2 ⟨by omega, fr_rf, fun u u1 u2 => by omega⟩ (tp_F_pos (by omega))
        intro rec3 w C3 hI3 hrec3
        obtain ⟨w1, w2, w3⟩ := hI3
        unfold fx_X0_spreadOnce_L128
        rw [w32_id (show -2147483648 ≤ w ∧ w < 2147483648 by omega)]
        by_cases hw : w < 8
        · rw [if_pos hw]
          refine wp_ck (by omega) ?_
          refine wp_ck (by omega) ?_
          refine wp_lm ?_
          refine wp_lt ?_
          refine hrec3 _ _ ⟨by omega, fr_up w2 (by simp), fun u u1 u2 => ?_⟩ (by omega)
          rw [up_c, w2 51 (by simp)]
          by_cases e : u = w
          · rw [if_pos e, e]
          · rw [if_neg e]; exact w3 u u1 (by omega)
        · rw [if_neg hw]
          refine wp_some (hQ _ _ ⟨fr_tr (fr_mono t2 (by simp)) (fr_mono w2 (by simp)), fun u u1 u2 => ?_⟩)
          rw [w3 u u1 (by omega), t3 u u1 u2]
    · rw [up_c]
      show _ = if u = 0 then 12 * P 0 else 0
      by_cases e : u = 0
      · rw [if_pos e, if_pos e, i2 50 (by simp), hP, Int.mul_comm]
      · rw [if_neg e, if_neg e]; exact i3 u u1 (by omega)
