/-! UNIT, RETURNS, JOINS, RECURS, TRIGGER -/
theorem wp2_L1 {o2 : tp_O} {body : (Int → tp_M → tp_O) → Int → tp_M → tp_O} {Q : Int → tp_M → Int → tp_M → Prop} (Inv : Int → tp_M → Prop) (mu : Int → tp_M → Nat)
    (step : ∀ (rec : Int → tp_M → tp_O) (a0 : Int) (M : tp_M), Inv a0 M → (∀ (b0 : Int) (M1 : tp_M), Inv b0 M1 → mu b0 M1 < mu a0 M → wp2 (rec b0 M1) o2 Q) → wp2 (body rec a0 M) o2 Q) :
    ∀ (n : Nat) (a0 : Int) (M : tp_M), Inv a0 M → mu a0 M < n → wp2 (tp_lp1 body n a0 M) o2 Q := by
  intro n
  induction n with
  | zero => intro a0 M _ h; omega
  | succ n ih =>
    intro a0 M hI hm
    rw [tp_lp1_s]
    exact step _ a0 M hI (fun b0 M1 h1 h2 => ih b0 M1 h1 (by omega))
theorem sum_le {f : Int → Int} {n c : Int} (hn : 2 ≤ n ∧ n ≤ 8) (hc : 0 ≤ c) (h : ∀ v : Int, 1 ≤ v → v < n → f v ≤ c) : sumI f 1 (n - 1).toNat ≤ 7 * c := by
  have := sumI_mono (f := f) (g := fun _ => c) (n - 1).toNat 1 (fun z z1 z2 => h z z1 (by omega))
  have h2 := (sumI_in (g := fun _ => c) (lo := c) (hi := c) (n - 1).toNat 1 (fun _ _ _ => ⟨Int.le_refl c, Int.le_refl c⟩)).2
  have h3 : ((n - 1).toNat : Int) * c ≤ 7 * c := Int.mul_le_mul_of_nonneg_right (by omega) hc
  omega
theorem ws_pos {D G x : Int → Int} {n : Int} (h : ∀ v : Int, 1 ≤ v → v < n → 0 ≤ x v) : 0 ≤ sumI (fun u => wy D G u 0 * x u) 1 (n - 1).toNat := by
  have := sumI_mono (f := fun _ => 0) (g := fun u => wy D G u 0 * x u) (n - 1).toNat 1 (fun z z1 z2 => Int.mul_nonneg (wy_in _ _ _ _) (h z z1 (by omega)))
  rw [sumI_0 (f := fun _ => 0) _ _ (fun _ _ _ => rfl)] at this
  exact this
/-- calm, as most calls want it -/
theorem w2_calm5 {C M : tp_M} {h : Int → Int} {S : Int} (hN : nC C (M 0 3) (M 2) (M 3)) (hc : ∀ v : Int, 1 ≤ v → v < M 0 3 → C 37 v = h v ∧ M 5 (8 + v) = h v ∧ 0 ≤ h v) (hT : sumI h 1 (M 0 3 - 1).toNat ≤ S) (hS : S ≤ 100000000) (h8 : 0 ≤ M 5 8 ∧ M 5 8 ≤ 9999) : wp2 (fx_X5_calm C) (fx_X11_calmed 5 17 M) (fun r1 C1 r2 M1 => r1 = r2 ∧ tp_fr [37, 38] C C1 ∧ tp_fr [15, 5] M M1 ∧ (∀ w : Int, (w < 1 ∨ M 0 3 ≤ w) → C1 37 w = C 37 w) ∧ (r2 = -3 ∨ ((0 ≤ r2 ∧ r2 ≤ 9999) ∧ (∀ v : Int, 1 ≤ v → v < M 0 3 → C1 37 v = M1 5 (8 + v) ∧ 0 ≤ C1 37 v ∧ C1 37 v < M 2 v) ∧ 0 ≤ M1 5 8 ∧ M1 5 8 ≤ 9999))) := by
  refine wp2_mono (w2_calm (kr := 5) (Or.inr rfl) hN hc hT hS h8) (fun r1 C1 r2 M1 q => ?_)
  obtain ⟨q1, q2, q3, q4, q5, q6⟩ := q
  refine ⟨q1, q2, q3, q4, q6.imp id (fun ⟨s1, s2, s3⟩ => ⟨s1, fun v v1 v2 => (s2 v v1 v2).1, ?_⟩)⟩
  have := ws_pos (D := M 2) (G := M 3) (x := M1 15) (n := M 0 3) (fun v v1 v2 => (s2 v v1 v2).2.2.1)
  rw [s3]
  omega
theorem cs_fill {C : tp_M} {n : Int} {D G : Int → Int} (hN : nC C n D G) : wp (fx_X5_fillTwice C) (fun _ C1 => tp_fr [37] C C1 ∧ ∀ u : Int, 0 ≤ u → u < 8 → C1 37 u = if 1 ≤ u ∧ u < n then 2 * (D u - 1) else 0) := by
  have n8 := cn_n hN
  refine wp_K (fun Q hQ => ?_)
  unfold fx_X5_fillTwice
  refine wp_lt ?_
  refine wp_lp1 (fun z C1 => (0 ≤ z ∧ z ≤ 8) ∧ tp_fr [37] C C1 ∧ ∀ u : Int, 0 ≤ u → u < z → C1 37 u = if 1 ≤ u ∧ u < n then 2 * (D u - 1) else 0) (fun z _ => (8 - z).toNat) ?_ tp_F 0 C ⟨by omega, fr_rf, fun u u1 u2 => by omega⟩ (tp_F_pos (by omega))
  intro rec z C1 hI hrec
  obtain ⟨i1, i2, i3⟩ := hI
  have hN1 : nC C1 n D G := nC_fr hN (i2 5 (by simp)) (i2 6 (by simp)) (i2 7 (by simp)) (i2 8 (by simp)) (i2 9 (by simp))
  unfold fx_X5_fillTwice_L2
  rw [w32_id (show -2147483648 ≤ z ∧ z < 2147483648 by omega)]
  by_cases hz : z < 8
  · rw [if_pos hz, cn_hasPost hN1 (by unfold pu_in; omega), tp_bd_s]
    refine wp_jn1 ?_
    have nx : ∀ y : Int, y = (if 1 ≤ z ∧ z < n then 2 * (D z - 1) else 0) → wp (tp_ck z 8 (tp_lm (tp_up C1 37 z y) (fun M8 => tp_lt (z + 1) (fun x9 => rec x9 M8)))) Q := fun y hy => by
      refine wp_ck (by omega) ?_
      refine wp_lm ?_
      refine wp_lt ?_
      refine hrec _ _ ⟨by omega, fr_up i2 (by simp), fun u u1 u2 => ?_⟩ (by omega)
      rw [up_c]
      by_cases hu : u = z
      · rw [if_pos hu, hy, hu]
      · rw [if_neg hu]; exact i3 u u1 (by omega)
    by_cases hv : 1 ≤ z ∧ z < n
    · rw [if_pos hv, show w32 1 = 1 from rfl, if_neg (by decide), cn_degree hN1 hv, tp_bd_s]
      exact nx _ (by rw [if_pos hv])
    · rw [if_neg hv, show w32 0 = 0 from rfl, if_pos rfl]
      exact nx _ (by rw [if_neg hv])
  · rw [if_neg hz]
    exact wp_some (hQ _ _ ⟨i2, fun u u1 u2 => i3 u u1 (by omega)⟩)
theorem w2_unit {C M : tp_M} (hN : nC C (M 0 3) (M 2) (M 3)) (h4 : 0 ≤ M 4 8 ∧ M 4 8 ≤ 9999) : wp2 (fx_X5_makeUnit C) (fx_X11_laysUnit M) (fun r1 C1 r2 M1 => tp_fr [37, 38, 39] C C1 ∧ tp_fr [5, 15] M M1 ∧ ((r1 = -3 ∧ r2 = -3) ∨ ((0 ≤ r1 ∧ r1 ≤ 100) ∧ (0 ≤ r2 ∧ r2 ≤ 9999) ∧ (∀ v : Int, 1 ≤ v → v < M 0 3 → C1 39 v = M1 5 (8 + v) ∧ 0 ≤ C1 39 v ∧ C1 39 v < M 2 v) ∧ (∀ w : Int, 0 ≤ w → w < 8 → (w < 1 ∨ M 0 3 ≤ w) → C1 39 w = 0) ∧ r1 = sumI (fun v => M1 5 (8 + v)) 1 (M 0 3 - 1).toNat ∧ 0 ≤ M1 5 8 ∧ M1 5 8 ≤ 9999))) := by
  have n8 := cn_n hN
  have hd : ∀ v : Int, 1 ≤ v → v < M 0 3 → 1 ≤ M 2 v ∧ M 2 v ≤ 4 := fun v v1 v2 => cn_D hN ⟨v1, v2⟩
  refine wp2_K (fun Q hQ => ?_)
  unfold fx_X5_makeUnit fx_X11_laysUnit
  refine wp2_c1 (cs_fill hN) (fun _ C1 p => ?_)
  obtain ⟨p1, p2⟩ := p
  refine wp2_c2 (pm_copies (k1 := 5) (k2 := 4) M (by decide)) (fun _ M1 q => ?_)
  obtain ⟨q1, q2⟩ := q
  refine wp2_lt2 ?_
  refine wp2_R1 (fun z M2 => (1 ≤ z ∧ z ≤ M 0 3) ∧ tp_fr [5] M M2 ∧ M2 5 8 = M 4 8 ∧ ∀ v : Int, 1 ≤ v → v < z → M2 5 (8 + v) = 2 * (M 2 v - 1)) (fun z _ => (8 - z).toNat) ?_ tp_F 1 M1 ⟨by omega, q1, by rw [q2 8, if_pos (by omega)], fun v v1 v2 => by omega⟩ (tp_F_pos (by omega))
  intro rec z M2 hI hrec
  obtain ⟨i1, i2, i3, i4⟩ := hI
  have e0 : M2 0 = M 0 := i2 0 (by simp)
  have e2 : M2 2 = M 2 := i2 2 (by simp)
  have e3 : M2 3 = M 3 := i2 3 (by simp)
  unfold fx_X11_laysUnit_L13
  rw [e0, e2, w32_id (show -2147483648 ≤ z ∧ z < 2147483648 by omega), w32_id (show -2147483648 ≤ M 0 3 ∧ M 0 3 < 2147483648 by omega)]
  by_cases hz : z < M 0 3
  · rw [if_pos hz, w32_id (show -2147483648 ≤ 8 + z ∧ 8 + z < 2147483648 by omega)]
    refine wp2_ck2 (by omega) ?_
    refine wp2_ck2 (by omega) ?_
    refine wp2_lm2 ?_
    refine wp2_lt2 ?_
    refine hrec _ _ ⟨by omega, fr_up i2 (by simp), by rw [up_j _ _ _ (by omega)]; exact i3, fun v v1 v2 => ?_⟩ (by omega)
    rw [up_c]
    by_cases hv : v = z
    · rw [if_pos (by omega), hv]
    · rw [if_neg (by omega)]; exact i4 v v1 (by omega)
  · rw [if_neg hz]
    clear hrec
    have hN1 : nC C1 (M 0 3) (M 2) (M 3) := nC_fr hN (p1 5 (by simp)) (p1 6 (by simp)) (p1 7 (by simp)) (p1 8 (by simp)) (p1 9 (by simp))
    refine wp2_call (w2_calm5 (C := C1) (M := M2) (h := fun v => 2 * (M 2 v - 1)) (S := 7 * 6) (by rw [e0, e2, e3]; exact hN1) (fun v v1 v2 => by
      rw [e0] at v2
      have := hd v v1 v2
      rw [p2 v (by omega) (by omega), if_pos ⟨v1, v2⟩, i4 v v1 (by omega)]
      exact ⟨rfl, rfl, by omega⟩) (by rw [e0]; exact sum_le n8 (by decide) (fun v v1 v2 => by have := hd v v1 v2; omega)) (by decide) (by rw [i3]; exact h4)) (fun r1 C2 r2 M3 q => ?_)
    obtain ⟨rfl, s1, s2, s3, s4⟩ := q
    rw [e0, e2] at s4
    have fC2 : tp_fr [37, 38, 39] C C2 := fr_tr (fr_mono p1 (by simp)) (fr_mono s1 (by simp))
    have fM3 : tp_fr [5, 15] M M3 := fr_tr (fr_mono i2 (by simp)) (fr_mono s2 (by simp))
    rcases s4 with rfl | ⟨s4, s5, s6⟩
    · rw [show w32 (-3) = -3 from rfl, if_pos (by decide), if_pos (by decide)]
      exact wp2_some (hQ _ _ _ _ ⟨fC2, fM3, Or.inl ⟨rfl, rfl⟩⟩)
    · rw [w32_id (show -2147483648 ≤ r1 ∧ r1 < 2147483648 by omega), if_neg (show ¬ r1 < 0 by omega), if_neg (show ¬ r1 < 0 by omega)]
      refine wp2_lt1 ?_
      refine wp2_lt2 ?_
      have k0 : M3 0 = M 0 := fM3 0 (by simp)
      have k2 : M3 2 = M 2 := fM3 2 (by simp)
      have k3 : M3 3 = M 3 := fM3 3 (by simp)
      refine wp2_L1 (fun y C3 => (0 ≤ y ∧ y ≤ 8) ∧ tp_fr [39] C2 C3 ∧ ∀ u : Int, 0 ≤ u → u < y → C3 39 u = C2 37 u) (fun y _ => (8 - y).toNat) ?_ tp_F 0 C2 ⟨by omega, fr_rf, fun u u1 u2 => by omega⟩ (tp_F_pos (by omega))
      intro rec1 y C3 hI1 hrec1
      obtain ⟨j1, j2, j3⟩ := hI1
      unfold fx_X5_makeUnit_L18
      rw [w32_id (show -2147483648 ≤ y ∧ y < 2147483648 by omega)]
      by_cases hy : y < 8
      · rw [if_pos hy]
        refine wp2_ck1 (by omega) ?_
        refine wp2_ck1 (by omega) ?_
        refine wp2_lm1 ?_
        refine wp2_lt1 ?_
        refine hrec1 _ _ ⟨by omega, fr_up j2 (by simp), fun u u1 u2 => ?_⟩ (by omega)
        rw [up_c, j2 37 (by simp)]
        by_cases hu : u = y
        · rw [if_pos hu, hu]
        · rw [if_neg hu]; exact j3 u u1 (by omega)
      · rw [if_neg hy]
        clear hrec1
        have fC3 : tp_fr [37, 38, 39] C C3 := fr_tr fC2 (fr_mono j2 (by simp))
        have hN3 : nC C3 (M 0 3) (M 2) (M 3) := nC_fr hN (fC3 5 (by simp)) (fC3 6 (by simp)) (fC3 7 (by simp)) (fC3 8 (by simp)) (fC3 9 (by simp))
        refine wp2_c1 (cs_fill hN3) (fun _ C4 t => ?_)
        obtain ⟨t1, t2⟩ := t
        refine wp2_lt1 ?_
        have n39 : ∀ u : Int, 0 ≤ u → u < 8 → C4 39 u = C2 37 u := fun u u1 u2 => by rw [t1 39 (by simp)]; exact j3 u u1 (by omega)
        refine wp2_L1 (fun y C5 => (0 ≤ y ∧ y ≤ 8) ∧ tp_fr [37] C4 C5 ∧ ∀ u : Int, 0 ≤ u → u < 8 → C5 37 u = if u < y then C4 37 u - C4 39 u else C4 37 u) (fun y _ => (8 - y).toNat) ?_ tp_F 0 C4 ⟨by omega, fr_rf, fun u u1 u2 => by rw [if_neg (by omega)]⟩ (tp_F_pos (by omega))
        intro rec5 y5 C5 hI5 hrec5
        obtain ⟨l1, l2, l3⟩ := hI5
        unfold fx_X5_makeUnit_L49
        rw [w32_id (show -2147483648 ≤ y5 ∧ y5 < 2147483648 by omega)]
        by_cases hy5 : y5 < 8
        · rw [if_pos hy5]
          refine wp2_ck1 (by omega) ?_
          refine wp2_ck1 (by omega) ?_
          refine wp2_ck1 (by omega) ?_
          refine wp2_lm1 ?_
          refine wp2_lt1 ?_
          refine hrec5 _ _ ⟨by omega, fr_up l2 (by simp), fun u u1 u2 => ?_⟩ (by omega)
          rw [up_c, l2 39 (by simp)]
          by_cases hu : u = y5
          · rw [if_pos hu, if_pos (by omega), l3 y5 l1.1 hy5, if_neg (by omega), hu]
          · rw [if_neg hu, l3 u u1 u2]
            by_cases hu2 : u < y5
            · rw [if_pos hu2, if_pos (by omega)]
            · rw [if_neg hu2, if_neg (by omega)]
        · rw [if_neg hy5]
          clear hrec5
          have fC5 : tp_fr [37, 38, 39] C C5 := fr_tr fC3 (fr_tr (fr_mono t1 (by simp)) (fr_mono l2 (by simp)))
          have h37 : ∀ u : Int, 0 ≤ u → u < 8 → C5 37 u = (if 1 ≤ u ∧ u < M 0 3 then 2 * (M 2 u - 1) else 0) - C2 37 u := fun u u1 u2 => by
            rw [l3 u u1 u2, if_pos (by omega), t2 u u1 u2, n39 u u1 u2]
          refine wp2_R1 (fun z M4 => (1 ≤ z ∧ z ≤ M 0 3) ∧ tp_fr [5] M3 M4 ∧ M4 5 8 = M3 5 8 ∧ ∀ v : Int, 1 ≤ v → v < M 0 3 → M4 5 (8 + v) = if v < z then 2 * (M 2 v - 1) - M3 5 (8 + v) else M3 5 (8 + v)) (fun z _ => (8 - z).toNat) ?_ tp_F 1 M3 ⟨by omega, fr_rf, rfl, fun v v1 v2 => by rw [if_neg (by omega)]⟩ (tp_F_pos (by omega))
          intro rec6 z6 M4 hI6 hrec6
          obtain ⟨m1, m2, m3, m4⟩ := hI6
          have x0 : M4 0 = M 0 := by rw [m2 0 (by simp), k0]
          have x2 : M4 2 = M 2 := by rw [m2 2 (by simp), k2]
          have x3 : M4 3 = M 3 := by rw [m2 3 (by simp), k3]
          unfold fx_X11_laysUnit_L62
          rw [x0, x2, w32_id (show -2147483648 ≤ z6 ∧ z6 < 2147483648 by omega), w32_id (show -2147483648 ≤ M 0 3 ∧ M 0 3 < 2147483648 by omega)]
          by_cases hz6 : z6 < M 0 3
          · rw [if_pos hz6, w32_id (show -2147483648 ≤ 8 + z6 ∧ 8 + z6 < 2147483648 by omega)]
            refine wp2_ck2 (by omega) ?_
            refine wp2_ck2 (by omega) ?_
            refine wp2_ck2 (by omega) ?_
            refine wp2_lm2 ?_
            refine wp2_lt2 ?_
            refine hrec6 _ _ ⟨by omega, fr_up m2 (by simp), by rw [up_j _ _ _ (by omega)]; exact m3, fun v v1 v2 => ?_⟩ (by omega)
            rw [up_c]
            by_cases hv : v = z6
            · rw [if_pos (by omega), if_pos (by omega), m4 z6 m1.1 hz6, if_neg (by omega), hv]
            · rw [if_neg (by omega), m4 v v1 v2]
              by_cases hv2 : v < z6
              · rw [if_pos hv2, if_pos (by omega)]
              · rw [if_neg hv2, if_neg (by omega)]
          · rw [if_neg hz6]
            clear hrec6
            have hN5 : nC C5 (M 0 3) (M 2) (M 3) := nC_fr hN (fC5 5 (by simp)) (fC5 6 (by simp)) (fC5 7 (by simp)) (fC5 8 (by simp)) (fC5 9 (by simp))
            refine wp2_call (w2_calm5 (C := C5) (M := M4) (h := fun v => 2 * (M 2 v - 1) - M3 5 (8 + v)) (S := 7 * 6) (by rw [x0, x2, x3]; exact hN5) (fun v v1 v2 => by
              rw [x0] at v2
              have hdv := hd v v1 v2
              obtain ⟨a1, a2, a3⟩ := s5 v v1 v2
              rw [h37 v (by omega) (by omega), if_pos ⟨v1, v2⟩, a1, m4 v v1 v2, if_pos (by omega)]
              exact ⟨rfl, rfl, by omega⟩) (by rw [x0]; exact sum_le n8 (by decide) (fun v v1 v2 => by
              have hdv := hd v v1 v2
              obtain ⟨a1, a2, a3⟩ := s5 v v1 v2
              omega)) (by decide) (by rw [m3]; exact s6)) (fun r5 C6 r6 M5 q => ?_)
            obtain ⟨rfl, u1, u2, u3, u4⟩ := q
            rw [x0, x2] at u4
            have fC6 : tp_fr [37, 38, 39] C C6 := fr_tr fC5 (fr_mono u1 (by simp))
            have fM5 : tp_fr [5, 15] M M5 := fr_tr fM3 (fr_tr (fr_mono m2 (by simp)) (fr_mono u2 (by simp)))
            rcases u4 with rfl | ⟨u4, u5, u6⟩
            · rw [show w32 (-3) = -3 from rfl, if_pos (by decide)]
              exact wp2_some (hQ _ _ _ _ ⟨fC6, fM5, Or.inl ⟨rfl, rfl⟩⟩)
            · rw [w32_id (show -2147483648 ≤ r5 ∧ r5 < 2147483648 by omega), if_neg (show ¬ r5 < 0 by omega)]
              refine wp2_lt1 ?_
              refine wp2_lt1 ?_
              have h6o : ∀ w : Int, 0 ≤ w → w < 8 → (w < 1 ∨ M 0 3 ≤ w) → C6 37 w = 0 := fun w w1 w2 w3 => by
                rw [x0] at u3
                rw [e0] at s3
                rw [u3 w w3, h37 w w1 w2, if_neg (by omega), s3 w w3, p2 w w1 w2, if_neg (by omega)]
                rfl
              refine wp2_of (P1 := fun r C7 => tp_fr [39] C6 C7 ∧ (∀ u : Int, 0 ≤ u → u < 8 → C7 39 u = C6 37 u) ∧ r = sumI (C6 37) 0 8) (P2 := fun r M6 => r = r5 ∧ M6 = M5) ?_ (wp_some ⟨rfl, rfl⟩) (fun r7 C7 r8 M6 a b => ?_)
              · refine wp_lp2 (fun a y C7 => (0 ≤ y ∧ y ≤ 8) ∧ a = sumI (C6 37) 0 y.toNat ∧ tp_fr [39] C6 C7 ∧ ∀ u : Int, 0 ≤ u → u < y → C7 39 u = C6 37 u) (fun _ y _ => (8 - y).toNat) ?_ tp_F 0 0 C6 ⟨by omega, rfl, fr_rf, fun u u1 u2 => by omega⟩ (tp_F_pos (by omega))
                intro rec9 a y9 C7 hI9 hrec9
                obtain ⟨o1, o2, o3, o4⟩ := hI9
                unfold fx_X5_makeUnit_L91
                rw [w32_id (show -2147483648 ≤ y9 ∧ y9 < 2147483648 by omega)]
                by_cases hy9 : y9 < 8
                · rw [if_pos hy9]
                  refine wp_ck (by omega) ?_
                  refine wp_ck (by omega) ?_
                  refine wp_lm ?_
                  refine wp_ck (by omega) ?_
                  refine wp_lt ?_
                  refine wp_lt ?_
                  refine hrec9 _ _ _ ⟨by omega, ?_, fr_up o3 (by simp), fun u u1 u2 => ?_⟩ (by omega)
                  · rw [up_s, o3 37 (by simp), show (y9 + 1).toNat = y9.toNat + 1 by omega]
                    show _ = sumI (C6 37) 0 y9.toNat + C6 37 (0 + (y9.toNat : Int))
                    rw [o2, show 0 + (y9.toNat : Int) = y9 by omega]
                  · rw [up_c, o3 37 (by simp)]
                    by_cases hu : u = y9
                    · rw [if_pos hu, hu]
                    · rw [if_neg hu]; exact o4 u u1 (by omega)
                · rw [if_neg hy9]
                  exact wp_some ⟨o3, fun u u1 u2 => o4 u u1 (by omega), by rw [o2, show y9.toNat = 8 by omega]⟩
              · obtain ⟨a1, a2, a3⟩ := a
                obtain ⟨rfl, rfl⟩ := b
                have hsum : sumI (C6 37) 0 8 = sumI (fun v => M6 5 (8 + v)) 1 (M 0 3 - 1).toNat := by
                  rw [sum_mid n8 (h6o 0 (by decide) (by decide) (by omega)) (fun j j1 j2 => h6o j (by omega) j2 (Or.inr j1))]
                  exact sumI_cg _ _ (fun z z1 z2 => (u5 z z1 (by omega)).1)
                have hb1 : 0 ≤ sumI (C6 37) 0 8 := by
                  have := sumI_mono (f := fun _ => 0) (g := C6 37) 8 0 (fun z z1 z2 => by
                    by_cases hz : 1 ≤ z ∧ z < M 0 3
                    · exact (u5 z hz.1 hz.2).2.1
                    · rw [h6o z z1 (by omega) (by omega)]; omega)
                  rw [sumI_0 (f := fun _ => 0) _ _ (fun _ _ _ => rfl)] at this
                  exact this
                have hb2 := sum_le (f := fun v => M6 5 (8 + v)) (c := 4) n8 (by decide) (fun v v1 v2 => by
                  have := u5 v v1 v2
                  have := hd v v1 v2
                  omega)
                refine hQ _ _ _ _ ⟨fr_tr fC6 (fr_mono a1 (by simp)), fM5, Or.inr ⟨by omega, by omega, fun v v1 v2 => ?_, fun w w1 w2 w3 => ?_, by rw [a3, hsum], u6⟩⟩
                · rw [a2 v (by omega) (by omega)]
                  exact u5 v v1 v2
                · rw [a2 w w1 w2]
                  exact h6o w w1 w2 w3
