/-! CALMS, the act and the call -/
theorem wp2_R1 {o1 : tp_O} {body : (Int → tp_M → tp_O) → Int → tp_M → tp_O} {Q : Int → tp_M → Int → tp_M → Prop} (Inv : Int → tp_M → Prop) (mu : Int → tp_M → Nat)
    (step : ∀ (rec : Int → tp_M → tp_O) (a0 : Int) (M : tp_M), Inv a0 M → (∀ (b0 : Int) (M1 : tp_M), Inv b0 M1 → mu b0 M1 < mu a0 M → wp2 o1 (rec b0 M1) Q) → wp2 o1 (body rec a0 M) Q) :
    ∀ (n : Nat) (a0 : Int) (M : tp_M), Inv a0 M → mu a0 M < n → wp2 o1 (tp_lp1 body n a0 M) Q := by
  intro n
  induction n with
  | zero => intro a0 M _ h; omega
  | succ n ih =>
    intro a0 M hI hm
    rw [tp_lp1_s]
    exact step _ a0 M hI (fun b0 M1 h1 h2 => ih b0 M1 h1 (by omega))
/-- the reference enters a row, the class waits -/
theorem wp2_enter {o1 : tp_O} {body : (Int → tp_M → tp_O) → Int → tp_M → tp_O} {K : tp_M → tp_O} {g : Int → Int} {n : Int} {M : tp_M} {Q : Int → tp_M → Int → tp_M → Prop} (hn : 1 ≤ n ∧ n ≤ 8) (h1 : M 0 1 = 0)
    (hb : ∀ (rec : Int → tp_M → tp_O) (z : Int) (M1 : tp_M), tp_fr [0, 1] M M1 → (∀ j : Int, ¬ j = 1 → M1 0 j = M 0 j) → 1 ≤ z → z < n → body rec z M1 = tp_bd (fx_X11_enters (g z) M1) (fun _ M2 => rec (z + 1) M2))
    (he : ∀ (rec : Int → tp_M → tp_O) (M1 : tp_M), tp_fr [0, 1] M M1 → (∀ j : Int, ¬ j = 1 → M1 0 j = M 0 j) → body rec n M1 = K M1)
    (hK : ∀ M1 : tp_M, tp_fr [0, 1] M M1 → (∀ j : Int, ¬ j = 1 → M1 0 j = M 0 j) → tdM M1 (n - 1) (fun j => g (j + 1)) → wp2 o1 (K M1) Q) : wp2 o1 (tp_lp1 body tp_F 1 M) Q := by
  refine wp2_R1 (fun z M1 => (1 ≤ z ∧ z ≤ n) ∧ tp_fr [0, 1] M M1 ∧ (∀ j : Int, ¬ j = 1 → M1 0 j = M 0 j) ∧ M1 0 1 = z - 1 ∧ ∀ j : Int, 0 ≤ j → j < z - 1 → M1 1 j = g (j + 1)) (fun z _ => (n - z).toNat) ?_ tp_F 1 _ ⟨by omega, fr_rf, fun _ _ => rfl, by rw [h1]; rfl, fun j j1 j2 => by omega⟩ (tp_F_pos (by omega))
  intro rec z M1 hI hrec
  obtain ⟨i1, i2, i3, i4, i5⟩ := hI
  by_cases hz : z < n
  · rw [hb rec z M1 i2 i3 i1.1 hz, pm_enters i4 (by omega), tp_bd_s]
    refine hrec _ _ ⟨by omega, fr_up (fr_up i2 (by simp)) (by simp), fun j hj => ?_, by rw [up_s]; omega, fun j j1 j2 => ?_⟩ (by omega)
    · rw [up_j _ _ _ hj, up_k _ _ _ (by decide)]; exact i3 j hj
    · rw [up_k _ _ _ (by decide), up_c]
      by_cases hj : j = z - 1
      · rw [if_pos hj, hj, show z - 1 + 1 = z by omega]
      · rw [if_neg hj]; exact i5 j j1 (by omega)
  · have hzn : z = n := by omega
    subst hzn
    rw [he rec M1 i2 i3]
    exact hK M1 i2 i3 ⟨i4, i5⟩
theorem w2_calm {kr : Nat} (hk : kr = 4 ∨ kr = 5) {C M : tp_M} {h : Int → Int} {S : Int} (hN : nC C (M 0 3) (M 2) (M 3)) (hc : ∀ v : Int, 1 ≤ v → v < M 0 3 → C 37 v = h v ∧ M kr (8 + v) = h v ∧ 0 ≤ h v) (hT : sumI h 1 (M 0 3 - 1).toNat ≤ S) (hS : S ≤ 100000000) (h8 : 0 ≤ M kr 8 ∧ M kr 8 ≤ 9999) : wp2 (fx_X5_calm C) (fx_X11_calmed kr 17 M) (fun r1 C1 r2 M1 => r1 = r2 ∧ tp_fr [37, 38] C C1 ∧ tp_fr [15, kr] M M1 ∧ (∀ w : Int, (w < 1 ∨ M 0 3 ≤ w) → C1 37 w = C 37 w) ∧ (∀ j : Int, ¬ (8 ≤ j ∧ j < 16) → M1 kr j = M kr j) ∧ (r2 = -3 ∨ ((0 ≤ r2 ∧ r2 ≤ 9999) ∧ (∀ v : Int, 1 ≤ v → v < M 0 3 → (C1 37 v = M1 kr (8 + v) ∧ 0 ≤ C1 37 v ∧ C1 37 v < M 2 v) ∧ C1 38 v = M1 15 v ∧ 0 ≤ M1 15 v ∧ M1 15 v ≤ 9999) ∧ M1 kr 8 = min 9999 (M kr 8 + sumI (fun u => wy (M 2) (M 3) u 0 * M1 15 u) 1 (M 0 3 - 1).toNat)))) := by
  have n8 := cn_n hN
  refine wp2_of (cs_calm hN (h := h) (fun v v1 v2 => ⟨(hc v v1 v2).1, (hc v v1 v2).2.2⟩) hT hS) (ps_calmed hk (M := M) (h := h) (S := S) hN.2.1 (fun v v1 v2 => ⟨(hc v v1 v2).2.1, (hc v v1 v2).2.2⟩) hT hS h8) (fun r1 C1 r2 M1 p q => ?_)
  obtain ⟨x, p1, p2, p3, p4⟩ := p
  obtain ⟨y, q1, q2, q3, q4⟩ := q
  rcases res_u p1 q1 (by omega) with ⟨u1, u2⟩ | ⟨u1, u2, u3⟩
  · exact ⟨by rw [u1, u2], p2, q2, p4, q3, Or.inl u2⟩
  · rcases q4 with q4 | ⟨q4, q5⟩
    · omega
    · refine ⟨u2, p2, q2, p4, q3, Or.inr ⟨by omega, fun v v1 v2 => ?_, ?_⟩⟩
      · obtain ⟨a1, a2⟩ := u3 v v1 v2
        obtain ⟨⟨b1, b2⟩, b3⟩ := p3 v v1 v2
        obtain ⟨c1, c2, c3⟩ := q4 v v1 v2
        have he : hp (M 0 3) (M 2) (M 3) h x v = hp (M 0 3) (M 2) (M 3) h y v := by
          unfold hp
          rw [a1, sumI_cg (f := fun u => wy (M 2) (M 3) u v * x u) (g := fun u => wy (M 2) (M 3) u v * y u) _ _ (fun z z1 z2 => by rw [(u3 z z1 (by omega)).1])]
        have hy0 := q1.1 v v1 v2
        have hsum : y v ≤ r2 := by
          rcases q1.2.2 with ⟨w1, -, -⟩ | ⟨w1, -⟩
          · rw [w1]; exact le_tot q1.1 ⟨v1, v2⟩
          · omega
        exact ⟨⟨by rw [b1, c1, he], b2, by rw [b1]; exact a2⟩, by rw [b3, c3, a1], by rw [c3]; exact hy0, by rw [c3]; omega⟩
      · rw [q5]
        rw [sumI_cg (f := fun u => wy (M 2) (M 3) u 0 * y u) (g := fun u => wy (M 2) (M 3) u 0 * M1 15 u) _ _ (fun z z1 z2 => by rw [(q4 z z1 (by omega)).2.2])]
theorem cs_load {k : Nat} (hk : ¬ k = 37) (C : tp_M) : wp (fx_X5_load k 8 C) (fun _ C1 => tp_fr [37] C C1 ∧ ∀ u : Int, 0 ≤ u → u < 8 → C1 37 u = C k u) := by
  refine wp_K (fun Q hQ => ?_)
  unfold fx_X5_load
  refine wp_lt ?_
  refine wp_lp1 (fun z C1 => (0 ≤ z ∧ z ≤ 8) ∧ tp_fr [37] C C1 ∧ ∀ u : Int, 0 ≤ u → u < z → C1 37 u = C k u) (fun z _ => (8 - z).toNat) ?_ tp_F 0 C ⟨by omega, fr_rf, fun u u1 u2 => by omega⟩ (tp_F_pos (by omega))
  intro rec z C1 hI hrec
  obtain ⟨i1, i2, i3⟩ := hI
  have e : C1 k = C k := i2 k (by simp; omega)
  unfold fx_X5_load_L2
  by_cases hz : z < 8
  · simp (disch := omega) only [↓tp_lm_n, ↓tp_lt_n, ↓tp_bd_n, ↓tp_jn0_n, ↓tp_jn1_n, ↓tp_jn2_n, ↓tp_jn3_n, w32_id, if_pos, if_neg, if_true, if_false, tp_ck_t, tp_nz_t, tp_gd_i]
    refine hrec _ _ ⟨by omega, fr_up i2 (by simp), fun u u1 u2 => ?_⟩ (by omega)
    rw [up_c]
    by_cases hu : u = z
    · rw [if_pos hu, hu, e]
    · rw [if_neg hu]; exact i3 u u1 (by omega)
  · simp (disch := omega) only [↓tp_lm_n, ↓tp_lt_n, ↓tp_bd_n, ↓tp_jn0_n, ↓tp_jn1_n, ↓tp_jn2_n, ↓tp_jn3_n, w32_id, if_pos, if_neg, if_true, if_false, tp_ck_t, tp_nz_t, tp_gd_i]
    exact wp_some (hQ _ _ ⟨i2, fun u u1 u2 => i3 u u1 (by omega)⟩)
theorem cs_pour {k : Nat} (hk : ¬ k = 37) (C : tp_M) : wp (fx_X5_pour k 8 C) (fun _ C1 => tp_fr [37] C C1 ∧ ∀ u : Int, 0 ≤ u → u < 8 → C1 37 u = C 37 u + C k u) := by
  refine wp_K (fun Q hQ => ?_)
  unfold fx_X5_pour
  refine wp_lt ?_
  refine wp_lp1 (fun z C1 => (0 ≤ z ∧ z ≤ 8) ∧ tp_fr [37] C C1 ∧ ∀ u : Int, 0 ≤ u → u < 8 → C1 37 u = if u < z then C 37 u + C k u else C 37 u) (fun z _ => (8 - z).toNat) ?_ tp_F 0 C ⟨by omega, fr_rf, fun u u1 u2 => by rw [if_neg (by omega)]⟩ (tp_F_pos (by omega))
  intro rec z C1 hI hrec
  obtain ⟨i1, i2, i3⟩ := hI
  have e : C1 k = C k := i2 k (by simp; omega)
  unfold fx_X5_pour_L2
  by_cases hz : z < 8
  · simp (disch := omega) only [↓tp_lm_n, ↓tp_lt_n, ↓tp_bd_n, ↓tp_jn0_n, ↓tp_jn1_n, ↓tp_jn2_n, ↓tp_jn3_n, w32_id, if_pos, if_neg, if_true, if_false, tp_ck_t, tp_nz_t, tp_gd_i]
    refine hrec _ _ ⟨by omega, fr_up i2 (by simp), fun u u1 u2 => ?_⟩ (by omega)
    rw [up_c]
    by_cases hu : u = z
    · rw [if_pos hu, if_pos (by omega), i3 z i1.1 hz, if_neg (by omega), e, hu]
    · rw [if_neg hu, i3 u u1 u2]
      by_cases hu2 : u < z
      · rw [if_pos hu2, if_pos (by omega)]
      · rw [if_neg hu2, if_neg (by omega)]
  · simp (disch := omega) only [↓tp_lm_n, ↓tp_lt_n, ↓tp_bd_n, ↓tp_jn0_n, ↓tp_jn1_n, ↓tp_jn2_n, ↓tp_jn3_n, w32_id, if_pos, if_neg, if_true, if_false, tp_ck_t, tp_nz_t, tp_gd_i]
    exact wp_some (hQ _ _ ⟨i2, fun u u1 u2 => by rw [i3 u u1 u2, if_pos (by omega)]⟩)
/-- the crowds in all -/
theorem row_tot {P W : Int → Int} {hh s : Int} {R : Int → Int} {n : Int} {D : Int → Int} {B : Int} (hn : 2 ≤ n ∧ n ≤ 8) (g : sm_row P W hh s R n D B) : sumI (fun v => R (8 + v)) 1 (n - 1).toNat ≤ 7 * B := by
  have := sm_walkers hn g
  omega
/-- what calm left is what now is -/
theorem cs_settle {C : tp_M} {n : Int} {D G x : Int → Int} {c1 : Int} {K : tp_M → tp_O} {Q : Int → tp_M → Prop} (hN : nC C n D G) (hx : ∀ v : Int, 1 ≤ v → v < n → C 38 v = x v ∧ 0 ≤ x v ∧ x v ≤ 9999) (h2 : 0 ≤ C 25 2 ∧ C 25 2 ≤ 9999) (hK : ∀ C1 : tp_M, tp_fr [25, 27] C C1 → C1 25 3 = C 25 3 → C1 25 2 = min 9999 (C 25 2 + sumI (fun u => wy D G u 0 * x u) 1 (n - 1).toNat) → (∀ v : Int, C1 27 v = if 1 ≤ v ∧ v < n then C 37 v else C 27 v) → wp (K C1) Q) : wp (tp_lp1 (fx_X10_actCalms_L34 c1 K) tp_F 1 C) Q := by
  have n8 := cn_n hN
  have i0 : pu_in 0 := (by unfold pu_in; omega)
  refine wp_lp1 (fun z C1 => ∃ k : Nat, z = 1 + (k : Int) ∧ z ≤ n ∧ tp_fr [25, 27] C C1 ∧ C1 25 3 = C 25 3 ∧ C1 25 2 = min 9999 (C 25 2 + sumI (fun u => wy D G u 0 * x u) 1 k) ∧ 0 ≤ sumI (fun u => wy D G u 0 * x u) 1 k ∧ ∀ v : Int, C1 27 v = if 1 ≤ v ∧ v < z then C 37 v else C 27 v) (fun z _ => (8 - z).toNat) ?_ tp_F 1 C ⟨0, rfl, by omega, fr_rf, rfl, ?_, Int.le_refl 0, fun v => by rw [if_neg (by omega)]⟩ (tp_F_pos (by omega))
  · intro rec z C1 hI hrec
    obtain ⟨k, rfl, i1, i2, i3, i4, i5, i6⟩ := hI
    have hN1 : nC C1 n D G := nC_fr hN (i2 5 (by simp)) (i2 6 (by simp)) (i2 7 (by simp)) (i2 8 (by simp)) (i2 9 (by simp))
    have e37 : C1 37 = C 37 := i2 37 (by simp)
    have e38 : C1 38 = C 38 := i2 38 (by simp)
    unfold fx_X10_actCalms_L34
    rw [cn_crossings hN1, tp_bd_s, w32_id (show -2147483648 ≤ 1 + (k : Int) ∧ 1 + (k : Int) < 2147483648 by omega), w32_id (show -2147483648 ≤ n ∧ n < 2147483648 by omega)]
    by_cases hz : 1 + (k : Int) < n
    · have hv : 1 ≤ 1 + (k : Int) ∧ 1 + (k : Int) < n := ⟨by omega, hz⟩
      have d4 := cn_D hN hv
      obtain ⟨x1, x2, x3⟩ := hx _ hv.1 hv.2
      have hw0 := wy_in D G (1 + (k : Int)) 0
      have hw4 := wy_le (D := D) (G := G) (u := 1 + (k : Int)) (v := 0) (by omega)
      have hm0 : 0 ≤ wy D G (1 + (k : Int)) 0 * x (1 + (k : Int)) := Int.mul_nonneg hw0 x2
      have hm1 : wy D G (1 + (k : Int)) 0 * x (1 + (k : Int)) ≤ 4 * x (1 + (k : Int)) := Int.mul_le_mul_of_nonneg_right (by omega) x2
      rw [if_pos hz]
      refine wp_ck (by omega) ?_
      refine wp_ck (by omega) ?_
      refine wp_lm ?_
      refine wp_ck (by omega) ?_
      generalize hC2 : tp_up C1 27 (1 + (k : Int)) (C1 37 (1 + (k : Int))) = C2
      have e2 : ∀ c : Nat, ¬ c = 27 → C2 c = C1 c := fun c hc => by rw [← hC2, up_k _ _ _ hc]
      have hN2 : nC C2 n D G := nC_fr hN1 (e2 5 (by decide)) (e2 6 (by decide)) (e2 7 (by decide)) (e2 8 (by decide)) (e2 9 (by decide))
      rw [cn_waysTo hN2 hv i0, tp_bd_s, e2 38 (by decide), e38, x1]
      unfold fx_X2_house
      have hmc : x (1 + (k : Int)) * nt_ways G (1 + (k : Int)) 0 (D (1 + (k : Int))).toNat = wy D G (1 + (k : Int)) 0 * x (1 + (k : Int)) := Int.mul_comm _ _
      rw [tp_lm_s, tp_bd_s, e2 25 (by decide), i4, hmc]
      refine wp_lt ?_
      refine hrec _ _ ⟨k + 1, by omega, by omega, ?_, ?_, ?_, ?_, fun v => ?_⟩ (by omega)
      · refine fr_up ?_ (by simp)
        rw [← hC2]
        exact fr_up i2 (by simp)
      · rw [up_j _ _ _ (by decide), e2 25 (by decide)]
        exact i3
      · rw [up_s, w32_id (by omega)]
        show _ = min 9999 (C 25 2 + (sumI (fun u => wy D G u 0 * x u) 1 k + wy D G (1 + (k : Int)) 0 * x (1 + (k : Int))))
        omega
      · show 0 ≤ sumI (fun u => wy D G u 0 * x u) 1 k + wy D G (1 + (k : Int)) 0 * x (1 + (k : Int))
        omega
      · rw [up_k _ _ _ (by decide), ← hC2, up_c, i6 v, e37]
        by_cases hv2 : v = 1 + (k : Int)
        · rw [if_pos hv2, if_pos (by omega), hv2]
        · rw [if_neg hv2]
          by_cases hv3 : 1 ≤ v ∧ v < 1 + (k : Int)
          · rw [if_pos hv3, if_pos (by omega)]
          · rw [if_neg hv3, if_neg (by omega)]
    · rw [if_neg hz]
      have hkn : (n - 1).toNat = k := by omega
      rw [← hkn] at i4
      exact hK C1 i2 i3 i4 (fun v => by rw [i6 v, show 1 + (k : Int) = n by omega])
  · show C 25 2 = min 9999 (C 25 2 + 0)
    omega
theorem ac_calms {C M : tp_M} {B : Int} (hE : ac_env C M) (h : ac_row C M (M 0 3) (M 2) B) (hB : 99 ≤ B ∧ B ≤ 1000000) : wp2 (fx_X10_actCalms C) (fx_X11_calmsAll M) (ac_post C M B (fun C1 M1 r => if r < 0 then tl_same C M C1 M1 else tdC C1 (M 0 3 - 1) (fun j => w32 (M1 15 (j + 1))) ∧ M1 1 = M 1 ∧ M1 0 = M 0)) := by
  obtain ⟨hN, hR⟩ := hE
  have n8 := cn_n hN
  obtain ⟨g1, g2, g3, g4, g5, g6⟩ := id h
  refine wp2_K (fun Q hQ => ?_)
  unfold fx_X10_actCalms fx_X11_calmsAll
  refine wp2_c1 (cs_load (k := 27) (by decide) C) (fun _ C1 p => ?_)
  obtain ⟨p1, p2⟩ := p
  refine wp2_c2 (pm_copies (k1 := 5) (k2 := 4) M (by decide)) (fun _ M1 q => ?_)
  obtain ⟨q1, q2⟩ := q
  have e0 : M1 0 = M 0 := q1 0 (by simp)
  have e2 : M1 2 = M 2 := q1 2 (by simp)
  have e3 : M1 3 = M 3 := q1 3 (by simp)
  have e4 : M1 4 = M 4 := q1 4 (by simp)
  have hN1 : nC C1 (M 0 3) (M 2) (M 3) := nC_fr hN (p1 5 (by simp)) (p1 6 (by simp)) (p1 7 (by simp)) (p1 8 (by simp)) (p1 9 (by simp))
  refine wp2_call (w2_calm (kr := 4) (Or.inl rfl) (C := C1) (M := M1) (h := fun v => M 4 (8 + v)) (S := 7 * B) (by rw [e0, e2, e3]; exact hN1) (fun v v1 v2 => by
    rw [e0] at v2
    obtain ⟨-, -, t3, t4⟩ := g5 v v1 v2
    rw [p2 v (by omega) (by omega), e4, t3]
    exact ⟨rfl, rfl, t4.1⟩) (by rw [e0]; exact row_tot n8 h) (by omega) (by rw [e4]; exact g2)) (fun r1 C2 r2 M2 q => ?_)
  obtain ⟨rfl, s1, s2, s3, s4, s5⟩ := q
  rw [e0, e2, e3] at s5
  have fC2 : tp_fr [37, 38] C C2 := fr_tr (fr_mono p1 (by simp)) s1
  have fM2 : tp_fr [4, 5, 15] M M2 := fr_tr (fr_mono q1 (by simp)) (fr_mono s2 (by simp))
  refine wp2_lt1 ?_
  refine wp2_lt2 ?_
  rcases s5 with rfl | ⟨s5, s6, s7⟩
  · rw [show w32 (-3) = -3 from rfl, if_pos (by decide), if_pos (by decide)]
    refine wp2_c2 (pm_copies (k1 := 4) (k2 := 5) M2 (by decide)) (fun _ M3 t => ?_)
    obtain ⟨t1, t2⟩ := t
    have f3 : tp_fr [4, 5, 15] M M3 := fr_tr fM2 (fr_mono t1 (by simp))
    refine wp2_some (hQ _ _ _ _ ⟨rfl, ⟨by decide, by decide⟩, fr_mono fC2 (by simp), acM_fr (fr_mono f3 (by simp)), ?_, ?_⟩)
    · unfold ac_row
      rw [fC2 25 (by simp), fC2 26 (by simp), fC2 27 (by simp)]
      refine sm_row_cg (by omega) h (fun _ _ _ => rfl) (fun _ _ _ => rfl) rfl rfl (fun j j1 j2 => ?_)
      rw [t2 j, if_pos ⟨j1, j2⟩, s2 5 (by simp), q2 j, if_pos ⟨j1, j2⟩]
    · simp only [show (-3 : Int) < 0 from by decide, if_true]
      exact ⟨fC2 3 (by simp), fC2 4 (by simp), f3 1 (by simp), by rw [f3 0 (by simp)]⟩
  · rw [w32_id (show -2147483648 ≤ r1 ∧ r1 < 2147483648 by omega), if_neg (show ¬ r1 < 0 by omega), if_neg (show ¬ r1 < 0 by omega)]
    refine wp2_lt1 ?_
    have hN2 : nC C2 (M 0 3) (M 2) (M 3) := nC_fr hN (fC2 5 (by simp)) (fC2 6 (by simp)) (fC2 7 (by simp)) (fC2 8 (by simp)) (fC2 9 (by simp))
    have e25 : C2 25 = C 25 := fC2 25 (by simp)
    have e27 : C2 27 = C 27 := fC2 27 (by simp)
    have e26 : C2 26 = C 26 := fC2 26 (by simp)
    refine wp2_of (P1 := fun r C3 => r = r1 ∧ tp_fr [3, 4, 25, 27] C2 C3 ∧ C3 25 3 = C2 25 3 ∧ C3 25 2 = min 9999 (C2 25 2 + sumI (fun u => wy (M 2) (M 3) u 0 * M2 15 u) 1 (M 0 3 - 1).toNat) ∧ (∀ v : Int, C3 27 v = if 1 ≤ v ∧ v < M 0 3 then C2 37 v else C2 27 v) ∧ tdC C3 (M 0 3 - 1) (fun j => w32 (M2 15 (j + 1)))) (P2 := fun r M3 => r = r1 ∧ M3 = M2) ?_ (wp_some ⟨rfl, rfl⟩) (fun r3 C3 r4 M3 a b => ?_)
    · refine cs_settle (c1 := r1) (x := M2 15) hN2 (fun v v1 v2 => ⟨(s6 v v1 v2).2.1, (s6 v v1 v2).2.2⟩) (by rw [e25, g1]; exact g2) (fun C3 a1 a2 a3 a4 => ?_)
      have hN3 : nC C3 (M 0 3) (M 2) (M 3) := nC_fr hN2 (a1 5 (by simp)) (a1 6 (by simp)) (a1 7 (by simp)) (a1 8 (by simp)) (a1 9 (by simp))
      rw [cn_crossings hN3, tp_bd_s]
      refine wp_call (pc_tellRow (k := 38) (n := M 0 3) ⟨by decide, by decide⟩ (by omega)) (fun _ C4 b => ?_)
      obtain ⟨b1, b2⟩ := b
      have b25 : C4 25 = C3 25 := b1 25 (by simp)
      refine wp_some ⟨rfl, fr_tr (fr_mono a1 (by simp)) (fr_mono b1 (by simp)), by rw [b25]; exact a2, by rw [b25]; exact a3, fun v => by rw [b1 27 (by simp)]; exact a4 v, b2.1, fun j j1 j2 => ?_⟩
      rw [b2.2 j j1 j2, a1 38 (by simp)]
      show w32 (C2 38 (j + 1)) = w32 (M2 15 (j + 1))
      rw [(s6 (j + 1) (by omega) (by omega)).2.1]
    · obtain ⟨rfl, a1, a2, a3, a4, a5⟩ := a
      obtain ⟨rfl, rfl⟩ := b
      have f3 : tp_fr [3, 4, 25, 27, 37, 38] C C3 := fr_tr (fr_mono fC2 (by simp)) (fr_mono a1 (by simp))
      refine hQ _ _ _ _ ⟨rfl, ⟨by omega, by omega⟩, fr_mono f3 (by simp), acM_fr (fr_mono fM2 (by simp)), ?_, ?_⟩
      · have hsum : 0 ≤ sumI (fun u => wy (M 2) (M 3) u 0 * M3 15 u) 1 (M 0 3 - 1).toNat := by
          have := sumI_mono (f := fun _ => 0) (g := fun u => wy (M 2) (M 3) u 0 * M3 15 u) (M 0 3 - 1).toNat 1 (fun z z1 z2 => Int.mul_nonneg (wy_in _ _ _ _) (s6 z z1 (by omega)).2.2.1)
          rw [sumI_0 (f := fun _ => 0) _ _ (fun _ _ _ => rfl)] at this
          exact this
        rw [e4] at s4 s7
        have o16 : M3 4 16 = M 4 16 := s4 16 (by omega)
        refine ⟨by rw [a3, e25, g1, s7], by rw [s7]; omega, by rw [a2, e25, g3, o16], by rw [o16]; exact g4, fun v v1 v2 => ?_, fun v v1 v2 v3 => ?_⟩
        · obtain ⟨t1, t2, -, -⟩ := g5 v v1 v2
          obtain ⟨⟨k1, k2, k3⟩, -⟩ := s6 v v1 v2
          have d4 := cn_D hN (a := v) ⟨v1, v2⟩
          rw [f3 26 (by simp), s4 v (by omega), a4 v, if_pos ⟨v1, v2⟩]
          exact ⟨t1, t2, k1, by rw [← k1]; omega⟩
        · obtain ⟨t1, t2⟩ := g6 v v1 v2 v3
          rw [f3 26 (by simp), a4 v, if_neg (by omega), e27]
          exact ⟨t1, t2⟩
      · simp only [if_neg (show ¬ r4 < 0 by omega)]
        exact ⟨a5, fM2 1 (by simp), fM2 0 (by simp)⟩
theorem st_calms {B : Int} {C M : tp_M} (hB : 1000 ≤ B ∧ B ≤ 600000) (h : Sim B C M) : wp2 (fx_X10_calms C) (fx_X11_calms M) (Ans (B + 1000)) := by
  unfold fx_X10_calms fx_X11_calms
  refine wp2_c1 (wr_c C) (fun _ C1 hC => ?_)
  refine wp2_lm2 ?_
  refine wp2_c2 (wr_m h.2.2.2.2.2.1.2.1) (fun _ M1 hM => ?_)
  obtain ⟨hE, hR⟩ := wr_env h hC hM
  have n8 := cn_n hE.1
  have e3 := hM.2.1 3 (by decide)
  have e2 := hM.1 2 (by simp)
  refine wp2_call (ac_calms hE hR (by omega)) (fun r1 C2 r2 M2 q => ?_)
  obtain ⟨rfl, q2, q3, q4, q5, q6⟩ := q
  have q2' := q2
  unfold ac_in at q2'
  rw [e3, e2] at q5
  refine wp2_lt2 ?_
  refine wp2_jn02 ?_
  rw [w32_id (show -2147483648 ≤ r1 ∧ r1 < 2147483648 by omega)]
  by_cases hr : r1 < 0
  · rw [if_pos hr]
    simp only [if_pos hr] at q6
    exact wp2_call (wr_kept h (B2 := B + 1000) (by omega) hC hM q2 q3 q4 (sm_row_le (by omega) q5) (wr_told h hC hM q6)) (fun _ _ _ _ q => wp2_some q)
  · rw [if_neg hr]
    simp only [if_neg hr] at q6
    obtain ⟨t1, t2, t3⟩ := q6
    refine wp2_lm2 ?_
    refine wp2_lt2 ?_
    have e23 : tp_up M2 0 1 0 0 3 = M1 0 3 := by rw [up_j _ _ _ (by decide), t3]
    refine wp2_enter (g := fun z => w32 (M2 15 z)) (n := M1 0 3) (K := fun M17 => tp_bd (fx_X11_counted r1 M17) fun r8 M9 => some (r8, M9)) (by omega) (up_s _ _ _ _) (fun rec z M4 u1 u2 z1 z2 => ?_) (fun rec M4 u1 u2 => ?_) (fun M4 u1 u2 u3 => ?_)
    · have f3 : M4 0 3 = M1 0 3 := by rw [u2 3 (by decide), e23]
      have f15 : M4 15 = M2 15 := by rw [u1 15 (by simp), up_k _ _ _ (by decide)]
      unfold fx_X11_calms_L25
      rw [f3, f15]
      simp (disch := omega) only [↓tp_lm_n, ↓tp_lt_n, ↓tp_bd_n, ↓tp_jn0_n, ↓tp_jn1_n, ↓tp_jn2_n, ↓tp_jn3_n, w32_id, if_pos, if_neg, if_true, if_false, tp_ck_t, tp_nz_t, tp_gd_i]
    · have f3 : M4 0 3 = M1 0 3 := by rw [u2 3 (by decide), e23]
      unfold fx_X11_calms_L25
      rw [f3, w32_id (show -2147483648 ≤ M1 0 3 ∧ M1 0 3 < 2147483648 by omega), if_neg (by omega)]
    · refine wp2_call (wr_kept h (B2 := B + 1000) (by omega) hC hM q2 q3 ⟨?_, fun j hj => ?_⟩ ?_ ?_) (fun _ _ _ _ q => wp2_some q)
      · exact fr_tr (fr_up q4.1 (by simp)) (fr_mono u1 (by simp))
      · have j1 : ¬ j = 1 := fun q => hj (by simp [q])
        rw [u2 j j1, up_j _ _ _ j1]
        exact q4.2 j hj
      · unfold ac_row
        rw [u1 4 (by simp), up_k _ _ _ (by decide)]
        exact sm_row_le (by omega) q5
      · refine ⟨by rw [t1.1, u3.1], by rw [u3.1]; omega, fun j j1 j2 => ?_⟩
        rw [u3.1] at j2
        rw [t1.2 j j1 j2, u3.2 j j1 j2]
