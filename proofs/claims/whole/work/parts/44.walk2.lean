/-! bits below 256 -/
def bt (a : Int) (j : Nat) : Prop := a.toNat.testBit j = true
theorem bt_or {a v : Int} (ha : 0 ≤ a ∧ a < 256) (hv : 0 ≤ v ∧ v < 8) : (0 ≤ x_or a (x_shl 1 v) ∧ x_or a (x_shl 1 v) < 256) ∧ ∀ j : Nat, bt (x_or a (x_shl 1 v)) j ↔ bt a j ∨ (j : Int) = v := by
  obtain ⟨k, rfl⟩ := Int.eq_ofNat_of_zero_le hv.1
  have hk : (2 ^ k : Nat) ≤ 2 ^ 7 := Nat.pow_le_pow_right (by decide) (by omega)
  have h7 : (2 ^ 7 : Nat) = 128 := by decide
  have htb : ∀ j : Nat, (2 ^ k : Nat).testBit j = decide (k = j) := fun j => Nat.testBit_two_pow
  rw [x_one k (by omega)]
  generalize (2 ^ k : Nat) = p at *
  rw [x_or_nn (by omega) (by omega)]
  have e : ((p : Nat) : Int).toNat = p := by omega
  rw [e]
  have hlt : a.toNat ||| p < 2 ^ 8 := Nat.or_lt_two_pow (by omega) (by omega)
  have h8 : (2 ^ 8 : Nat) = 256 := by decide
  refine ⟨by omega, fun j => ?_⟩
  unfold bt
  rw [Int.toNat_natCast, Nat.testBit_or, htb]
  simp only [Bool.or_eq_true, decide_eq_true_eq]
  exact or_congr Iff.rfl ⟨fun q => by omega, fun q => by omega⟩
theorem bt_ext {a b : Int} (ha : 0 ≤ a ∧ a < 256) (hb : 0 ≤ b ∧ b < 256) (h : ∀ j : Nat, j < 8 → (bt a j ↔ bt b j)) : a = b := by
  have e : a.toNat = b.toNat := by
    apply Nat.eq_of_testBit_eq
    intro j
    by_cases hj : j < 8
    · have := h j hj
      unfold bt at this
      exact Bool.eq_iff_iff.mpr this
    · have h8 : (2 ^ 8 : Nat) ≤ 2 ^ j := Nat.pow_le_pow_right (by decide) (by omega)
      have h9 : (2 ^ 8 : Nat) = 256 := by decide
      rw [Nat.testBit_lt_two_pow (show a.toNat < 2 ^ j by omega), Nat.testBit_lt_two_pow (show b.toNat < 2 ^ j by omega)]
  omega
theorem bt_0 (j : Nat) : ¬ bt 0 j := by unfold bt; simp
theorem bt_one {v : Int} (hv : 0 ≤ v ∧ v < 8) : (0 ≤ x_shl 1 v ∧ x_shl 1 v < 256) ∧ ∀ j : Nat, bt (x_shl 1 v) j ↔ (j : Int) = v := by
  have h := bt_or (a := 0) (by omega) hv
  have e : x_or 0 (x_shl 1 v) = x_shl 1 v := by
    obtain ⟨k, rfl⟩ := Int.eq_ofNat_of_zero_le hv.1
    have hk : (2 ^ k : Nat) ≤ 2 ^ 7 := Nat.pow_le_pow_right (by decide) (by omega)
    have h7 : (2 ^ 7 : Nat) = 128 := by decide
    rw [x_one k (by omega)]
    generalize (2 ^ k : Nat) = p at *
    rw [x_or_nn (by omega) (by omega)]
    simp
  rw [e] at h
  refine ⟨h.1, fun j => ?_⟩
  rw [h.2 j]
  exact ⟨fun q => q.elim (fun w => absurd w (bt_0 j)) id, Or.inr⟩
theorem fZ_P {f : Int → Int → Int} (P : Int → Int → Prop) : ∀ (k : Nat) (lo a : Int), P lo a → (∀ z a : Int, P z a → lo ≤ z → z < lo + (k : Int) → P (z + 1) (f z a)) → P (lo + (k : Int)) (fZ f k lo a) := by
  intro k
  induction k with
  | zero => intro lo a h _; simpa [fZ] using h
  | succ k ih =>
    intro lo a h hs
    have := ih (lo + 1) (f lo a) (hs lo a h (by omega) (by omega)) (fun z a hz z1 z2 => hs z a hz (by omega) (by omega))
    rw [show lo + 1 + (k : Int) = lo + ((k + 1 : Nat) : Int) by omega] at this
    exact this
/-! the reference's walks -/
theorem ps_walkOf {M : tp_M} {f : Int → Int} {s v : Int} (hn : nt_net (M 0 3) (M 2) (M 3)) (hr : rM M f s) (h : rr_ok (M 0 3) (M 2) (M 5)) (hv : 1 ≤ v ∧ v < M 0 3) :
    wp (fx_X11_walkOf v M) (fun r M1 => tp_fr [5, 11, 12, 19] M M1 ∧ ((∃ k : Nat, wk_hm (fun i => (wk (M 2) (M 3) f s (M 5) v i).1) k ∧ r = (k : Int) ∧ M1 5 = (wk (M 2) (M 3) f s (M 5) v k).2 ∧ ∀ u : Int, 0 ≤ u → u < 8 → M1 19 u = wk_cnt (fun i => (wk (M 2) (M 3) f s (M 5) v i).1) k u) ∨ (r = -3 ∧ ∀ i : Nat, i ≤ 999 → ¬ (wk (M 2) (M 3) f s (M 5) v i).1 = 0))) := by
  have n8 := hn.1
  generalize hD : M 2 = D at *
  generalize hG : M 3 = G at *
  generalize hR : M 5 = R at *
  refine wp_K (fun Q hQ => ?_)
  unfold fx_X11_walkOf
  refine wp_lt ?_
  refine wp_lt ?_
  refine wp_lt ?_
  refine wp_lp1 (fun z M1 => (0 ≤ z ∧ z ≤ 8) ∧ tp_fr [19] M M1 ∧ ∀ u : Int, 0 ≤ u → u < z → M1 19 u = 0) (fun z _ => (8 - z).toNat) ?_ tp_F 0 M ⟨by omega, fr_rf, fun u u1 u2 => by omega⟩ (tp_F_pos (by omega))
  intro rec z M1 hI hrec
  obtain ⟨i1, i2, i3⟩ := hI
  unfold fx_X11_walkOf_L7
  by_cases hz : z < 8
  · simp (disch := omega) only [↓tp_lm_n, ↓tp_lt_n, ↓tp_bd_n, ↓tp_jn0_n, ↓tp_jn1_n, ↓tp_jn2_n, ↓tp_jn3_n, w32_id, if_pos, if_neg, tp_ck_t, tp_nz_t, tp_gd_i]
    refine hrec _ _ ⟨by omega, fr_up i2 (by simp), fun u u1 u2 => ?_⟩ (by omega)
    rw [up_c]
    by_cases hu : u = z
    · rw [if_pos hu]
    · rw [if_neg hu]; exact i3 u u1 (by omega)
  · rw [w32_id (by omega), if_neg hz]
    refine wp_lp2 (fun a g M2 => ∃ k : Nat, k ≤ 999 ∧ g = (k : Int) ∧ a = (wk D G f s R v k).1 ∧ (∀ i : Nat, i < k → ¬ (wk D G f s R v i).1 = 0) ∧ tp_fr [5, 11, 12, 19] M M2 ∧ M2 5 = (wk D G f s R v k).2 ∧ ∀ u : Int, 0 ≤ u → u < 8 → M2 19 u = wk_cnt (fun i => (wk D G f s R v i).1) k u) (fun _ g _ => (1000 - g).toNat) ?_ tp_F v 0 M1 ⟨0, by omega, rfl, rfl, fun i hi => by omega, fr_mono i2 (by simp), by rw [i2 5 (by simp)]; exact hR, fun u u1 u2 => i3 u u1 (by omega)⟩ (tp_F_pos (by omega))
    intro rec2 a g M2 hI2 hrec2
    obtain ⟨k, k1, rfl, rfl, j3, j4, j5, j6⟩ := hI2
    obtain ⟨w1, w2⟩ := wk_pos (f := f) (s := s) hn h (show 0 ≤ v ∧ v < M 0 3 by omega) k
    unfold fx_X11_walkOf_L28
    by_cases w0 : (wk D G f s R v k).1 = 0
    · simp (disch := omega) only [↓tp_lm_n, ↓tp_lt_n, ↓tp_bd_n, ↓tp_jn0_n, ↓tp_jn1_n, ↓tp_jn2_n, ↓tp_jn3_n, w32_id, if_pos, if_neg, tp_ck_t, tp_nz_t, tp_gd_i]
      refine wp_some (hQ _ _ ⟨j4, Or.inl ⟨k, ⟨?_, k1, w0, j3⟩, rfl, j5, j6⟩⟩)
      have : ¬ k = 0 := fun q => by
        rw [q] at w0
        have w0 : v = 0 := w0
        omega
      omega
    · have hv2 : 1 ≤ (wk D G f s R v k).1 ∧ (wk D G f s R v k).1 < M 0 3 := by omega
      by_cases hk : k < 999
      · generalize hM3 : tp_up M2 19 (wk D G f s R v k).1 (M2 19 (wk D G f s R v k).1 + 1) = M3
        have e3 : ∀ c : Nat, ¬ c = 19 → M3 c = M2 c := fun c hc => by rw [← hM3, up_k _ _ _ hc]
        have e30 : M3 0 = M 0 := by rw [e3 0 (by decide), j4 0 (by simp)]
        have e32 : M3 2 = D := by rw [e3 2 (by decide), j4 2 (by simp), hD]
        have e33 : M3 3 = G := by rw [e3 3 (by decide), j4 3 (by simp), hG]
        have e39 : M3 9 = M 9 := by rw [e3 9 (by decide), j4 9 (by simp)]
        have e35 : M3 5 = (wk D G f s R v k).2 := by rw [e3 5 (by decide), j5]
        simp (disch := omega) only [↓tp_lm_n, ↓tp_lt_n, ↓tp_bd_n, ↓tp_jn0_n, ↓tp_jn1_n, ↓tp_jn2_n, ↓tp_jn3_n, w32_id, if_pos, if_neg, tp_ck_t, tp_nz_t, tp_gd_i, hM3]
        refine wp_call (ps_step (kr := 5) (M := M3) (f := f) (s := s) (v := (wk D G f s R v k).1) (Or.inr rfl) (ps_mk (by rw [e30, e32, e33]; exact hn) ⟨by rw [e30]; exact hr.1, hr.2.1, by rw [e39]; exact hr.2.2⟩ (by rw [e30, e32, e35]; exact w2) (by rw [e30]; exact hv2))) (fun r M4 q => ?_)
        obtain ⟨q1, q2, q3⟩ := q
        rw [e33, e35] at q1
        rw [e32, e33, e35] at q3
        have hws := wk_s w0
        refine hrec2 _ _ _ ⟨k + 1, by omega, by omega, by rw [hws, q1], fun i hi => ?_, ?_, by rw [hws]; exact q3, fun u u1 u2 => ?_⟩ (by omega)
        · by_cases hik : i < k
          · exact j3 i hik
          · rw [show i = k by omega]; exact w0
        · refine fr_tr ?_ (fr_mono q2 (by simp))
          rw [← hM3]
          exact fr_up j4 (by simp)
        · rw [q2 19 (by simp), ← hM3, up_c]
          unfold wk_cnt
          by_cases hu : u = (wk D G f s R v k).1
          · rw [if_pos hu, if_pos hu.symm, ← hu, j6 u u1 u2]
          · rw [if_neg hu, if_neg (fun q => hu q.symm), j6 u u1 u2]; omega
      · simp (disch := omega) only [↓tp_lm_n, ↓tp_lt_n, ↓tp_bd_n, ↓tp_jn0_n, ↓tp_jn1_n, ↓tp_jn2_n, ↓tp_jn3_n, w32_id, if_pos, if_neg, tp_ck_t, tp_nz_t, tp_gd_i]
        refine wp_some (hQ _ _ ⟨j4, Or.inr ⟨rfl, fun i hi => ?_⟩⟩)
        by_cases hik : i < k
        · exact j3 i hik
        · rw [show i = k by omega]; exact w0
theorem rw_back (R : Int → Int) (w x : Int) : rw_add (rw_add R w x) w (-x) = R := by
  funext j
  unfold rw_add
  split <;> omega
theorem rr_add {n : Int} {D R : Int → Int} {w x : Int} (hn : n ≤ 8) (h : rr_ok n D R) (hw : 1 ≤ w ∧ w < n) : rr_ok n D (rw_add R w x) := by
  obtain ⟨h1, h2, h3⟩ := h
  have e (j : Int) (hj : ¬ j = 8 + w) : rw_add R w x j = R j := if_neg hj
  exact ⟨by rw [e 8 (by omega)]; exact h1, by rw [e 16 (by omega)]; exact h2, fun v v1 v2 => by rw [e v (by omega)]; exact h3 v v1 v2⟩
theorem ps_walksOne {M : tp_M} {f : Int → Int} {s v B : Int} (hn : nt_net (M 0 3) (M 2) (M 3)) (hr : rM M f s) (h : rr_ok (M 0 3) (M 2) (M 4)) (hv : 1 ≤ v ∧ v < M 0 3) (hc : 1 ≤ M 4 (8 + v) ∧ M 4 (8 + v) ≤ 1000000) :
    wp (fx_X11_walksOne v M) (fun r M1 => tp_fr [0, 4, 5, 11, 12] M M1 ∧ (∀ j : Int, ¬ j = 25 → M1 0 j = M 0 j) ∧ ((∃ k : Nat, wk_hm (fun i => (wk (M 2) (M 3) f s (rw_add (M 4) v (-1)) v i).1) k ∧ r = (k : Int) ∧ M1 4 = (wk (M 2) (M 3) f s (rw_add (M 4) v (-1)) v k).2 ∧ (0 ≤ M1 0 25 ∧ M1 0 25 < 256) ∧ ∀ j : Nat, j < 8 → (bt (M1 0 25) j ↔ ∃ i : Nat, i ≤ k ∧ (wk (M 2) (M 3) f s (rw_add (M 4) v (-1)) v i).1 = (j : Int))) ∨ (r = -3 ∧ (∀ i : Nat, i ≤ 999 → ¬ (wk (M 2) (M 3) f s (rw_add (M 4) v (-1)) v i).1 = 0) ∧ ∀ j : Int, 0 ≤ j → j < 17 → M1 4 j = M 4 j))) := by
  have n8 := hn.1
  generalize hD : M 2 = D at *
  generalize hG : M 3 = G at *
  generalize hR : rw_add (M 4) v (-1) = R at *
  have hR4 : M 4 = rw_add R v 1 := by rw [← hR]; exact (rw_back (M 4) v (-1)).symm
  have hRok : rr_ok (M 0 3) D R := by rw [← hR]; exact rr_add n8.2 h hv
  have iv : pu_in v := (by unfold pu_in; omega)
  refine wp_K (fun Q hQ => ?_)
  unfold fx_X11_walksOne
  rw [pm_isOut (M := M) (n := M 0 3) rfl (by omega) iv]
  simp (disch := omega) only [↓tp_lm_n, ↓tp_lt_n, ↓tp_bd_n, ↓tp_jn0_n, ↓tp_jn1_n, ↓tp_jn2_n, ↓tp_jn3_n, w32_id, if_pos, if_neg, tp_ck_t, tp_nz_t, tp_gd_i, fl01]
  refine wp_call (pm_copies (k1 := 5) (k2 := 4) M (by decide)) (fun _ M1 p => ?_)
  obtain ⟨p1, p2⟩ := p
  have b1 := bt_one (v := v) (by omega)
  refine wp_lp2 (fun a g M2 => ∃ k : Nat, k ≤ 999 ∧ g = (k : Int) ∧ a = (wk D G f s R v k).1 ∧ (∀ i : Nat, i < k → ¬ (wk D G f s R v i).1 = 0) ∧ tp_fr [0, 4, 5, 11, 12] M M2 ∧ (∀ j : Int, ¬ j = 25 → M2 0 j = M 0 j) ∧ M2 4 = (if (wk D G f s R v k).1 = 0 then (wk D G f s R v k).2 else rw_add (wk D G f s R v k).2 (wk D G f s R v k).1 1) ∧ M2 5 = M1 5 ∧ (0 ≤ M2 0 25 ∧ M2 0 25 < 256) ∧ ∀ j : Nat, j < 8 → (bt (M2 0 25) j ↔ ∃ i : Nat, i ≤ k ∧ (wk D G f s R v i).1 = (j : Int))) (fun _ g _ => (1000 - g).toNat) ?_ tp_F v 0 _ ⟨0, by omega, rfl, rfl, fun i hi => by omega, fr_up (fr_mono p1 (by simp)) (by simp), fun j hj => by rw [up_j _ _ _ hj, p1 0 (by simp)], ?_, up_k _ _ _ (by decide), by rw [up_s]; exact b1.1, fun j hj => ?_⟩ (tp_F_pos (by omega))
  · intro rec2 a g M2 hI2 hrec2
    obtain ⟨k, k1, rfl, rfl, j3, j4, j5, j6, j7, j8, j9⟩ := hI2
    obtain ⟨w1, w2⟩ := wk_pos (f := f) (s := s) hn hRok (show 0 ≤ v ∧ v < M 0 3 by omega) k
    unfold fx_X11_walksOne_L47
    by_cases w0 : (wk D G f s R v k).1 = 0
    · simp (disch := omega) only [↓tp_lm_n, ↓tp_lt_n, ↓tp_bd_n, ↓tp_jn0_n, ↓tp_jn1_n, ↓tp_jn2_n, ↓tp_jn3_n, w32_id, if_pos, if_neg, tp_ck_t, tp_nz_t, tp_gd_i]
      rw [if_pos w0] at j6
      refine wp_some (hQ _ _ ⟨j4, j5, Or.inl ⟨k, ⟨?_, k1, w0, j3⟩, rfl, j6, j8, j9⟩⟩)
      have : ¬ k = 0 := fun q => by
        rw [q] at w0
        have w0 : v = 0 := w0
        omega
      omega
    · rw [if_neg w0] at j6
      have hv2 : 1 ≤ (wk D G f s R v k).1 ∧ (wk D G f s R v k).1 < M 0 3 := by omega
      have e20 : M2 0 3 = M 0 3 := j5 3 (by decide)
      have e22 : M2 2 = D := by rw [j4 2 (by simp), hD]
      have e23 : M2 3 = G := by rw [j4 3 (by simp), hG]
      by_cases hk : k < 999
      · simp (disch := omega) only [↓tp_lm_n, ↓tp_lt_n, ↓tp_bd_n, ↓tp_jn0_n, ↓tp_jn1_n, ↓tp_jn2_n, ↓tp_jn3_n, w32_id, if_pos, if_neg, tp_ck_t, tp_nz_t, tp_gd_i]
        refine wp_call (ps_from (kr := 4) (M := M2) (f := f) (s := s) (v := (wk D G f s R v k).1) (Or.inl rfl) (ps_mk (by rw [e20, e22, e23]; exact hn) ⟨by rw [j5 18 (by decide)]; exact hr.1, hr.2.1, by rw [j4 9 (by simp)]; exact hr.2.2⟩ (by rw [e20, e22, j6]; exact rr_add n8.2 w2 hv2) (by rw [e20]; exact hv2))) (fun r M4 q => ?_)
        obtain ⟨q1, q2, q3⟩ := q
        have ew : M2 4 (wk D G f s R v k).1 = (wk D G f s R v k).2 (wk D G f s R v k).1 := by
          rw [j6]; unfold rw_add; rw [if_neg (by omega)]
        rw [e23, ew] at q1
        rw [e22, e23] at q3
        unfold rw_from at q3
        rw [ew, j6, rw_back] at q3
        have hws := wk_s w0
        have hr1 : r = (wk D G f s R v (k + 1)).1 := by rw [hws, q1]
        have hR1 : (wk D G f s R v (k + 1)).2 = rw_step D G f s (wk D G f s R v k).2 (wk D G f s R v k).1 := by rw [hws]
        rw [← q1, ← hR1, hr1] at q3
        have hb := (wk_pos (f := f) (s := s) hn hRok (show 0 ≤ v ∧ v < M 0 3 by omega) (k + 1)).1
        rw [← hr1] at hb
        have e40 : M4 0 = M2 0 := q2 0 (by simp)
        have hbt := bt_or (a := M2 0 25) (v := r) j8 (by omega)
        refine hrec2 _ _ _ ⟨k + 1, by omega, by omega, hr1, fun i hi => ?_, fr_up (fr_tr j4 (fr_mono q2 (by simp))) (by simp), fun j hj => ?_, ?_, ?_, ?_, fun j hj => ?_⟩ (by omega)
        · by_cases hik : i < k
          · exact j3 i hik
          · rw [show i = k by omega]; exact w0
        · rw [up_j _ _ _ hj, e40]; exact j5 j hj
        · rw [up_k _ _ _ (by decide)]; exact q3
        · rw [up_k _ _ _ (by decide), q2 5 (by simp)]; exact j7
        · rw [up_s, e40]; exact hbt.1
        · rw [up_s, e40, hbt.2 j, j9 j hj]
          constructor
          · intro q
            rcases q with ⟨i, h1, h2⟩ | q
            · exact ⟨i, by omega, h2⟩
            · exact ⟨k + 1, by omega, by rw [← hr1]; exact q.symm⟩
          · rintro ⟨i, h1, h2⟩
            by_cases hik : i ≤ k
            · exact Or.inl ⟨i, hik, h2⟩
            · rw [show i = k + 1 by omega, ← hr1] at h2
              exact Or.inr h2.symm
      · simp (disch := omega) only [↓tp_lm_n, ↓tp_lt_n, ↓tp_bd_n, ↓tp_jn0_n, ↓tp_jn1_n, ↓tp_jn2_n, ↓tp_jn3_n, w32_id, if_pos, if_neg, tp_ck_t, tp_nz_t, tp_gd_i]
        refine wp_call (pm_copies (k1 := 4) (k2 := 5) M2 (by decide)) (fun _ M5 p => ?_)
        obtain ⟨t1, t2⟩ := p
        refine wp_some (hQ _ _ ⟨fr_tr j4 (fr_mono t1 (by simp)), fun j hj => by rw [t1 0 (by simp)]; exact j5 j hj, Or.inr ⟨rfl, fun i hi => ?_, fun j h1 h2 => ?_⟩⟩)
        · by_cases hik : i < k
          · exact j3 i hik
          · rw [show i = k by omega]; exact w0
        · rw [t2 j, if_pos ⟨h1, h2⟩, j7, p2 j, if_pos ⟨h1, h2⟩]
  · have w0 : ¬ (wk D G f s R v 0).1 = 0 := by show ¬ v = 0; omega
    rw [if_neg w0, up_k _ _ _ (by decide), p1 4 (by simp)]
    exact hR4
  · rw [up_s, b1.2 j]
    constructor
    · intro q
      exact ⟨0, by omega, q.symm⟩
    · rintro ⟨i, h1, h2⟩
      rw [show i = 0 by omega] at h2
      exact h2.symm
