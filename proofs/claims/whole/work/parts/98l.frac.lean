/-! THE FRACTION ONCE MORE; the matrices' determinants -/
theorem eu_dvd : ∀ (n : Nat) (a b : Int), eg n a b → eu n a b ∣ a ∧ eu n a b ∣ b := by
  intro n
  induction n with
  | zero =>
    intro a b h
    have hb : b = 0 := h
    show a ∣ a ∧ a ∣ b
    rw [hb]
    exact ⟨Int.dvd_refl a, Int.dvd_zero a⟩
  | succ n ih =>
    intro a b h
    show (if b = 0 then a else eu n b (a % b)) ∣ a ∧ (if b = 0 then a else eu n b (a % b)) ∣ b
    by_cases hb : b = 0
    · rw [if_pos hb, hb]
      exact ⟨Int.dvd_refl a, Int.dvd_zero a⟩
    · rw [if_neg hb]
      have h' : b = 0 ∨ eg n b (a % b) := h
      obtain ⟨i1, i2⟩ := ih b (a % b) (h'.resolve_left hb)
      refine ⟨?_, i1⟩
      have e := Int.emod_add_mul_ediv a b
      have d := Int.dvd_add i2 (Int.dvd_mul_of_dvd_left (c := a / b) i1)
      rw [e] at d
      exact d
theorem x_ldiv_nn {a b : Int} (ha : 0 ≤ a ∧ a < 9000000000000000000) (hb : 0 ≤ b ∧ b < 9000000000000000000) : x_ldiv a b = a / b := by
  unfold x_ldiv
  rw [w64_i ha, w64_i hb, Int.tdiv_eq_ediv_of_nonneg ha.1]
theorem w2_frac3 {a b : Int} (ha : 0 ≤ a ∧ a < 9000000000000000000) (hb : 0 < b ∧ b < 9000000000000000000) : ∃ p q : Int, (∀ C : tp_M, fx_X0_tellFraction a b C = some (0, tp_up (tp_up C 40 3 p) 40 4 q)) ∧ (∀ M : tp_M, fx_X11_entersFraction a b M = some (0, tp_up (tp_up (tp_up (tp_up (tp_up M 0 1 0) 1 0 p) 0 1 (0 + 1)) 1 (0 + 1) q) 0 1 (0 + 1 + 1))) ∧ 0 < q ∧ q < 9000000000000000000 ∧ x_ldiv p q = x_ldiv a b := by
  have he := eg_of 63 a b (by omega) (by
    have : ((2 ^ 63 : Nat) : Int) = 9223372036854775808 := by decide
    omega)
  have hi := eu_in (2 * 63) a b 8999999999999999999 ha.1 (by omega) (by omega) (by omega) (by omega) he
  obtain ⟨v1, v2⟩ := eu_dvd (2 * 63) a b he
  refine ⟨x_ldiv a (eu (2 * 63) a b), x_ldiv b (eu (2 * 63) a b), fun C => ?_, fun M => ?_, ?_⟩
  · unfold fx_X0_tellFraction
    rw [tp_lt_s, tp_lt_s, tp_lt_s, cs_cm (2 * 63) tp_F a b 0 C ha (by omega) he (tp_F_pos (by omega)) (by omega) (by omega)]
    generalize eu (2 * 63) a b = g at *
    have hg : ¬ x_lcmp g 0 = 0 := fun q => by have := (x_lcmp_z (b := g) (by omega)).mp q; omega
    have hg2 : ¬ w64 g = 0 := by rw [w64_i (by omega)]; omega
    simp only [tp_jn1_n, tp_lm_n, if_neg hg, tp_nz_t hg2]
  · have hc : fx_X11_common a b M = some (eu (2 * 63) a b, M) := ps_cm (2 * 63) 200 a b M ha (by omega) he (by omega)
    unfold fx_X11_entersFraction
    rw [hc, tp_bd_s, tp_lt_s, tp_lm_s]
    generalize eu (2 * 63) a b = g at *
    have hg2 : ¬ w64 g = 0 := by rw [w64_i (by omega)]; omega
    rw [tp_nz_t hg2, (pm_enter2 (b := 0) (up_s _ _ _ _)).1, tp_bd_s, tp_nz_t hg2, (pm_enter2 (b := x_ldiv b g) (up_s _ _ _ _)).2, tp_bd_s]
  · generalize eu (2 * 63) a b = g at *
    obtain ⟨p, rfl⟩ := v1
    obtain ⟨q, rfl⟩ := v2
    have hg : 0 < g := hi.1
    have q0 : 0 < q := Int.pos_of_mul_pos_left (b := g) (by rw [Int.mul_comm]; exact hb.1) (by omega)
    have p0 : 0 ≤ p := Classical.byContradiction (fun c => by
      have : g * p < 0 := Int.mul_neg_of_pos_of_neg hg (by omega)
      omega)
    have hp : g * p / g = p := Int.mul_ediv_cancel_left p (by omega)
    have hq : g * q / g = q := Int.mul_ediv_cancel_left q (by omega)
    have hq2 : 1 * q ≤ g * q := Int.mul_le_mul_of_nonneg_right (by omega) (by omega)
    have hp2 : 1 * p ≤ g * p := Int.mul_le_mul_of_nonneg_right (by omega) p0
    rw [x_ldiv_nn ha (by omega), x_ldiv_nn (by omega) (by omega), hp, hq, x_ldiv_nn (by omega) (by omega), x_ldiv_nn ha (by omega), Int.mul_ediv_mul_of_pos _ _ hg]
    exact ⟨q0, by omega, rfl⟩
section LP
variable {D : Nat → Nat} {g : Nat → Nat → Int} {m p c : Nat}
def lpM2 (p m c : Nat) (D : Nat → Nat) (g : Nat → Nat → Int) (x y : Nat) : Int := if y = c + 1 then (if 1 ≤ x ∧ x ≤ m then lprc p D g (x - 1) else 0) else lpM p m D g x y
theorem lpw_bd (i : Nat) : 0 ≤ lpw p D g i ∧ lpw p D g i ≤ ((D i : Nat) : Int) := by
  unfold lpw
  generalize D i = k
  induction k with
  | zero => exact ⟨Int.le_refl 0, Int.le_refl 0⟩
  | succ k ih =>
    show 0 ≤ dt_sum (fun k => if g i k = (p : Int) - 1 then 1 else 0) k + (if g i k = (p : Int) - 1 then 1 else 0) ∧ dt_sum (fun k => if g i k = (p : Int) - 1 then 1 else 0) k + (if g i k = (p : Int) - 1 then 1 else 0) ≤ ((k + 1 : Nat) : Int)
    have : (0 : Int) ≤ (if g i k = (p : Int) - 1 then 1 else 0) ∧ (if g i k = (p : Int) - 1 then 1 else 0) ≤ (1 : Int) := by split <;> omega
    omega
theorem lpM_bd (hD : ∀ i : Nat, i < m → 1 ≤ D i ∧ D i ≤ 4) (x y : Nat) : (lpM p m D g x y).natAbs ≤ 4 := by
  unfold lpM
  by_cases h : 1 ≤ x ∧ x ≤ m
  · rw [if_pos h]
    have h4 := hD (x - 1) (by omega)
    split
    · decide
    · unfold lpR
      split
      · split <;> decide
      · split
        · decide
        · refine tmx_bd ?_
          unfold lpD
          split <;> omega
  · rw [if_neg h]
    split <;> decide
theorem lpM2_bd (hD : ∀ i : Nat, i < m → 1 ≤ D i ∧ D i ≤ 4) (x y : Nat) : (lpM2 p m c D g x y).natAbs ≤ 4 := by
  unfold lpM2
  by_cases h : y = c + 1
  · rw [if_pos h]
    by_cases h1 : 1 ≤ x ∧ x ≤ m
    · rw [if_pos h1]
      have h4 := hD (x - 1) (by omega)
      have hw := lpw_bd (p := p) (D := D) (g := g) (x - 1)
      unfold lprc
      split
      · omega
      · split
        · decide
        · omega
    · rw [if_neg h1]; decide
  · rw [if_neg h]
    exact lpM_bd hD x y
theorem det_lpM (hm : m ≤ 7) (hp : p ≤ m) : dt_det 8 (lpM p m D g) = dt_det m (lpL p D g) := by
  rw [det_frame (A := lpM p m D g) (m := m) (by omega) (fun j hj => ?_) (fun r j h1 h2 h3 => ?_), ← det_lpR hp]
  · refine det_cg (fun i j hi hj => ?_)
    unfold lpM
    rw [if_pos (show 1 ≤ i + 1 ∧ i + 1 ≤ m by omega), if_neg (show ¬ j + 1 = 0 by omega), show i + 1 - 1 = i by omega, show j + 1 - 1 = j by omega]
  · unfold lpM
    rw [if_neg (show ¬ (1 ≤ 0 ∧ 0 ≤ m) by omega)]
    by_cases e : j = 0
    · rw [if_pos e, if_pos e.symm]
    · rw [if_neg e, if_neg (show ¬ 0 = j by omega)]
  · unfold lpM
    rw [if_neg (show ¬ (1 ≤ r ∧ r ≤ m) by omega)]
theorem det_lpM2 (hm : m ≤ 7) (hp : p ≤ m) (hc : c < m) (hcp : ¬ c + 1 = p) : dt_det 8 (lpM2 p m c D g) = dt_det m (lpLC p c D g) := by
  rw [det_frame (A := lpM2 p m c D g) (m := m) (by omega) (fun j hj => ?_) (fun r j h1 h2 h3 => ?_), ← det_lpRC hp hc hcp]
  · refine det_cg (fun i j hi hj => ?_)
    unfold lpM2 lpM lpRC
    rw [if_pos (show 1 ≤ i + 1 ∧ i + 1 ≤ m by omega), if_pos (show 1 ≤ i + 1 ∧ i + 1 ≤ m by omega), if_neg (show ¬ j + 1 = 0 by omega), show i + 1 - 1 = i by omega, show j + 1 - 1 = j by omega]
    by_cases e : j = c
    · rw [if_pos e, if_pos (show j + 1 = c + 1 by omega)]
    · rw [if_neg e, if_neg (show ¬ j + 1 = c + 1 by omega)]
  · unfold lpM2 lpM
    rw [if_neg (show ¬ (1 ≤ 0 ∧ 0 ≤ m) by omega), if_neg (show ¬ (1 ≤ 0 ∧ 0 ≤ m) by omega)]
    by_cases e : j = 0
    · rw [if_pos e, if_neg (show ¬ j = c + 1 by omega), if_pos e.symm]
    · rw [if_neg e, if_neg (show ¬ 0 = j by omega)]
      split <;> rfl
  · unfold lpM2 lpM
    rw [if_neg (show ¬ (1 ≤ r ∧ r ≤ m) by omega), if_neg (show ¬ (1 ≤ r ∧ r ≤ m) by omega)]
    by_cases e : j = c + 1
    · rw [if_pos e, if_neg (show ¬ r = j by omega)]
    · rw [if_neg e]
theorem lp_num (hm : m ≤ 7) (hc : c < m) (hD : ∀ i : Nat, i < m → 1 ≤ D i ∧ D i ≤ 4) (hdet : 1 ≤ dt_det m (lpL p D g)) : (0 ≤ dt_det m (lpLC p c D g) ∧ dt_det m (lpLC p c D g) ≤ 82575360) ∧ dt_det m (lpL p D g) ≤ 82575360 := by
  have h1 := lpAA_nn hc hdet
  have h2 : (mn (lpAA p c m D g) (m - 1) (m - 1) m).natAbs ≤ 82575360 := Nat.le_trans (mn_bd (fun a b ha hb' => lpAA_bd hc hD a b (by omega))) (fb_7 (m - 1 + 1) (by omega))
  have h3 : (dt_det m (lpAA p c m D g)).natAbs ≤ 82575360 := Nat.le_trans (det_bd m _ (fun a b ha hb' => lpAA_bd hc hD a b ha)) (fb_7 m hm)
  rw [lpAA_mn hc] at h1 h2
  rw [lpAA_det hc] at h3
  omega
end LP
theorem lp_pos {n : Int} {D G : Int → Int} {m p : Nat} (hn : nt_net n D G) (hm : (n - 1).toNat = m) (hf : ∀ v : Int, 0 ≤ v → v < n → ∃ d : Nat, nt_far n D G 0 v d) : 1 ≤ dt_det m (lpL p (nD D) (nG G)) := by
  have hD := nt_D hn hm
  obtain ⟨s, -, s2⟩ := ex_tree hn hm hf
  refine det_lpL (s := sg_of (nG G) (dg (nD D) m s)) (fun i hi => ⟨dg (nD D) m s i, dg_lt (fun i hi => (hD i hi).1) m s i (Nat.le_refl m) hi, rfl⟩) s2
