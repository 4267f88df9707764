/-! THE COMMON MEASURE: both sides -/
def eg : Nat → Int → Int → Prop
  | 0, _, b => b = 0
  | n + 1, a, b => b = 0 ∨ eg n b (a % b)
def eu : Nat → Int → Int → Int
  | 0, a, _ => a
  | n + 1, a, b => if b = 0 then a else eu n b (a % b)
theorem eg_of : ∀ (k : Nat) (a b : Int), 0 ≤ b → b < ((2 ^ k : Nat) : Int) → eg (2 * k) a b := by
  intro k
  induction k with
  | zero =>
    intro a b b0 b1
    have h1 : ((2 ^ 0 : Nat) : Int) = 1 := by decide
    show b = 0
    omega
  | succ k ih =>
    intro a b b0 b1
    rw [show 2 * (k + 1) = (2 * k + 1) + 1 by omega]
    show b = 0 ∨ (a % b = 0 ∨ eg (2 * k) (a % b) (b % (a % b)))
    by_cases hb : b = 0
    · exact Or.inl hb
    · right
      have r0 := Int.emod_nonneg a hb
      have r1 := Int.emod_lt_of_pos a (show 0 < b by omega)
      generalize a % b = r at *
      by_cases hr : r = 0
      · exact Or.inl hr
      · right
        have s0 := Int.emod_nonneg b hr
        have s1 := Int.emod_lt_of_pos b (show 0 < r by omega)
        have s2 := Int.emod_add_mul_ediv b r
        have s3 : 1 ≤ b / r := by
          rw [Int.le_ediv_iff_mul_le (by omega)]
          omega
        have s4 : r * 1 ≤ r * (b / r) := Int.mul_le_mul_of_nonneg_left s3 (by omega)
        have h2 : ((2 ^ (k + 1) : Nat) : Int) = 2 * ((2 ^ k : Nat) : Int) := by
          rw [Nat.pow_succ]; omega
        exact ih r (b % r) s0 (by omega)
theorem eu_in : ∀ (n : Nat) (a b X : Int), 0 ≤ a → a ≤ X → 0 ≤ b → b ≤ X → 0 < a + b → eg n a b → 0 < eu n a b ∧ eu n a b ≤ X := by
  intro n
  induction n with
  | zero =>
    intro a b X a0 a1 b0 b1 p h
    have hb : b = 0 := h
    show 0 < a ∧ a ≤ X
    omega
  | succ n ih =>
    intro a b X a0 a1 b0 b1 p h
    show 0 < (if b = 0 then a else eu n b (a % b)) ∧ (if b = 0 then a else eu n b (a % b)) ≤ X
    by_cases hb : b = 0
    · rw [if_pos hb]; omega
    · rw [if_neg hb]
      have r0 := Int.emod_nonneg a hb
      have r1 := Int.emod_lt_of_pos a (show 0 < b by omega)
      have h' : b = 0 ∨ eg n b (a % b) := h
      exact ih b (a % b) X b0 b1 r0 (by omega) (by omega) (h'.resolve_left hb)
theorem w64_i {a : Int} (h : 0 ≤ a ∧ a < 9000000000000000000) : w64 a = a := w64_id (by omega)
theorem x_lrem_nn {a b : Int} (ha : 0 ≤ a ∧ a < 9000000000000000000) (hb : 0 ≤ b ∧ b < 9000000000000000000) : x_lrem a b = a % b := by
  unfold x_lrem
  rw [w64_i ha, w64_i hb, Int.tmod_eq_emod_of_nonneg ha.1]
theorem x_lcmp_z {b : Int} (hb : 0 ≤ b ∧ b < 9000000000000000000) : x_lcmp b 0 = 0 ↔ b = 0 := by
  unfold x_lcmp
  rw [w64_i hb, w64_i (a := 0) (by omega), if_neg (show ¬ b < 0 by omega)]
  by_cases h : b = 0
  · rw [if_pos h]; exact ⟨fun _ => h, fun _ => rfl⟩
  · rw [if_neg h]; exact ⟨fun q => absurd q (by decide), fun q => absurd q h⟩
theorem ps_cm : ∀ (n f : Nat) (a b : Int) (M : tp_M), (0 ≤ a ∧ a < 9000000000000000000) → (0 ≤ b ∧ b < 9000000000000000000) → eg n a b → n < f → fx_X11_cm f a b M = some (eu n a b, M) := by
  intro n
  induction n with
  | zero =>
    intro f a b M ha hb h hf
    obtain ⟨f, rfl⟩ : ∃ g, f = g + 1 := ⟨f - 1, by omega⟩
    have hb0 : b = 0 := h
    show fx_X11_common_b (fx_X11_cm f) a b M = some (a, M)
    unfold fx_X11_common_b
    rw [if_pos ((x_lcmp_z hb).mpr hb0)]
  | succ n ih =>
    intro f a b M ha hb h hf
    obtain ⟨f, rfl⟩ : ∃ g, f = g + 1 := ⟨f - 1, by omega⟩
    show fx_X11_common_b (fx_X11_cm f) a b M = some (if b = 0 then a else eu n b (a % b), M)
    unfold fx_X11_common_b
    by_cases hb0 : b = 0
    · rw [if_pos ((x_lcmp_z hb).mpr hb0), if_pos hb0]
    · have h' : b = 0 ∨ eg n b (a % b) := h
      have r0 := Int.emod_nonneg a hb0
      have r1 := Int.emod_lt_of_pos a (show 0 < b by omega)
      rw [if_neg (fun q => hb0 ((x_lcmp_z hb).mp q)), if_neg hb0, w64_i hb, tp_nz_t hb0, x_lrem_nn ha hb, ih f b (a % b) M hb (by omega) (h'.resolve_left hb0) (by omega), tp_bd_s]
theorem cs_cm {c1 c3 : Int} {K : Int → tp_M → tp_O} : ∀ (n f : Nat) (a b g : Int) (M : tp_M), (0 ≤ a ∧ a < 9000000000000000000) → (0 ≤ b ∧ b < 9000000000000000000) → eg n a b → n < f → 0 ≤ g → g + (n : Int) < 200 → tp_lp3 (fx_X0_tellFraction_L9 c1 c3 K) f a b g M = K (eu n a b) M := by
  intro n
  induction n with
  | zero =>
    intro f a b g M ha hb h hf g0 g1
    obtain ⟨f, rfl⟩ : ∃ g, f = g + 1 := ⟨f - 1, by omega⟩
    have hb0 : b = 0 := h
    show fx_X0_tellFraction_L9 c1 c3 K (tp_lp3 (fx_X0_tellFraction_L9 c1 c3 K) f) a b g M = K a M
    rw [fx_X0_tellFraction_L9, w32_id (by omega), if_pos (by omega), if_pos ((x_lcmp_z hb).mpr hb0)]
  | succ n ih =>
    intro f a b g M ha hb h hf g0 g1
    obtain ⟨f, rfl⟩ : ∃ g, f = g + 1 := ⟨f - 1, by omega⟩
    show fx_X0_tellFraction_L9 c1 c3 K (tp_lp3 (fx_X0_tellFraction_L9 c1 c3 K) f) a b g M = K (if b = 0 then a else eu n b (a % b)) M
    rw [fx_X0_tellFraction_L9, w32_id (by omega), if_pos (show g < 200 by omega)]
    by_cases hb0 : b = 0
    · rw [if_pos ((x_lcmp_z hb).mpr hb0), if_pos hb0]
    · have h' : b = 0 ∨ eg n b (a % b) := h
      have r0 := Int.emod_nonneg a hb0
      have r1 := Int.emod_lt_of_pos a (show 0 < b by omega)
      rw [if_neg (fun q => hb0 ((x_lcmp_z hb).mp q)), if_neg hb0, w64_i hb, tp_nz_t hb0, x_lrem_nn ha hb, tp_lt_s, tp_lt_s, tp_lt_s, tp_lt_s]
      exact ih f b (a % b) (g + 1) M hb (by omega) (h'.resolve_left hb0) (by omega) (by omega) (by omega)
/-- the fraction a over b, told by both sides -/
theorem w2_frac {a b : Int} (ha : 0 ≤ a ∧ a < 9000000000000000000) (hb : 0 < b ∧ b < 9000000000000000000) : ∃ p q : Int, (∀ C : tp_M, fx_X0_tellFraction a b C = some (0, tp_up (tp_up C 40 3 p) 40 4 q)) ∧ ∀ M : tp_M, fx_X11_entersFraction a b M = some (0, tp_up (tp_up (tp_up (tp_up (tp_up M 0 1 0) 1 0 p) 0 1 (0 + 1)) 1 (0 + 1) q) 0 1 (0 + 1 + 1)) := by
  have he := eg_of 63 a b (by omega) (by
    have : ((2 ^ 63 : Nat) : Int) = 9223372036854775808 := by decide
    omega)
  have hi := eu_in (2 * 63) a b 8999999999999999999 ha.1 (by omega) (by omega) (by omega) (by omega) he
  refine ⟨x_ldiv a (eu (2 * 63) a b), x_ldiv b (eu (2 * 63) a b), fun C => ?_, fun M => ?_⟩
  · unfold fx_X0_tellFraction
    rw [tp_lt_s, tp_lt_s, tp_lt_s, cs_cm (2 * 63) tp_F a b 0 C ha (by omega) he (tp_F_pos (by omega)) (by omega) (by omega)]
    generalize eu (2 * 63) a b = g at *
    have hg : ¬ x_lcmp g 0 = 0 := fun q => by have := (x_lcmp_z (b := g) (by omega)).mp q; omega
    have hg2 : ¬ w64 g = 0 := by rw [w64_i (by omega)]; omega
    simp only [tp_jn1_n, tp_lm_n, if_neg hg, tp_nz_t hg2]
  · have hc : fx_X11_common a b M = some (eu (2 * 63) a b, M) := ps_cm (2 * 63) 200 a b M ha (by omega) he (by omega)
    unfold fx_X11_entersFraction
    rw [hc, tp_bd_s, tp_lt_s, tp_lm_s]
    generalize eu (2 * 63) a b = g at *
    have hg2 : ¬ w64 g = 0 := by rw [w64_i (by omega)]; omega
    rw [tp_nz_t hg2, (pm_enter2 (b := 0) (up_s _ _ _ _)).1, tp_bd_s, tp_nz_t hg2, (pm_enter2 (b := x_ldiv b g) (up_s _ _ _ _)).2, tp_bd_s]
