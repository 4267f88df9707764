/-! what many calls share: scratch, the row told, sums, bits -/
abbrev sc_C : List Nat := [3, 4, 10, 11, 12, 13, 14, 17, 18, 19, 20, 21, 22, 23, 24, 28, 29, 30, 31, 32, 33, 36, 37, 38, 39, 40, 41, 42, 43, 44, 45, 46, 47, 48, 49, 50, 51, 59, 60, 61, 62]
abbrev sc_M : List Nat := [0, 1, 5, 7, 8, 10, 11, 12, 13, 15, 16, 17, 18, 19, 20, 21, 22, 23, 27, 30, 31]
/-- the fields of the reference that are kept -/
def sc_F (M M1 : tp_M) : Prop := ∀ j : Int, j ∈ ([3, 9, 18, 23, 39, 44] : List Int) → M1 0 j = M 0 j
theorem scF_rf (M : tp_M) : sc_F M M := fun _ _ => rfl
theorem scF_of {M M1 : tp_M} (h : M1 0 = M 0) : sc_F M M1 := fun j _ => by rw [h]
theorem scF_tr {M M1 M2 : tp_M} (h : sc_F M M1) (h2 : sc_F M1 M2) : sc_F M M2 := fun j hj => (h2 j hj).trans (h j hj)
theorem scF_up {M M1 : tp_M} {i x : Int} (h : sc_F M M1) (hi : i ∉ ([3, 9, 18, 23, 39, 44] : List Int)) : sc_F M (tp_up M1 0 i x) := fun j hj => by
  rw [up_j _ _ _ (f0_ne hj hi)]; exact h j hj
theorem scF_k {M M1 : tp_M} {k : Nat} {i x : Int} (h : sc_F M M1) (hk : ¬ 0 = k) : sc_F M (tp_up M1 k i x) := fun j hj => by
  rw [up_k _ _ _ hk]; exact h j hj
def tdC (C1 : tp_M) (m : Int) (g : Int → Int) : Prop := C1 3 1 = m ∧ ∀ j : Int, 0 ≤ j → j < m → C1 4 j = g j
def tdM (M1 : tp_M) (m : Int) (g : Int → Int) : Prop := M1 0 1 = m ∧ ∀ j : Int, 0 ≤ j → j < m → M1 1 j = g j
theorem ans_told {B : Int} {C M C1 M1 : tp_M} {r1 r2 m : Int} {g g2 : Int → Int} (h : Sim B C M) (fC : tp_fr sc_C C C1) (fM : tp_fr sc_M M M1) (h0 : sc_F M M1) (hr : r1 = r2) (hm : 0 ≤ m ∧ m ≤ 8) (tC : tdC C1 m g) (tM : tdM M1 m g2) (hg : ∀ j : Int, 0 ≤ j → j < m → w64 (g j) = w64 (g2 j)) : Ans B r1 C1 r2 M1 := by
  refine ⟨by rw [hr], Sim_told h (Int.le_refl B) fC fM (by decide) (by decide) h0 ⟨by rw [tC.1, tM.1], by rw [tM.1]; exact hm, fun j j1 j2 => ?_⟩⟩
  rw [tM.1] at j2
  rw [tC.2 j j1 j2, tM.2 j j1 j2]
  exact hg j j1 j2
theorem ans_same {B : Int} {C M C1 M1 : tp_M} {r1 r2 : Int} (h : Sim B C M) (fC : tp_fr sc_C C C1) (fM : tp_fr sc_M M M1) (h0 : sc_F M M1) (hr : r1 = r2) (e3 : C1 3 1 = C 3 1) (e4 : C1 4 = C 4) (e1 : M1 0 1 = M 0 1) (e2 : M1 1 = M 1) : Ans B r1 C1 r2 M1 := by
  refine ⟨by rw [hr], Sim_told h (Int.le_refl B) fC fM (by decide) (by decide) h0 ?_⟩
  rw [e3, e4, e1, e2]
  exact h.2.1
theorem ans_no {B : Int} {C M : tp_M} {r : Int} (h : Sim B C M) : Ans B r C r (tp_up M 0 0 0) := ⟨rfl, Sim_0 h⟩
/-- the row of a cell told -/
theorem pc_tellRow {C : tp_M} {k : Nat} {n : Int} (hk : ¬ k = 3 ∧ ¬ k = 4) (hn : 1 ≤ n ∧ n ≤ 8) : wp (fx_X8_tellRow k 8 n C) (fun _ C1 => tp_fr [3, 4] C C1 ∧ tdC C1 (n - 1) (fun j => w32 (C k (j + 1)))) := by
  refine wp_K (fun Q hQ => ?_)
  unfold fx_X8_tellRow
  rw [pc_tell, tp_bd_s]
  refine wp_lt ?_
  refine wp_lp1 (fun z C1 => (1 ≤ z ∧ z ≤ n) ∧ tp_fr [3, 4] C C1 ∧ C1 3 1 = z - 1 ∧ ∀ j : Int, 0 ≤ j → j < z - 1 → C1 4 j = w32 (C k (j + 1))) (fun z _ => (n - z).toNat) ?_ tp_F 1 _ ⟨by omega, fr_up fr_rf (by simp), by rw [up_s]; rfl, fun j j1 j2 => by omega⟩ (tp_F_pos (by omega))
  intro rec z C1 hI hrec
  obtain ⟨i1, i2, i3, i4⟩ := hI
  unfold fx_X8_tellRow_L6
  by_cases hz : z < n
  · have e : C1 k = C k := i2 k (by simp; omega)
    rw [e]
    have ha := pc_add (M := C1) (a := w32 (C k z)) i3 (by omega)
    simp (disch := omega) only [↓tp_lm_n, ↓tp_lt_n, ↓tp_bd_n, ↓tp_jn0_n, ↓tp_jn1_n, ↓tp_jn2_n, ↓tp_jn3_n, w32_id, if_pos, if_neg, if_true, if_false, tp_ck_t, tp_nz_t, tp_gd_i, ha]
    refine hrec _ _ ⟨by omega, fr_up (fr_up i2 (by simp)) (by simp), by rw [up_s]; omega, fun j j1 j2 => ?_⟩ (by omega)
    rw [up_k _ _ _ (by decide), up_c]
    by_cases hj : j = z - 1
    · rw [if_pos hj, hj, show z - 1 + 1 = z by omega]
    · rw [if_neg hj]; exact i4 j j1 (by omega)
  · have hzn : z = n := by omega
    simp (disch := omega) only [↓tp_lm_n, ↓tp_lt_n, ↓tp_bd_n, ↓tp_jn0_n, ↓tp_jn1_n, ↓tp_jn2_n, ↓tp_jn3_n, w32_id, if_pos, if_neg, if_true, if_false, tp_ck_t, tp_nz_t, tp_gd_i]
    refine wp_some (hQ _ _ ⟨i2, by rw [i3, hzn], fun j j1 j2 => i4 j j1 (by omega)⟩)
/-- the reference enters a row -/
theorem lp1_enter {body : (Int → tp_M → tp_O) → Int → tp_M → tp_O} {K : tp_M → tp_O} {g : Int → Int} {n : Int} {M : tp_M} {Q : Int → tp_M → Prop} (hn : 1 ≤ n ∧ n ≤ 8) (h1 : M 0 1 = 0)
    (hb : ∀ (rec : Int → tp_M → tp_O) (z : Int) (M1 : tp_M), tp_fr [0, 1] M M1 → (∀ j : Int, ¬ j = 1 → M1 0 j = M 0 j) → 1 ≤ z → z < n → body rec z M1 = tp_bd (fx_X11_enters (g z) M1) (fun _ M2 => rec (z + 1) M2))
    (he : ∀ (rec : Int → tp_M → tp_O) (M1 : tp_M), tp_fr [0, 1] M M1 → (∀ j : Int, ¬ j = 1 → M1 0 j = M 0 j) → body rec n M1 = K M1)
    (hK : ∀ M1 : tp_M, tp_fr [0, 1] M M1 → (∀ j : Int, ¬ j = 1 → M1 0 j = M 0 j) → tdM M1 (n - 1) (fun j => g (j + 1)) → wp (K M1) Q) : wp (tp_lp1 body tp_F 1 M) Q := by
  refine wp_lp1 (fun z M1 => (1 ≤ z ∧ z ≤ n) ∧ tp_fr [0, 1] M M1 ∧ (∀ j : Int, ¬ j = 1 → M1 0 j = M 0 j) ∧ M1 0 1 = z - 1 ∧ ∀ j : Int, 0 ≤ j → j < z - 1 → M1 1 j = g (j + 1)) (fun z _ => (n - z).toNat) ?_ tp_F 1 _ ⟨by omega, fr_rf, fun _ _ => rfl, by rw [h1]; rfl, fun j j1 j2 => by omega⟩ (tp_F_pos (by omega))
  intro rec z M1 hI hrec
  obtain ⟨i1, i2, i3, i4, i5⟩ := hI
  by_cases hz : z < n
  · rw [hb rec z M1 i2 i3 i1.1 hz, pm_enters i4 (by omega), tp_bd_s]
    refine hrec _ _ ⟨by omega, fr_up (fr_up i2 (by simp)) (by simp), fun j hj => ?_, by rw [up_s]; omega, fun j j1 j2 => ?_⟩ (by omega)
    · rw [up_j _ _ _ hj, up_k _ _ _ (by decide)]; exact i3 j hj
    · rw [up_k _ _ _ (by decide), up_c]
      by_cases hj : j = z - 1
      · rw [if_pos hj, hj, show z - 1 + 1 = z by omega]
      · rw [if_neg hj]; exact i5 j j1 (by omega)
  · have hzn : z = n := by omega
    subst hzn
    rw [he rec M1 i2 i3]
    exact hK M1 i2 i3 ⟨i4, i5⟩
theorem td_1C (C : tp_M) (a : Int) : tdC (tp_up (tp_up (tp_up C 3 1 0) 4 0 a) 3 1 1) 1 (fun _ => a) := by
  refine ⟨up_s _ _ _ _, fun j j1 j2 => ?_⟩
  rw [show j = 0 by omega, up_k _ _ _ (by decide), up_s]
theorem td_2C (C : tp_M) (a b : Int) : tdC (tp_up (tp_up (tp_up (tp_up (tp_up C 3 1 0) 4 0 a) 3 1 1) 4 1 b) 3 1 2) 2 (fun j => if j = 0 then a else b) := by
  refine ⟨up_s _ _ _ _, fun j j1 j2 => ?_⟩
  have hj : j = 0 ∨ j = 1 := by omega
  rcases hj with rfl | rfl
  · simp (disch := omega) only [up_k, up_j, up_s]; rfl
  · simp (disch := omega) only [up_k, up_j, up_s]; rfl
theorem td_1M (M : tp_M) (a : Int) : tdM (tp_up (tp_up M 1 0 a) 0 1 (0 + 1)) 1 (fun _ => a) := by
  refine ⟨up_s _ _ _ _, fun j j1 j2 => ?_⟩
  rw [show j = 0 by omega, up_k _ _ _ (by decide), up_s]
theorem td_2M (M : tp_M) (a b : Int) : tdM (tp_up (tp_up (tp_up (tp_up M 1 0 a) 0 1 (0 + 1)) 1 (0 + 1) b) 0 1 (0 + 1 + 1)) 2 (fun j => if j = 0 then a else b) := by
  refine ⟨up_s _ _ _ _, fun j j1 j2 => ?_⟩
  have hj : j = 0 ∨ j = 1 := by omega
  rcases hj with rfl | rfl
  · simp (disch := omega) only [up_k, up_j, up_s]; rfl
  · rw [up_k _ _ _ (by decide), show (0 : Int) + 1 = 1 from rfl, up_s]; rfl
/-- two entered -/
theorem pm_enter2 {M : tp_M} {a b : Int} (h : M 0 1 = 0) : fx_X11_enters a M = some (0, tp_up (tp_up M 1 0 a) 0 1 (0 + 1)) ∧ fx_X11_enters b (tp_up (tp_up M 1 0 a) 0 1 (0 + 1)) = some (0, tp_up (tp_up (tp_up (tp_up M 1 0 a) 0 1 (0 + 1)) 1 (0 + 1) b) 0 1 (0 + 1 + 1)) := ⟨pm_enters h (by decide), pm_enters (up_s _ _ _ _) (by decide)⟩
/-! sums -/
theorem sumI_add (f : Int → Int) (lo : Int) (a : Nat) : ∀ b : Nat, sumI f lo (a + b) = sumI f lo a + sumI f (lo + (a : Int)) b := by
  intro b
  induction b with
  | zero => simp [sumI]
  | succ b ih =>
    show sumI f lo (a + b) + f (lo + ((a + b : Nat) : Int)) = sumI f lo a + (sumI f (lo + (a : Int)) b + f (lo + (a : Int) + (b : Int)))
    rw [ih, show lo + ((a + b : Nat) : Int) = lo + (a : Int) + (b : Int) by omega]
    omega
theorem sumI_0 {f : Int → Int} : ∀ (k : Nat) (a : Int), (∀ z : Int, a ≤ z → z < a + (k : Int) → f z = 0) → sumI f a k = 0 := by
  intro k a h
  have := sumI_in (g := f) (lo := 0) (hi := 0) k a (fun z z1 z2 => by rw [h z z1 z2]; omega)
  omega
theorem cs_walkers {t : Nat} (C : tp_M) : fx_X2_walkers t C = some (sumI (C (t + 2)) 1 7, C) := by
  unfold fx_X2_walkers
  rw [tp_lt_s, tp_lt_s]
  rw [lp2_for (body := fx_X2_walkers_L4 t) (f := fun z a => a + C (t + 2) z) (K := fun x => some (x, C)) (M := C) (fun _ _ => True) 7 1 0 tp_F trivial (fun rec a z _ z1 z2 => ⟨?_, trivial⟩) (fun rec a _ => ?_) (tp_F_pos (by omega))]
  · rw [fZ_sum (g := C (t + 2)) _ _ _ (fun _ _ _ _ => rfl), Int.zero_add]
  · unfold fx_X2_walkers_L4
    simp (disch := omega) only [↓tp_lm_n, ↓tp_lt_n, ↓tp_bd_n, ↓tp_jn0_n, ↓tp_jn1_n, ↓tp_jn2_n, ↓tp_jn3_n, w32_id, if_pos, if_neg, if_true, if_false, tp_ck_t, tp_nz_t, tp_gd_i]
  · unfold fx_X2_walkers_L4
    simp (disch := omega) only [↓tp_lm_n, ↓tp_lt_n, ↓tp_bd_n, ↓tp_jn0_n, ↓tp_jn1_n, ↓tp_jn2_n, ↓tp_jn3_n, w32_id, if_pos, if_neg, if_true, if_false, tp_ck_t, tp_nz_t, tp_gd_i]
theorem ps_walkers {kr : Nat} {M : tp_M} (hn : 2 ≤ M 0 3 ∧ M 0 3 ≤ 8) : fx_X11_walkers kr 17 M = some (sumI (fun v => M kr (8 + v)) 1 (M 0 3 - 1).toNat, M) := by
  unfold fx_X11_walkers
  rw [tp_lt_s, tp_lt_s]
  rw [lp2_for (body := fx_X11_walkers_L4 kr 17) (f := fun z a => a + M kr (8 + z)) (K := fun x => some (x, M)) (M := M) (fun _ _ => True) (M 0 3 - 1).toNat 1 0 tp_F trivial (fun rec a z _ z1 z2 => ⟨?_, trivial⟩) (fun rec a _ => ?_) (tp_F_pos (by omega))]
  · rw [fZ_sum (g := fun v => M kr (8 + v)) _ _ _ (fun _ _ _ _ => rfl), Int.zero_add]
  · unfold fx_X11_walkers_L4
    simp (disch := omega) only [↓tp_lm_n, ↓tp_lt_n, ↓tp_bd_n, ↓tp_jn0_n, ↓tp_jn1_n, ↓tp_jn2_n, ↓tp_jn3_n, w32_id, if_pos, if_neg, if_true, if_false, tp_ck_t, tp_nz_t, tp_gd_i]
  · unfold fx_X11_walkers_L4
    simp (disch := omega) only [↓tp_lm_n, ↓tp_lt_n, ↓tp_bd_n, ↓tp_jn0_n, ↓tp_jn1_n, ↓tp_jn2_n, ↓tp_jn3_n, w32_id, if_pos, if_neg, if_true, if_false, tp_ck_t, tp_nz_t, tp_gd_i]
theorem sm_walkers {P W : Int → Int} {h s : Int} {R : Int → Int} {n : Int} {D : Int → Int} {B : Int} (hn : 2 ≤ n ∧ n ≤ 8) (g : sm_row P W h s R n D B) : sumI W 1 7 = sumI (fun v => R (8 + v)) 1 (n - 1).toNat ∧ 0 ≤ sumI W 1 7 ∧ sumI W 1 7 ≤ 7 * B := by
  obtain ⟨g1, g2, g3, g4, g5, g6⟩ := g
  have e : 7 = (n - 1).toNat + (8 - n).toNat := by omega
  have hs : sumI W 1 7 = sumI (fun v => R (8 + v)) 1 (n - 1).toNat := by
    rw [e, sumI_add, sumI_0 (8 - n).toNat _ (fun z z1 z2 => (g6 z (by omega) (by omega) (by omega)).2), Int.add_zero]
    exact sumI_cg _ _ (fun z z1 z2 => (g5 z (by omega) (by omega)).2.2.1)
  refine ⟨hs, ?_⟩
  have hB : 0 ≤ B := by have := g5 1 (by omega) (by omega); omega
  have := sumI_in (g := W) (lo := 0) (hi := B) 7 1 (fun z z1 z2 => by
    by_cases hz : z < n
    · have := g5 z z1 hz; omega
    · have := g6 z (by omega) (by omega) (by omega); omega)
  omega
/-! bits gathered -/
theorem x_or_0 {a : Int} (ha : 0 ≤ a ∧ a < 256) : x_or a 0 = a := by
  rw [x_or_nn (by omega) (by omega)]
  simp
  omega
theorem lp2_bits {b : (Int → tp_M → tp_O) → (Int → Int → tp_M → tp_O) → Int → Int → tp_M → tp_O} {M : tp_M} (c : Int → Prop) (lo hi : Int) (hlo : 0 ≤ lo ∧ lo ≤ hi ∧ hi ≤ 8)
    (hs : ∀ (K : Int → tp_M → tp_O) (rec : Int → Int → tp_M → tp_O) (a z : Int), 0 ≤ a ∧ a < 256 → lo ≤ z → z < hi → (c z → b K rec a z M = rec (x_or a (x_shl 1 z)) (z + 1) M) ∧ (¬ c z → b K rec a z M = rec a (z + 1) M))
    (he : ∀ (K : Int → tp_M → tp_O) (rec : Int → Int → tp_M → tp_O) (a : Int), b K rec a hi M = K a M) : ∃ x : Int, (0 ≤ x ∧ x < 256) ∧ (∀ j : Nat, j < 8 → (bt x j ↔ (lo ≤ (j : Int) ∧ (j : Int) < hi) ∧ c (j : Int))) ∧ ∀ K : Int → tp_M → tp_O, tp_lp2 (b K) tp_F 0 lo M = K x M := by
  have h : ∀ (k n : Nat) (a z : Int), (k : Int) = hi - z → lo ≤ z → k < n → 0 ≤ a ∧ a < 256 → (∀ j : Nat, j < 8 → (bt a j ↔ (lo ≤ (j : Int) ∧ (j : Int) < z) ∧ c (j : Int))) → ∃ x : Int, (0 ≤ x ∧ x < 256) ∧ (∀ j : Nat, j < 8 → (bt x j ↔ (lo ≤ (j : Int) ∧ (j : Int) < hi) ∧ c (j : Int))) ∧ ∀ K : Int → tp_M → tp_O, tp_lp2 (b K) n a z M = K x M := by
    intro k
    induction k with
    | zero =>
      intro n a z hk hz hn ha hb
      have hzh : z = hi := by omega
      subst hzh
      cases n with
      | zero => omega
      | succ n => exact ⟨a, ha, hb, fun K => by rw [tp_lp2_s, he]⟩
    | succ k ih =>
      intro n a z hk hz hn ha hb
      cases n with
      | zero => omega
      | succ n =>
        by_cases hc : c z
        · have hbt := bt_or ha (v := z) (by omega)
          obtain ⟨x, x1, x2, x3⟩ := ih n _ (z + 1) (by omega) (by omega) (by omega) hbt.1 (fun j hj => by
            rw [hbt.2 j, hb j hj]
            constructor
            · rintro (⟨q1, q2⟩ | q)
              · exact ⟨by omega, q2⟩
              · exact ⟨by omega, by rw [q]; exact hc⟩
            · rintro ⟨q1, q2⟩
              by_cases e : (j : Int) = z
              · exact Or.inr e
              · exact Or.inl ⟨by omega, q2⟩)
          exact ⟨x, x1, x2, fun K => by rw [tp_lp2_s, (hs K (tp_lp2 (b K) n) a z ha hz (by omega)).1 hc]; exact x3 K⟩
        · obtain ⟨x, x1, x2, x3⟩ := ih n a (z + 1) (by omega) (by omega) (by omega) ha (fun j hj => by
            rw [hb j hj]
            constructor
            · rintro ⟨q1, q2⟩
              exact ⟨by omega, q2⟩
            · rintro ⟨q1, q2⟩
              by_cases e : (j : Int) = z
              · rw [e] at q2; exact absurd q2 hc
              · exact ⟨by omega, q2⟩)
          exact ⟨x, x1, x2, fun K => by rw [tp_lp2_s, (hs K (tp_lp2 (b K) n) a z ha hz (by omega)).2 hc]; exact x3 K⟩
  exact h (hi - lo).toNat tp_F 0 lo (by omega) (by omega) (tp_F_pos (by omega)) (by omega) (fun j hj => ⟨fun q => absurd q (bt_0 j), fun q => by omega⟩)
theorem lp3_for {b : (Int → Int → tp_M → tp_O) → (Int → Int → Int → tp_M → tp_O) → Int → Int → Int → tp_M → tp_O} {f g : Int → Int → Int} {M : tp_M} (P : Int → Int → Int → Prop) : ∀ (k : Nat) (lo a c : Int) (n : Nat), P lo a c → (∀ (K : Int → Int → tp_M → tp_O) (rec : Int → Int → Int → tp_M → tp_O) (a c z : Int), P z a c → lo ≤ z → z < lo + (k : Int) → b K rec a c z M = rec (f z a) (g z c) (z + 1) M ∧ P (z + 1) (f z a) (g z c)) → (∀ (K : Int → Int → tp_M → tp_O) (rec : Int → Int → Int → tp_M → tp_O) (a c : Int), P (lo + (k : Int)) a c → b K rec a c (lo + (k : Int)) M = K a c M) → k < n → P (lo + (k : Int)) (fZ f k lo a) (fZ g k lo c) ∧ ∀ K : Int → Int → tp_M → tp_O, tp_lp3 (b K) n a c lo M = K (fZ f k lo a) (fZ g k lo c) M := by
  intro k
  induction k with
  | zero =>
    intro lo a c n hP _ he hn
    cases n with
    | zero => omega
    | succ n =>
      refine ⟨by simpa [fZ] using hP, fun K => ?_⟩
      rw [tp_lp3_s]
      have := he K (tp_lp3 (b K) n) a c (by simpa using hP)
      simp only [Int.natCast_zero, Int.add_zero] at this
      exact this
  | succ k ih =>
    intro lo a c n hP hs he hn
    cases n with
    | zero => omega
    | succ n =>
      have e : lo + 1 + (k : Int) = lo + ((k + 1 : Nat) : Int) := by omega
      obtain ⟨i1, i2⟩ := ih (lo + 1) (f lo a) (g lo c) n (hs (fun _ _ _ => none) (fun _ _ _ _ => none) a c lo hP (by omega) (by omega)).2 (fun K rec a c z hp z1 z2 => hs K rec a c z hp (by omega) (by omega)) (fun K rec a c hp => by
        rw [e] at hp ⊢
        exact he K rec a c hp) (by omega)
      refine ⟨by rw [e] at i1; exact i1, fun K => ?_⟩
      rw [tp_lp3_s, (hs K (tp_lp3 (b K) n) a c lo hP (by omega) (by omega)).1]
      exact i2 K
theorem bits_u {x y lo hi : Int} {c c2 : Int → Prop} (hx : 0 ≤ x ∧ x < 256) (hy : 0 ≤ y ∧ y < 256) (h1 : ∀ j : Nat, j < 8 → (bt x j ↔ (lo ≤ (j : Int) ∧ (j : Int) < hi) ∧ c (j : Int))) (h2 : ∀ j : Nat, j < 8 → (bt y j ↔ (lo ≤ (j : Int) ∧ (j : Int) < hi) ∧ c2 (j : Int))) (hc : ∀ j : Int, lo ≤ j → j < hi → (c j ↔ c2 j)) : x = y := by
  refine bt_ext hx hy (fun j hj => ?_)
  rw [h1 j hj, h2 j hj]
  exact ⟨fun ⟨q1, q2⟩ => ⟨q1, (hc _ q1.1 q1.2).mp q2⟩, fun ⟨q1, q2⟩ => ⟨q1, (hc _ q1.1 q1.2).mpr q2⟩⟩
/-- how many bits -/
def bc (a : Int) : Int := ((fx_J6_bitCount_0f7a4 a (fun _ _ => 0)).getD (0, fun _ _ => 0)).1
theorem pj_bits (a : Int) (M : tp_M) : fx_J6_bitCount_0f7a4 a M = some (bc a, M) := rfl
theorem bc_in {a : Int} (h : 0 ≤ a ∧ a < 256) : 0 ≤ bc a ∧ bc a ≤ 8 := by
  have h2 : ∀ n : Nat, n < 256 → 0 ≤ bc (n : Int) ∧ bc (n : Int) ≤ 8 := by decide +kernel
  obtain ⟨k, rfl⟩ := Int.eq_ofNat_of_zero_le h.1
  exact h2 k (by omega)
