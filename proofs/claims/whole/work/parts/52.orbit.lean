/-! WHERE POSTS LEAD that do not turn: pigeons, orbits -/
theorem php : ∀ (m : Nat) (f : Nat → Nat), (∀ i : Nat, i ≤ m → f i < m) → ∃ i j : Nat, i < j ∧ j ≤ m ∧ f i = f j := by
  intro m
  induction m with
  | zero => intro f h; exact absurd (h 0 (Nat.le_refl 0)) (Nat.not_lt_zero _)
  | succ m ih =>
    intro f h
    by_cases h1 : ∃ i : Nat, i ≤ m ∧ f i = f (m + 1)
    · obtain ⟨i, i1, i2⟩ := h1
      exact ⟨i, m + 1, by omega, by omega, i2⟩
    · have hne : ∀ i : Nat, i ≤ m → ¬ f i = f (m + 1) := fun i hi q => h1 ⟨i, hi, q⟩
      obtain ⟨i, j, i1, i2, i3⟩ := ih (fun i => if f i < f (m + 1) then f i else f i - 1) (fun i hi => by
        have a := h i (by omega)
        have b := h (m + 1) (by omega)
        have c := hne i hi
        split <;> omega)
      refine ⟨i, j, i1, by omega, ?_⟩
      have a := hne i (by omega)
      have b := hne j (by omega)
      split at i3 <;> split at i3 <;> omega
def ob (φ : Int → Int) (v : Int) : Nat → Int
  | 0 => v
  | k + 1 => φ (ob φ v k)
theorem ob_per {φ : Int → Int} {v : Int} {i j : Nat} (h : ob φ v i = ob φ v j) : ∀ k : Nat, ob φ v (i + k) = ob φ v (j + k) := by
  intro k
  induction k with
  | zero => exact h
  | succ k ih =>
    show φ (ob φ v (i + k)) = φ (ob φ v (j + k))
    rw [ih]
/-- whatever holds till it comes back holds for ever -/
theorem ob_stay {φ : Int → Int} {v : Int} {i j : Nat} (hij : i < j) (h : ob φ v i = ob φ v j) {P : Int → Prop} (hP : ∀ k : Nat, k < j → P (ob φ v k)) : ∀ k : Nat, P (ob φ v k) := by
  intro k
  induction k using Nat.strongRecOn with
  | ind k ih =>
    by_cases hk : k < j
    · exact hP k hk
    · have e := ob_per h (k - j)
      rw [show j + (k - j) = k by omega] at e
      rw [← e]
      exact ih _ (by omega)
/-- eight that lie within seven: it comes back -/
theorem ob_seven {φ : Int → Int} {v : Int} {m : Nat} (lo : Int) (hr : ∀ k : Nat, k ≤ m → lo ≤ ob φ v k ∧ ob φ v k < lo + (m : Int)) : ∃ i j : Nat, i < j ∧ j ≤ m ∧ ob φ v i = ob φ v j := by
  obtain ⟨i, j, i1, i2, i3⟩ := php m (fun k => (ob φ v k - lo).toNat) (fun k hk => by
    have := hr k hk
    omega)
  have a := hr i (by omega)
  have b := hr j (by omega)
  exact ⟨i, j, i1, i2, by omega⟩
def ob_phi (G R : Int → Int) (w : Int) : Int := if w = 0 then 0 else G (4 * w + R w)
theorem phi_0 (G R : Int → Int) : ob_phi G R 0 = 0 := if_pos rfl
theorem phi_n {G R : Int → Int} {w : Int} (h : ¬ w = 0) : ob_phi G R w = G (4 * w + R w) := if_neg h
theorem ob_in {n : Int} {D G R : Int → Int} (hn : nt_net n D G) (hR : ∀ u : Int, 1 ≤ u → u < n → 0 ≤ R u ∧ R u < D u) {v : Int} (hv : 0 ≤ v ∧ v < n) : ∀ k : Nat, 0 ≤ ob (ob_phi G R) v k ∧ ob (ob_phi G R) v k < n := by
  intro k
  induction k with
  | zero => exact hv
  | succ k ih =>
    have n8 := hn.1
    show 0 ≤ ob_phi G R (ob (ob_phi G R) v k) ∧ ob_phi G R (ob (ob_phi G R) v k) < n
    by_cases h0 : ob (ob_phi G R) v k = 0
    · rw [h0, phi_0]; omega
    · rw [phi_n h0]
      have hp := hR _ (show 1 ≤ ob (ob_phi G R) v k by omega) ih.2
      have := (hn.2 _ (show 1 ≤ ob (ob_phi G R) v k by omega) ih.2).2 _ hp.1 hp.2
      omega
theorem ob_zero {G R : Int → Int} {v : Int} {k : Nat} (h : ob (ob_phi G R) v k = 0) : ∀ m : Nat, k ≤ m → ob (ob_phi G R) v m = 0 := by
  intro m
  induction m with
  | zero => intro hm; rw [show k = 0 by omega] at h; exact h
  | succ m ih =>
    intro hm
    by_cases hk : k = m + 1
    · rw [← hk]; exact h
    · show ob_phi G R (ob (ob_phi G R) v m) = 0
      rw [ih (by omega)]
      exact if_pos rfl
theorem bc_add {a v : Int} (ha : 0 ≤ a ∧ a < 256) (hv : 0 ≤ v ∧ v < 8) (h : ¬ bt a v.toNat) : bc (x_or a (x_shl 1 v)) = bc a + 1 := by
  have h2 : ∀ n : Nat, n < 256 → ∀ w : Nat, w < 8 → n.testBit w = false → bc (x_or (n : Int) (x_shl 1 (w : Int))) = bc (n : Int) + 1 := by decide +kernel
  obtain ⟨k, rfl⟩ := Int.eq_ofNat_of_zero_le ha.1
  obtain ⟨w, rfl⟩ := Int.eq_ofNat_of_zero_le hv.1
  unfold bt at h
  simp only [Int.toNat_natCast] at h
  exact h2 k (by omega) w (by omega) (by simpa using h)
theorem bc_one {v : Int} (hv : 0 ≤ v ∧ v < 8) : bc (x_shl 1 v) = 1 := by
  have h2 : ∀ w : Nat, w < 8 → bc (x_shl 1 (w : Int)) = 1 := by decide +kernel
  obtain ⟨w, rfl⟩ := Int.eq_ofNat_of_zero_le hv.1
  exact h2 w (by omega)
theorem x_and_bit {a v : Int} (ha : 0 ≤ a ∧ a < 256) (hv : 0 ≤ v ∧ v < 8) : x_and a (x_shl 1 v) = 0 ↔ ¬ bt a v.toNat := by
  have h2 : ∀ n : Nat, n < 256 → ∀ w : Nat, w < 8 → (x_and (n : Int) (x_shl 1 (w : Int)) = 0 ↔ n.testBit w = false) := by decide +kernel
  obtain ⟨k, rfl⟩ := Int.eq_ofNat_of_zero_le ha.1
  obtain ⟨w, rfl⟩ := Int.eq_ofNat_of_zero_le hv.1
  unfold bt
  rw [h2 k (by omega) w (by omega)]
  simp
theorem x_and_1 {a : Int} (ha : 0 ≤ a ∧ a < 256) : (bt a 0 → x_and a 1 = 1) ∧ (¬ bt a 0 → x_and a 1 = 0) := by
  have h2 : ∀ n : Nat, n < 256 → x_and (n : Int) 1 = if n.testBit 0 = true then 1 else 0 := by decide +kernel
  obtain ⟨k, rfl⟩ := Int.eq_ofNat_of_zero_le ha.1
  have := h2 k (by omega)
  unfold bt
  simp only [Int.toNat_natCast]
  rw [this]
  constructor
  · intro q; rw [if_pos q]
  · intro q; rw [if_neg q]
/-- the class's track: all that he comes to -/
theorem cs_track {C : tp_M} {n : Int} {D G R : Int → Int} {v : Int} (hN : nC C n D G) (hR : ∀ u : Int, 1 ≤ u → u < n → C 26 u = R u ∧ 0 ≤ R u ∧ R u < D u) (hv : 0 ≤ v ∧ v < n) : ∃ x : Int, (0 ≤ x ∧ x < 256) ∧ (∀ j : Nat, j < 8 → (bt x j ↔ ∃ k : Nat, ob (ob_phi G R) v k = (j : Int))) ∧ fx_X10_trackOf v C = some (x, C) := by
  have n8 := cn_n hN
  have hob := ob_in hN.2.1 (fun u u1 u2 => (hR u u1 u2).2) hv
  suffices hw : wp (fx_X10_trackOf v C) (fun x C1 => C1 = C ∧ (0 ≤ x ∧ x < 256) ∧ ∀ j : Nat, j < 8 → (bt x j ↔ ∃ k : Nat, ob (ob_phi G R) v k = (j : Int))) by
    obtain ⟨x, C1, f, rfl, x1, x2⟩ := hw
    exact ⟨x, x1, x2, f⟩
  unfold fx_X10_trackOf
  refine wp_lt ?_
  refine wp_lt ?_
  refine wp_lt ?_
  refine wp_lp3 (fun a at' g C1 => C1 = C ∧ ∃ k : Nat, g = (k : Int) ∧ k ≤ 8 ∧ at' = ob (ob_phi G R) v k ∧ (0 ≤ a ∧ a < 256) ∧ (∀ j : Nat, j < 8 → (bt a j ↔ ∃ i : Nat, i < k ∧ ob (ob_phi G R) v i = (j : Int))) ∧ ∀ i j : Nat, i < j → j < k → ¬ ob (ob_phi G R) v i = ob (ob_phi G R) v j) (fun _ _ g _ => (8 - g).toNat) ?_ tp_F 0 v 0 C ⟨rfl, 0, rfl, by omega, rfl, by omega, fun j hj => ⟨fun q => absurd q (bt_0 j), fun ⟨i, hi, _⟩ => by omega⟩, fun i j h1 h2 => by omega⟩ (tp_F_pos (by omega))
  intro rec a at' g C1 hI hrec
  obtain ⟨rfl, k, rfl, k8, rfl, i1, i2, i3⟩ := hI
  have hk := hob k
  have hab := x_and_bit i1 (v := ob (ob_phi G R) v k) (by omega)
  refine wp_K (fun Q hQ => ?_)
  unfold fx_X10_trackOf_L7
  by_cases h8 : k < 8
  · by_cases hs : bt a (ob (ob_phi G R) v k).toNat
    · have hne : ¬ x_and a (x_shl 1 (ob (ob_phi G R) v k)) = 0 := fun q => (hab.mp q) hs
      rw [w32_id (show -2147483648 ≤ (k : Int) ∧ (k : Int) < 2147483648 by omega), if_pos (by omega), x_and_w, if_neg hne]
      refine wp_some (hQ _ _ ⟨rfl, i1, fun j hj => ?_⟩)
      rw [i2 j hj]
      constructor
      · rintro ⟨i, _, h2⟩
        exact ⟨i, h2⟩
      · rintro ⟨m, hm⟩
        rw [i2 _ (by omega)] at hs
        obtain ⟨i, h1, h2⟩ := hs
        have h2 : ob (ob_phi G R) v i = ob (ob_phi G R) v k := by rw [h2]; omega
        have hst := ob_stay h1 h2 (P := fun w => ∃ i : Nat, i < k ∧ ob (ob_phi G R) v i = w) (fun i hi => ⟨i, hi, rfl⟩) m
        rw [hm] at hst
        exact hst
    · have he : x_and a (x_shl 1 (ob (ob_phi G R) v k)) = 0 := hab.mpr hs
      rw [w32_id (show -2147483648 ≤ (k : Int) ∧ (k : Int) < 2147483648 by omega), if_pos (by omega), he, show w32 0 = 0 from rfl, if_pos rfl]
      refine wp_lt ?_
      rw [cn_hasPost hN (by unfold pu_in; omega)]
      have hbt := bt_or i1 (v := ob (ob_phi G R) v k) (by omega)
      have nx : ∀ w : Int, w = ob (ob_phi G R) v (k + 1) → wp (rec (x_or a (x_shl 1 (ob (ob_phi G R) v k))) w ((k : Int) + 1) C1) Q := fun w hw => by
        refine wp_mono (hrec _ _ _ _ ⟨rfl, k + 1, by omega, by omega, hw, hbt.1, fun j hj => ?_, fun i j h1 h2 => ?_⟩ (by omega)) hQ
        · rw [hbt.2 j, i2 j hj]
          constructor
          · rintro (⟨i, h1, h2⟩ | q)
            · exact ⟨i, by omega, h2⟩
            · exact ⟨k, by omega, q.symm⟩
          · rintro ⟨i, h1, h2⟩
            by_cases hik : i = k
            · rw [hik] at h2; exact Or.inr h2.symm
            · exact Or.inl ⟨i, by omega, h2⟩
        · by_cases hj : j = k
          · intro q
            rw [hj] at q
            apply hs
            rw [i2 _ (by omega)]
            exact ⟨i, by omega, by rw [q]; omega⟩
          · exact i3 i j h1 (by omega)
      by_cases h0 : ob (ob_phi G R) v k = 0
      · rw [h0] at nx ⊢
        simp (disch := omega) only [↓tp_lm_n, ↓tp_lt_n, ↓tp_bd_n, ↓tp_jn0_n, ↓tp_jn1_n, ↓tp_jn2_n, ↓tp_jn3_n, w32_id, if_pos, if_neg, if_true, if_false, tp_ck_t, tp_nz_t, tp_gd_i, fl01]
        refine nx 0 ?_
        show 0 = ob_phi G R (ob (ob_phi G R) v k)
        rw [h0]
        exact (if_pos rfl).symm
      · have hr := hR _ (show 1 ≤ ob (ob_phi G R) v k by omega) hk.2
        simp (disch := omega) only [↓tp_lm_n, ↓tp_lt_n, ↓tp_bd_n, ↓tp_jn0_n, ↓tp_jn1_n, ↓tp_jn2_n, ↓tp_jn3_n, w32_id, if_pos, if_neg, if_true, if_false, tp_ck_t, tp_nz_t, tp_gd_i, fl01, hr.1, cn_goal hN (a := ob (ob_phi G R) v k) (k := R (ob (ob_phi G R) v k)) ⟨by omega, hk.2⟩ hr.2]
        refine nx _ ?_
        show _ = ob_phi G R (ob (ob_phi G R) v k)
        rw [phi_n h0]
  · rw [w32_id (show -2147483648 ≤ (k : Int) ∧ (k : Int) < 2147483648 by omega), if_neg (by omega)]
    have hk8 : k = 8 := by omega
    subst hk8
    refine wp_some (hQ _ _ ⟨rfl, i1, fun j hj => ?_⟩)
    rw [i2 j hj]
    constructor
    · rintro ⟨i, _, h2⟩
      exact ⟨i, h2⟩
    · rintro ⟨m, hm⟩
      obtain ⟨i, l, h1, h2, h3⟩ := ob_seven (φ := ob_phi G R) (v := v) (m := 8) 0 (fun k _ => by have := hob k; omega)
      have hl : l = 8 := by
        by_cases q : l = 8
        · exact q
        · exact absurd h3 (i3 i l h1 (by omega))
      rw [hl] at h3 h1
      have hst := ob_stay h1 h3 (P := fun w => ∃ i : Nat, i < 8 ∧ ob (ob_phi G R) v i = w) (fun i hi => ⟨i, hi, rfl⟩) m
      rw [hm] at hst
      exact hst
