/-! FITS: what is so -/
theorem lp2_bits0 {body : (Int → Int → tp_M → tp_O) → Int → Int → tp_M → tp_O} {M : tp_M} (c : Int → Prop) (lo hi : Int) (hlo : 0 ≤ lo ∧ lo ≤ hi ∧ hi ≤ 8)
    (hs : ∀ (rec : Int → Int → tp_M → tp_O) (a z : Int), 0 ≤ a ∧ a < 256 → lo ≤ z → z < hi → (c z → body rec a z M = rec (x_or a (x_shl 1 z)) (z + 1) M) ∧ (¬ c z → body rec a z M = rec a (z + 1) M))
    (he : ∀ (rec : Int → Int → tp_M → tp_O) (a : Int), body rec a hi M = some (a, M)) : ∃ x : Int, (0 ≤ x ∧ x < 256) ∧ (∀ j : Nat, j < 8 → (bt x j ↔ (lo ≤ (j : Int) ∧ (j : Int) < hi) ∧ c (j : Int))) ∧ tp_lp2 body tp_F 0 lo M = some (x, M) := by
  have h : ∀ (k n : Nat) (a z : Int), (k : Int) = hi - z → lo ≤ z → k < n → 0 ≤ a ∧ a < 256 → (∀ j : Nat, j < 8 → (bt a j ↔ (lo ≤ (j : Int) ∧ (j : Int) < z) ∧ c (j : Int))) → ∃ x : Int, (0 ≤ x ∧ x < 256) ∧ (∀ j : Nat, j < 8 → (bt x j ↔ (lo ≤ (j : Int) ∧ (j : Int) < hi) ∧ c (j : Int))) ∧ tp_lp2 body n a z M = some (x, M) := by
    intro k
    induction k with
    | zero =>
      intro n a z hk hz hn ha hb
      have hzh : z = hi := by omega
      subst hzh
      cases n with
      | zero => omega
      | succ n => exact ⟨a, ha, hb, by rw [tp_lp2_s, he]⟩
    | succ k ih =>
      intro n a z hk hz hn ha hb
      cases n with
      | zero => omega
      | succ n =>
        by_cases hc : c z
        · have hbt := bt_or ha (v := z) (by omega)
          obtain ⟨x, x1, x2, x3⟩ := ih n _ (z + 1) (by omega) (by omega) (by omega) hbt.1 (fun j hj => by
            rw [hbt.2 j, hb j hj]
            constructor
            · rintro (⟨q1, q2⟩ | q)
              · exact ⟨by omega, q2⟩
              · exact ⟨by omega, by rw [q]; exact hc⟩
            · rintro ⟨q1, q2⟩
              by_cases e : (j : Int) = z
              · exact Or.inr e
              · exact Or.inl ⟨by omega, q2⟩)
          exact ⟨x, x1, x2, by rw [tp_lp2_s, (hs (tp_lp2 body n) a z ha hz (by omega)).1 hc]; exact x3⟩
        · obtain ⟨x, x1, x2, x3⟩ := ih n a (z + 1) (by omega) (by omega) (by omega) ha (fun j hj => by
            rw [hb j hj]
            constructor
            · rintro ⟨q1, q2⟩
              exact ⟨by omega, q2⟩
            · rintro ⟨q1, q2⟩
              by_cases e : (j : Int) = z
              · rw [e] at q2; exact absurd q2 hc
              · exact ⟨by omega, q2⟩)
          exact ⟨x, x1, x2, by rw [tp_lp2_s, (hs (tp_lp2 body n) a z ha hz (by omega)).2 hc]; exact x3⟩
  exact h (hi - lo).toNat tp_F 0 lo (by omega) (by omega) (tp_F_pos (by omega)) (by omega) (fun j hj => ⟨fun q => absurd q (bt_0 j), fun q => by omega⟩)
theorem bt_and {a b : Int} (ha : 0 ≤ a ∧ a < 256) (hb : 0 ≤ b ∧ b < 256) : (0 ≤ x_and a b ∧ x_and a b < 256) ∧ ∀ j : Nat, bt (x_and a b) j ↔ bt a j ∧ bt b j := by
  rw [x_and_nn (by omega) (by omega)]
  have := Nat.and_le_left (n := a.toNat) (m := b.toNat)
  refine ⟨by omega, fun j => ?_⟩
  unfold bt
  rw [Int.toNat_natCast, Nat.testBit_and]
  simp only [Bool.and_eq_true]
/-- what is said of a crossing is so -/
def so (D G R F : Int → Int) (c what v : Int) : Prop := (what = 0 ∧ D c = v) ∨ (what = 1 ∧ v ≤ R (8 + c)) ∨ (what = 2 ∧ G (4 * c + R c) = v) ∨ (what = 3 ∧ F c = v)
theorem cs_isSo {C : tp_M} {n : Int} {D G R : Int → Int} {B c what v : Int} (hN : nC C n D G) (hR : sm_row (C 26) (C 27) (C 25 2) (C 25 3) R n D B) (hB : B ≤ 1000000) (hc : 1 ≤ c ∧ c < n) (hw : 0 ≤ what ∧ what ≤ 3) (hv : 0 ≤ v ∧ v ≤ 9) : (so D G R (C 9) c what v → fx_X10_isSo c what v C = some (1, C)) ∧ (¬ so D G R (C 9) c what v → fx_X10_isSo c what v C = some (0, C)) := by
  have n8 := cn_n hN
  have d4 := cn_D hN hc
  obtain ⟨p1, p2, p3, p4⟩ := hR.2.2.2.2.1 c hc.1 hc.2
  have gg := cn_G hN hc p2
  have hp := cn_hasPost hN (a := c) (by unfold pu_in; omega)
  rw [if_pos hc] at hp
  obtain ⟨d, d8, d9, -⟩ := hN.2.2.2.2.2 c (by omega) hc.2
  have hdeg := cn_degree hN hc
  have hgo := cn_goal hN hc p2
  have hfa := cn_far hN (a := c) (by omega)
  unfold fx_X10_isSo so
  have h4 : what = 0 ∨ what = 1 ∨ what = 2 ∨ what = 3 := by omega
  rcases h4 with rfl | rfl | rfl | rfl
  · constructor
    · intro q
      have q : D c = v := by omega
      simp (disch := omega) only [↓tp_lm_n, ↓tp_lt_n, ↓tp_bd_n, ↓tp_jn0_n, ↓tp_jn1_n, ↓tp_jn2_n, ↓tp_jn3_n, w32_id, if_pos, if_neg, if_true, if_false, tp_ck_t, tp_nz_t, tp_gd_i, hp, hdeg]
    · intro q
      have q : ¬ D c = v := by omega
      simp (disch := omega) only [↓tp_lm_n, ↓tp_lt_n, ↓tp_bd_n, ↓tp_jn0_n, ↓tp_jn1_n, ↓tp_jn2_n, ↓tp_jn3_n, w32_id, if_pos, if_neg, if_true, if_false, tp_ck_t, tp_nz_t, tp_gd_i, hp, hdeg]
  · constructor
    · intro q
      have q : v ≤ R (8 + c) := by omega
      simp (disch := omega) only [↓tp_lm_n, ↓tp_lt_n, ↓tp_bd_n, ↓tp_jn0_n, ↓tp_jn1_n, ↓tp_jn2_n, ↓tp_jn3_n, w32_id, if_pos, if_neg, if_true, if_false, tp_ck_t, tp_nz_t, tp_gd_i, hp, p3]
    · intro q
      have q : ¬ v ≤ R (8 + c) := by omega
      simp (disch := omega) only [↓tp_lm_n, ↓tp_lt_n, ↓tp_bd_n, ↓tp_jn0_n, ↓tp_jn1_n, ↓tp_jn2_n, ↓tp_jn3_n, w32_id, if_pos, if_neg, if_true, if_false, tp_ck_t, tp_nz_t, tp_gd_i, hp, p3]
  · constructor
    · intro q
      have q : G (4 * c + R c) = v := by omega
      simp (disch := omega) only [↓tp_lm_n, ↓tp_lt_n, ↓tp_bd_n, ↓tp_jn0_n, ↓tp_jn1_n, ↓tp_jn2_n, ↓tp_jn3_n, w32_id, if_pos, if_neg, if_true, if_false, tp_ck_t, tp_nz_t, tp_gd_i, hp, p1, hgo]
    · intro q
      have q : ¬ G (4 * c + R c) = v := by omega
      simp (disch := omega) only [↓tp_lm_n, ↓tp_lt_n, ↓tp_bd_n, ↓tp_jn0_n, ↓tp_jn1_n, ↓tp_jn2_n, ↓tp_jn3_n, w32_id, if_pos, if_neg, if_true, if_false, tp_ck_t, tp_nz_t, tp_gd_i, hp, p1, hgo]
  · constructor
    · intro q
      have q : C 9 c = v := by omega
      simp (disch := omega) only [↓tp_lm_n, ↓tp_lt_n, ↓tp_bd_n, ↓tp_jn0_n, ↓tp_jn1_n, ↓tp_jn2_n, ↓tp_jn3_n, w32_id, if_pos, if_neg, if_true, if_false, tp_ck_t, tp_nz_t, tp_gd_i, hp, hfa]
    · intro q
      have q : ¬ C 9 c = v := by omega
      simp (disch := omega) only [↓tp_lm_n, ↓tp_lt_n, ↓tp_bd_n, ↓tp_jn0_n, ↓tp_jn1_n, ↓tp_jn2_n, ↓tp_jn3_n, w32_id, if_pos, if_neg, if_true, if_false, tp_ck_t, tp_nz_t, tp_gd_i, hp, hfa]
theorem ps_isSo {M : tp_M} {c what v B : Int} (hn : nt_net (M 0 3) (M 2) (M 3)) (hR : rr_ok (M 0 3) (M 2) (M 4)) (hc : 1 ≤ c ∧ c < M 0 3) (hb : 0 ≤ M 4 (8 + c) ∧ M 4 (8 + c) ≤ 1000000) (hf : 0 ≤ M 13 c ∧ M 13 c < 8) (hw : 0 ≤ what ∧ what ≤ 3) (hv : 0 ≤ v ∧ v ≤ 9) : (so (M 2) (M 3) (M 4) (M 13) c what v → fx_X11_isSo c what v M = some (1, M)) ∧ (¬ so (M 2) (M 3) (M 4) (M 13) c what v → fx_X11_isSo c what v M = some (0, M)) := by
  have n8 := hn.1
  obtain ⟨d4, dg⟩ := hn.2 c hc.1 hc.2
  have p2 := hR.2.2 c hc.1 hc.2
  have gg := dg _ p2.1 p2.2
  have hgo := pm_goalOf (M := M) (a := c) (k := M 4 c) (by omega)
  unfold fx_X11_isSo so
  have h4 : what = 0 ∨ what = 1 ∨ what = 2 ∨ what = 3 := by omega
  rcases h4 with rfl | rfl | rfl | rfl
  · constructor
    · intro q
      have q : M 2 c = v := by omega
      simp (disch := omega) only [↓tp_lm_n, ↓tp_lt_n, ↓tp_bd_n, ↓tp_jn0_n, ↓tp_jn1_n, ↓tp_jn2_n, ↓tp_jn3_n, w32_id, if_pos, if_neg, if_true, if_false, tp_ck_t, tp_nz_t, tp_gd_i]
    · intro q
      have q : ¬ M 2 c = v := by omega
      simp (disch := omega) only [↓tp_lm_n, ↓tp_lt_n, ↓tp_bd_n, ↓tp_jn0_n, ↓tp_jn1_n, ↓tp_jn2_n, ↓tp_jn3_n, w32_id, if_pos, if_neg, if_true, if_false, tp_ck_t, tp_nz_t, tp_gd_i]
  · constructor
    · intro q
      have q : v ≤ M 4 (8 + c) := by omega
      simp (disch := omega) only [↓tp_lm_n, ↓tp_lt_n, ↓tp_bd_n, ↓tp_jn0_n, ↓tp_jn1_n, ↓tp_jn2_n, ↓tp_jn3_n, w32_id, if_pos, if_neg, if_true, if_false, tp_ck_t, tp_nz_t, tp_gd_i]
    · intro q
      have q : ¬ v ≤ M 4 (8 + c) := by omega
      simp (disch := omega) only [↓tp_lm_n, ↓tp_lt_n, ↓tp_bd_n, ↓tp_jn0_n, ↓tp_jn1_n, ↓tp_jn2_n, ↓tp_jn3_n, w32_id, if_pos, if_neg, if_true, if_false, tp_ck_t, tp_nz_t, tp_gd_i]
  · constructor
    · intro q
      have q : M 3 (4 * c + M 4 c) = v := by omega
      simp (disch := omega) only [↓tp_lm_n, ↓tp_lt_n, ↓tp_bd_n, ↓tp_jn0_n, ↓tp_jn1_n, ↓tp_jn2_n, ↓tp_jn3_n, w32_id, if_pos, if_neg, if_true, if_false, tp_ck_t, tp_nz_t, tp_gd_i, hgo]
    · intro q
      have q : ¬ M 3 (4 * c + M 4 c) = v := by omega
      simp (disch := omega) only [↓tp_lm_n, ↓tp_lt_n, ↓tp_bd_n, ↓tp_jn0_n, ↓tp_jn1_n, ↓tp_jn2_n, ↓tp_jn3_n, w32_id, if_pos, if_neg, if_true, if_false, tp_ck_t, tp_nz_t, tp_gd_i, hgo]
  · constructor
    · intro q
      have q : M 13 c = v := by omega
      simp (disch := omega) only [↓tp_lm_n, ↓tp_lt_n, ↓tp_bd_n, ↓tp_jn0_n, ↓tp_jn1_n, ↓tp_jn2_n, ↓tp_jn3_n, w32_id, if_pos, if_neg, if_true, if_false, tp_ck_t, tp_nz_t, tp_gd_i]
    · intro q
      have q : ¬ M 13 c = v := by omega
      simp (disch := omega) only [↓tp_lm_n, ↓tp_lt_n, ↓tp_bd_n, ↓tp_jn0_n, ↓tp_jn1_n, ↓tp_jn2_n, ↓tp_jn3_n, w32_id, if_pos, if_neg, if_true, if_false, tp_ck_t, tp_nz_t, tp_gd_i]
theorem cs_crossingsOf {C : tp_M} {n : Int} {D G R : Int → Int} {B what v : Int} (hN : nC C n D G) (hR : sm_row (C 26) (C 27) (C 25 2) (C 25 3) R n D B) (hB : B ≤ 1000000) (hw : 0 ≤ what ∧ what ≤ 3) (hv : 0 ≤ v ∧ v ≤ 9) : ∃ x : Int, (0 ≤ x ∧ x < 256) ∧ (∀ j : Nat, j < 8 → (bt x j ↔ (1 ≤ (j : Int) ∧ (j : Int) < n) ∧ so D G R (C 9) (j : Int) what v)) ∧ fx_X10_crossingsOf what v C = some (x, C) := by
  have n8 := cn_n hN
  obtain ⟨x, x1, x2, x3⟩ := lp2_bits0 (body := fx_X10_crossingsOf_L5 what v) (M := C) (fun z => so D G R (C 9) z what v) 1 n (by omega) (fun rec a z ha z1 z2 => by
    have hs := cs_isSo hN hR hB ⟨z1, z2⟩ hw hv
    have hcr := cn_crossings hN
    unfold fx_X10_crossingsOf_L5
    constructor
    · intro q
      have hs1 := hs.1 q
      clear hs q hR
      simp (disch := omega) only [↓tp_lm_n, ↓tp_lt_n, ↓tp_bd_n, ↓tp_jn0_n, ↓tp_jn1_n, ↓tp_jn2_n, ↓tp_jn3_n, w32_id, if_pos, if_neg, if_true, if_false, tp_ck_t, tp_nz_t, tp_gd_i, hcr, hs1]
    · intro q
      have hs1 := hs.2 q
      clear hs q hR
      simp (disch := omega) only [↓tp_lm_n, ↓tp_lt_n, ↓tp_bd_n, ↓tp_jn0_n, ↓tp_jn1_n, ↓tp_jn2_n, ↓tp_jn3_n, w32_id, if_pos, if_neg, if_true, if_false, tp_ck_t, tp_nz_t, tp_gd_i, hcr, hs1]) (fun rec a => by
    unfold fx_X10_crossingsOf_L5
    rw [cn_crossings hN, tp_bd_s, w32_id (by omega), if_neg (by omega)])
  refine ⟨x, x1, x2, ?_⟩
  unfold fx_X10_crossingsOf
  rw [tp_lt_s, tp_lt_s]
  exact x3
/-- all that was heard is so -/
def all_so (D G R F A V : Int → Int) (m c : Int) : Prop := ∀ k : Int, 0 ≤ k → k < m → so D G R F c (A k) (V k)
theorem cs_fitting {C : tp_M} {n : Int} {D G R A V : Int → Int} {B m : Int} (hN : nC C n D G) (hR : sm_row (C 26) (C 27) (C 25 2) (C 25 3) R n D B) (hB : B ≤ 1000000) (hH : sm_heard (C 56 2) (C 57) (C 58) m A V) : ∃ x : Int, (0 ≤ x ∧ x < 256) ∧ (∀ j : Nat, j < 8 → (bt x j ↔ (1 ≤ (j : Int) ∧ (j : Int) < n) ∧ all_so D G R (C 9) A V m (j : Int))) ∧ fx_X10_fittingCrossings C = some (x, C) := by
  have n8 := cn_n hN
  obtain ⟨h1, h2, h3⟩ := hH
  have hpw : ∀ k : Nat, k < 9 → 2 ≤ k → (0 ≤ x_shl 1 (k : Int) - 2 ∧ x_shl 1 (k : Int) - 2 < 256) ∧ ∀ j : Nat, j < 8 → ((x_shl 1 (k : Int) - 2).toNat.testBit j = true ↔ 1 ≤ j ∧ j < k) := by decide +kernel
  have hp := hpw n.toNat (by omega) (by omega)
  rw [show ((n.toNat : Nat) : Int) = n by omega] at hp
  suffices hw : wp (fx_X10_fittingCrossings C) (fun x C1 => C1 = C ∧ (0 ≤ x ∧ x < 256) ∧ ∀ j : Nat, j < 8 → (bt x j ↔ (1 ≤ (j : Int) ∧ (j : Int) < n) ∧ all_so D G R (C 9) A V m (j : Int))) by
    obtain ⟨x, C1, f, rfl, x1, x2⟩ := hw
    exact ⟨x, x1, x2, f⟩
  unfold fx_X10_fittingCrossings
  rw [cn_crossings hN, tp_bd_s]
  refine wp_lt ?_
  refine wp_lt ?_
  refine wp_lp2 (fun a z C1 => C1 = C ∧ (0 ≤ z ∧ z ≤ m) ∧ (0 ≤ a ∧ a < 256) ∧ ∀ j : Nat, j < 8 → (bt a j ↔ (1 ≤ (j : Int) ∧ (j : Int) < n) ∧ all_so D G R (C 9) A V z (j : Int))) (fun _ z _ => (m - z).toNat) ?_ tp_F _ 0 C ⟨rfl, by omega, hp.1, fun j hj => ?_⟩ (tp_F_pos (by omega))
  · intro rec a z C1 hI hrec
    obtain ⟨rfl, i1, i2, i3⟩ := hI
    unfold fx_X10_fittingCrossings_L14 fx_X1_size fx_X1_what fx_X1_value
    rw [tp_bd_s, h1, w32_id (show -2147483648 ≤ z ∧ z < 2147483648 by omega), w32_id (show -2147483648 ≤ m ∧ m < 2147483648 by omega)]
    by_cases hz : z < m
    · obtain ⟨g1, g2, g3, g4⟩ := h3 z i1.1 hz
      obtain ⟨x, x1, x2, x3⟩ := cs_crossingsOf hN hR hB g2 g4
      have hba := bt_and i2 x1
      rw [if_pos hz, if_neg (show ¬ z < 0 by omega), if_pos hz, tp_ck_t (by omega), tp_bd_s, if_neg (show ¬ z < 0 by omega), h1, w32_id (show -2147483648 ≤ m ∧ m < 2147483648 by omega), if_pos hz, tp_ck_t (by omega), tp_bd_s, g1, g3, x3, tp_bd_s]
      refine wp_lt ?_
      refine wp_lt ?_
      refine hrec _ _ _ ⟨rfl, by omega, hba.1, fun j hj => ?_⟩ (by omega)
      rw [hba.2 j, i3 j hj, x2 j hj]
      constructor
      · rintro ⟨⟨q1, q2⟩, -, q3⟩
        refine ⟨q1, fun k k1 k2 => ?_⟩
        by_cases hk : k = z
        · rw [hk]; exact q3
        · exact q2 k k1 (by omega)
      · rintro ⟨q1, q2⟩
        exact ⟨⟨q1, fun k k1 k2 => q2 k k1 (by omega)⟩, q1, q2 z i1.1 (by omega)⟩
    · rw [if_neg hz]
      refine wp_some ⟨rfl, i2, fun j hj => ?_⟩
      rw [i3 j hj, show z = m by omega]
  · unfold bt
    rw [hp.2 j hj]
    exact ⟨fun q => ⟨by omega, fun k k1 k2 => by omega⟩, fun q => by omega⟩
theorem ps_fitting {M : tp_M} {B : Int} (hn : nt_net (M 0 3) (M 2) (M 3)) {P W : Int → Int} {hh ss : Int} (hR : sm_row P W hh ss (M 4) (M 0 3) (M 2) B) (hB : B ≤ 1000000) (h2 : 0 ≤ M 0 44 ∧ M 0 44 ≤ 12) (h3 : ∀ j : Int, 0 ≤ j → j < M 0 44 → (0 ≤ M 28 j ∧ M 28 j ≤ 3) ∧ 0 ≤ M 29 j ∧ M 29 j ≤ 9) {F : Int → Int} (hF : ∀ f : Int → Int, fa_ok (M 0 3) (M 2) (M 3) 0 f → ∀ v : Int, 0 ≤ v → v < M 0 3 → f v = F v ∧ 0 ≤ F v ∧ F v < 8) : wp (fx_X11_fitting M) (fun x M1 => tp_fr [13] M M1 ∧ (∀ v : Int, 0 ≤ v → v < M 0 3 → M1 13 v = F v) ∧ (0 ≤ x ∧ x < 256) ∧ ∀ j : Nat, j < 8 → (bt x j ↔ (1 ≤ (j : Int) ∧ (j : Int) < M 0 3) ∧ all_so (M 2) (M 3) (M 4) F (M 28) (M 29) (M 0 44) (j : Int))) := by
  have n8 := hn.1
  unfold fx_X11_fitting
  refine wp_call (pm_laysFar hn (by omega)) (fun _ M1 q => ?_)
  obtain ⟨q1, q2⟩ := q
  have hf := hF _ q2
  have e0 : M1 0 = M 0 := q1 0 (by simp)
  have e2 : M1 2 = M 2 := q1 2 (by simp)
  have e3 : M1 3 = M 3 := q1 3 (by simp)
  have e4 : M1 4 = M 4 := q1 4 (by simp)
  have e28 : M1 28 = M 28 := q1 28 (by simp)
  have e29 : M1 29 = M 29 := q1 29 (by simp)
  refine wp_lt ?_
  refine wp_lt ?_
  refine wp_lp2 (fun a z M2 => M2 = M1 ∧ (1 ≤ z ∧ z ≤ M 0 3) ∧ (0 ≤ a ∧ a < 256) ∧ ∀ j : Nat, j < 8 → (bt a j ↔ (1 ≤ (j : Int) ∧ (j : Int) < z) ∧ all_so (M 2) (M 3) (M 4) F (M 28) (M 29) (M 0 44) (j : Int))) (fun _ z _ => (M 0 3 - z).toNat) ?_ tp_F 0 1 M1 ⟨rfl, by omega, by omega, fun j hj => ⟨fun q => absurd q (bt_0 j), fun q => by omega⟩⟩ (tp_F_pos (by omega))
  intro rec a z M2 hI hrec
  obtain ⟨rfl, i1, i2, i3⟩ := hI
  unfold fx_X11_fitting_L9
  rw [e0, w32_id (show -2147483648 ≤ z ∧ z < 2147483648 by omega), w32_id (show -2147483648 ≤ M 0 3 ∧ M 0 3 < 2147483648 by omega)]
  by_cases hz : z < M 0 3
  · rw [if_pos hz]
    refine wp_lt ?_
    refine wp_lt ?_
    obtain ⟨-, -, -, b4⟩ := hR.2.2.2.2.1 z i1.1 hz
    have hfz := hf z (by omega) hz
    refine wp_lp2 (fun b k M3 => M3 = M2 ∧ (0 ≤ k ∧ k ≤ M 0 44) ∧ ((b = 1 ∧ ∀ l : Int, 0 ≤ l → l < k → so (M 2) (M 3) (M 4) F z (M 28 l) (M 29 l)) ∨ (b = 0 ∧ ∃ l : Int, (0 ≤ l ∧ l < M 0 44) ∧ ¬ so (M 2) (M 3) (M 4) F z (M 28 l) (M 29 l)))) (fun _ k _ => (M 0 44 - k).toNat) ?_ tp_F 1 0 M2 ⟨rfl, by omega, Or.inl ⟨rfl, fun l l1 l2 => by omega⟩⟩ (tp_F_pos (by omega))
    intro rec2 b k M3 hI2 hrec2
    obtain ⟨rfl, j1, j2⟩ := hI2
    unfold fx_X11_fitting_L22
    rw [e0, w32_id (show -2147483648 ≤ k ∧ k < 2147483648 by omega), w32_id (show -2147483648 ≤ M 0 44 ∧ M 0 44 < 2147483648 by omega)]
    by_cases hk : k < M 0 44
    · rw [if_pos hk]
      refine wp_jn1 ?_
      refine wp_jn0 ?_
      rcases j2 with ⟨rfl, j2⟩ | ⟨rfl, j2⟩
      · obtain ⟨g1, g2⟩ := h3 k j1.1 hk
        rw [show w32 1 = 1 from rfl, if_neg (by decide)]
        refine wp_ck (by omega) ?_
        refine wp_ck (by omega) ?_
        rw [e28, e29]
        have hs := ps_isSo (M := M3) (c := z) (what := M 28 k) (v := M 29 k) (B := B) (by rw [e0, e2, e3]; exact hn) (by rw [e0, e2, e4]; exact rr_of hR) (by rw [e0]; exact ⟨i1.1, hz⟩) (by rw [e4]; omega) (by rw [hfz.1]; exact hfz.2) g1 g2
        have hso : so (M3 2) (M3 3) (M3 4) (M3 13) z (M 28 k) (M 29 k) ↔ so (M 2) (M 3) (M 4) F z (M 28 k) (M 29 k) := by
          unfold so
          rw [e2, e3, e4, hfz.1]
        by_cases hq : so (M 2) (M 3) (M 4) F z (M 28 k) (M 29 k)
        · rw [hs.1 (hso.mpr hq), tp_bd_s, show w32 1 = 1 from rfl, if_neg (by decide)]
          refine wp_lt ?_
          refine wp_lt ?_
          refine hrec2 _ _ _ ⟨rfl, by omega, Or.inl ⟨rfl, fun l l1 l2 => ?_⟩⟩ (by omega)
          by_cases hl : l = k
          · rw [hl]; exact hq
          · exact j2 l l1 (by omega)
        · rw [hs.2 (fun q => hq (hso.mp q)), tp_bd_s, show w32 0 = 0 from rfl, if_pos rfl]
          refine wp_lt ?_
          refine wp_lt ?_
          exact hrec2 _ _ _ ⟨rfl, by omega, Or.inr ⟨rfl, k, ⟨j1.1, hk⟩, hq⟩⟩ (by omega)
      · rw [show w32 0 = 0 from rfl, if_pos rfl]
        refine wp_lt ?_
        refine wp_lt ?_
        exact hrec2 _ _ _ ⟨rfl, by omega, Or.inr ⟨rfl, j2⟩⟩ (by omega)
    · rw [if_neg hk]
      refine wp_jn1 ?_
      have hbt := bt_or i2 (v := z) (by omega)
      rcases j2 with ⟨rfl, j2⟩ | ⟨rfl, l, l1, l2⟩
      · rw [show w32 1 = 1 from rfl, if_neg (by decide)]
        refine wp_lt ?_
        refine wp_lt ?_
        refine hrec _ _ _ ⟨rfl, by omega, hbt.1, fun j hj => ?_⟩ (by omega)
        rw [hbt.2 j, i3 j hj]
        constructor
        · rintro (⟨w1, w2⟩ | w)
          · exact ⟨by omega, w2⟩
          · exact ⟨by omega, by rw [w]; exact fun l l1 l2 => j2 l l1 (by omega)⟩
        · rintro ⟨w1, w2⟩
          by_cases e : (j : Int) = z
          · exact Or.inr e
          · exact Or.inl ⟨by omega, w2⟩
      · rw [show w32 0 = 0 from rfl, if_pos rfl]
        refine wp_lt ?_
        refine wp_lt ?_
        rw [x_or_0 i2]
        refine hrec _ _ _ ⟨rfl, by omega, i2, fun j hj => ?_⟩ (by omega)
        rw [i3 j hj]
        constructor
        · rintro ⟨w1, w2⟩
          exact ⟨by omega, w2⟩
        · rintro ⟨w1, w2⟩
          by_cases e : (j : Int) = z
          · rw [e] at w2
            exact absurd (w2 l l1.1 l1.2) l2
          · exact ⟨by omega, w2⟩
  · rw [if_neg hz]
    refine wp_some ⟨q1, fun v v1 v2 => (hf v v1 v2).1, i2, fun j hj => ?_⟩
    rw [i3 j hj, show z = M 0 3 by omega]
/-- both fit the same -/
theorem w2_fitting {B : Int} {C M : tp_M} (hB : 1000 ≤ B ∧ B ≤ 600000) (h : Sim B C M) : ∃ (x : Int) (M1 : tp_M), fx_X10_fittingCrossings C = some (x, C) ∧ fx_X11_fitting (tp_up M 0 0 0) = some (x, M1) ∧ tp_fr [13] (tp_up M 0 0 0) M1 ∧ (∀ v : Int, 0 ≤ v → v < M 0 3 → M1 13 v = C 9 v) ∧ (0 ≤ x ∧ x < 256) ∧ ∀ j : Nat, j < 8 → (bt x j → 1 ≤ (j : Int) ∧ (j : Int) < M 0 3) := by
  have hN : nC C (M 0 3) (M 2) (M 3) := h.2.2.1
  have hH := h.2.2.2.2.2.2.2.2.1
  obtain ⟨x, x1, x2, x3⟩ := cs_fitting hN h.2.2.2.1 (by omega) hH
  obtain ⟨y, M1, f, m1, m2, m3, m4⟩ := ps_fitting (M := tp_up M 0 0 0) (B := B) hN.2.1 h.2.2.2.1 (by omega) hH.2.1 (fun j j1 j2 => ⟨(hH.2.2 j j1 j2).2.1, (hH.2.2 j j1 j2).2.2.2⟩) (F := C 9) (fun f hf v v1 v2 => fa_inn hN hf ⟨v1, v2⟩)
  have hxy : x = y := bt_ext x1 m3 (fun j hj => by
    rw [x2 j hj, m4 j hj]
    exact Iff.rfl)
  subst hxy
  exact ⟨x, M1, x3, f, m1, m2, x1, fun j hj q => ((x2 j hj).mp q).1⟩
theorem st_fits {B : Int} {C M : tp_M} (hB : 1000 ≤ B ∧ B ≤ 600000) (h : Sim B C M) : wp2 (fx_X10_fits C) (fx_X11_fits M) (Ans B) := by
  obtain ⟨x, M1, f1, f2, g, -, x1, -⟩ := w2_fitting hB h
  unfold fx_X10_fits fx_X11_fits
  refine wp2_lm2 ?_
  rw [f1, f2, tp_bd_s, tp_bd_s]
  refine wp2_lt1 ?_
  refine wp2_lt2 ?_
  refine wp2_lm2 ?_
  rw [pj_bits, tp_bd_s, pc_tell1, tp_bd_s, pj_bits, tp_bd_s, pm_enters (t := 0) (up_s _ _ _ _) (by decide), tp_bd_s]
  refine wp2_some (ans_told h (by (repeat (first | exact fr_rf | assumption | refine fr_up ?_ (by simp) | refine fr_cp ?_ (by simp) | exact fr_mono (by assumption) (by simp)))) ?_ ?_ rfl ⟨by decide, by decide⟩ (td_1C _ _) (td_1M _ _) (fun _ _ _ => rfl))
  · exact fr_up (fr_up (fr_up (fr_tr (fr_up fr_rf (by simp)) (fr_mono g (by simp))) (by simp)) (by simp)) (by simp)
  · refine scF_up (scF_k (scF_up (fun j hj => ?_) (by decide)) (by decide)) (by decide)
    rw [g 0 (by simp), up_j _ _ _ (f0_ne hj (by decide))]
