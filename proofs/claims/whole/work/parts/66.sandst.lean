/-! UNIT, RETURNS, JOINS, RECURS, TRIGGER: the steps -/
theorem ps_entersCrowds {M : tp_M} (hn : 2 ≤ M 0 3 ∧ M 0 3 ≤ 8) : wp (fx_X11_entersCrowds 5 17 M) (fun _ M1 => tp_fr [0, 1] M M1 ∧ (∀ j : Int, ¬ j = 1 → M1 0 j = M 0 j) ∧ tdM M1 (M 0 3 - 1) (fun j => w32 (M 5 (8 + (j + 1))))) := by
  unfold fx_X11_entersCrowds
  refine wp_lm ?_
  refine wp_lt ?_
  have e3 : tp_up M 0 1 0 0 3 = M 0 3 := up_j _ _ _ (by decide)
  refine lp1_enter (g := fun z => w32 (M 5 (8 + z))) (n := M 0 3) (K := fun M4 => some (0, M4)) (by omega) (up_s _ _ _ _) (fun rec z M4 t1 t2 z1 z2 => ?_) (fun rec M4 t1 t2 => ?_) (fun M4 t1 t2 t3 => wp_some ⟨fr_tr (fr_up fr_rf (by simp)) t1, fun j hj => by rw [t2 j hj, up_j _ _ _ hj], t3⟩)
  · have f3 : M4 0 3 = M 0 3 := by rw [t2 3 (by decide), e3]
    have f5 : M4 5 = M 5 := by rw [t1 5 (by simp), up_k _ _ _ (by decide)]
    unfold fx_X11_entersCrowds_L7
    rw [f3, f5]
    simp (disch := omega) only [↓tp_lm_n, ↓tp_lt_n, ↓tp_bd_n, ↓tp_jn0_n, ↓tp_jn1_n, ↓tp_jn2_n, ↓tp_jn3_n, w32_id, if_pos, if_neg, if_true, if_false, tp_ck_t, tp_nz_t, tp_gd_i]
  · have f3 : M4 0 3 = M 0 3 := by rw [t2 3 (by decide), e3]
    unfold fx_X11_entersCrowds_L7
    rw [f3, w32_id (show -2147483648 ≤ M 0 3 ∧ M 0 3 < 2147483648 by omega), if_neg (by omega)]
theorem cs_holds {C : tp_M} (hc : ∀ v : Int, 1 ≤ v → v < 8 → (0 ≤ C 37 v ∧ C 37 v < 2000000) ∧ 0 ≤ C 27 v ∧ C 27 v < 2000000) : wp (fx_X5_holds 27 8 C) (fun r C1 => C1 = C ∧ ((r = 1 ∧ ∀ v : Int, 1 ≤ v → v < 8 → C 37 v = C 27 v) ∨ (r = 0 ∧ ∃ v : Int, (1 ≤ v ∧ v < 8) ∧ ¬ C 37 v = C 27 v))) := by
  unfold fx_X5_holds
  refine wp_lt ?_
  refine wp_lp1 (fun z C1 => C1 = C ∧ (1 ≤ z ∧ z ≤ 8) ∧ ∀ v : Int, 1 ≤ v → v < z → C 37 v = C 27 v) (fun z _ => (8 - z).toNat) ?_ tp_F 1 C ⟨rfl, by omega, fun v v1 v2 => by omega⟩ (tp_F_pos (by omega))
  intro rec z C1 hI hrec
  obtain ⟨rfl, i1, i2⟩ := hI
  refine wp_K (fun Q hQ => ?_)
  unfold fx_X5_holds_L2
  by_cases hz : z < 8
  · have h9 := hc z (by omega) hz
    by_cases he : C1 37 z = C1 27 z
    · simp (disch := omega) only [↓tp_lm_n, ↓tp_lt_n, ↓tp_bd_n, ↓tp_jn0_n, ↓tp_jn1_n, ↓tp_jn2_n, ↓tp_jn3_n, w32_id, if_pos, if_neg, if_true, if_false, tp_ck_t, tp_nz_t, tp_gd_i, he]
      refine wp_mono (hrec _ _ ⟨rfl, by omega, fun v v1 v2 => ?_⟩ (by omega)) hQ
      by_cases hv : v = z
      · rw [hv]; exact he
      · exact i2 v v1 (by omega)
    · simp (disch := omega) only [↓tp_lm_n, ↓tp_lt_n, ↓tp_bd_n, ↓tp_jn0_n, ↓tp_jn1_n, ↓tp_jn2_n, ↓tp_jn3_n, w32_id, if_pos, if_neg, if_true, if_false, tp_ck_t, tp_nz_t, tp_gd_i]
      exact wp_some (hQ _ _ ⟨rfl, Or.inr ⟨rfl, z, by omega, he⟩⟩)
  · simp (disch := omega) only [↓tp_lm_n, ↓tp_lt_n, ↓tp_bd_n, ↓tp_jn0_n, ↓tp_jn1_n, ↓tp_jn2_n, ↓tp_jn3_n, w32_id, if_pos, if_neg, if_true, if_false, tp_ck_t, tp_nz_t, tp_gd_i]
    exact wp_some (hQ _ _ ⟨rfl, Or.inl ⟨rfl, fun v v1 v2 => i2 v v1 (by omega)⟩⟩)
theorem ps_areCrowds {M : tp_M} (hn : 2 ≤ M 0 3 ∧ M 0 3 ≤ 8) (hc : ∀ v : Int, 1 ≤ v → v < M 0 3 → (0 ≤ M 5 (8 + v) ∧ M 5 (8 + v) < 2000000) ∧ 0 ≤ M 4 (8 + v) ∧ M 4 (8 + v) < 2000000) : wp (fx_X11_areCrowds 5 17 M) (fun r M1 => M1 = M ∧ ((r = 1 ∧ ∀ v : Int, 1 ≤ v → v < M 0 3 → M 5 (8 + v) = M 4 (8 + v)) ∨ (r = 0 ∧ ∃ v : Int, (1 ≤ v ∧ v < M 0 3) ∧ ¬ M 5 (8 + v) = M 4 (8 + v)))) := by
  unfold fx_X11_areCrowds
  refine wp_lt ?_
  refine wp_lt ?_
  refine wp_lp2 (fun a z M1 => M1 = M ∧ (1 ≤ z ∧ z ≤ M 0 3) ∧ ((a = 1 ∧ ∀ v : Int, 1 ≤ v → v < z → M 5 (8 + v) = M 4 (8 + v)) ∨ (a = 0 ∧ ∃ v : Int, (1 ≤ v ∧ v < M 0 3) ∧ ¬ M 5 (8 + v) = M 4 (8 + v)))) (fun _ z _ => (8 - z).toNat) ?_ tp_F 1 1 M ⟨rfl, by omega, Or.inl ⟨rfl, fun v v1 v2 => by omega⟩⟩ (tp_F_pos (by omega))
  intro rec a z M1 hI hrec
  obtain ⟨rfl, i1, i2⟩ := hI
  unfold fx_X11_areCrowds_L4
  by_cases hz : z < M1 0 3
  · have h9 := hc z (by omega) hz
    rcases i2 with ⟨rfl, i2⟩ | ⟨rfl, i2⟩
    · by_cases he : M1 5 (8 + z) = M1 4 (8 + z)
      · simp (disch := omega) only [↓tp_lm_n, ↓tp_lt_n, ↓tp_bd_n, ↓tp_jn0_n, ↓tp_jn1_n, ↓tp_jn2_n, ↓tp_jn3_n, w32_id, if_pos, if_neg, if_true, if_false, tp_ck_t, tp_nz_t, tp_gd_i, he]
        refine hrec _ _ _ ⟨rfl, by omega, Or.inl ⟨rfl, fun v v1 v2 => ?_⟩⟩ (by omega)
        by_cases hv : v = z
        · rw [hv]; exact he
        · exact i2 v v1 (by omega)
      · simp (disch := omega) only [↓tp_lm_n, ↓tp_lt_n, ↓tp_bd_n, ↓tp_jn0_n, ↓tp_jn1_n, ↓tp_jn2_n, ↓tp_jn3_n, w32_id, if_pos, if_neg, if_true, if_false, tp_ck_t, tp_nz_t, tp_gd_i]
        exact hrec _ _ _ ⟨rfl, by omega, Or.inr ⟨rfl, z, by omega, he⟩⟩ (by omega)
    · simp (disch := omega) only [↓tp_lm_n, ↓tp_lt_n, ↓tp_bd_n, ↓tp_jn0_n, ↓tp_jn1_n, ↓tp_jn2_n, ↓tp_jn3_n, w32_id, if_pos, if_neg, if_true, if_false, tp_ck_t, tp_nz_t, tp_gd_i]
      exact hrec _ _ _ ⟨rfl, by omega, Or.inr ⟨rfl, i2⟩⟩ (by omega)
  · rcases i2 with ⟨rfl, i2⟩ | ⟨rfl, i2⟩
    · simp (disch := omega) only [↓tp_lm_n, ↓tp_lt_n, ↓tp_bd_n, ↓tp_jn0_n, ↓tp_jn1_n, ↓tp_jn2_n, ↓tp_jn3_n, w32_id, if_pos, if_neg, if_true, if_false, tp_ck_t, tp_nz_t, tp_gd_i]
      exact wp_some ⟨rfl, Or.inl ⟨rfl, fun v v1 v2 => i2 v v1 (by omega)⟩⟩
    · simp (disch := omega) only [↓tp_lm_n, ↓tp_lt_n, ↓tp_bd_n, ↓tp_jn0_n, ↓tp_jn1_n, ↓tp_jn2_n, ↓tp_jn3_n, w32_id, if_pos, if_neg, if_true, if_false, tp_ck_t, tp_nz_t, tp_gd_i]
      exact wp_some ⟨rfl, Or.inr ⟨rfl, i2⟩⟩
/-- the heap is as the crowds are: both say so -/
theorem w2_holds {C M : tp_M} {n B : Int} {D : Int → Int} (hn : 2 ≤ n ∧ n ≤ 8) (h03 : M 0 3 = n) (hB : B ≤ 1000000) (hR : sm_row (C 26) (C 27) (C 25 2) (C 25 3) (M 4) n D B) (hh : ∀ v : Int, 1 ≤ v → v < n → C 37 v = M 5 (8 + v) ∧ 0 ≤ C 37 v ∧ C 37 v < 10) (ho : ∀ v : Int, n ≤ v → v < 8 → C 37 v = 0) : (fx_X5_holds 27 8 C = some (1, C) ∧ fx_X11_areCrowds 5 17 M = some (1, M)) ∨ (fx_X5_holds 27 8 C = some (0, C) ∧ fx_X11_areCrowds 5 17 M = some (0, M)) := by
  obtain ⟨g1, g2, g3, g4, g5, g6⟩ := hR
  obtain ⟨r1, C1, f1, rfl, p⟩ := cs_holds (C := C) (fun v v1 v2 => by
    by_cases hv : v < n
    · have := hh v v1 hv
      have := g5 v v1 hv
      omega
    · have := ho v (by omega) v2
      have := g6 v (by omega) v2 (by omega)
      omega)
  obtain ⟨r2, M1, f2, rfl, q⟩ := ps_areCrowds (M := M) (by omega) (fun v v1 v2 => by
    rw [h03] at v2
    have := hh v v1 v2
    have := g5 v v1 v2
    omega)
  rw [h03] at q
  rcases p with ⟨rfl, p⟩ | ⟨rfl, v, p1, p2⟩
  · rcases q with ⟨rfl, q⟩ | ⟨rfl, v, q1, q2⟩
    · exact Or.inl ⟨f1, f2⟩
    · exfalso
      have a := p v q1.1 (by omega)
      have b := hh v q1.1 q1.2
      have c := g5 v q1.1 q1.2
      omega
  · rcases q with ⟨rfl, q⟩ | ⟨rfl, q⟩
    · exfalso
      by_cases hv : v < n
      · have a := q v p1.1 hv
        have b := hh v p1.1 hv
        have c := g5 v p1.1 hv
        omega
      · have b := ho v (by omega) p1.2
        have c := g6 v (by omega) p1.2 (by omega)
        omega
    · exact Or.inr ⟨f1, f2⟩
theorem w2_can {C M : tp_M} {B : Int} (hN : nC C (M 0 3) (M 2) (M 3)) (hB : B ≤ 1000000) (hR : sm_row (C 26) (C 27) (C 25 2) (C 25 3) (M 4) (M 0 3) (M 2) B) : (fx_X10_someCanBurst C = some (1, C) ∧ fx_X11_canBurst 4 17 M = some (1, M)) ∨ (fx_X10_someCanBurst C = some (0, C) ∧ fx_X11_canBurst 4 17 M = some (0, M) ∧ ∀ v : Int, 1 ≤ v → v < M 0 3 → M 4 (8 + v) < M 2 v) := by
  have n8 := cn_n hN
  obtain ⟨g1, g2, g3, g4, g5, g6⟩ := id hR
  have hc : wp (fx_X10_someCanBurst C) (fun r C1 => C1 = C ∧ ((r = 0 ∧ ∀ v : Int, 1 ≤ v → v < M 0 3 → M 4 (8 + v) < M 2 v) ∨ (r = 1 ∧ ∃ v : Int, (1 ≤ v ∧ v < M 0 3) ∧ M 2 v ≤ M 4 (8 + v)))) := by
    unfold fx_X10_someCanBurst
    refine wp_lt ?_
    refine wp_lp1 (fun z C1 => C1 = C ∧ (1 ≤ z ∧ z ≤ M 0 3) ∧ ∀ v : Int, 1 ≤ v → v < z → M 4 (8 + v) < M 2 v) (fun z _ => (8 - z).toNat) ?_ tp_F 1 C ⟨rfl, by omega, fun v v1 v2 => by omega⟩ (tp_F_pos (by omega))
    intro rec z C1 hI hrec
    obtain ⟨rfl, i1, i2⟩ := hI
    unfold fx_X10_someCanBurst_L2
    rw [cn_crossings hN, tp_bd_s, w32_id (show -2147483648 ≤ z ∧ z < 2147483648 by omega), w32_id (show -2147483648 ≤ M 0 3 ∧ M 0 3 < 2147483648 by omega)]
    by_cases hz : z < M 0 3
    · obtain ⟨-, -, t3, t4⟩ := g5 z i1.1 hz
      have hcb := cs_canBurst (k1 := 25) (Or.inl rfl) hN ⟨i1.1, hz⟩ (by rw [show C1 (25 + 2) z = M 4 (8 + z) from t3]; omega)
      rw [show C1 (25 + 2) z = M 4 (8 + z) from t3] at hcb
      rw [if_pos hz, hcb, tp_bd_s]
      by_cases hd : M 2 z ≤ M 4 (8 + z)
      · rw [if_pos hd, show w32 1 = 1 from rfl, if_neg (by decide)]
        exact wp_some ⟨rfl, Or.inr ⟨rfl, z, ⟨i1.1, hz⟩, hd⟩⟩
      · rw [if_neg hd, show w32 0 = 0 from rfl, if_pos rfl]
        refine wp_lt ?_
        refine hrec _ _ ⟨rfl, by omega, fun v v1 v2 => ?_⟩ (by omega)
        by_cases hv : v = z
        · rw [hv]; omega
        · exact i2 v v1 (by omega)
    · rw [if_neg hz]
      exact wp_some ⟨rfl, Or.inl ⟨rfl, fun v v1 v2 => i2 v v1 (by omega)⟩⟩
  have hm : wp (fx_X11_canBurst 4 17 M) (fun r M1 => M1 = M ∧ ((r = 0 ∧ ∀ v : Int, 1 ≤ v → v < M 0 3 → M 4 (8 + v) < M 2 v) ∨ (r = 1 ∧ ∃ v : Int, (1 ≤ v ∧ v < M 0 3) ∧ M 2 v ≤ M 4 (8 + v)))) := by
    unfold fx_X11_canBurst
    refine wp_lt ?_
    refine wp_lt ?_
    refine wp_lp2 (fun a z M1 => M1 = M ∧ (1 ≤ z ∧ z ≤ M 0 3) ∧ ((a = 0 ∧ ∀ v : Int, 1 ≤ v → v < z → M 4 (8 + v) < M 2 v) ∨ (a = 1 ∧ ∃ v : Int, (1 ≤ v ∧ v < M 0 3) ∧ M 2 v ≤ M 4 (8 + v)))) (fun _ z _ => (8 - z).toNat) ?_ tp_F 0 1 M ⟨rfl, by omega, Or.inl ⟨rfl, fun v v1 v2 => by omega⟩⟩ (tp_F_pos (by omega))
    intro rec a z M1 hI hrec
    obtain ⟨rfl, i1, i2⟩ := hI
    unfold fx_X11_canBurst_L4
    by_cases hz : z < M1 0 3
    · obtain ⟨-, -, t3, t4⟩ := g5 z i1.1 hz
      have d4 := cn_D hN (a := z) ⟨i1.1, hz⟩
      rcases i2 with ⟨rfl, i2⟩ | ⟨rfl, i2⟩
      · by_cases hd : M1 2 z ≤ M1 4 (8 + z)
        · simp (disch := omega) only [↓tp_lm_n, ↓tp_lt_n, ↓tp_bd_n, ↓tp_jn0_n, ↓tp_jn1_n, ↓tp_jn2_n, ↓tp_jn3_n, w32_id, if_pos, if_neg, if_true, if_false, tp_ck_t, tp_nz_t, tp_gd_i]
          exact hrec _ _ _ ⟨rfl, by omega, Or.inr ⟨rfl, z, ⟨i1.1, hz⟩, hd⟩⟩ (by omega)
        · simp (disch := omega) only [↓tp_lm_n, ↓tp_lt_n, ↓tp_bd_n, ↓tp_jn0_n, ↓tp_jn1_n, ↓tp_jn2_n, ↓tp_jn3_n, w32_id, if_pos, if_neg, if_true, if_false, tp_ck_t, tp_nz_t, tp_gd_i]
          refine hrec _ _ _ ⟨rfl, by omega, Or.inl ⟨rfl, fun v v1 v2 => ?_⟩⟩ (by omega)
          by_cases hv : v = z
          · rw [hv]; omega
          · exact i2 v v1 (by omega)
      · simp (disch := omega) only [↓tp_lm_n, ↓tp_lt_n, ↓tp_bd_n, ↓tp_jn0_n, ↓tp_jn1_n, ↓tp_jn2_n, ↓tp_jn3_n, w32_id, if_pos, if_neg, if_true, if_false, tp_ck_t, tp_nz_t, tp_gd_i]
        exact hrec _ _ _ ⟨rfl, by omega, Or.inr ⟨rfl, i2⟩⟩ (by omega)
    · rcases i2 with ⟨rfl, i2⟩ | ⟨rfl, i2⟩
      · simp (disch := omega) only [↓tp_lm_n, ↓tp_lt_n, ↓tp_bd_n, ↓tp_jn0_n, ↓tp_jn1_n, ↓tp_jn2_n, ↓tp_jn3_n, w32_id, if_pos, if_neg, if_true, if_false, tp_ck_t, tp_nz_t, tp_gd_i]
        exact wp_some ⟨rfl, Or.inl ⟨rfl, fun v v1 v2 => i2 v v1 (by omega)⟩⟩
      · simp (disch := omega) only [↓tp_lm_n, ↓tp_lt_n, ↓tp_bd_n, ↓tp_jn0_n, ↓tp_jn1_n, ↓tp_jn2_n, ↓tp_jn3_n, w32_id, if_pos, if_neg, if_true, if_false, tp_ck_t, tp_nz_t, tp_gd_i]
        exact wp_some ⟨rfl, Or.inr ⟨rfl, i2⟩⟩
  obtain ⟨r1, C1, f1, rfl, p⟩ := hc
  obtain ⟨r2, M1, f2, rfl, q⟩ := hm
  rcases p with ⟨rfl, p⟩ | ⟨rfl, v, p1, p2⟩
  · rcases q with ⟨rfl, q⟩ | ⟨rfl, v, q1, q2⟩
    · exact Or.inr ⟨f1, f2, p⟩
    · have := p v q1.1 q1.2
      omega
  · rcases q with ⟨rfl, q⟩ | ⟨rfl, q⟩
    · have := q v p1.1 p1.2
      omega
    · exact Or.inl ⟨f1, f2⟩
abbrev sn_C : List Nat := [28, 29, 30, 37, 38, 39]
abbrev sn_M : List Nat := [5, 15]
theorem ans_sn {B : Int} {C M C1 M1 : tp_M} {r1 r2 : Int} (h : Sim B C M) (hr : r1 = r2) (f : tp_fr sn_C C C1) (g : tp_fr sn_M (tp_up M 0 0 0) M1) : Ans B r1 C1 r2 M1 := by
  have e0 : M1 0 = tp_up M 0 0 0 0 := g 0 (by simp)
  exact ans_same h (fr_mono f (by simp)) (fr_tr (fr_up fr_rf (by simp)) (fr_mono g (by simp))) (fun j hj => by rw [e0, up_j _ _ _ (f0_ne hj (by decide))]) hr (by rw [f 3 (by simp)]) (f 4 (by simp)) (by rw [e0]; rfl) (by rw [g 1 (by simp), up_k _ _ _ (by decide)])
theorem ans_snrow {B : Int} {C M C1 M1 C2 M2 : tp_M} {r1 r2 n : Int} {a b : Int → Int} (h : Sim B C M) (hr : r1 = r2) (hn : 2 ≤ n ∧ n ≤ 8) (f : tp_fr sn_C C C1) (g : tp_fr sn_M (tp_up M 0 0 0) M1) (f2 : tp_fr [3, 4] C1 C2) (tC : tdC C2 (n - 1) a) (g2 : tp_fr [0, 1] M1 M2) (g3 : ∀ j : Int, ¬ j = 1 → M2 0 j = M1 0 j) (tM : tdM M2 (n - 1) b) (hab : ∀ j : Int, 0 ≤ j → j < n - 1 → w64 (a j) = w64 (b j)) : Ans B r1 C2 r2 M2 := by
  have e0 : M1 0 = tp_up M 0 0 0 0 := g 0 (by simp)
  exact ans_told h (fr_tr (fr_mono f (by simp)) (fr_mono f2 (by simp))) (fr_tr (fr_up fr_rf (by simp)) (fr_tr (fr_mono g (by simp)) (fr_mono g2 (by simp)))) (fun j hj => by rw [g3 j (f0_ne hj (by decide)), e0, up_j _ _ _ (f0_ne hj (by decide))]) hr (by omega) tC tM hab
theorem ans_snone {B b : Int} {C M C1 M1 : tp_M} {r1 : Int} (h : Sim B C M) (f : tp_fr sn_C C C1) (g : tp_fr sn_M (tp_up M 0 0 0) M1) : Ans B r1 (tp_up (tp_up (tp_up C1 3 1 0) 4 0 b) 3 1 1) r1 (tp_up (tp_up (tp_up M1 0 1 0) 1 0 b) 0 1 (0 + 1)) := by
  have e0 : M1 0 = tp_up M 0 0 0 0 := g 0 (by simp)
  refine ans_told h (fr_up (fr_up (fr_up (fr_mono f (by simp)) (by simp)) (by simp)) (by simp)) (fr_up (fr_up (fr_up (fr_tr (fr_up fr_rf (by simp)) (fr_mono g (by simp))) (by simp)) (by simp)) (by simp)) (fun j hj => ?_) rfl ⟨by decide, by decide⟩ (td_1C _ _) (td_1M _ _) (fun j j1 j2 => rfl)
  rw [up_j _ _ _ (f0_ne hj (by decide)), up_k _ _ _ (by decide), up_j _ _ _ (f0_ne hj (by decide)), e0, up_j _ _ _ (f0_ne hj (by decide))]
section ST
variable {B : Int} {C M : tp_M} {a1 a2 a3 : Int}
theorem st_unit (h : Sim B C M) : wp2 (fx_X10_unit C) (fx_X11_unit M) (Ans B) := by
  have hN : nC C (M 0 3) (M 2) (M 3) := h.2.2.1
  have n8 := cn_n hN
  have hW := h.2.2.2.1
  unfold fx_X10_unit fx_X11_unit
  refine wp2_lm2 ?_
  refine wp2_call (w2_unit (C := C) (M := tp_up M 0 0 0) hN hW.2.1) (fun r1 C1 r2 M1 q => ?_)
  obtain ⟨q1, q2, q3⟩ := q
  refine wp2_lt1 ?_
  rcases q3 with ⟨rfl, rfl⟩ | ⟨q3, q4, q5, q6, q7, q8⟩
  · rw [show w32 (-3) = -3 from rfl, if_pos (by decide), if_pos (by decide)]
    exact wp2_some (ans_sn h rfl (fr_mono q1 (by simp)) q2)
  · have hN1 : nC C1 (M 0 3) (M 2) (M 3) := nC_fr hN (q1 5 (by simp)) (q1 6 (by simp)) (q1 7 (by simp)) (q1 8 (by simp)) (q1 9 (by simp))
    have e03 : M1 0 3 = M 0 3 := by rw [q2 0 (by simp)]; rfl
    rw [w32_id (show -2147483648 ≤ r1 ∧ r1 < 2147483648 by omega), w32_id (show -2147483648 ≤ r2 ∧ r2 < 2147483648 by omega), if_neg (show ¬ r1 < 0 by omega), if_neg (show ¬ r2 < 0 by omega), cn_crossings hN1, tp_bd_s]
    refine wp2_c1 (pc_tellRow (k := 39) (n := M 0 3) ⟨by decide, by decide⟩ (by omega)) (fun _ C2 s => ?_)
    obtain ⟨s1, s2⟩ := s
    refine wp2_c2 (ps_entersCrowds (M := M1) (by omega)) (fun _ M2 t => ?_)
    obtain ⟨t1, t2, t3⟩ := t
    rw [e03] at t3
    have e203 : M2 0 3 = M 0 3 := by rw [t2 3 (by decide), e03]
    rw [ps_walkers (by omega), tp_bd_s, e203]
    refine wp2_some (ans_snrow h ?_ n8 (fr_mono q1 (by simp)) q2 s1 s2 t1 t2 t3 (fun j j1 j2 => ?_))
    · rw [q7, t1 5 (by simp)]
      rfl
    · show w64 (w32 (C1 39 (j + 1))) = w64 (w32 (M1 5 (8 + (j + 1))))
      have e : C1 39 (j + 1) = M1 5 (8 + (j + 1)) := (q5 (j + 1) (by omega) (by show j + 1 < M 0 3; omega)).1
      rw [e]
theorem st_returns (hB : 1000 ≤ B ∧ B ≤ 600000) (h : Sim B C M) : wp2 (fx_X10_returns C) (fx_X11_returns M) (Ans B) := by
  have hN : nC C (M 0 3) (M 2) (M 3) := h.2.2.1
  have n8 := cn_n hN
  have hW := h.2.2.2.1
  unfold fx_X10_returns fx_X11_returns
  refine wp2_lm2 ?_
  rcases w2_can (C := C) (M := tp_up M 0 0 0) (B := B) hN (by omega) hW with ⟨f1, f2⟩ | ⟨f1, f2, hst⟩
  · rw [f1, f2, tp_bd_s, tp_bd_s, show w32 1 = 1 from rfl]
    refine wp2_f1 (by decide) ?_
    refine wp2_f2 (by decide) ?_
    exact wp2_some (ans_no h)
  · rw [f1, f2, tp_bd_s, tp_bd_s, show w32 0 = 0 from rfl]
    refine wp2_t1 rfl ?_
    refine wp2_t2 rfl ?_
    refine wp2_call (w2_unit (C := C) (M := tp_up M 0 0 0) hN hW.2.1) (fun r1 C1 r2 M1 q => ?_)
    obtain ⟨q1, q2, q3⟩ := q
    have fC1 : tp_fr sn_C C C1 := fr_mono q1 (by simp)
    rcases q3 with ⟨rfl, rfl⟩ | ⟨q3, q4, q5, q6, q7, q8⟩
    · rw [show w32 (-3) = -3 from rfl]
      refine wp2_t1 (by decide) ?_
      refine wp2_t2 (by decide) ?_
      exact wp2_some (ans_sn h rfl fC1 q2)
    · have e03 : M1 0 3 = M 0 3 := by rw [q2 0 (by simp)]; rfl
      have e2 : M1 2 = M 2 := by rw [q2 2 (by simp), up_k _ _ _ (by decide)]
      have e3 : M1 3 = M 3 := by rw [q2 3 (by simp), up_k _ _ _ (by decide)]
      have e4 : M1 4 = M 4 := by rw [q2 4 (by simp), up_k _ _ _ (by decide)]
      have q5' : ∀ v : Int, 1 ≤ v → v < M 0 3 → C1 39 v = M1 5 (8 + v) ∧ 0 ≤ C1 39 v ∧ C1 39 v < M 2 v := q5
      have hst' : ∀ v : Int, 1 ≤ v → v < M 0 3 → M 4 (8 + v) < M 2 v := hst
      rw [w32_id (show -2147483648 ≤ r1 ∧ r1 < 2147483648 by omega), w32_id (show -2147483648 ≤ r2 ∧ r2 < 2147483648 by omega)]
      refine wp2_f1 (by omega) ?_
      refine wp2_f2 (by omega) ?_
      refine wp2_c1 (cs_load (k := 27) (by decide) C1) (fun _ C2 s => ?_)
      obtain ⟨s1, s2⟩ := s
      refine wp2_c1 (cs_pour (k := 39) (by decide) C2) (fun _ C3 t => ?_)
      obtain ⟨t1, t2⟩ := t
      have fC3 : tp_fr sn_C C C3 := fr_tr fC1 (fr_tr (fr_mono s1 (by simp)) (fr_mono t1 (by simp)))
      have h37 : ∀ u : Int, 0 ≤ u → u < 8 → C3 37 u = C 27 u + C1 39 u := fun u u1 u2 => by
        rw [t2 u u1 u2, s2 u u1 u2, s1 39 (by simp), q1 27 (by simp)]
      refine wp2_lt2 ?_
      refine wp2_R1 (fun z M2 => (1 ≤ z ∧ z ≤ M 0 3) ∧ tp_fr [5] M1 M2 ∧ M2 5 8 = M1 5 8 ∧ ∀ v : Int, 1 ≤ v → v < M 0 3 → M2 5 (8 + v) = if v < z then M1 5 (8 + v) + M 4 (8 + v) else M1 5 (8 + v)) (fun z _ => (8 - z).toNat) ?_ tp_F 1 M1 ⟨by omega, fr_rf, rfl, fun v v1 v2 => by rw [if_neg (by omega)]⟩ (tp_F_pos (by omega))
      intro rec z M2 hI hrec
      obtain ⟨i1, i2, i3, i4⟩ := hI
      have k0 : M2 0 3 = M 0 3 := by rw [i2 0 (by simp), e03]
      have k4 : M2 4 = M 4 := by rw [i2 4 (by simp), e4]
      unfold fx_X11_returns_L31
      rw [k0, w32_id (show -2147483648 ≤ z ∧ z < 2147483648 by omega), w32_id (show -2147483648 ≤ M 0 3 ∧ M 0 3 < 2147483648 by omega)]
      by_cases hz : z < M 0 3
      · rw [if_pos hz, w32_id (show -2147483648 ≤ 8 + z ∧ 8 + z < 2147483648 by omega)]
        refine wp2_ck2 (by omega) ?_
        refine wp2_ck2 (by omega) ?_
        refine wp2_ck2 (by omega) ?_
        refine wp2_lm2 ?_
        refine wp2_lt2 ?_
        refine hrec _ _ ⟨by omega, fr_up i2 (by simp), by rw [up_j _ _ _ (by omega)]; exact i3, fun v v1 v2 => ?_⟩ (by omega)
        rw [up_c]
        by_cases hv : v = z
        · rw [if_pos (by omega), if_pos (by omega), i4 z i1.1 hz, if_neg (by omega), hv, k4]
        · rw [if_neg (by omega), i4 v v1 v2]
          by_cases hv2 : v < z
          · rw [if_pos hv2, if_pos (by omega)]
          · rw [if_neg hv2, if_neg (by omega)]
      · rw [if_neg hz]
        clear hrec
        have k2 : M2 2 = M 2 := by rw [i2 2 (by simp), e2]
        have k3 : M2 3 = M 3 := by rw [i2 3 (by simp), e3]
        have gM2 : tp_fr sn_M (tp_up M 0 0 0) M2 := fr_tr q2 (fr_mono i2 (by simp))
        refine wp2_call (w2_calm5 (C := C3) (M := M2) (h := fun v => M1 5 (8 + v) + M 4 (8 + v)) (S := 7 * 8) (by rw [k0, k2, k3]; exact nC_fr hN (fC3 5 (by simp)) (fC3 6 (by simp)) (fC3 7 (by simp)) (fC3 8 (by simp)) (fC3 9 (by simp))) (fun v v1 v2 => by
          rw [k0] at v2
          obtain ⟨a1, a2, a3⟩ := q5' v v1 v2
          obtain ⟨-, -, b3, b4⟩ := hW.2.2.2.2.1 v v1 v2
          rw [h37 v (by omega) (by omega), a1, b3, i4 v v1 v2, if_pos (by omega)]
          exact ⟨by omega, rfl, by omega⟩) (by rw [k0]; exact sum_le n8 (by decide) (fun v v1 v2 => by
          obtain ⟨a1, a2, a3⟩ := q5' v v1 v2
          have b := hst' v v1 v2
          have d4 := cn_D hN (a := v) ⟨v1, v2⟩
          omega)) (by decide) (by rw [i3]; exact q8)) (fun r5 C4 r6 M3 q => ?_)
        obtain ⟨rfl, u1, u2, u3, u4⟩ := q
        rw [k0] at u3
        rw [k0, k2] at u4
        have fC4 : tp_fr sn_C C C4 := fr_tr fC3 (fr_mono u1 (by simp))
        have gM3 : tp_fr sn_M (tp_up M 0 0 0) M3 := fr_tr gM2 (fr_mono u2 (by simp))
        rcases u4 with rfl | ⟨u4, u5, u6⟩
        · rw [show w32 (-3) = -3 from rfl]
          refine wp2_t1 (by decide) ?_
          refine wp2_t2 (by decide) ?_
          exact wp2_some (ans_sn h rfl fC4 gM3)
        · have hN4 : nC C4 (M 0 3) (M 2) (M 3) := nC_fr hN (fC4 5 (by simp)) (fC4 6 (by simp)) (fC4 7 (by simp)) (fC4 8 (by simp)) (fC4 9 (by simp))
          have k03 : M3 0 3 = M 0 3 := by rw [gM3 0 (by simp)]; rfl
          rw [w32_id (show -2147483648 ≤ r5 ∧ r5 < 2147483648 by omega)]
          refine wp2_f1 (by omega) ?_
          refine wp2_f2 (by omega) ?_
          rw [cn_crossings hN4, tp_bd_s]
          refine wp2_c1 (pc_tellRow (k := 37) (n := M 0 3) ⟨by decide, by decide⟩ (by omega)) (fun _ C5 x => ?_)
          obtain ⟨x1, x2⟩ := x
          refine wp2_c2 (ps_entersCrowds (M := M3) (by omega)) (fun _ M4 y => ?_)
          obtain ⟨y1, y2, y3⟩ := y
          rw [k03] at y3
          have k403 : M4 0 3 = M 0 3 := by rw [y2 3 (by decide), k03]
          have g1 : ∀ M : tp_M, fx_X11_flag 1 M = some (1, M) := fun _ => rfl
          have g0 : ∀ M : tp_M, fx_X11_flag 0 M = some (0, M) := fun _ => rfl
          have fin : ∀ r : Int, Ans B r C5 r M4 := fun r => ans_snrow h rfl n8 fC4 gM3 x1 x2 y1 y2 y3 (fun j j1 j2 => by
            show w64 (w32 (C4 37 (j + 1))) = w64 (w32 (M3 5 (8 + (j + 1))))
            rw [(u5 (j + 1) (by omega) (by omega)).1])
          rcases w2_holds (C := C5) (M := M4) (n := M 0 3) (B := B) (D := M 2) n8 k403 (by omega) (by rw [x1 26 (by simp), x1 27 (by simp), x1 25 (by simp), fC4 26 (by simp), fC4 27 (by simp), fC4 25 (by simp), y1 4 (by simp), gM3 4 (by simp), up_k _ _ _ (by decide)]; exact hW) (fun v v1 v2 => by
            rw [x1 37 (by simp), y1 5 (by simp)]
            obtain ⟨a1, a2, a3⟩ := u5 v v1 v2
            have d4 := cn_D hN (a := v) ⟨v1, v2⟩
            exact ⟨a1, a2, by omega⟩) (fun v v1 v2 => by
            rw [x1 37 (by simp), u3 v (Or.inr v1), h37 v (by omega) v2, (hW.2.2.2.2.2 v (by omega) v2 (Or.inr v1)).2]
            have : C1 39 v = 0 := q6 v (by omega) v2 (Or.inr v1)
            rw [this]
            rfl) with ⟨w1, w2⟩ | ⟨w1, w2⟩
          · rw [w1, w2, tp_bd_s, tp_bd_s, g1, tp_bd_s, show w32 1 = 1 from rfl]
            refine wp2_f1 (by decide) ?_
            exact wp2_some (fin 1)
          · rw [w1, w2, tp_bd_s, tp_bd_s, g0, tp_bd_s, show w32 0 = 0 from rfl]
            refine wp2_t1 rfl ?_
            exact wp2_some (fin 0)
end ST
