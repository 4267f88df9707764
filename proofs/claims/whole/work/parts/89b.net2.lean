/-! NET: the call -/
section LP
variable {K : tp_M → tp_O} {Q : Int → tp_M → Prop} {M : tp_M}
theorem ps_net218 (hK : ∀ M1 : tp_M, tp_fr [4] M M1 → (∀ j : Int, 0 ≤ j → j < 17 → M1 4 j = 0) → wp (K M1) Q) : wp (tp_lp1 (fx_X11_net_L218 K) tp_F 0 M) Q := by
  refine wp_lp1 (fun z M1 => (0 ≤ z ∧ z ≤ 17) ∧ tp_fr [4] M M1 ∧ ∀ j : Int, 0 ≤ j → j < z → M1 4 j = 0) (fun z _ => (17 - z).toNat) ?_ tp_F 0 M ⟨by omega, fr_rf, fun j a b => by omega⟩ (tp_F_pos (by omega))
  rintro rec z M1 ⟨i1, i2, i3⟩ hrec
  unfold fx_X11_net_L218
  rw [w32_id (show -2147483648 ≤ z ∧ z < 2147483648 by omega)]
  by_cases hz : z < 17
  · rw [if_pos hz]
    refine wp_ck (by omega) ?_
    refine wp_lm ?_
    refine wp_lt ?_
    refine hrec _ _ ⟨by omega, fr_up i2 (by simp), fun j a b => ?_⟩ (by omega)
    rw [up_c]
    by_cases e : j = z
    · rw [if_pos e]
    · rw [if_neg e]; exact i3 j a (by omega)
  · rw [if_neg hz]
    exact hK M1 i2 (fun j a b => i3 j a (by omega))
theorem ps_net153 {n : Int} (hn : 2 ≤ n ∧ n ≤ 8) (h3 : M 0 3 = n) (hK : ∀ M1 : tp_M, tp_fr [2, 3] M M1 → (∀ v : Int, 1 ≤ v → v < n → M1 2 v = M 7 v ∧ ∀ j : Int, 0 ≤ j → j < 4 → M1 3 (4 * v + j) = M 8 (4 * v + j)) → wp (K M1) Q) : wp (tp_lp1 (fx_X11_net_L153 K) tp_F 1 M) Q := by
  refine wp_lp1 (fun z M1 => (1 ≤ z ∧ z ≤ n) ∧ tp_fr [2, 3] M M1 ∧ ∀ v : Int, 1 ≤ v → v < z → M1 2 v = M 7 v ∧ ∀ j : Int, 0 ≤ j → j < 4 → M1 3 (4 * v + j) = M 8 (4 * v + j)) (fun z _ => (n - z).toNat) ?_ tp_F 1 M ⟨by omega, fr_rf, fun v a b => by omega⟩ (tp_F_pos (by omega))
  rintro rec z M1 ⟨i1, i2, i3⟩ hrec
  unfold fx_X11_net_L153
  rw [i2 0 (by simp), h3, w32_id (show -2147483648 ≤ z ∧ z < 2147483648 by omega), w32_id (show -2147483648 ≤ n ∧ n < 2147483648 by omega)]
  by_cases hz : z < n
  · rw [if_pos hz]
    refine wp_ck (by omega) ?_
    refine wp_ck (by omega) ?_
    refine wp_lm ?_
    refine wp_lt ?_
    refine wp_lp1 (fun y M2 => (0 ≤ y ∧ y ≤ 4) ∧ tp_fr [2, 3] M M2 ∧ (∀ v : Int, 1 ≤ v → v < z → M2 2 v = M 7 v ∧ ∀ j : Int, 0 ≤ j → j < 4 → M2 3 (4 * v + j) = M 8 (4 * v + j)) ∧ M2 2 z = M 7 z ∧ ∀ j : Int, 0 ≤ j → j < y → M2 3 (4 * z + j) = M 8 (4 * z + j)) (fun y _ => (4 - y).toNat) ?_ tp_F 0 _ ⟨by omega, fr_up i2 (by simp), fun v a b => ?_, by rw [up_s, i2 7 (by simp)], fun j a b => by omega⟩ (tp_F_pos (by omega))
    · rintro rec2 y M2 ⟨y1, y2, y3, y4, y5⟩ hrec2
      unfold fx_X11_net_L176
      rw [w32_id (show -2147483648 ≤ y ∧ y < 2147483648 by omega)]
      by_cases hy : y < 4
      · rw [if_pos hy, w32_id (show -2147483648 ≤ 4 * z + y ∧ 4 * z + y < 2147483648 by omega)]
        refine wp_ck (by omega) ?_
        refine wp_ck (by omega) ?_
        refine wp_lm ?_
        refine wp_lt ?_
        refine hrec2 _ _ ⟨by omega, fr_up y2 (by simp), fun v a b => ?_, by rw [up_k _ _ _ (by decide)]; exact y4, fun j a b => ?_⟩ (by omega)
        · rw [up_k _ _ _ (by decide)]
          refine ⟨(y3 v a b).1, fun j c d => ?_⟩
          rw [up_j _ _ _ (by omega)]
          exact (y3 v a b).2 j c d
        · rw [up_c]
          by_cases e : j = y
          · rw [if_pos (by omega), e, y2 8 (by simp)]
          · rw [if_neg (by omega)]; exact y5 j a (by omega)
      · rw [if_neg hy]
        refine wp_lt ?_
        refine hrec _ _ ⟨by omega, y2, fun v a b => ?_⟩ (by omega)
        by_cases e : v = z
        · rw [e]; exact ⟨y4, fun j c d => y5 j c (by omega)⟩
        · exact y3 v a (by omega)
    · rw [up_j _ _ _ (by omega), up_k _ _ _ (by decide)]
      exact i3 v a b
  · rw [if_neg hz]
    exact hK M1 i2 (fun v a b => i3 v a (by omega))
end LP
theorem ps_net254 {M : tp_M} : wp (tp_lp1 fx_X11_net_L254 tp_F 0 M) (fun r M1 => r = M 0 3 ∧ tp_fr [32] M M1 ∧ ∀ j : Int, 0 ≤ j → j < 3 → M1 32 j = 0) := by
  refine wp_lp1 (fun z M1 => (0 ≤ z ∧ z ≤ 3) ∧ tp_fr [32] M M1 ∧ ∀ j : Int, 0 ≤ j → j < z → M1 32 j = 0) (fun z _ => (3 - z).toNat) ?_ tp_F 0 M ⟨by omega, fr_rf, fun j a b => by omega⟩ (tp_F_pos (by omega))
  rintro rec z M1 ⟨i1, i2, i3⟩ hrec
  unfold fx_X11_net_L254
  rw [w32_id (show -2147483648 ≤ z ∧ z < 2147483648 by omega)]
  by_cases hz : z < 3
  · rw [if_pos hz]
    refine wp_ck (by omega) ?_
    refine wp_lm ?_
    refine wp_lt ?_
    refine hrec _ _ ⟨by omega, fr_up i2 (by simp), fun j a b => ?_⟩ (by omega)
    rw [up_c]
    by_cases e : j = z
    · rw [if_pos e]
    · rw [if_neg e]; exact i3 j a (by omega)
  · rw [if_neg hz]
    exact wp_some ⟨by rw [i2 0 (by simp)], i2, fun j a b => i3 j a (by omega)⟩
theorem cs_moor0 {C : tp_M} : wp (fx_X2_clear 25 C) (fun _ C1 => tp_fr [25, 26, 27] C C1 ∧ C1 25 2 = 0 ∧ C1 25 3 = 0 ∧ ∀ j : Int, 0 ≤ j → j < 8 → C1 26 j = 0 ∧ C1 27 j = 0) := by
  refine wp_K (fun Q hQ => ?_)
  unfold fx_X2_clear
  refine wp_lm ?_
  refine wp_lm ?_
  refine wp_lt ?_
  refine wp_lp1 (fun z C1 => (0 ≤ z ∧ z ≤ 8) ∧ tp_fr [25, 26, 27] C C1 ∧ C1 25 2 = 0 ∧ C1 25 3 = 0 ∧ ∀ j : Int, 0 ≤ j → j < z → C1 26 j = 0 ∧ C1 27 j = 0) (fun z _ => (8 - z).toNat) ?_ tp_F 0 _ ⟨by omega, fr_up (fr_up fr_rf (by simp)) (by simp), by rw [up_j _ _ _ (by decide), up_s], up_s _ _ _ _, fun j a b => by omega⟩ (tp_F_pos (by omega))
  rintro rec z C1 ⟨i1, i2, i3, i4, i5⟩ hrec
  unfold fx_X2_clear_L12
  rw [w32_id (show -2147483648 ≤ z ∧ z < 2147483648 by omega)]
  by_cases hz : z < 8
  · rw [if_pos hz]
    refine wp_ck (by omega) ?_
    refine wp_lm ?_
    refine wp_ck (by omega) ?_
    refine wp_lm ?_
    refine wp_lt ?_
    refine hrec _ _ ⟨by omega, fr_up (fr_up i2 (by simp)) (by simp), by rw [up_k _ _ _ (by decide), up_k _ _ _ (by decide)]; exact i3, by rw [up_k _ _ _ (by decide), up_k _ _ _ (by decide)]; exact i4, fun j a b => ?_⟩ (by omega)
    rw [show (25 + 1) = 26 from rfl, show (25 + 2) = 27 from rfl, up_k _ _ _ (by decide), up_c, up_c, up_k _ _ _ (by decide)]
    by_cases e : j = z
    · rw [if_pos e, if_pos e]; exact ⟨rfl, rfl⟩
    · rw [if_neg e, if_neg e]; exact i5 j a (by omega)
  · rw [if_neg hz]
    exact wp_some (hQ _ _ ⟨i2, i3, i4, fun j a b => i5 j a (by omega)⟩)
theorem cs_netclear {C : tp_M} : wp (fx_X4_clear 10 C) (fun _ C1 => tp_fr [10, 11, 13, 14] C C1 ∧ C1 10 5 = 0 ∧ ∀ j : Int, 0 ≤ j → j < 8 → C1 11 j = 0 ∧ C1 13 j = 0) := by
  refine wp_K (fun Q hQ => ?_)
  unfold fx_X4_clear
  refine wp_lm ?_
  refine wp_lm ?_
  refine wp_lt ?_
  refine wp_lp1 (fun z C1 => (0 ≤ z ∧ z ≤ 8) ∧ tp_fr [10, 11, 13, 14] C C1 ∧ C1 10 5 = 0 ∧ ∀ j : Int, 0 ≤ j → j < z → C1 11 j = 0 ∧ C1 13 j = 0) (fun z _ => (8 - z).toNat) ?_ tp_F 0 _ ⟨by omega, fr_up (fr_up fr_rf (by simp)) (by simp), by rw [up_j _ _ _ (by decide), up_s], fun j a b => by omega⟩ (tp_F_pos (by omega))
  rintro rec z C1 ⟨i1, i2, i3, i5⟩ hrec
  unfold fx_X4_clear_L12
  rw [w32_id (show -2147483648 ≤ z ∧ z < 2147483648 by omega)]
  by_cases hz : z < 8
  · rw [if_pos hz]
    refine wp_ck (by omega) ?_
    refine wp_lm ?_
    refine wp_ck (by omega) ?_
    refine wp_lm ?_
    refine wp_ck (by omega) ?_
    refine wp_lm ?_
    refine wp_lt ?_
    refine hrec _ _ ⟨by omega, fr_up (fr_up (fr_up i2 (by simp)) (by simp)) (by simp), by simp (disch := omega) only [up_k]; exact i3, fun j a b => ?_⟩ (by omega)
    have a11 : tp_up (tp_up (tp_up C1 11 z 0) 13 z 0) 14 z (-1) 11 j = if j = z then 0 else C1 11 j := by rw [up_k _ _ _ (by decide), up_k _ _ _ (by decide), up_c]
    have a13 : tp_up (tp_up (tp_up C1 11 z 0) 13 z 0) 14 z (-1) 13 j = if j = z then 0 else C1 13 j := by rw [up_k _ _ _ (by decide), up_c, up_k _ _ _ (by decide)]
    rw [show (10 + 1) = 11 from rfl, show (10 + 3) = 13 from rfl, show (10 + 4) = 14 from rfl, a11, a13]
    by_cases e : j = z
    · rw [if_pos e, if_pos e]; exact ⟨rfl, rfl⟩
    · rw [if_neg e, if_neg e]; exact i5 j a (by omega)
  · rw [if_neg hz]
    exact wp_some (hQ _ _ ⟨i2, i3, fun j a b => i5 j a (by omega)⟩)
theorem in_cg {n : Int} {D G D2 G2 : Int → Int} {g : Int} (e : ∀ v : Int, 1 ≤ v → v < n → D2 v = D v ∧ ∀ k : Int, 0 ≤ k → k < D v → G2 (4 * v + k) = G (4 * v + k)) : ∀ (d : Nat) (v : Int), nt_in n D2 G2 g d v ↔ nt_in n D G g d v := by
  intro d
  induction d with
  | zero => intro v; exact Iff.rfl
  | succ d ih =>
    intro v
    refine or_congr (ih v) (and_congr_right (fun v1 => and_congr_right (fun v2 => exists_congr (fun k => and_congr_right (fun k1 => ?_)))))
    obtain ⟨e1, e2⟩ := e v v1 v2
    rw [e1]
    refine and_congr_right (fun k2 => ?_)
    rw [e2 k k1 k2]
    exact ih _
theorem far_cg {n : Int} {D G D2 G2 : Int → Int} {g : Int} (e : ∀ v : Int, 1 ≤ v → v < n → D2 v = D v ∧ ∀ k : Int, 0 ≤ k → k < D v → G2 (4 * v + k) = G (4 * v + k)) {v : Int} {d : Nat} (h : nt_far n D G g v d) : nt_far n D2 G2 g v d :=
  ⟨(in_cg e d v).mpr h.1, fun e2 he q => h.2 e2 he ((in_cg e e2 v).mp q)⟩
section ST
variable {B : Int} {C M : tp_M}
theorem st_net (hB : 0 ≤ B) (h : Sim B C M) : wp2 (fx_X10_net C) (fx_X11_net M) (Ans B) := by
  obtain ⟨⟨t1, t2⟩, t3, t4⟩ := txt_T h
  generalize hT : M 6 = T at *
  generalize hNN : M 0 9 = N at *
  unfold fx_X10_net fx_X11_net fx_X11_begins
  refine wp2_lm2 ?_
  rw [tp_lt_s, tp_lm_s, tp_lm_s, tp_lm_s, tp_lm_s, tp_bd_s, show tp_up M 0 0 0 0 9 = N by rw [up_j _ _ _ (by decide)]; exact hNN, w32_id (show -2147483648 ≤ N ∧ N < 2147483648 by omega), show w32 80 = 80 from rfl, show min N 80 = N by omega]
  refine wp2_lm2 ?_
  refine wp2_lt2 ?_
  refine wp2_lt2 ?_
  generalize hM0 : tp_up (tp_up (tp_up (tp_up (tp_up (tp_up M 0 0 0) 0 9 0) 0 10 0) 0 12 0) 0 11 N) 0 15 0 = M0
  have fM0 : tp_fr [0] M M0 := by rw [← hM0]; exact fr_up (fr_up (fr_up (fr_up (fr_up (fr_up fr_rf (by simp)) (by simp)) (by simp)) (by simp)) (by simp)) (by simp)
  have m09 : M0 0 9 = 0 := by rw [← hM0]; simp (disch := omega) only [up_j, up_s]
  have m010 : M0 0 10 = 0 := by rw [← hM0]; simp (disch := omega) only [up_j, up_s]
  have m011 : M0 0 11 = N := by rw [← hM0]; simp (disch := omega) only [up_j, up_s]
  have m015 : M0 0 15 = 0 := by rw [← hM0]; exact up_s _ _ _ _
  have m0j : ∀ j : Int, j ∈ ([1, 3, 18, 23, 39, 44] : List Int) → M0 0 j = M 0 j := fun j hj => by
    simp only [List.mem_cons, List.not_mem_nil, or_false] at hj
    rw [← hM0]; simp (disch := omega) only [up_j]
  have m06 : M0 6 = T := by rw [fM0 6 (by simp)]; exact hT
  refine wp2_bd1 ?_
  unfold fx_X4_read
  refine wp2_c1 cs_netclear (fun _ C0 q => ?_)
  obtain ⟨q1, q2, q3⟩ := q
  refine wp2_lt1 ?_
  refine wp2_lt1 ?_
  have c011 : C0 1 1 = N := by rw [q1 1 (by simp)]; exact t1
  have c02 : ∀ j : Int, 0 ≤ j → j < N → C0 2 j = T j := by rw [q1 2 (by simp)]; exact t3
  have hbad : ∀ (r : Int) (C1 M1 : tp_M), (-2147483648 ≤ r ∧ r < 0) → tp_fr [10, 11, 12, 13, 14] C0 C1 → tp_fr [0, 7, 8] M0 M1 → (∀ j : Int, ¬ j = 10 → ¬ j = 15 → M1 0 j = M0 0 j) → wp2 ((fun r1 M2 => tp_lt r1 (fun x3 => tp_bd (fx_X7_cut 0 M2) (fun r4 M5 => if w32 x3 < 0 then some (x3, M5) else tp_bd (fx_X4_copyFrom 5 10 M5) (fun r6 M7 => tp_bd (fx_X2_clear 25 M7) (fun r8 M9 => tp_bd (fx_X3_forgetAll M9) (fun r10 M11 => tp_bd (fx_X6_clear M11) (fun r12 M13 => tp_bd (fx_X1_clear M13) (fun r14 M15 => some (x3, M15)))))))) : Int → tp_M → tp_O) r C1) (some (r, M1)) (Ans B) := fun r C1 M1 hr f g g0 => by
    refine wp2_lt1 ?_
    refine wp2_c1 (cs_cut0 (C := C1) (N := N) (by rw [f 1 (by simp)]; exact c011) t2) (fun _ C2 w => ?_)
    rw [w32_id (by omega), if_pos hr.2]
    refine wp2_some ⟨rfl, Sim_txt h (Int.le_refl B) (SC := [1, 10, 11, 12, 13, 14]) (SM := [0, 7, 8]) (fr_tr (fr_mono q1 (by simp)) (fr_tr (fr_mono f (by simp)) (fr_mono w.1 (by simp)))) (fr_tr (fr_mono fM0 (by simp)) g) (by decide) (by decide) (fun j hj => ?_) (txt_0 w.2 (by rw [g0 9 (by decide) (by decide)]; exact m09))⟩
    rw [← m0j j hj]
    simp only [List.mem_cons, List.not_mem_nil, or_false] at hj
    exact g0 j (by omega) (by omega)
  refine net_loop (T := T) (N := N) (C0 := C0) (M0 := M0) t2 t4 ?_ ?_ ?_ ?_ ?_ 7 1 0 C0 M0 tp_F tp_F (by decide) (by omega) ?_ fr_rf fr_rf (fun _ _ _ => rfl) (by have : (tp_F : Int) = 100000000 := rfl; omega) (by unfold tp_F; omega)
  · intro q C1 M1 w1 w2 f g g0
    exact hbad (-1 - q) C1 M1 (by omega) (fr_mono f (by simp)) g g0
  · intro i C1 i1 i2 e11 ed
    try simp only
    rw [tp_jn0_s]; (try dsimp only); rw [pc_X7_size, e11, tp_bd_s, w32_id (show -2147483648 ≤ i ∧ i < 2147483648 by omega)]
    by_cases i8 : i < 8
    · rw [if_pos i8, tp_ck_t (by omega), show (10 + 1) = 11 from rfl, ed i8, if_pos (by decide)]
    · rw [if_neg i8]
  · intro M1
    exact if_pos (by decide)
  · intro q M1 e10 e11 w1 w2
    try simp only
    rw [if_neg (show ¬ w32 1 = 0 by decide), e10, e11, w32_id (show -2147483648 ≤ q ∧ q < 2147483648 by omega), w32_id (show -2147483648 ≤ N ∧ N < 2147483648 by omega), if_pos w2]
  · intro i C1 M1 i1 i2 hst fC fM g0
    obtain ⟨⟨s1, s2⟩, ⟨s3, s4, s5, s6⟩, s7, s8, s9, s10, s11⟩ := hst
    try simp only
    have hrow : ∀ v : Int, 1 ≤ v → v < i + 1 → crow C1 (M1 8) v (M1 7 v) := fun v v1 v2 => by
      have := s10 v v1 (by omega)
      rw [if_pos v2] at this
      exact this
    have hdeg := s11 i i1 (by omega)
    rw [tp_jn0_s]; (try dsimp only); rw [w32_id (show -2147483648 ≤ i ∧ i < 2147483648 by omega), if_pos (by omega), tp_ck_t (by omega), show (10 + 1) = 11 from rfl, (hrow i i1 (by omega)).1, w32_id (show -2147483648 ≤ M1 7 i ∧ M1 7 i < 2147483648 by omega), if_neg (by omega), tp_lm_s]
    rw [if_neg (show ¬ w32 1 = 0 by decide), s4, s5, if_neg (by omega), tp_lt_s]
    generalize hC2 : tp_up C1 10 4 (i + 1) = C2
    have f2 : tp_fr [10, 11, 12, 13] C0 C2 := by rw [← hC2]; exact fr_up fC (by simp)
    have e4 : C2 10 4 = i + 1 := by rw [← hC2]; exact up_s _ _ _ _
    have e5 : C2 10 5 = C1 10 5 := by rw [← hC2, up_j _ _ _ (by decide)]
    have e11 : C2 11 = C1 11 := by rw [← hC2]; exact up_k _ _ _ (by decide)
    have e12 : C2 12 = C1 12 := by rw [← hC2]; exact up_k _ _ _ (by decide)
    have e13 : C2 13 = C1 13 := by rw [← hC2]; exact up_k _ _ _ (by decide)
    have hrow2 : ∀ v : Int, 1 ≤ v → v < i + 1 → crow C2 (M1 8) v (M1 7 v) := fun v v1 v2 => crow_fr (hrow v v1 v2) (by rw [e11]) (by rw [e13]) (fun _ _ _ => by rw [e12])
    obtain ⟨k1, k2⟩ := cs_check (C := C2) (n := i + 1) (D := M1 7) (G := M1 8) e4 (by omega) s11 hrow2
    have p15 : M1 0 15 = i + 1 - 1 := s6
    have hn100 := fun K => ps_net100 (M := M1) (K := K) (n := i + 1) (D := M1 7) (G := M1 8) p15 (by omega) rfl rfl s11 (fun v v1 v2 k a b => by have := (hrow2 v v1 v2).2.1.2.2 k a b; omega)
    by_cases c100 : n100 (i + 1) (M1 7) (M1 8)
    · obtain ⟨hnet, k3, k4⟩ := k2 c100
      rw [(hn100 _).1 c100]
      obtain ⟨a1, a2⟩ := ps_allCome (M := M1) (n := i + 1) p15 rfl rfl hnet
      by_cases c101 : n101 (i + 1) (M1 7) (M1 8)
      · try simp only
        rw [a1 c101, tp_bd_s, if_neg (show ¬ w32 1 = 0 by decide)]
        refine wp2_c1 (k4 c101) (fun r C3 w => ?_)
        obtain ⟨rfl, w1, w2⟩ := w
        refine wp2_lm2 ?_
        refine wp2_lt2 ?_
        have hr : ∀ (o1 : tp_O) (o2 : tp_O) (Q : Int → tp_M → Int → tp_M → Prop) (P : Int → tp_M → Prop), wp o2 P → (∀ r M2, P r M2 → wp2 o1 (some (r, M2)) Q) → wp2 o1 o2 Q := fun o1 o2 Q P ⟨r, M2, e, hp⟩ hq => by rw [e]; exact hq r M2 hp
        rw [p15, show i + 1 - 1 + 1 = i + 1 by omega]
        refine hr _ _ _ (fun r M2 => r = i + 1 ∧ tp_fr [0, 2, 3, 4, 32] M1 M2 ∧ M2 0 3 = i + 1 ∧ M2 0 23 = 0 ∧ M2 0 39 = 0 ∧ M2 0 44 = 0 ∧ (∀ j : Int, ¬ j = 3 → ¬ j = 23 → ¬ j = 39 → ¬ j = 44 → M2 0 j = M1 0 j) ∧ (∀ v : Int, 1 ≤ v → v < i + 1 → M2 2 v = M1 7 v ∧ ∀ j : Int, 0 ≤ j → j < 4 → M2 3 (4 * v + j) = M1 8 (4 * v + j)) ∧ (∀ j : Int, 0 ≤ j → j < 17 → M2 4 j = 0) ∧ ∀ j : Int, 0 ≤ j → j < 3 → M2 32 j = 0) ?_ (fun r M2 w => ?_)
        · refine ps_net153 (n := i + 1) (by omega) (up_s _ _ _ _) (fun M2 x1 x2 => ?_)
          refine wp_lt ?_
          refine ps_net218 (fun M3 y1 y2 => ?_)
          refine wp_lm ?_
          refine wp_lm ?_
          refine wp_lm ?_
          refine wp_lt ?_
          refine wp_mono ps_net254 (fun r M4 z => ?_)
          obtain ⟨rfl, z1, z2⟩ := z
          have b0 : M3 0 = tp_up M1 0 3 (i + 1) 0 := by rw [y1 0 (by simp), x1 0 (by simp)]
          have b4 : M4 0 = tp_up (tp_up (tp_up M3 0 23 0) 0 39 0) 0 44 0 0 := z1 0 (by simp)
          refine ⟨?_, fr_tr (fr_up fr_rf (by simp)) (fr_tr (fr_mono x1 (by simp)) (fr_tr (fr_mono y1 (by simp)) (fr_tr (fr_up (fr_up (fr_up fr_rf (by simp)) (by simp)) (by simp)) (fr_mono z1 (by simp))))), ?_, ?_, ?_, ?_, fun j j1 j2 j3 j4 => ?_, fun v v1 v2 => ?_, fun j j1 j2 => ?_, z2⟩
          · simp (disch := omega) only [up_j]; rw [b0, up_s]
          · rw [b4]; simp (disch := omega) only [up_j]; rw [b0, up_s]
          · rw [b4]; simp (disch := omega) only [up_j, up_s]
          · rw [b4]; simp (disch := omega) only [up_j, up_s]
          · rw [b4, up_s]
          · rw [b4]; simp (disch := omega) only [up_j]; rw [b0, up_j _ _ _ j1]
          · have := x2 v v1 v2
            rw [up_k _ _ _ (by decide), up_k _ _ _ (by decide)] at this
            rw [z1 2 (by simp), z1 3 (by simp), up_k _ _ _ (by decide), up_k _ _ _ (by decide), up_k _ _ _ (by decide), up_k _ _ _ (by decide), up_k _ _ _ (by decide), up_k _ _ _ (by decide), y1 2 (by simp), y1 3 (by simp)]
            exact this
          · rw [z1 4 (by simp), up_k _ _ _ (by decide), up_k _ _ _ (by decide), up_k _ _ _ (by decide)]
            exact y2 j j1 j2
        · obtain ⟨rfl, z1, z2, z3, z4, z5, z6, z7, z8, z9⟩ := w
          refine wp2_some ?_
          refine wp2_lt1 ?_
          have c31 : C3 1 1 = N := by rw [w1 1 (by simp), f2 1 (by simp)]; exact c011
          refine wp2_c1 (cs_cut0 (C := C3) (N := N) c31 t2) (fun _ C4 u => ?_)
          obtain ⟨u1, u2⟩ := u
          rw [w32_id (show -2147483648 ≤ i + 1 ∧ i + 1 < 2147483648 by omega), if_neg (by omega)]
          have hcp : ∃ C5 : tp_M, fx_X4_copyFrom 5 10 C4 = some (0, C5) ∧ tp_fr [5, 6, 7, 8, 9] C4 C5 ∧ C5 5 4 = C4 10 4 ∧ C5 5 5 = C4 10 5 ∧ (∀ j : Int, 0 ≤ j → j < 8 → C5 6 j = C4 11 j ∧ C5 8 j = C4 13 j ∧ C5 9 j = C4 14 j) ∧ ∀ j : Int, 0 ≤ j → j < 32 → C5 7 j = C4 12 j := by
            refine ⟨tp_cp (tp_cp (tp_cp (tp_cp (tp_up (tp_up C4 5 4 (C4 10 4)) 5 5 (C4 10 5)) 11 0 6 0 8) 12 0 7 0 32) 13 0 8 0 8) 14 0 9 0 8, ?_, fr_cp (fr_cp (fr_cp (fr_cp (fr_up (fr_up fr_rf (by simp)) (by simp)) (by simp)) (by simp)) (by simp)) (by simp), ?_, ?_, fun j j1 j2 => ⟨?_, ?_, ?_⟩, fun j j1 j2 => ?_⟩
            · unfold fx_X4_copyFrom
              rw [tp_lm_s, tp_lm_s, tp_gd_t (by decide), tp_lm_s, tp_gd_t (by decide), tp_lm_s, tp_gd_t (by decide), tp_lm_s, tp_gd_t (by decide), tp_lm_s, show tp_up C4 5 4 (C4 10 4) 10 5 = C4 10 5 by rw [up_k _ _ _ (by decide)]]
            · simp (disch := omega) only [cp_k, up_j, up_s]
            · simp (disch := omega) only [cp_k, up_s]
            · simp (disch := omega) only [cp_k, cp_c, up_k, if_pos]
              congr 1; omega
            · simp (disch := omega) only [cp_k, cp_c, up_k, if_pos]
              congr 1; omega
            · simp (disch := omega) only [cp_k, cp_c, up_k, if_pos]
              congr 1; omega
            · simp (disch := omega) only [cp_k, cp_c, up_k, if_pos]
              congr 1; omega
          obtain ⟨C5, v1, v2, v3, v4, v5, v6⟩ := hcp
          rw [v1, tp_bd_s]
          refine wp2_c1 (cs_moor0 (C := C5)) (fun _ C6 x => ?_)
          obtain ⟨x1, x2, x3, x4⟩ := x
          have hfa : ∀ C7 : tp_M, fx_X3_forgetAll C7 = some (0, tp_up (tp_up C7 34 1 0) 34 3 0) := fun C7 => rfl
          have hsc : ∀ C7 : tp_M, fx_X6_clear C7 = some (0, tp_up C7 52 3 0) := fun C7 => rfl
          have hhc : ∀ C7 : tp_M, fx_X1_clear C7 = some (0, tp_up C7 56 2 0) := fun C7 => rfl
          rw [hfa, tp_bd_s, hsc, tp_bd_s, hhc, tp_bd_s]
          have fC4 : tp_fr [1, 10, 11, 12, 13, 14] C C4 := fr_tr (fr_mono q1 (by simp)) (fr_tr (fr_mono f2 (by simp)) (fr_tr (fr_mono w1 (by simp)) (fr_mono u1 (by simp))))
          have d4 : ∀ c : Nat, (c = 10 ∨ c = 11 ∨ c = 12 ∨ c = 13) → C4 c = C2 c := fun c hc => by rw [u1 c (by simp; omega), w1 c (by simp; omega)]
          have d14 : C4 14 = C3 14 := u1 14 (by simp)
          have k6 : ∀ c : Nat, (c = 5 ∨ c = 6 ∨ c = 7 ∨ c = 8 ∨ c = 9) → C6 c = C5 c := fun c hc => x1 c (by simp; omega)
          have hcgv : ∀ v : Int, 1 ≤ v → v < i + 1 → M2 2 v = M1 7 v ∧ ∀ k : Int, 0 ≤ k → k < M1 7 v → M2 3 (4 * v + k) = M1 8 (4 * v + k) := fun v v1 v2 => ⟨(z7 v v1 v2).1, fun k a b => (z7 v v1 v2).2 k a (by have := s11 v v1 v2; omega)⟩
          refine wp2_some ⟨rfl, Sim_net h (Int.le_refl B) (SC := [1, 5, 6, 7, 8, 9, 10, 11, 12, 13, 14, 25, 26, 27, 34, 52, 56]) (SM := [0, 2, 3, 4, 7, 8, 32]) (fr_up (fr_up (fr_up (fr_up (fr_tr (fr_mono fC4 (by simp)) (fr_tr (fr_mono v2 (by simp)) (fr_mono x1 (by simp)))) (by simp)) (by simp)) (by simp)) (by simp)) (fr_tr (fr_mono fM0 (by simp)) (fr_tr (fr_mono fM (by simp)) (fr_mono z1 (by simp)))) (by decide) (by decide) (fun j hj => ?_) (txt_0 ?_ ?_) ?_ ?_ ?_ ?_ ?_ ?_⟩
          · simp only [List.mem_cons, List.not_mem_nil, or_false] at hj
            rw [z6 j (by omega) (by omega) (by omega) (by omega), g0 j (by omega) (by omega)]
            exact m0j j (by simp; omega)
          · simp (disch := omega) only [up_k]
            rw [x1 1 (by simp), v2 1 (by simp)]; exact u2
          · rw [z6 9 (by decide) (by decide) (by decide) (by decide), g0 9 (by decide) (by decide)]; exact m09
          · simp (disch := omega) only [up_k]
            rw [k6 5 (by omega), k6 6 (by omega), k6 7 (by omega), k6 8 (by omega), k6 9 (by omega), v3, v4, z2, d4 10 (by omega), e4, e5, s8]
            refine ⟨rfl, ⟨by omega, fun v a b => ?_⟩, ?_, fun v a b => ?_, fun v a b => ?_, fun v a b => ?_⟩
            · obtain ⟨e1, e2⟩ := hcgv v a b
              rw [e1]
              refine ⟨s11 v a b, fun k k1 k2 => ?_⟩
              rw [e2 k k1 k2]
              exact (hnet.2 v a b).2 k k1 k2
            · rw [show (i + 1 - 1).toNat = i.toNat by omega]
              exact sumI_cg _ _ (fun z z1 z2 => (hcgv z z1 (by omega)).1.symm)
            · rw [(v5 v a b).1, d4 11 (by omega), e11]
              by_cases v0 : v = 0
              · rw [v0, s9]; omega
              · rw [(s10 v (by omega) b).1]
                by_cases q : v < i + 1
                · rw [if_pos q]; have := s11 v (by omega) q; omega
                · rw [if_neg q]; omega
            · obtain ⟨r1, r2, r3⟩ := hrow2 v a b
              obtain ⟨e1, e2⟩ := hcgv v a b
              rw [(v5 v (by omega) (by omega)).1, (v5 v (by omega) (by omega)).2.1, d4 11 (by omega), d4 13 (by omega), r1, e1]
              refine ⟨rfl, ⟨r2.1, fun j hj => ?_⟩, fun k k1 k2 => ?_⟩
              · refine (r2.2.1 j hj).trans ?_
                rw [e1]
                exact ⟨fun ⟨m, a, b, c⟩ => ⟨m, a, b, by rw [e2 m a b]; exact c⟩, fun ⟨m, a, b, c⟩ => ⟨m, a, b, by rw [← e2 m a b]; exact c⟩⟩
              · have := s11 v a b
                rw [v6 (4 * v + k) (by omega) (by omega), d4 12 (by omega), r3 k k1 k2, e2 k k1 k2]
            · obtain ⟨d, y1, y2, y3⟩ := w2 v a b
              exact ⟨d, y1, by rw [(v5 v (by omega) (by omega)).2.2, d14]; exact y2, far_cg hcgv y3⟩
          · simp (disch := omega) only [up_k]
            rw [x2, x3, z2]
            refine ⟨(z8 8 (by omega) (by omega)).symm, ?_, (z8 16 (by omega) (by omega)).symm, ?_, fun v a b => ?_, fun v a b _ => x4 v a b⟩
            · rw [z8 8 (by omega) (by omega)]; omega
            · rw [z8 16 (by omega) (by omega)]; omega
            · have := s11 v a b
              rw [(x4 v (by omega) (by omega)).1, (x4 v (by omega) (by omega)).2, z8 v (by omega) (by omega), z8 (8 + v) (by omega) (by omega), (hcgv v a b).1]
              exact ⟨rfl, by omega, rfl, by omega, hB⟩
          · simp (disch := omega) only [up_k, up_j, up_s]
            rw [z3, x1 34 (by simp), v2 34 (by simp), fC4 34 (by simp)]
            exact ⟨rfl, by omega, h.2.2.2.2.2.1.2.2.1, fun j a b => by omega⟩
          · simp (disch := omega) only [up_k, up_j, up_s]
            refine ⟨by omega, fun j hj => ?_⟩
            have := z9 (j : Int) (by omega) (by omega)
            refine ⟨Or.inl this, ⟨fun q => ?_, fun q => by omega⟩, fun q => by omega⟩
            simp at q
          · simp (disch := omega) only [up_k, up_j, up_s]
            rw [z4]
            exact ⟨rfl, by omega, fun j a b => by omega⟩
          · simp (disch := omega) only [up_k, up_j, up_s]
            rw [z5]
            exact ⟨rfl, by omega, fun j a b => by omega⟩
      · try simp only
        rw [a2 c101, tp_bd_s, if_pos (show w32 0 = 0 by decide)]
        refine wp2_c1 (k3 c101) (fun r C3 w => ?_)
        obtain ⟨rfl, w1⟩ := w
        exact wp2_some (hbad (-101) C3 M1 (by omega) (fr_tr (fr_mono f2 (by simp)) (fr_mono w1 (by simp))) fM g0)
    · rw [(hn100 _).2 c100, k1 c100, tp_bd_s]
      exact wp2_some (hbad (-100) C2 M1 (by omega) (fr_mono f2 (by simp)) fM g0)
  · refine ⟨⟨c011, c02⟩, ⟨m06, m011, m010, by rw [m015]; rfl⟩, by omega, by rw [q2]; rfl, (q3 0 (by omega) (by omega)).1, fun v v1 v2 => ?_, fun v v1 v2 => by omega⟩
    rw [if_neg (by omega)]
    have hq := q3 v (by omega) v2
    refine ⟨hq.1, ⟨by rw [hq.2]; omega, fun j hj => ?_, fun m a b => by omega⟩, fun j a b => by omega⟩
    rw [hq.2]
    exact ⟨fun q => absurd q (bt_0 j), fun ⟨m, a, b, _⟩ => by omega⟩
end ST
