/-! YEARS -/
def ye_ok (B : Int) (C0 M0 : tp_M) (s : Int) (C M : tp_M) : Prop := tp_fr [18, 28, 29, 30, 59] C0 C ∧ tp_fr [0, 5, 11, 12] M0 M ∧ (∀ j : Int, ¬ j = 49 → M 0 j = M0 0 j) ∧ M 0 49 = s ∧ sm_row (C 29) (C 30) (C 28 2) (C 28 3) (M 5) (M0 0 3) (M0 2) B
theorem x_ushr16 (a : Int) : 0 ≤ x_ushr a 16 ∧ x_ushr a 16 ≤ 65535 := by
  rw [x_ushr_eq a (b := 16) 16 rfl (by decide) (by decide)]
  have : ((2 ^ 16 : Nat) : Int) = 65536 := by decide
  rw [this]
  omega
theorem ps_inn {M : tp_M} {v : Int} (hv : 1 ≤ v ∧ v < 8) (hd : 1 ≤ M 2 v ∧ M 2 v ≤ 4) (hg : ∀ k : Int, 0 ≤ k → k < M 2 v → 0 ≤ M 3 (4 * v + k) ∧ M 3 (4 * v + k) < 8) : fx_X11_innOf v M = some (nt_ways (M 3) v 0 (M 2 v).toNat, M) := by
  unfold fx_X11_innOf
  rw [tp_lt_s, tp_lt_s]
  have := lp2_for (body := fx_X11_innOf_L4 v) (f := fun z acc => acc + if M 3 (4 * v + z) = 0 then 1 else 0) (K := fun x => some (x, M)) (M := M) (fun _ _ => True) (M 2 v).toNat 0 0 tp_F trivial (fun rec acc z _ z1 z2 => ⟨?_, trivial⟩) (fun rec acc _ => ?_) (tp_F_pos (by omega))
  · rw [this, fZ_sum (g := fun i => if M 3 (4 * v + i) = 0 then 1 else 0) _ _ _ (fun _ _ _ _ => rfl)]
    unfold nt_ways
    rw [Int.zero_add]
  · have g := hg z z1 (by omega)
    have g1 : fx_X11_flag 1 M = some (1, M) := rfl
    have g0 : fx_X11_flag 0 M = some (0, M) := rfl
    unfold fx_X11_innOf_L4
    by_cases e : M 3 (4 * v + z) = 0
    · simp (disch := omega) only [↓tp_lm_n, ↓tp_lt_n, ↓tp_bd_n, ↓tp_jn0_n, ↓tp_jn1_n, ↓tp_jn2_n, ↓tp_jn3_n, w32_id, if_pos, if_neg, if_true, if_false, tp_ck_t, tp_nz_t, tp_gd_i, pm_goalOf (M := M) (a := v) (k := z) (by omega), g1]
    · simp (disch := omega) only [↓tp_lm_n, ↓tp_lt_n, ↓tp_bd_n, ↓tp_jn0_n, ↓tp_jn1_n, ↓tp_jn2_n, ↓tp_jn3_n, w32_id, if_pos, if_neg, if_true, if_false, tp_ck_t, tp_nz_t, tp_gd_i, pm_goalOf (M := M) (a := v) (k := z) (by omega), g0]
  · unfold fx_X11_innOf_L4
    simp (disch := omega) only [↓tp_lm_n, ↓tp_lt_n, ↓tp_bd_n, ↓tp_jn0_n, ↓tp_jn1_n, ↓tp_jn2_n, ↓tp_jn3_n, w32_id, if_pos, if_neg, if_true, if_false, tp_ck_t, tp_nz_t, tp_gd_i]
theorem ye_c {C : tp_M} {n : Int} {D G : Int → Int} {a2 r r1 r2 what vv c s t : Int} (hN : nC C n D G) (ht : (0 ≤ t ∧ t < a2) ∧ a2 ≤ 60) (h1 : r * 1103515245 + 12345 = r1) (h2 : r1 * 1103515245 + 12345 = r2) (hw : x_rem (x_ushr r1 16) 4 = what) (hv : x_rem (x_ushr r2 16) (n - 1) = vv) (bw : 0 ≤ what ∧ what < 4) (bv : 0 ≤ vv ∧ vv < n - 1) (hc : 0 ≤ C 30 (1 + vv) ∧ C 30 (1 + vv) < 2000000) (K : Int → Int → tp_M → tp_O) (rec : Int → Int → Int → Int → tp_M → tp_O) :
    (what < 2 → C 30 (1 + vv) < 99 → fx_X10_years_L35 a2 K rec r c s t C = rec r2 c s (t + 1) (tp_up C 30 (1 + vv) (C 30 (1 + vv) + 1))) ∧ (what < 2 → ¬ C 30 (1 + vv) < 99 → fx_X10_years_L35 a2 K rec r c s t C = rec r2 c s (t + 1) C) ∧ (what = 2 → 0 < C 30 (1 + vv) → fx_X10_years_L35 a2 K rec r c s t C = tp_bd (fx_X10_stepOf 28 (1 + vv) C) (fun r41 M42 => if w32 r41 = 0 then rec r2 (c + 1) (s + 1) (t + 1) M42 else rec r2 c (s + 1) (t + 1) M42)) ∧ (what = 2 → ¬ 0 < C 30 (1 + vv) → fx_X10_years_L35 a2 K rec r c s t C = rec r2 c s (t + 1) C) ∧ (what = 3 → D (1 + vv) ≤ C 30 (1 + vv) → fx_X10_years_L35 a2 K rec r c s t C = tp_bd (fx_X10_burst 28 (1 + vv) C) (fun r37 M38 => rec r2 (c + r37) s (t + 1) M38)) ∧ (what = 3 → ¬ D (1 + vv) ≤ C 30 (1 + vv) → fx_X10_years_L35 a2 K rec r c s t C = rec r2 c s (t + 1) C) := by
  have n8 := cn_n hN
  have hpv := cn_hasPost hN (a := 1 + vv) (by unfold pu_in; omega)
  rw [if_pos (show 1 ≤ 1 + vv ∧ 1 + vv < n by omega)] at hpv
  have hcb := cs_canBurst (k1 := 28) (by omega) hN (v := 1 + vv) (by omega) (by show 0 ≤ C 30 (1 + vv) ∧ C 30 (1 + vv) < 2147483648; omega)
  rw [show C (28 + 2) (1 + vv) = C 30 (1 + vv) from rfl] at hcb
  have hcr := cn_crossings hN
  have hbase : fx_X10_years_L35 a2 K rec r c s t C = tp_jn2 (fun y30 y31 M32 => tp_lt (t + 1) (fun x33 => rec r2 y30 y31 x33 M32)) (fun jk203 => if what < 2 then tp_ck (1 + vv) 8 (if C 30 (1 + vv) < 99 then tp_ck (1 + vv) 8 (tp_ck (1 + vv) 8 (tp_lm (tp_up C 30 (1 + vv) (C 30 (1 + vv) + 1)) (fun M44 => jk203 c s M44))) else jk203 c s C) else tp_jn0 (fun M34 => if what = 3 then tp_bd (fx_X10_canBurst 28 (1 + vv) M34) (fun r35 M36 => if w32 r35 = 0 then jk203 c s M36 else tp_bd (fx_X10_burst 28 (1 + vv) M36) (fun r37 M38 => tp_lt (c + r37) (fun x39 => jk203 x39 s M38))) else jk203 c s M34) (fun jk169 => if what = 2 then tp_ck (1 + vv) 8 (if C 30 (1 + vv) ≤ 0 then jk169 C else tp_lt (s + 1) (fun x40 => tp_bd (fx_X10_stepOf 28 (1 + vv) C) (fun r41 M42 => if w32 r41 = 0 then tp_lt (c + 1) (fun x43 => jk203 x43 x40 M42) else jk203 c x40 M42))) else jk169 C)) := by
    rw [fx_X10_years_L35, w32_id (show -2147483648 ≤ t ∧ t < 2147483648 by omega), w32_id (show -2147483648 ≤ a2 ∧ a2 < 2147483648 by omega), if_pos ht.1.2]
    unfold fx_X10_nextRandom fx_X10_draw
    rw [tp_bd_s, tp_lt_s, h1, if_neg (show ¬ w32 4 ≤ 0 by decide), tp_nz_t (show ¬ w32 4 = 0 by decide), tp_bd_s, tp_lt_s, hw, tp_bd_s, tp_lt_s, h2, hcr, tp_bd_s, w32_id (show -2147483648 ≤ n - 1 ∧ n - 1 < 2147483648 by omega), if_neg (show ¬ n - 1 ≤ 0 by omega), tp_nz_t (show ¬ n - 1 = 0 by omega), tp_bd_s, tp_lt_s, hv, hpv, tp_bd_s, w32_id (show -2147483648 ≤ what ∧ what < 2147483648 by omega), w32_id (show -2147483648 ≤ 1 + vv ∧ 1 + vv < 2147483648 by omega), w32_id (show -2147483648 ≤ C 30 (1 + vv) ∧ C 30 (1 + vv) < 2147483648 by omega)]
    rfl
  rw [hbase]
  clear hbase hv hw h1 h2
  refine ⟨fun q1 q2 => ?_, fun q1 q2 => ?_, fun q1 q2 => ?_, fun q1 q2 => ?_, fun q1 q2 => ?_, fun q1 q2 => ?_⟩
  · simp (disch := omega) only [↓tp_lm_n, ↓tp_lt_n, ↓tp_bd_n, ↓tp_jn0_n, ↓tp_jn1_n, ↓tp_jn2_n, ↓tp_jn3_n, w32_id, if_pos, if_neg, if_true, if_false, tp_ck_t, tp_nz_t, tp_gd_i]
  · simp (disch := omega) only [↓tp_lm_n, ↓tp_lt_n, ↓tp_bd_n, ↓tp_jn0_n, ↓tp_jn1_n, ↓tp_jn2_n, ↓tp_jn3_n, w32_id, if_pos, if_neg, if_true, if_false, tp_ck_t, tp_nz_t, tp_gd_i]
  · simp (disch := omega) only [↓tp_lm_n, ↓tp_lt_n, ↓tp_bd_n, ↓tp_jn0_n, ↓tp_jn1_n, ↓tp_jn2_n, ↓tp_jn3_n, w32_id, if_pos, if_neg, if_true, if_false, tp_ck_t, tp_nz_t, tp_gd_i]
  · simp (disch := omega) only [↓tp_lm_n, ↓tp_lt_n, ↓tp_bd_n, ↓tp_jn0_n, ↓tp_jn1_n, ↓tp_jn2_n, ↓tp_jn3_n, w32_id, if_pos, if_neg, if_true, if_false, tp_ck_t, tp_nz_t, tp_gd_i]
  · rw [if_pos q2] at hcb
    simp (disch := omega) only [↓tp_lm_n, ↓tp_lt_n, ↓tp_bd_n, ↓tp_jn0_n, ↓tp_jn1_n, ↓tp_jn2_n, ↓tp_jn3_n, w32_id, if_pos, if_neg, if_true, if_false, tp_ck_t, tp_nz_t, tp_gd_i, hcb]
  · rw [if_neg q2] at hcb
    simp (disch := omega) only [↓tp_lm_n, ↓tp_lt_n, ↓tp_bd_n, ↓tp_jn0_n, ↓tp_jn1_n, ↓tp_jn2_n, ↓tp_jn3_n, w32_id, if_pos, if_neg, if_true, if_false, tp_ck_t, tp_nz_t, tp_gd_i, hcb]
theorem ye_m {M : tp_M} {n a2 r r1 r2 what vv c s t : Int} (hn : M 0 3 = n) (n8 : 2 ≤ n ∧ n ≤ 8) (ht : (0 ≤ t ∧ t < a2) ∧ a2 ≤ 60) (h0 : M 0 49 = r) (h1 : r * 1103515245 + 12345 = r1) (h2 : r1 * 1103515245 + 12345 = r2) (hw : x_rem (x_ushr r1 16) 4 = what) (hv : x_rem (x_ushr r2 16) (n - 1) = vv) (bw : 0 ≤ what ∧ what < 4) (bv : 0 ≤ vv ∧ vv < n - 1) (K : Int → Int → tp_M → tp_O) (rec : Int → Int → Int → tp_M → tp_O) :
    ∃ M3 : tp_M, tp_fr [0] M M3 ∧ (∀ j : Int, ¬ j = 49 → M3 0 j = M 0 j) ∧ M3 0 49 = r2 ∧ (what < 2 → fx_X11_years_L43 a2 K rec c s t M = tp_bd (fx_X11_comesMany 5 17 (1 + vv) 1 M3) (fun _ M47 => rec c s (t + 1) M47)) ∧ (what = 2 → fx_X11_years_L43 a2 K rec c s t M = tp_bd (fx_X11_goesOne 5 17 (1 + vv) M3) (fun r33 M34 => rec (c + if w32 r33 = 0 then 1 else 0) (s + if w32 r33 < 0 then 0 else 1) (t + 1) M34)) ∧ (what = 3 → fx_X11_years_L43 a2 K rec c s t M = tp_bd (fx_X11_burstsOne 5 17 (1 + vv) M3) (fun r26 M27 => if w32 r26 < 0 then rec (c + 0) s (t + 1) M27 else tp_bd (fx_X11_innOf (1 + vv) M27) (fun r31 M32 => rec (c + r31) s (t + 1) M32))) := by
  refine ⟨tp_up (tp_up M 0 49 r1) 0 49 r2, fr_up (fr_up fr_rf (by simp)) (by simp), fun j hj => by rw [up_j _ _ _ hj, up_j _ _ _ hj], up_s _ _ _ _, ?_⟩
  have k3 : tp_up M 0 49 r1 0 3 = n := by rw [up_j _ _ _ (by decide)]; exact hn
  have hbase : ∀ X : tp_O, (∀ M3 : tp_M, M3 = tp_up (tp_up M 0 49 r1) 0 49 r2 → tp_jn2 (fun y22 y23 M24 => tp_lt (t + 1) (fun x25 => rec y22 y23 x25 M24)) (fun jk172 => if what < 2 then tp_bd (fx_X11_comesMany 5 17 (1 + vv) 1 M3) (fun r46 M47 => jk172 c s M47) else if what = 2 then tp_bd (fx_X11_goesOne 5 17 (1 + vv) M3) (fun r33 M34 => tp_lt r33 (fun x35 => tp_jn1 (fun y36 M37 => tp_bd (fx_X11_flag y36 M37) (fun r38 M39 => tp_lt (c + r38) (fun x40 => tp_jn1 (fun y41 M42 => tp_bd (fx_X11_flag y41 M42) (fun r43 M44 => tp_lt (s + r43) (fun x45 => jk172 x40 x45 M44))) (fun jk137 => if w32 x35 < 0 then jk137 0 M39 else jk137 1 M39)))) (fun jk120 => if w32 x35 = 0 then jk120 1 M34 else jk120 0 M34))) else tp_bd (fx_X11_burstsOne 5 17 (1 + vv) M3) (fun r26 M27 => tp_jn1 (fun y28 M29 => tp_lt (c + y28) (fun x30 => jk172 x30 s M29)) (fun jk170 => if w32 r26 < 0 then jk170 0 M27 else tp_bd (fx_X11_innOf (1 + vv) M27) (fun r31 M32 => jk170 r31 M32)))) = X) → fx_X11_years_L43 a2 K rec c s t M = X := fun X hX => by
    rw [fx_X11_years_L43, w32_id (show -2147483648 ≤ t ∧ t < 2147483648 by omega), w32_id (show -2147483648 ≤ a2 ∧ a2 < 2147483648 by omega), if_pos ht.1.2]
    unfold fx_X11_draws
    rw [tp_lm_s, tp_nz_t (show ¬ w32 4 = 0 by decide), tp_bd_s, tp_lt_s, h0, h1, k3, tp_lm_s, w32_id (show -2147483648 ≤ n - 1 ∧ n - 1 < 2147483648 by omega), tp_nz_t (show ¬ n - 1 = 0 by omega), tp_bd_s, tp_lt_s, up_s, h2, hw, up_s, hv, w32_id (show -2147483648 ≤ what ∧ what < 2147483648 by omega)]
    exact hX _ rfl
  clear hv hw h1 h2
  have g1 : ∀ M : tp_M, fx_X11_flag 1 M = some (1, M) := fun _ => rfl
  have g0 : ∀ M : tp_M, fx_X11_flag 0 M = some (0, M) := fun _ => rfl
  refine ⟨fun q => hbase _ (fun M3 hM3 => ?_), fun q => hbase _ (fun M3 hM3 => ?_), fun q => hbase _ (fun M3 hM3 => ?_)⟩
  · rw [← hM3]
    simp only [tp_jn2_n, tp_lt_n, if_pos q]
  · rw [← hM3]
    simp only [tp_jn2_n, if_neg (show ¬ what < 2 by omega), if_pos q]
    congr 1
    funext r33 M34
    show (if w32 r33 = 0 then _ else _) = _
    by_cases z0 : w32 r33 = 0
    · rw [if_pos z0, if_pos z0]
      show (if w32 r33 < 0 then _ else _) = _
      rw [if_neg (by omega), if_neg (by omega)]
      rfl
    · rw [if_neg z0, if_neg z0]
      show (if w32 r33 < 0 then _ else _) = _
      by_cases zn : w32 r33 < 0
      · rw [if_pos zn, if_pos zn]
        rfl
      · rw [if_neg zn, if_neg zn]
        rfl
  · rw [← hM3]
    simp only [tp_jn2_n, if_neg (show ¬ what < 2 by omega), if_neg (show ¬ what = 2 by omega)]
    rfl
section ST
variable {B : Int} {C M : tp_M} {a1 a2 a3 a4 : Int}
theorem st_years (h2 : pu_in a2) (hB : 1000 ≤ B ∧ B ≤ 600000) (h : Sim B C M) : wp2 (fx_X10_years a1 a2 C) (fx_X11_years a1 a2 M) (Ans B) := by
  have hN : nC C (M 0 3) (M 2) (M 3) := h.2.2.1
  have n8 := cn_n hN
  have e2 := h2
  unfold pu_in at e2
  unfold fx_X10_years fx_X11_years
  refine wp2_lm2 ?_
  rw [w32_id e2, pm_in (M := tp_up M 0 0 0) (a := a2) (b := 1) (c := 60) h2 (by unfold pu_in; omega) (by unfold pu_in; omega), tp_bd_s]
  by_cases c1 : 1 ≤ a2
  · by_cases c2 : a2 ≤ 60
    · rw [if_neg (show ¬ a2 < 1 by omega), if_pos c2, if_pos (show 1 ≤ a2 ∧ a2 ≤ 60 from ⟨c1, c2⟩)]
      refine wp2_f2 (by decide) ?_
      refine wp2_lm2 ?_
      refine wp2_c1 (cy_C C) (fun _ C1 p => ?_)
      obtain ⟨p1, -, p3, p4, p5⟩ := p
      refine wp2_c2 (pm_copies (k1 := 5) (k2 := 4) (tp_up (tp_up M 0 0 0) 0 49 a1) (by decide)) (fun _ M1 q => ?_)
      obtain ⟨q1, q2⟩ := q
      refine wp2_lt1 ?_
      refine wp2_lt1 ?_
      refine wp2_lt1 ?_
      refine wp2_lt1 ?_
      refine wp2_lt2 ?_
      refine wp2_lt2 ?_
      refine wp2_lt2 ?_
      have hE0 := env_0 h
      have hok : ye_ok B C (tp_up M 0 0 0) a1 C1 M1 := by
        refine ⟨p1, fr_tr (fr_up fr_rf (by simp)) (fr_mono q1 (by simp)), fun j hj => by rw [q1 0 (by simp), up_j _ _ _ hj], by rw [q1 0 (by simp), up_s], cy_row (C := C) (M := tp_up (tp_up M 0 0 0) 0 49 a1) (by show M 0 3 ≤ 8; omega) ?_ p3 p4 p5 q2⟩
        exact h.2.2.2.1
      refine wp2_lp43 (fun r c s t C2 c' s' t' M2 => c = c' ∧ s = s' ∧ t = t' ∧ (0 ≤ t ∧ t ≤ a2) ∧ (0 ≤ c ∧ c ≤ 4 * t) ∧ (0 ≤ s ∧ s ≤ t) ∧ ye_ok (B + 4 * t) C (tp_up M 0 0 0) r C2 M2) (fun _ _ _ t _ _ _ _ _ => (60 - t).toNat) ?_ tp_F tp_F a1 0 0 0 C1 0 0 0 M1 ⟨rfl, rfl, rfl, by omega, by omega, by omega, by rw [Int.mul_zero, Int.add_zero]; exact hok⟩ (tp_F_pos (by omega)) (tp_F_pos (by omega))
      intro rec1 rec2 r c s t C2 c' s' t' M2 hI hrec
      obtain ⟨rfl, rfl, rfl, i1, i2, i3, f, g, g0, g49, hr⟩ := hI
      by_cases ht : t < a2
      · have hN2 : nC C2 (M 0 3) (M 2) (M 3) := nC_fr hN (f 5 (by simp)) (f 6 (by simp)) (f 7 (by simp)) (f 8 (by simp)) (f 9 (by simp))
        have e03 : M2 0 3 = M 0 3 := by rw [g0 3 (by decide)]; rfl
        generalize hr1 : r * 1103515245 + 12345 = r1
        generalize hr2 : r1 * 1103515245 + 12345 = r2
        have u1 := x_ushr16 r1
        have u2 := x_ushr16 r2
        have hw1 : x_rem (x_ushr r1 16) 4 = x_ushr r1 16 % 4 := x_rem_nn (by omega) (by omega)
        have hw2 : x_rem (x_ushr r2 16) (M 0 3 - 1) = x_ushr r2 16 % (M 0 3 - 1) := x_rem_nn (by omega) (by omega)
        have hd2 := Int.emod_nonneg (x_ushr r2 16) (show M 0 3 - 1 ≠ 0 by omega)
        have hd3 := Int.emod_lt_of_pos (x_ushr r2 16) (show 0 < M 0 3 - 1 by omega)
        have hd4 : 0 ≤ x_ushr r1 16 % 4 ∧ x_ushr r1 16 % 4 < 4 := by omega
        generalize x_ushr r1 16 % 4 = what at *
        generalize x_ushr r2 16 % (M 0 3 - 1) = vv at *
        have hv : 1 ≤ 1 + vv ∧ 1 + vv < M 0 3 := by omega
        obtain ⟨M3, m1, m2, m3, m4, m5, m6⟩ := ye_m (M := M2) (c := c) (s := s) e03 n8 ⟨⟨i1.1, ht⟩, c2⟩ g49 hr1 hr2 hw1 hw2 hd4 ⟨hd2, hd3⟩ (fun y14 y15 M48 => tp_lm (tp_up M48 0 1 0) fun M49 => tp_bd (fx_X11_walkers 5 17 M49) fun r50 M51 => tp_bd (fx_X11_enters (w32 r50) M51) fun r52 M53 => tp_bd (fx_X11_enters (w32 y15) M53) fun r54 M55 => some (y14, M55)) rec2
        have e5 : M3 5 = M2 5 := m1 5 (by simp)
        have hr3 : sm_row (C2 29) (C2 30) (C2 28 2) (C2 28 3) (M3 5) (M 0 3) (M 2) (B + 4 * t) := by rw [e5]; exact hr
        have g3 : tp_fr [0, 5, 11, 12] (tp_up M 0 0 0) M3 := fr_tr g (fr_mono m1 (by simp))
        have g03 : ∀ j : Int, ¬ j = 49 → M3 0 j = tp_up M 0 0 0 0 j := fun j hj => by rw [m2 j hj]; exact g0 j hj
        have e303 : M3 0 3 = M 0 3 := g03 3 (by decide)
        have e32 : M3 2 = M 2 := by rw [g3 2 (by simp), up_k _ _ _ (by decide)]
        have e33 : M3 3 = M 3 := by rw [g3 3 (by simp), up_k _ _ _ (by decide)]
        have hE3 : ac_env C2 M3 := by
          unfold ac_env
          rw [e303, e32, e33, g03 18 (by decide), g3 9 (by simp), f 15 (by simp), f 16 (by simp)]
          exact ⟨hN2, h.2.2.2.2.1⟩
        have hpo := pm_isOut (M := M3) (n := M 0 3) (a := 1 + vv) e303 (by omega) (by unfold pu_in; omega)
        rw [if_pos (show 1 ≤ 1 + vv ∧ 1 + vv ≤ M 0 3 - 1 by omega)] at hpo
        obtain ⟨b1, b2, b3, b4⟩ := hr3.2.2.2.2.1 (1 + vv) hv.1 hv.2
        have d4 := cn_D hN hv
        obtain ⟨k1, k2, k3, k4, k5, k6⟩ := ye_c (C := C2) (c := c) (s := s) hN2 ⟨⟨i1.1, ht⟩, c2⟩ hr1 hr2 hw1 hw2 hd4 ⟨hd2, hd3⟩ (by rw [b3]; omega) (fun y12 y13 M45 => tp_bd (fx_X2_walkers 28 M45) fun r46 M47 => tp_bd (fx_X8_tell__ (w32 r46) (w32 y13) M47) fun r48 M49 => some (y12, M49)) rec1
        rw [b3] at k1 k2 k3 k4 k5 k6
        have nx : ∀ (c2 s2 : Int) (C4 M4 : tp_M), 0 ≤ c2 ∧ c2 ≤ c + 4 → 0 ≤ s2 ∧ s2 ≤ s + 1 → ye_ok (B + 4 * t + 4) C (tp_up M 0 0 0) r2 C4 M4 → wp2 (rec1 r2 c2 s2 (t + 1) C4) (rec2 c2 s2 (t + 1) M4) (Ans B) := fun c2 s2 C4 M4 hc2 hs2 hok2 => hrec _ _ _ _ _ _ _ _ _ ⟨rfl, rfl, rfl, by omega, by omega, by omega, by rw [show B + 4 * (t + 1) = B + 4 * t + 4 by omega]; exact hok2⟩ (by omega)
        have nsame : ye_ok (B + 4 * t + 4) C (tp_up M 0 0 0) r2 C2 M3 := ⟨f, g3, g03, m3, sm_row_le (by omega) hr3⟩
        clear hr1 hr2 hw1 hw2 u1 u2 hd2 hd3 hrec
        by_cases w2 : what < 2
        · rw [m4 w2]
          unfold fx_X11_comesMany
          by_cases c99 : M3 5 (8 + (1 + vv)) < 99
          · rw [k1 w2 c99]
            simp (disch := omega) only [↓tp_lm_n, ↓tp_lt_n, ↓tp_bd_n, ↓tp_jn0_n, ↓tp_jn1_n, ↓tp_jn2_n, ↓tp_jn3_n, w32_id, if_pos, if_neg, if_true, if_false, tp_ck_t, tp_nz_t, tp_gd_i, up_s, up_k, up_j, cp_k, hpo, pm_in (M := M3) (a := 1) (b := 1) (c := 99) (by unfold pu_in; omega) (by unfold pu_in; omega) (by unfold pu_in; omega)]
            refine nx c s _ _ (by omega) (by omega) ⟨fr_up f (by simp), fr_up g3 (by simp), fun j hj => by rw [up_k _ _ _ (by decide)]; exact g03 j hj, by rw [up_k _ _ _ (by decide)]; exact m3, ?_⟩
            simp (disch := omega) only [up_k, up_add]
            exact sr_add (x := 1) n8.2 (by omega) hr3 hv (by omega) (up_cv _ _ _ _ _ (by rw [b3]))
          · rw [k2 w2 c99]
            simp (disch := omega) only [↓tp_lm_n, ↓tp_lt_n, ↓tp_bd_n, ↓tp_jn0_n, ↓tp_jn1_n, ↓tp_jn2_n, ↓tp_jn3_n, w32_id, if_pos, if_neg, if_true, if_false, tp_ck_t, tp_nz_t, tp_gd_i, up_s, up_k, up_j, cp_k, hpo, pm_in (M := M3) (a := 1) (b := 1) (c := 99) (by unfold pu_in; omega) (by unfold pu_in; omega) (by unfold pu_in; omega)]
            exact nx c s _ _ (by omega) (by omega) nsame
        · by_cases w3 : what = 2
          · rw [m5 w3]
            unfold fx_X11_goesOne
            by_cases c0 : 0 < M3 5 (8 + (1 + vv))
            · rw [k3 w3 c0]
              obtain ⟨r1, C4, f1, q1, q2, q3⟩ := cs_from (k1 := 28) (s := M3 0 18) (by omega) hN2 hE3.2.1 hE3.2.2.1 hr3 hv c0
              have gg := rw_goal hN hv b2
              obtain ⟨r2', M4, f2, s1, s2, s3⟩ := ps_from (kr := 5) (Or.inr rfl) (ps_of (kr := 5) hE3 (by rw [e303, e32]; exact hr3) (by rw [e303]; exact hv))
              rw [e33] at s1
              rw [e32, e33] at s3
              rw [← s3] at q3
              have hrr : r1 = r2' := by rw [q1, s1]
              have hr2n : 0 ≤ r2' ∧ r2' < 8 := by rw [s1]; omega
              have hw2 : ¬ w32 r2' < 0 := by rw [w32_id (by omega)]; omega
              simp (disch := omega) only [↓tp_lm_n, ↓tp_lt_n, ↓tp_bd_n, ↓tp_jn0_n, ↓tp_jn1_n, ↓tp_jn2_n, ↓tp_jn3_n, w32_id, if_pos, if_neg, if_true, if_false, tp_ck_t, tp_nz_t, tp_gd_i, hpo, f1, f2]
              have e40 : M4 0 = M3 0 := s2 0 (by simp)
              have nxx : ye_ok (B + 4 * t + 4) C (tp_up M 0 0 0) r2 C4 M4 := ⟨fr_tr f (fr_mono q2 (by simp)), fr_tr g3 (fr_mono s2 (by simp)), fun j hj => by rw [e40]; exact g03 j hj, by rw [e40]; exact m3, sm_row_le (by omega) q3⟩
              by_cases z0 : r2' = 0
              · rw [if_pos (show r1 = 0 by omega), if_pos z0]
                exact nx _ _ _ _ (by omega) (by omega) nxx
              · rw [if_neg (show ¬ r1 = 0 by omega), if_neg z0, Int.add_zero]
                exact nx _ _ _ _ (by omega) (by omega) nxx
            · rw [k4 w3 c0]
              have c00 : M3 5 (8 + (1 + vv)) = 0 := by omega
              simp (disch := omega) only [↓tp_lm_n, ↓tp_lt_n, ↓tp_bd_n, ↓tp_jn0_n, ↓tp_jn1_n, ↓tp_jn2_n, ↓tp_jn3_n, w32_id, if_pos, if_neg, if_true, if_false, tp_ck_t, tp_nz_t, tp_gd_i, hpo, c00]
              rw [Int.add_zero, Int.add_zero]
              exact nx _ _ _ _ (by omega) (by omega) nsame
          · have w4 : what = 3 := by omega
            rw [m6 w4]
            unfold fx_X11_burstsOne
            by_cases c0 : M 2 (1 + vv) ≤ M3 5 (8 + (1 + vv))
            · rw [k5 w4 c0]
              obtain ⟨r1, C4, f1, q1, q2, q3⟩ := cs_burst (k1 := 28) (by omega) hN2 hr3 hv c0 (by omega)
              obtain ⟨r2', M4, f2, s1, s2⟩ := ps_burst (kr := 5) (Or.inr rfl) (M := M3) (v := 1 + vv) (by omega) (by rw [e32]; exact d4) (fun k k1 k2 => by rw [e32] at k2; rw [e33]; have := cn_G hN hv ⟨k1, k2⟩; omega) hr3.2.1
              rw [e32, e33] at s2
              rw [← s2] at q3
              have e40 : M4 0 = M3 0 := s1 0 (by simp)
              have e42 : M4 2 = M 2 := by rw [s1 2 (by simp), e32]
              have e43 : M4 3 = M 3 := by rw [s1 3 (by simp), e33]
              have hin := ps_inn (M := M4) (v := 1 + vv) (by omega) (by rw [e42]; exact d4) (fun k k1 k2 => by rw [e42] at k2; rw [e43]; have := cn_G hN hv ⟨k1, k2⟩; omega)
              rw [e42, e43] at hin
              have hcr := q3.2.2.2.2.1 (1 + vv) hv.1 hv.2
              have hwn := nt_ways_in (M 3) (1 + vv) 0 (M 2 (1 + vv)).toNat
              simp (disch := omega) only [↓tp_lm_n, ↓tp_lt_n, ↓tp_bd_n, ↓tp_jn0_n, ↓tp_jn1_n, ↓tp_jn2_n, ↓tp_jn3_n, w32_id, if_pos, if_neg, if_true, if_false, tp_ck_t, tp_nz_t, tp_gd_i, hpo, e32, f1, f2, hin]
              rw [q1]
              exact nx _ _ _ _ (by omega) (by omega) ⟨fr_tr f (fr_mono q2 (by simp)), fr_tr g3 (fr_mono s1 (by simp)), fun j hj => by rw [e40]; exact g03 j hj, by rw [e40]; exact m3, q3⟩
            · rw [k6 w4 c0]
              simp (disch := omega) only [↓tp_lm_n, ↓tp_lt_n, ↓tp_bd_n, ↓tp_jn0_n, ↓tp_jn1_n, ↓tp_jn2_n, ↓tp_jn3_n, w32_id, if_pos, if_neg, if_true, if_false, tp_ck_t, tp_nz_t, tp_gd_i, hpo, e32]
              rw [Int.add_zero]
              exact nx _ _ _ _ (by omega) (by omega) nsame
      · unfold fx_X10_years_L35 fx_X11_years_L43
        rw [w32_id (show -2147483648 ≤ t ∧ t < 2147483648 by omega), w32_id e2, if_neg ht, if_neg ht]
        dsimp only
        rw [cs_walkers, tp_bd_s, pc_tell2, tp_bd_s]
        refine wp2_lm2 ?_
        have e03 : M2 0 3 = M 0 3 := by rw [g0 3 (by decide)]; rfl
        have hwk := sm_walkers n8 hr
        have hpw : ∀ MM : tp_M, MM 0 3 = M 0 3 → MM 5 = M2 5 → fx_X11_walkers 5 17 MM = some (sumI (fun v => M2 5 (8 + v)) 1 (M 0 3 - 1).toNat, MM) := fun MM q1 q2 => by rw [ps_walkers (by rw [q1]; exact n8), q1, q2]
        rw [hpw (tp_up M2 0 1 0) (by rw [up_j _ _ _ (by decide)]; exact e03) (up_k _ _ _ (by decide)), tp_bd_s, (pm_enter2 (b := w32 s) (up_s _ _ _ _)).1, tp_bd_s, (pm_enter2 (a := w32 (sumI (fun v => M2 5 (8 + v)) 1 (M 0 3 - 1).toNat)) (b := w32 s) (up_s _ _ _ _)).2, tp_bd_s]
        refine wp2_some (ans_told h ?_ ?_ ?_ rfl ⟨by decide, by decide⟩ (td_2C _ _ _) (td_2M _ _ _) (fun j j1 j2 => ?_))
        · exact fr_up (fr_up (fr_up (fr_up (fr_up (fr_mono f (by simp)) (by simp)) (by simp)) (by simp)) (by simp)) (by simp)
        · exact fr_up (fr_up (fr_up (fr_up (fr_up (fr_tr (fr_up fr_rf (by simp)) (fr_mono g (by simp))) (by simp)) (by simp)) (by simp)) (by simp)) (by simp)
        · refine scF_up (scF_k (scF_up (scF_k (scF_up (fun j hj => ?_) (by decide)) (by decide)) (by decide)) (by decide)) (by decide)
          rw [g0 j (f0_ne hj (by decide)), up_j _ _ _ (f0_ne hj (by decide))]
        · rw [show C2 (28 + 2) = C2 30 from rfl, hwk.1]
    · rw [if_neg (show ¬ a2 < 1 by omega), if_neg c2, if_neg (show ¬ (1 ≤ a2 ∧ a2 ≤ 60) by omega)]
      refine wp2_t2 (by decide) ?_
      exact wp2_some (ans_no h)
  · rw [if_pos (show a2 < 1 by omega), if_neg (show ¬ (1 ≤ a2 ∧ a2 ≤ 60) by omega)]
    refine wp2_t2 (by decide) ?_
    exact wp2_some (ans_no h)
end ST
