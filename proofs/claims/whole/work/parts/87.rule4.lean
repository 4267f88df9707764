/-! RULE, LAW: the calls -/
theorem cs_cut0 {C : tp_M} {N : Int} (h1 : C 1 1 = N) (hN : 0 ≤ N ∧ N ≤ 80) : wp (fx_X7_cut 0 C) (fun _ C1 => tp_fr [1] C C1 ∧ C1 1 1 = 0) := by
  unfold fx_X7_cut
  rw [if_neg (by decide), h1, show w32 0 = 0 from rfl, w32_id (by omega)]
  by_cases h : 0 < N
  · rw [if_pos h]
    refine wp_lm ?_
    exact wp_some ⟨fr_up fr_rf (by simp), up_s _ _ _ _⟩
  · rw [if_neg h]
    exact wp_some ⟨fr_rf, by omega⟩
theorem ps_laysCode {M : tp_M} {k : Nat} {m : Int} (hk : ¬ k = 9 ∧ ¬ k = 0) (hm : 0 ≤ m ∧ m ≤ 80) : wp (fx_X11_laysCode k 80 m M) (fun _ M1 => tp_fr [0, 9] M M1 ∧ M1 0 18 = m ∧ (∀ j : Int, ¬ j = 18 → M1 0 j = M 0 j) ∧ ∀ j : Int, 0 ≤ j → j < m → M1 9 j = M k j) := by
  refine wp_K (fun Q hQ => ?_)
  unfold fx_X11_laysCode
  refine wp_lm ?_
  refine wp_lt ?_
  refine wp_lp1 (fun z M1 => (0 ≤ z ∧ z ≤ m) ∧ tp_fr [0, 9] M M1 ∧ M1 0 18 = m ∧ (∀ j : Int, ¬ j = 18 → M1 0 j = M 0 j) ∧ ∀ j : Int, 0 ≤ j → j < z → M1 9 j = M k j) (fun z _ => (m - z).toNat) ?_ tp_F 0 _ ⟨by omega, fr_up fr_rf (by simp), up_s _ _ _ _, fun j hj => up_j _ _ _ hj, fun j j1 j2 => by omega⟩ (tp_F_pos (by omega))
  rintro rec z M1 ⟨i1, i2, i3, i4, i5⟩ hrec
  unfold fx_X11_laysCode_L7
  rw [w32_id (show -2147483648 ≤ z ∧ z < 2147483648 by omega), w32_id (show -2147483648 ≤ m ∧ m < 2147483648 by omega)]
  by_cases hz : z < m
  · rw [if_pos hz]
    refine wp_ck (by omega) ?_
    refine wp_ck (by omega) ?_
    refine wp_lm ?_
    refine wp_lt ?_
    refine hrec _ _ ⟨by omega, fr_up i2 (by simp), by rw [up_k _ _ _ (by decide)]; exact i3, fun j hj => by rw [up_k _ _ _ (by decide)]; exact i4 j hj, fun j j1 j2 => ?_⟩ (by omega)
    rw [up_c]
    by_cases e : j = z
    · rw [if_pos e, e, i2 k (by simp; omega)]
    · rw [if_neg e]; exact i5 j j1 (by omega)
  · rw [if_neg hz]
    exact wp_some (hQ _ _ ⟨i2, i3, i4, fun j j1 j2 => i5 j j1 (by omega)⟩)
/-- in so many steps home, by a rule; 1000 if he isn't there -/
def lg (D G f : Int → Int) (s : Int) (R : Int → Int) (v r : Int) : Prop := (∃ k : Nat, wk_hm (fun i => (wk D G f s R v i).1) k ∧ r = (k : Int)) ∨ (r = 1000 ∧ ∀ i : Nat, i ≤ 999 → ¬ (wk D G f s R v i).1 = 0)
theorem lg_u {D G f : Int → Int} {s : Int} {R : Int → Int} {v a b : Int} (h1 : lg D G f s R v a) (h2 : lg D G f s R v b) : a = b := by
  rcases h1 with ⟨k, k1, k2⟩ | ⟨k1, k2⟩
  · rcases h2 with ⟨l, l1, l2⟩ | ⟨l1, l2⟩
    · obtain rfl := wk_hm_u k1 l1
      omega
    · exact absurd k1.2.2.1 (l2 k k1.2.1)
  · rcases h2 with ⟨l, l1, l2⟩ | ⟨l1, l2⟩
    · exact absurd l1.2.2.1 (k2 l l1.2.1)
    · omega
theorem lg_in {D G f : Int → Int} {s : Int} {R : Int → Int} {v a : Int} (h1 : lg D G f s R v a) : 1 ≤ a ∧ a ≤ 1000 := by
  rcases h1 with ⟨k, k1, k2⟩ | ⟨k1, k2⟩
  · have a1 := k1.1
    have a2 := k1.2.1
    omega
  · omega
theorem ps_homeOfLast {M : tp_M} {f P W : Int → Int} {s h st B : Int} (hn : nt_net (M 0 3) (M 2) (M 3)) (hr : rM M f s) (hrow : sm_row P W h st (M 4) (M 0 3) (M 2) B) : wp (fx_X11_homeOfLast M) (fun r M1 => tp_fr [5, 11, 12, 19] M M1 ∧ ∃ R : Int → Int, (∀ j : Int, 0 ≤ j → j < 17 → R j = M 4 j) ∧ lg (M 2) (M 3) f s R (M 0 3 - 1) r) := by
  have n8 := hn.1
  unfold fx_X11_homeOfLast
  refine wp_call (pm_copies (k1 := 5) (k2 := 4) M (by decide)) (fun _ M2 q => ?_)
  obtain ⟨q1, q2⟩ := q
  have e0 : M2 0 = M 0 := q1 0 (by simp)
  have e2 : M2 2 = M 2 := q1 2 (by simp)
  have e3 : M2 3 = M 3 := q1 3 (by simp)
  have e9 : M2 9 = M 9 := q1 9 (by simp)
  have hR : ∀ j : Int, 0 ≤ j → j < 17 → M2 5 j = M 4 j := fun j j1 j2 => by rw [q2 j, if_pos ⟨j1, j2⟩]
  have hrow2 := sm_row_cg (R2 := M2 5) (by omega) hrow (fun _ _ _ => rfl) (fun _ _ _ => rfl) rfl rfl hR
  rw [e0]
  refine wp_call (ps_walkOf (M := M2) (f := f) (s := s) (v := M 0 3 - 1) (by rw [e0, e2, e3]; exact hn) (by unfold rM; rw [e0, e9]; exact hr) (by rw [e0, e2]; exact rr_of hrow2) (by rw [e0]; omega)) (fun r M3 w => ?_)
  obtain ⟨w1, w2⟩ := w
  rw [e2, e3] at w2
  have fm : tp_fr [5, 11, 12, 19] M M3 := fr_tr (fr_mono q1 (by simp)) w1
  refine wp_lt ?_
  rcases w2 with ⟨k, k1, rfl, -⟩ | ⟨rfl, k2⟩
  · have a2 := k1.2.1
    rw [w32_id (by omega), if_neg (by omega)]
    exact wp_some ⟨fm, M2 5, hR, Or.inl ⟨k, k1, rfl⟩⟩
  · rw [if_pos (by decide)]
    exact wp_some ⟨fm, M2 5, hR, Or.inr ⟨rfl, k2⟩⟩
theorem cs_lengthBy {t : Nat} (ht : t = 15 ∨ t = 20) {C : tp_M} {n : Int} {D G R R0 : Int → Int} {B s : Int} (hN : nC C n D G) (hs : C t 4 = s) (hw : rc_wf (C (t + 1)) s) (hrow : sm_row (C 26) (C 27) (C 25 2) (C 25 3) R0 n D B) (hR : ∀ j : Int, 0 ≤ j → j < 17 → R j = R0 j) : wp (fx_X10_lengthBy t (n - 1) C) (fun r C1 => tp_fr [18, 23, 28, 29, 30, 59] C C1 ∧ lg D G (C (t + 1)) s R (n - 1) r) := by
  have n8 := cn_n hN
  unfold fx_X10_lengthBy
  refine wp_call (cy_gen (t := 28) (k := 25) (by omega) (by omega) (by decide) C) (fun _ C2 q => ?_)
  obtain ⟨q1, q2, q3, q4⟩ := q
  have hne : ∀ k : Nat, (k = 28 ∨ k = 29 ∨ k = 30) → ¬ t = k ∧ ¬ t + 1 = k := fun k hk => by omega
  have et : C2 t = C t := q1 t (by simp; omega)
  have et1 : C2 (t + 1) = C (t + 1) := q1 (t + 1) (by simp; omega)
  have hrow2 := sm_row_cg (P2 := C2 29) (W2 := C2 30) (h2 := C2 28 2) (s2 := C2 28 3) (R2 := R) (by omega) hrow (fun v v1 v2 => (q4 v v1 v2).1) (fun v v1 v2 => (q4 v v1 v2).2) q2 q3 hR
  refine wp_call (cs_walkHome ht (C := C2) (v := n - 1) (s := s) (nC_fr hN (q1 5 (by simp)) (q1 6 (by simp)) (q1 7 (by simp)) (q1 8 (by simp)) (q1 9 (by simp))) (by rw [et]; exact hs) (by rw [et1]; exact hw) hrow2 (by omega)) (fun r C3 w => ?_)
  obtain ⟨w1, w2⟩ := w
  rw [et1] at w2
  have fm : tp_fr [18, 23, 28, 29, 30, 59] C C3 := fr_tr (fr_mono q1 (by simp)) (fr_mono w1 (by rcases ht with rfl | rfl <;> simp))
  refine wp_lt ?_
  rcases w2 with ⟨k, k1, rfl, -⟩ | ⟨rfl, k2⟩
  · have a2 := k1.2.1
    rw [w32_id (by omega), if_neg (by omega)]
    exact wp_some ⟨fm, Or.inl ⟨k, k1, rfl⟩⟩
  · rw [if_pos (by decide)]
    exact wp_some ⟨fm, Or.inr ⟨rfl, k2⟩⟩
section ST
variable {B : Int} {C M : tp_M}
theorem txt_T (h : Sim B C M) : (C 1 1 = M 0 9 ∧ (0 ≤ M 0 9 ∧ M 0 9 ≤ 80)) ∧ (∀ j : Int, 0 ≤ j → j < M 0 9 → C 2 j = M 6 j) ∧ ∀ j : Int, 0 ≤ j → j < M 0 9 → 0 ≤ M 6 j ∧ M 6 j < 256 := by
  obtain ⟨t1, t2, t3⟩ := h.1
  exact ⟨⟨t1, t2⟩, fun j a b => (t3 j a b).1, fun j a b => by have := (t3 j a b).2; omega⟩
theorem txt_0 {C1 M1 : tp_M} (h1 : C1 1 1 = 0) (h2 : M1 0 9 = 0) : sm_txt (C1 1 1) (C1 2) (M1 0 9) (M1 6) := by
  rw [h1, h2]
  exact ⟨rfl, by omega, fun j a b => by omega⟩
theorem st_rule (h : Sim B C M) : wp2 (fx_X10_rule C) (fx_X11_rule M) (Ans B) := by
  obtain ⟨⟨t1, t2⟩, t3, t4⟩ := txt_T h
  unfold fx_X10_rule fx_X11_rule
  refine wp2_lm2 ?_
  obtain ⟨r, C1, M1, e1, e2, f1, f2, r1, r2⟩ := w2_reads (T := M 6) (C := C) (M := tp_up M 0 0 0) t1 t2 t3 t4 (by rw [up_j _ _ _ (by decide)]) (up_k _ _ _ (by decide))
  obtain ⟨g1, g9, g0⟩ := f2
  rw [e1, e2, tp_bd_s, tp_bd_s]
  refine wp2_lt1 ?_
  refine wp2_lt2 ?_
  refine wp2_c1 (cs_cut0 (C := C1) (N := M 0 9) (by rw [f1 1 (by simp)]; exact t1) t2) (fun _ C2 q => ?_)
  obtain ⟨q1, q2⟩ := q
  have fC : tp_fr [1, 20, 21, 22, 24] C C2 := fr_tr (fr_mono f1 (by simp)) (fr_mono q1 (by simp))
  have fM : tp_fr [0, 10] M M1 := fr_tr (fr_up fr_rf (by simp)) g1
  have h0 : ∀ j : Int, j ∈ ([1, 3, 18, 23, 39, 44] : List Int) → M1 0 j = M 0 j := fun j hj => by
    simp only [List.mem_cons, List.not_mem_nil, or_false] at hj
    rw [g0 j (by omega) (by omega) (by omega) (by omega) (by omega), up_j _ _ _ (by omega)]
  rw [w32_id (show -2147483648 ≤ r ∧ r < 2147483648 by omega)]
  by_cases hr : r < 0
  · rw [if_pos hr, if_neg (by omega)]
    exact wp2_some ⟨rfl, Sim_txt h (Int.le_refl B) fC fM (by decide) (by decide) h0 (txt_0 q2 g9)⟩
  · have hr0 : r = 0 := by omega
    obtain ⟨K, k1, k2, k3, k4, k5, k6⟩ := r2 hr0
    rw [if_neg hr, if_pos hr0]
    have hc : fx_X9_copyFrom 15 20 C2 = some (0, tp_cp (tp_up C2 15 4 (C2 20 4)) 21 0 16 0 40) := by
      unfold fx_X9_copyFrom
      rw [tp_lm_s, tp_gd_t (by decide), tp_lm_s]
    rw [hc, tp_bd_s]
    refine wp2_c2 (ps_laysCode (M := M1) (k := 10) (m := M1 0 19) (by decide) (by omega)) (fun _ M2 w => ?_)
    obtain ⟨w1, w2, w3, w4⟩ := w
    have hs21 : stk (C2 21) K := stk_k k4 (q1 21 (by simp))
    have h16 : ∀ j : Int, 0 ≤ j → j < 40 → tp_cp (tp_up C2 15 4 (C2 20 4)) 21 0 16 0 40 16 j = C2 21 j := fun j a b => by
      rw [cp_c, if_pos (by omega), up_k _ _ _ (by decide)]
      congr 1; omega
    refine wp2_some ⟨by rw [hr0], Sim_rule h (Int.le_refl B) (SC := [1, 15, 16, 20, 21, 22, 24]) (SM := [0, 9, 10]) (fr_cp (fr_up (fr_mono fC (by simp)) (by simp)) (by simp)) (fr_tr (fr_mono fM (by simp)) (fr_mono w1 (by simp))) (by decide) (by decide) (fun j hj => ?_) (txt_0 ?_ ?_) ?_⟩
    · simp only [List.mem_cons, List.not_mem_nil, or_false] at hj
      rw [w3 j (by omega)]
      exact h0 j (by simp; omega)
    · rw [cp_k _ _ _ _ _ (by decide), up_k _ _ _ (by decide)]; exact q2
    · rw [w3 9 (by decide)]; exact g9
    · have e15 : tp_cp (tp_up C2 15 4 (C2 20 4)) 21 0 16 0 40 15 4 = (K.length : Int) := by
        rw [cp_k _ _ _ _ _ (by decide), up_s, q1 20 (by simp)]; exact k3
      have hs16 : stk (tp_cp (tp_up C2 15 4 (C2 20 4)) 21 0 16 0 40 16) K := stk_cg hs21 (fun j a b => h16 j a (by omega))
      rw [e15, w2, k5]
      refine ⟨rfl, stk_wf hs16 k1 k2, fun j a b => ?_⟩
      rw [w4 j a (by omega)]
      exact stk_map hs16 k6 j a b
theorem st_law (h : Sim B C M) : wp2 (fx_X10_law C) (fx_X11_law M) (Ans B) := by
  obtain ⟨⟨t1, t2⟩, t3, t4⟩ := txt_T h
  have hN : nC C (M 0 3) (M 2) (M 3) := h.2.2.1
  have n8 := cn_n hN
  have hrow := h.2.2.2.1
  have hru := h.2.2.2.2.1
  unfold fx_X10_law fx_X11_law
  refine wp2_lm2 ?_
  obtain ⟨r, C1, M1, e1, e2, f1, f2, r1, r2⟩ := w2_reads (T := M 6) (C := C) (M := tp_up M 0 0 0) t1 t2 t3 t4 (by rw [up_j _ _ _ (by decide)]) (up_k _ _ _ (by decide))
  obtain ⟨g1, g9, g0⟩ := f2
  rw [e1, e2, tp_bd_s, tp_bd_s]
  refine wp2_lt1 ?_
  refine wp2_lt2 ?_
  refine wp2_c1 (cs_cut0 (C := C1) (N := M 0 9) (by rw [f1 1 (by simp)]; exact t1) t2) (fun _ C2 q => ?_)
  obtain ⟨q1, q2⟩ := q
  have fC : tp_fr [1, 20, 21, 22, 24] C C2 := fr_tr (fr_mono f1 (by simp)) (fr_mono q1 (by simp))
  have fM : tp_fr [0, 10] M M1 := fr_tr (fr_up fr_rf (by simp)) g1
  have h0 : ∀ j : Int, j ∈ ([1, 3, 18, 23, 39, 44] : List Int) → M1 0 j = M 0 j := fun j hj => by
    simp only [List.mem_cons, List.not_mem_nil, or_false] at hj
    rw [g0 j (by omega) (by omega) (by omega) (by omega) (by omega), up_j _ _ _ (by omega)]
  rw [w32_id (show -2147483648 ≤ r ∧ r < 2147483648 by omega)]
  by_cases hr : r < 0
  · rw [if_pos hr, if_pos hr]
    exact wp2_some ⟨by rw [show r + 1 - 10000 = r - 9999 by omega], Sim_txt h (Int.le_refl B) fC fM (by decide) (by decide) h0 (txt_0 q2 g9)⟩
  · have hr0 : r = 0 := by omega
    obtain ⟨K, k1, k2, k3, k4, k5, k6⟩ := r2 hr0
    rw [if_neg hr, if_neg hr]
    have hN2 : nC C2 (M 0 3) (M 2) (M 3) := nC_fr hN (fC 5 (by simp)) (fC 6 (by simp)) (fC 7 (by simp)) (fC 8 (by simp)) (fC 9 (by simp))
    rw [cn_crossings hN2, tp_bd_s]
    refine wp2_lt1 ?_
    have a3 : M1 0 3 = M 0 3 := h0 3 (by simp)
    have a18 : M1 0 18 = M 0 18 := h0 18 (by simp)
    have a2 : M1 2 = M 2 := fM 2 (by simp)
    have a33 : M1 3 = M 3 := fM 3 (by simp)
    have a4 : M1 4 = M 4 := fM 4 (by simp)
    have a9 : M1 9 = M 9 := fM 9 (by simp)
    have s40 := hru.2.1.1
    refine wp2_c2 (ps_homeOfLast (M := M1) (f := C 16) (s := M 0 18) (by rw [a3, a2, a33]; exact hN.2.1) (by unfold rM; rw [a18, a9]; exact ⟨rfl, hru.2.1, hru.2.2⟩) (by rw [a4, a3, a2]; exact hrow)) (fun a M2 w => ?_)
    obtain ⟨w1, R1, w2, w3⟩ := w
    rw [a2, a33, a3] at w3
    rw [a4] at w2
    have wa := lg_in w3
    have b0 : M2 0 = M1 0 := w1 0 (by simp)
    refine wp2_lt2 ?_
    refine wp2_lt2 ?_
    refine wp2_lt2 ?_
    rw [b0, a18]
    have hcopy : ∀ (o1 : tp_O) (K64 : tp_M → tp_O) (Q : Int → tp_M → Int → tp_M → Prop), (∀ M3 : tp_M, tp_fr [31] M2 M3 → (∀ j : Int, 0 ≤ j → j < M 0 18 → M3 31 j = M 9 j) → wp2 o1 (K64 M3) Q) → wp2 o1 (tp_lp1 (fx_X11_law_L35 a (M 0 18) K64) tp_F 0 M2) Q := fun o1 K64 Q hq => by
      refine wp2_R1 (fun z M3 => (0 ≤ z ∧ z ≤ M 0 18) ∧ tp_fr [31] M2 M3 ∧ ∀ j : Int, 0 ≤ j → j < z → M3 31 j = M 9 j) (fun z _ => (M 0 18 - z).toNat) ?_ tp_F 0 M2 ⟨by omega, fr_rf, fun j a b => by omega⟩ (tp_F_pos (by omega))
      rintro rec z M3 ⟨i1, i2, i3⟩ hrec
      unfold fx_X11_law_L35
      have e18 : M3 0 18 = M 0 18 := by rw [i2 0 (by simp), b0, a18]
      have e9 : M3 9 = M 9 := by rw [i2 9 (by simp), w1 9 (by simp), a9]
      rw [e18, e9, w32_id (show -2147483648 ≤ z ∧ z < 2147483648 by omega), w32_id (show -2147483648 ≤ M 0 18 ∧ M 0 18 < 2147483648 by omega)]
      by_cases hz : z < M 0 18
      · rw [if_pos hz]
        refine wp2_ck2 (by omega) ?_
        refine wp2_ck2 (by omega) ?_
        refine wp2_lm2 ?_
        refine wp2_lt2 ?_
        refine hrec _ _ ⟨by omega, fr_up i2 (by simp), fun j j1 j2 => ?_⟩ (by omega)
        rw [up_c]
        by_cases e : j = z
        · rw [if_pos e, e]
        · rw [if_neg e]; exact i3 j j1 (by omega)
      · rw [if_neg hz]
        exact hq M3 i2 (fun j j1 j2 => i3 j j1 (by omega))
    refine hcopy _ _ _ (fun M3 m1 m2 => ?_)
    have c0 : M3 0 = M1 0 := by rw [m1 0 (by simp), b0]
    have c10 : M3 10 = M1 10 := by rw [m1 10 (by simp), w1 10 (by simp)]
    rw [c0]
    refine wp2_c2 (ps_laysCode (M := M3) (k := 10) (m := M1 0 19) (by decide) (by omega)) (fun _ M4 w => ?_)
    obtain ⟨v1, v2, v3, v4⟩ := w
    have hs21 : stk (C2 21) K := stk_k k4 (q1 21 (by simp))
    have d3 : M4 0 3 = M 0 3 := by rw [v3 3 (by decide), c0, a3]
    have d2 : M4 2 = M 2 := by rw [v1 2 (by simp), m1 2 (by simp), w1 2 (by simp), a2]
    have d33 : M4 3 = M 3 := by rw [v1 3 (by simp), m1 3 (by simp), w1 3 (by simp), a33]
    have d4 : M4 4 = M 4 := by rw [v1 4 (by simp), m1 4 (by simp), w1 4 (by simp), a4]
    refine wp2_c2 (ps_homeOfLast (M := M4) (f := C2 21) (s := (K.length : Int)) (by rw [d3, d2, d33]; exact hN.2.1) ⟨by rw [v2, k5], stk_wf hs21 k1 k2, fun j j1 j2 => by rw [v4 j j1 (by omega), c10]; exact stk_map hs21 k6 j j1 j2⟩ (by rw [d4, d3, d2]; exact hrow)) (fun b M5 w => ?_)
    obtain ⟨y1, R2, y2, y3⟩ := w
    rw [d2, d33, d3] at y3
    rw [d4] at y2
    have wb := lg_in y3
    refine wp2_lt2 ?_
    refine wp2_c2 (ps_laysCode (M := M5) (k := 31) (m := M 0 18) (by decide) (by omega)) (fun _ M6 w => ?_)
    obtain ⟨z1, z2, z3, z4⟩ := w
    refine wp2_lm2 ?_
    have hrowC : sm_row (C2 26) (C2 27) (C2 25 2) (C2 25 3) (M 4) (M 0 3) (M 2) B := by
      rw [fC 26 (by simp), fC 27 (by simp), fC 25 (by simp)]; exact hrow
    refine wp2_c1 (cs_lengthBy (t := 20) (Or.inr rfl) (s := (K.length : Int)) hN2 (by rw [q1 20 (by simp)]; exact k3) (stk_wf hs21 k1 k2) hrowC y2) (fun b2 C3 w => ?_)
    obtain ⟨x1, x2⟩ := w
    have hb : b2 = b := lg_u x2 y3
    subst hb
    refine wp2_lt1 ?_
    have hN3 : nC C3 (M 0 3) (M 2) (M 3) := nC_fr hN2 (x1 5 (by simp)) (x1 6 (by simp)) (x1 7 (by simp)) (x1 8 (by simp)) (x1 9 (by simp))
    refine wp2_c1 (cs_lengthBy (t := 15) (Or.inl rfl) (s := M 0 18) (R := R1) hN3 (by rw [x1 15 (by simp), fC 15 (by simp)]; exact hru.1) (by rw [show 15 + 1 = 16 from rfl, x1 16 (by simp), fC 16 (by simp)]; exact hru.2.1) (R0 := M 4) (B := B) (by rw [x1 26 (by simp), x1 27 (by simp), x1 25 (by simp)]; exact hrowC) w2) (fun a2' C4 w => ?_)
    obtain ⟨u1, u2⟩ := w
    rw [show 15 + 1 = 16 from rfl, x1 16 (by simp), fC 16 (by simp)] at u2
    have ha : a2' = a := lg_u u2 w3
    subst ha
    refine wp2_lt1 ?_
    rw [pc_tell2, tp_bd_s, (pm_enter2 (a := w32 b2) (b := 0) (up_s _ _ _ _)).1, tp_bd_s, (pm_enter2 (a := w32 b2) (b := w32 a2') (up_s _ _ _ _)).2, tp_bd_s]
    have fC4 : tp_fr [1, 18, 20, 21, 22, 23, 24, 28, 29, 30, 59] C C4 := fr_tr (fr_mono fC (by simp)) (fr_tr (fr_mono x1 (by simp)) (fr_mono u1 (by simp)))
    have fM6 : tp_fr [0, 5, 9, 10, 11, 12, 19, 31] M M6 := fr_tr (fr_mono fM (by simp)) (fr_tr (fr_mono w1 (by simp)) (fr_tr (fr_mono m1 (by simp)) (fr_tr (fr_mono v1 (by simp)) (fr_tr (fr_mono y1 (by simp)) (fr_mono z1 (by simp))))))
    have i0 : ∀ j : Int, ¬ j = 18 → M6 0 j = M1 0 j := fun j hj => by rw [z3 j hj, y1 0 (by simp), v3 j hj, c0]
    have tC := td_2C C4 (w32 b2) (w32 a2')
    have tM := td_2M (tp_up M6 0 1 0) (w32 b2) (w32 a2')
    refine wp2_some ⟨rfl, Sim_law h (Int.le_refl B) (SC := [1, 3, 4, 18, 20, 21, 22, 23, 24, 28, 29, 30, 59]) (SM := [0, 1, 5, 9, 10, 11, 12, 19, 31]) (fr_up (fr_up (fr_up (fr_up (fr_up (fr_mono fC4 (by simp)) (by simp)) (by simp)) (by simp)) (by simp)) (by simp)) (fr_up (fr_up (fr_up (fr_up (fr_up (fr_mono fM6 (by simp)) (by simp)) (by simp)) (by simp)) (by simp)) (by simp)) (by decide) (by decide) (fun j hj => ?_) (txt_0 ?_ ?_) ?_ ?_⟩
    · simp only [List.mem_cons, List.not_mem_nil, or_false] at hj
      simp (disch := omega) only [up_j, up_k]
      rw [i0 j (by omega)]
      exact h0 j (by simp; omega)
    · simp (disch := omega) only [up_k]
      rw [u1 1 (by simp), x1 1 (by simp)]; exact q2
    · simp (disch := omega) only [up_j, up_k]
      rw [i0 9 (by decide)]; exact g9
    · refine ⟨by rw [tC.1, tM.1], by rw [tM.1]; decide, fun j j1 j2 => ?_⟩
      rw [tM.1] at j2
      rw [tC.2 j j1 j2, tM.2 j j1 j2]
    · simp (disch := omega) only [up_j, up_k]
      rw [u1 15 (by simp), x1 15 (by simp), fC 15 (by simp), u1 16 (by simp), x1 16 (by simp), fC 16 (by simp), z2, hru.1]
      refine ⟨rfl, hru.2.1, fun j j1 j2 => ?_⟩
      rw [z4 j j1 j2, y1 31 (by simp), v1 31 (by simp), m2 j j1 j2]
      exact hru.2.2 j j1 j2
end ST
