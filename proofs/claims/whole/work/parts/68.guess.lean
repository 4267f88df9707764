/-! GUESS: which numbers a post can have -/
theorem wk_stay {D G f : Int → Int} {s : Int} {R : Int → Int} {v : Int} {k : Nat} (h : (wk D G f s R v k).1 = 0) : ∀ m : Nat, k ≤ m → (wk D G f s R v m).1 = 0 := by
  intro m
  induction m with
  | zero => intro hm; rw [show k = 0 by omega] at h; exact h
  | succ m ih =>
    intro hm
    by_cases hk : k = m + 1
    · rw [← hk]; exact h
    · have e := ih (by omega)
      rw [wk_s0 e]; exact e
theorem wk_cg {n : Int} {D G f R R2 : Int → Int} {s v : Int} (hn : nt_net n D G) (h : rr_ok n D R) (hv : 0 ≤ v ∧ v < n) (e : ∀ j : Int, 0 ≤ j → j < 17 → R2 j = R j) : ∀ k : Nat, (wk D G f s R2 v k).1 = (wk D G f s R v k).1 ∧ ∀ j : Int, 0 ≤ j → j < 17 → (wk D G f s R2 v k).2 j = (wk D G f s R v k).2 j := by
  intro k
  induction k with
  | zero => exact ⟨rfl, e⟩
  | succ k ih =>
    obtain ⟨i1, i2⟩ := ih
    have hp := wk_pos (f := f) (s := s) hn h hv k
    have n8 := hn.1
    by_cases h0 : (wk D G f s R v k).1 = 0
    · have h1 : (wk D G f s R2 v k).1 = 0 := by rw [i1]; exact h0
      rw [wk_s0 h0, wk_s0 h1]
      exact ⟨i1, i2⟩
    · have h1 : ¬ (wk D G f s R2 v k).1 = 0 := by rw [i1]; exact h0
      rw [wk_s h0, wk_s h1, i1]
      generalize (wk D G f s R v k).1 = w at *
      have ew := i2 w (by omega) (by omega)
      have e8w := i2 (8 + w) (by omega) (by omega)
      have e8 := i2 8 (by decide) (by decide)
      have e16 := i2 16 (by decide) (by decide)
      refine ⟨by dsimp only; rw [ew], fun j j1 j2 => ?_⟩
      dsimp only
      unfold rw_step
      rw [ew, e8w, e8, e16, i2 j j1 j2]
def rw_post (R : Int → Int) (i k : Int) : Int → Int := fun j => if j = i then k else R j
theorem rr_post {n : Int} {D R : Int → Int} {i k : Int} (hn : n ≤ 8) (h : rr_ok n D R) (hi : 1 ≤ i ∧ i < n) (hk : 0 ≤ k ∧ k < D i) : rr_ok n D (rw_post R i k) := by
  obtain ⟨h1, h2, h3⟩ := h
  have e (j : Int) (hj : ¬ j = i) : rw_post R i k j = R j := if_neg hj
  refine ⟨by rw [e 8 (by omega)]; exact h1, by rw [e 16 (by omega)]; exact h2, fun v v1 v2 => ?_⟩
  by_cases hv : v = i
  · have : rw_post R i k v = k := if_pos hv
    rw [this, hv]; exact hk
  · rw [e v hv]; exact h3 v v1 v2
theorem sr_post {P W : Int → Int} {h s : Int} {R : Int → Int} {n : Int} {D : Int → Int} {B i k : Int} {P2 : Int → Int} (hn : n ≤ 8) (g : sm_row P W h s R n D B) (hi : 1 ≤ i ∧ i < n) (hk : 0 ≤ k ∧ k < D i) (hP : ∀ u : Int, P2 u = if u = i then k else P u) : sm_row P2 W h s (rw_post R i k) n D B := by
  obtain ⟨g1, g2, g3, g4, g5, g6⟩ := g
  have e (j : Int) (hj : ¬ j = i) : rw_post R i k j = R j := if_neg hj
  refine ⟨by rw [e 8 (by omega)]; exact g1, by rw [e 8 (by omega)]; exact g2, by rw [e 16 (by omega)]; exact g3, by rw [e 16 (by omega)]; exact g4, fun u u1 u2 => ?_, fun u u1 u2 u3 => ?_⟩
  · obtain ⟨t1, t2, t3, t4⟩ := g5 u u1 u2
    rw [e (8 + u) (by omega), hP]
    by_cases hu : u = i
    · have : rw_post R i k u = k := if_pos hu
      rw [if_pos hu, this, hu]
      exact ⟨rfl, hk, by rw [← hu]; exact t3, by rw [← hu]; exact t4⟩
    · rw [if_neg hu, e u hu]
      exact ⟨t1, t2, t3, t4⟩
  · rw [hP, if_neg (by omega)]
    exact g6 u u1 u2 u3
theorem ps_after {M : tp_M} {f : Int → Int} {s v m : Int} (hn : nt_net (M 0 3) (M 2) (M 3)) (hr : rM M f s) (h : rr_ok (M 0 3) (M 2) (M 4)) (hv : 1 ≤ v ∧ v < M 0 3) (hm : 0 ≤ m ∧ m ≤ 99) : wp (fx_X11_placeAfter v m M) (fun r M1 => r = (wk (M 2) (M 3) f s (M 4) v m.toNat).1 ∧ tp_fr [0, 5, 11, 12] M M1 ∧ ∀ j : Int, j ∉ ([32, 33] : List Int) → M1 0 j = M 0 j) := by
  have n8 := hn.1
  generalize hD : M 2 = D at *
  generalize hG : M 3 = G at *
  generalize hR4 : M 4 = R at *
  refine wp_K (fun Q hQ => ?_)
  unfold fx_X11_placeAfter
  refine wp_call (pm_copies (k1 := 5) (k2 := 4) M (by decide)) (fun _ M1 p => ?_)
  obtain ⟨p1, p2⟩ := p
  rw [hR4] at p2
  generalize hR5 : M1 5 = R5 at *
  have he : ∀ j : Int, 0 ≤ j → j < 17 → R5 j = R j := fun j j1 j2 => by rw [p2 j, if_pos ⟨j1, j2⟩]
  have hcg := wk_cg (f := f) (s := s) hn h (show 0 ≤ v ∧ v < M 0 3 by omega) he
  have h5 : rr_ok (M 0 3) D R5 := by
    obtain ⟨a1, a2, a3⟩ := h
    exact ⟨by rw [he 8 (by decide) (by decide)]; exact a1, by rw [he 16 (by decide) (by decide)]; exact a2, fun u u1 u2 => by rw [he u (by omega) (by omega)]; exact a3 u u1 u2⟩
  have e0 : M1 0 = M 0 := p1 0 (by simp)
  refine wp_lt ?_
  refine wp_lm ?_
  refine wp_lm ?_
  refine wp_lp1 (fun a M2 => ∃ k : Nat, (k : Int) ≤ m ∧ a = (wk D G f s R5 v k).1 ∧ M2 0 32 = (k : Int) ∧ M2 5 = (wk D G f s R5 v k).2 ∧ tp_fr [0, 5, 11, 12] M M2 ∧ ∀ j : Int, j ∉ ([32, 33] : List Int) → M2 0 j = M 0 j) (fun _ M2 => (m - M2 0 32).toNat) ?_ tp_F v _ ⟨0, hm.1, rfl, ?_, ?_, fr_up (fr_up (fr_mono p1 (by simp)) (by simp)) (by simp), fun j hj => ?_⟩ (tp_F_pos ?_)
  · intro rec a M2 hI hrec
    obtain ⟨k, k1, rfl, k3, k4, k5, k6⟩ := hI
    have hp := wk_pos (f := f) (s := s) hn h5 (show 0 ≤ v ∧ v < M 0 3 by omega) k
    unfold fx_X11_placeAfter_L23
    rw [k3, w32_id (show -2147483648 ≤ (wk D G f s R5 v k).1 ∧ (wk D G f s R5 v k).1 < 2147483648 by omega), w32_id (show -2147483648 ≤ (k : Int) ∧ (k : Int) < 2147483648 by omega), w32_id (show -2147483648 ≤ m ∧ m < 2147483648 by omega)]
    by_cases h0 : (wk D G f s R5 v k).1 ≤ 0
    · rw [if_pos h0]
      have hz : (wk D G f s R5 v k).1 = 0 := by omega
      refine wp_some (hQ _ _ ⟨?_, k5, k6⟩)
      rw [hz, ← (hcg m.toNat).1, wk_stay hz m.toNat (by omega)]
    · rw [if_neg h0]
      by_cases hk : (k : Int) < m
      · rw [if_pos hk]
        have e2 : M2 2 = D := by rw [k5 2 (by simp), hD]
        have e3 : M2 3 = G := by rw [k5 3 (by simp), hG]
        have e03 : M2 0 3 = M 0 3 := k6 3 (by decide)
        refine wp_call (ps_step (kr := 5) (M := M2) (f := f) (s := s) (v := (wk D G f s R5 v k).1) (Or.inr rfl) (ps_mk (by rw [e03, e2, e3]; exact hn) ⟨by rw [k6 18 (by decide)]; exact hr.1, hr.2.1, by rw [k5 9 (by simp)]; exact hr.2.2⟩ (by rw [e03, e2, k4]; exact hp.2) (by rw [e03]; omega))) (fun r M3 q => ?_)
        obtain ⟨q1, q2, q3⟩ := q
        rw [e3, k4] at q1
        rw [e2, e3, k4] at q3
        have hws := wk_s (k := k) (D := D) (G := G) (f := f) (s := s) (R := R5) (v := v) (by omega)
        have o0 : M3 0 = M2 0 := q2 0 (by simp)
        refine wp_lt ?_
        refine wp_lm ?_
        refine wp_jn1 ?_
        have nx : ∀ y M4, M4 = tp_up M3 0 32 (M3 0 32 + 1) → wp (tp_lm (tp_up M4 0 33 y) (fun M16 => rec r M16)) Q := fun y M4 hM4 => by
          subst hM4
          refine wp_lm ?_
          refine hrec _ _ ⟨k + 1, by omega, by rw [hws, q1], ?_, ?_, ?_, fun j hj => ?_⟩ ?_
          · rw [up_j _ _ _ (by decide), up_s, o0, k3]; omega
          · rw [up_k _ _ _ (by decide), up_k _ _ _ (by decide), q3, hws]
          · exact fr_up (fr_up (fr_tr k5 (fr_mono q2 (by simp))) (by simp)) (by simp)
          · rw [up_j _ _ _ (f0_ne' hj (by decide)), up_j _ _ _ (f0_ne' hj (by decide)), o0]
            exact k6 j hj
          · rw [up_j _ _ _ (show ¬ (32 : Int) = 33 by decide), up_s, o0, k3]
            omega
        have g1 : fx_X11_flag 1 (tp_up M3 0 32 (M3 0 32 + 1)) = some (1, tp_up M3 0 32 (M3 0 32 + 1)) := rfl
        have g0 : fx_X11_flag 0 (tp_up M3 0 32 (M3 0 32 + 1)) = some (0, tp_up M3 0 32 (M3 0 32 + 1)) := rfl
        by_cases hrv : w32 r = w32 v
        · rw [if_pos hrv]
          dsimp only
          rw [g1, tp_bd_s]
          exact nx _ _ rfl
        · rw [if_neg hrv]
          dsimp only
          rw [g0, tp_bd_s]
          exact nx _ _ rfl
      · rw [if_neg hk]
        refine wp_some (hQ _ _ ⟨?_, k5, k6⟩)
        rw [← (hcg m.toNat).1, show m.toNat = k by omega]
  · rw [up_j _ _ _ (by decide), up_s]; rfl
  · rw [up_k _ _ _ (by decide), up_k _ _ _ (by decide), hR5]; rfl
  · rw [up_j _ _ _ (f0_ne' hj (by decide)), up_j _ _ _ (f0_ne' hj (by decide)), e0]
  · rw [up_j _ _ _ (show ¬ (32 : Int) = 33 by decide), up_s]
    omega
theorem ps_placeBy {M : tp_M} {f : Int → Int} {s v m i k : Int} (hn : nt_net (M 0 3) (M 2) (M 3)) (hr : rM M f s) (h : rr_ok (M 0 3) (M 2) (M 4)) (hi : 1 ≤ i ∧ i < M 0 3) (hk : 0 ≤ k ∧ k < M 2 i) (hv : 1 ≤ v ∧ v < M 0 3) (hm : 0 ≤ m ∧ m ≤ 99) : wp (fx_X11_placeBy i k v m M) (fun r M1 => r = (wk (M 2) (M 3) f s (rw_post (M 4) i k) v m.toNat).1 ∧ tp_fr [0, 5, 11, 12] M M1 ∧ ∀ j : Int, j ∉ ([32, 33] : List Int) → M1 0 j = M 0 j) := by
  have n8 := hn.1
  refine wp_K (fun Q hQ => ?_)
  unfold fx_X11_placeBy
  rw [w32_id (show -2147483648 ≤ i ∧ i < 2147483648 by omega)]
  refine wp_ck (by omega) ?_
  refine wp_lt ?_
  refine wp_ck (by omega) ?_
  refine wp_lm ?_
  generalize hM2 : tp_up M 4 i k = M2
  have e4 : M2 4 = rw_post (M 4) i k := by
    rw [← hM2]
    funext j
    rw [up_c]
    rfl
  have eo : ∀ c : Nat, ¬ c = 4 → M2 c = M c := fun c hc => by rw [← hM2, up_k _ _ _ hc]
  refine wp_call (ps_after (M := M2) (f := f) (s := s) (v := v) (m := m) (by rw [eo 0 (by decide), eo 2 (by decide), eo 3 (by decide)]; exact hn) (by unfold rM; rw [eo 0 (by decide), eo 9 (by decide)]; exact hr) (by rw [eo 0 (by decide), eo 2 (by decide), e4]; exact rr_post n8.2 h hi hk) (by rw [eo 0 (by decide)]; exact hv) hm) (fun r M3 q => ?_)
  obtain ⟨q1, q2, q3⟩ := q
  rw [eo 2 (by decide), eo 3 (by decide), e4] at q1
  refine wp_lt ?_
  refine wp_ck (by omega) ?_
  refine wp_lm ?_
  refine wp_some (hQ _ _ ⟨q1, fun c hc => ?_, fun j hj => ?_⟩)
  · by_cases c4 : c = 4
    · subst c4
      funext j
      rw [up_c, q2 4 (by simp), e4]
      unfold rw_post
      by_cases hj : j = i
      · rw [if_pos hj, hj]
      · rw [if_neg hj, if_neg hj]
    · rw [up_k _ _ _ c4, q2 c hc, eo c c4]
  · rw [up_k _ _ _ (by decide), q3 j hj, eo 0 (by decide)]
/-- the number k of the post of i fits what was seen -/
def fits_k (D G f : Int → Int) (s : Int) (R A S E : Int → Int) (m i k : Int) : Prop := ∀ j : Int, 0 ≤ j → j < m → (wk D G f s (rw_post R i k) (A j) (S j).toNat).1 = E j
theorem ps_numbers {M : tp_M} {f : Int → Int} {s i m : Int} (hn : nt_net (M 0 3) (M 2) (M 3)) (hr : rM M f s) (h : rr_ok (M 0 3) (M 2) (M 4)) (hi : 1 ≤ i ∧ i < M 0 3) (hm : M 0 39 = m) (hm2 : 0 ≤ m ∧ m ≤ 10) (hs : ∀ j : Int, 0 ≤ j → j < m → (1 ≤ M 24 j ∧ M 24 j < M 0 3) ∧ (0 ≤ M 25 j ∧ M 25 j ≤ 20) ∧ 0 ≤ M 26 j ∧ M 26 j < M 0 3) : wp (fx_X11_numbers i M) (fun x M1 => tp_fr [0, 5, 11, 12] M M1 ∧ (∀ j : Int, j ∉ ([32, 33] : List Int) → M1 0 j = M 0 j) ∧ (0 ≤ x ∧ x < 256) ∧ ∀ j : Nat, j < 8 → (bt x j ↔ (j : Int) < M 2 i ∧ fits_k (M 2) (M 3) f s (M 4) (M 24) (M 25) (M 26) m i (j : Int))) := by
  have n8 := hn.1
  have d4 := (hn.2 i hi.1 hi.2).1
  refine wp_K (fun Q hQ => ?_)
  unfold fx_X11_numbers
  refine wp_lt ?_
  refine wp_lt ?_
  refine wp_lp2 (fun a z M1 => (0 ≤ z ∧ z ≤ M 2 i) ∧ tp_fr [0, 5, 11, 12] M M1 ∧ (∀ j : Int, j ∉ ([32, 33] : List Int) → M1 0 j = M 0 j) ∧ (0 ≤ a ∧ a < 256) ∧ ∀ j : Nat, j < 8 → (bt a j ↔ (j : Int) < z ∧ fits_k (M 2) (M 3) f s (M 4) (M 24) (M 25) (M 26) m i (j : Int))) (fun _ z _ => (4 - z).toNat) ?_ tp_F 0 0 M ⟨by omega, fr_rf, fun _ _ => rfl, by omega, fun j hj => ⟨fun q => absurd q (bt_0 j), fun q => by omega⟩⟩ (tp_F_pos (by omega))
  intro rec a z M1 hI hrec
  obtain ⟨i1, i2, i3, i4, i5⟩ := hI
  unfold fx_X11_numbers_L4
  rw [w32_id (show -2147483648 ≤ i ∧ i < 2147483648 by omega)]
  refine wp_ck (by omega) ?_
  rw [i2 2 (by simp), w32_id (show -2147483648 ≤ z ∧ z < 2147483648 by omega), w32_id (show -2147483648 ≤ M 2 i ∧ M 2 i < 2147483648 by omega)]
  by_cases hz : z < M 2 i
  · rw [if_pos hz]
    refine wp_lt ?_
    refine wp_lt ?_
    refine wp_lp2 (fun b j M2 => (0 ≤ j ∧ j ≤ m) ∧ tp_fr [0, 5, 11, 12] M M2 ∧ (∀ j : Int, j ∉ ([32, 33] : List Int) → M2 0 j = M 0 j) ∧ ((b = 1 ∧ ∀ l : Int, 0 ≤ l → l < j → (wk (M 2) (M 3) f s (rw_post (M 4) i z) (M 24 l) (M 25 l).toNat).1 = M 26 l) ∨ (b = 0 ∧ ∃ l : Int, (0 ≤ l ∧ l < m) ∧ ¬ (wk (M 2) (M 3) f s (rw_post (M 4) i z) (M 24 l) (M 25 l).toNat).1 = M 26 l))) (fun _ j _ => (10 - j).toNat) ?_ tp_F 1 0 M1 ⟨by omega, i2, i3, Or.inl ⟨rfl, fun l l1 l2 => by omega⟩⟩ (tp_F_pos (by omega))
    intro rec2 b j M2 hI2 hrec2
    obtain ⟨j1, j2, j3, j4⟩ := hI2
    have e39 : M2 0 39 = m := by rw [j3 39 (by decide)]; exact hm
    have hbt := bt_or i4 (v := z) (by omega)
    have fin : (b = 1 ∧ ∀ l : Int, 0 ≤ l → l < m → (wk (M 2) (M 3) f s (rw_post (M 4) i z) (M 24 l) (M 25 l).toNat).1 = M 26 l) ∨ (b = 0 ∧ ∃ l : Int, (0 ≤ l ∧ l < m) ∧ ¬ (wk (M 2) (M 3) f s (rw_post (M 4) i z) (M 24 l) (M 25 l).toNat).1 = M 26 l) → wp (tp_jn1 (fun y19 M20 => tp_lt (x_or a y19) (fun x21 => tp_lt (z + 1) (fun x22 => rec x21 x22 M20))) (fun jk90 => if w32 b = 0 then jk90 0 M2 else jk90 (x_shl 1 z) M2)) Q := fun hc => by
      refine wp_jn1 ?_
      rcases hc with ⟨rfl, hc⟩ | ⟨rfl, l, l1, l2⟩
      · rw [show w32 1 = 1 from rfl, if_neg (by decide)]
        refine wp_lt ?_
        refine wp_lt ?_
        refine hrec _ _ _ ⟨by omega, j2, j3, hbt.1, fun j hj => ?_⟩ (by omega)
        rw [hbt.2 j, i5 j hj]
        constructor
        · rintro (⟨w1, w2⟩ | w)
          · exact ⟨by omega, w2⟩
          · exact ⟨by omega, by rw [w]; exact hc⟩
        · rintro ⟨w1, w2⟩
          by_cases e : (j : Int) = z
          · exact Or.inr e
          · exact Or.inl ⟨by omega, w2⟩
      · rw [show w32 0 = 0 from rfl, if_pos rfl]
        refine wp_lt ?_
        refine wp_lt ?_
        rw [x_or_0 i4]
        refine hrec _ _ _ ⟨by omega, j2, j3, i4, fun j hj => ?_⟩ (by omega)
        rw [i5 j hj]
        constructor
        · rintro ⟨w1, w2⟩
          exact ⟨by omega, w2⟩
        · rintro ⟨w1, w2⟩
          by_cases e : (j : Int) = z
          · rw [e] at w2
            exact absurd (w2 l l1.1 l1.2) l2
          · exact ⟨by omega, w2⟩
    unfold fx_X11_numbers_L20
    rw [e39, w32_id (show -2147483648 ≤ j ∧ j < 2147483648 by omega), w32_id (show -2147483648 ≤ m ∧ m < 2147483648 by omega)]
    by_cases hj : j < m
    · rw [if_pos hj]
      rcases j4 with ⟨rfl, j4⟩ | ⟨rfl, j4⟩
      · obtain ⟨s1, s2, s3⟩ := hs j j1.1 hj
        rw [show w32 1 = 1 from rfl, if_neg (by decide)]
        refine wp_ck (by omega) ?_
        refine wp_ck (by omega) ?_
        rw [j2 24 (by simp), j2 25 (by simp)]
        have e2 : M2 2 = M 2 := j2 2 (by simp)
        have e3 : M2 3 = M 3 := j2 3 (by simp)
        have e4 : M2 4 = M 4 := j2 4 (by simp)
        have e03 : M2 0 3 = M 0 3 := j3 3 (by decide)
        refine wp_call (ps_placeBy (M := M2) (f := f) (s := s) (i := i) (k := z) (v := M 24 j) (m := M 25 j) (by rw [e03, e2, e3]; exact hn) ⟨by rw [j3 18 (by decide)]; exact hr.1, hr.2.1, by rw [j2 9 (by simp)]; exact hr.2.2⟩ (by rw [e03, e2, e4]; exact h) (by rw [e03]; exact hi) (by rw [e2]; omega) (by rw [e03]; exact s1) (by omega)) (fun r M3 q => ?_)
        obtain ⟨q1, q2, q3⟩ := q
        rw [e2, e3, e4] at q1
        have hpos := (wk_pos (f := f) (s := s) hn (rr_post n8.2 h hi (show 0 ≤ z ∧ z < M 2 i by omega)) (show 0 ≤ M 24 j ∧ M 24 j < M 0 3 by omega) (M 25 j).toNat).1
        rw [← q1] at hpos
        have f2 : tp_fr [0, 5, 11, 12] M M3 := fr_tr j2 q2
        have f3 : ∀ j : Int, j ∉ ([32, 33] : List Int) → M3 0 j = M 0 j := fun j hj => by rw [q3 j hj]; exact j3 j hj
        refine wp_ck (by omega) ?_
        refine wp_jn1 ?_
        rw [f2 26 (by simp), w32_id (show -2147483648 ≤ r ∧ r < 2147483648 by omega), w32_id (show -2147483648 ≤ M 26 j ∧ M 26 j < 2147483648 by omega)]
        by_cases hq : r = M 26 j
        · rw [if_pos hq]
          refine wp_lt ?_
          refine wp_lt ?_
          refine hrec2 _ _ _ ⟨by omega, f2, f3, Or.inl ⟨rfl, fun l l1 l2 => ?_⟩⟩ (by omega)
          by_cases hl : l = j
          · rw [hl, ← q1]; exact hq
          · exact j4 l l1 (by omega)
        · rw [if_neg hq]
          refine wp_lt ?_
          refine wp_lt ?_
          exact hrec2 _ _ _ ⟨by omega, f2, f3, Or.inr ⟨rfl, j, ⟨j1.1, hj⟩, by rw [← q1]; exact hq⟩⟩ (by omega)
      · rw [show w32 0 = 0 from rfl, if_pos rfl]
        exact fin (Or.inr ⟨rfl, j4⟩)
    · rw [if_neg hj]
      refine fin ?_
      rcases j4 with ⟨rfl, j4⟩ | j4
      · exact Or.inl ⟨rfl, fun l l1 l2 => j4 l l1 (by omega)⟩
      · exact Or.inr j4
  · rw [if_neg hz]
    refine wp_some (hQ _ _ ⟨i2, i3, i4, fun j hj => ?_⟩)
    rw [i5 j hj, show z = M 2 i by omega]
/-! the class's side -/
theorem cs_copyPost {C : tp_M} {n : Int} {D R : Int → Int} {B i k : Int} (hn : n ≤ 8) (g : sm_row (C 26) (C 27) (C 25 2) (C 25 3) R n D B) (hi : 1 ≤ i ∧ i < n) (hk : 0 ≤ k ∧ k < D i) : wp (fx_X2_copyFrom 28 25 C) (fun _ C1 => tp_fr [18, 28, 29, 30, 59] C (tp_up C1 29 i k) ∧ sm_row (tp_up C1 29 i k 29) (tp_up C1 29 i k 30) (tp_up C1 29 i k 28 2) (tp_up C1 29 i k 28 3) (rw_post R i k) n D B) := by
  refine wp_mono (cy_C C) (fun _ C1 p => ?_)
  obtain ⟨p1, p2, p3, p4, p5⟩ := p
  refine ⟨fr_up p1 (by simp), ?_⟩
  have g2 : sm_row (C1 29) (C1 30) (C1 28 2) (C1 28 3) R n D B := sm_row_cg hn g (fun v v1 v2 => (p5 v v1 v2).1) (fun v v1 v2 => (p5 v v1 v2).2) p3 p4 (fun _ _ _ => rfl)
  rw [up_k _ _ _ (show ¬ (30 : Nat) = 29 by decide), up_k _ _ _ (show ¬ (28 : Nat) = 29 by decide)]
  exact sr_post hn g2 hi hk (fun u => up_c _ _ _ _ _)
theorem cs_fits {C : tp_M} {n : Int} {D G f R : Int → Int} {s B i k m : Int} {A S E : Int → Int} (hN : nC C n D G) (hs : C 15 4 = s) (hf : C 16 = f) (hw : rc_wf f s) (h : sm_row (C 26) (C 27) (C 25 2) (C 25 3) R n D B) (hi : 1 ≤ i ∧ i < n) (hk : 0 ≤ k ∧ k < D i) (hm : C 52 3 = m) (hA : C 53 = A) (hS : C 54 = S) (hE : C 55 = E) (hm2 : 0 ≤ m ∧ m ≤ 10) (hs2 : ∀ j : Int, 0 ≤ j → j < m → (1 ≤ A j ∧ A j < n) ∧ (0 ≤ S j ∧ S j ≤ 20) ∧ 0 ≤ E j ∧ E j < n) : wp (fx_X10_fitsSights i k C) (fun r C1 => tp_fr [18, 28, 29, 30, 59] C C1 ∧ ((r = 1 ∧ fits_k D G f s R A S E m i k) ∨ (r = 0 ∧ ¬ fits_k D G f s R A S E m i k))) := by
  have n8 := cn_n hN
  have d4 := cn_D hN hi
  refine wp_K (fun Q hQ => ?_)
  unfold fx_X10_fitsSights
  rw [cn_hasWay hN (by unfold pu_in; omega) (by unfold pu_in; omega), if_pos (show 1 ≤ i ∧ i < n ∧ 0 ≤ k ∧ k < D i from ⟨hi.1, hi.2, hk.1, hk.2⟩), tp_bd_s, show w32 1 = 1 from rfl, if_neg (show ¬ (1 : Int) = 0 by decide)]
  refine wp_lt ?_
  refine wp_lp1 (fun z C1 => (0 ≤ z ∧ z ≤ m) ∧ tp_fr [18, 28, 29, 30, 59] C C1 ∧ ∀ j : Int, 0 ≤ j → j < z → (wk D G f s (rw_post R i k) (A j) (S j).toNat).1 = E j) (fun z _ => (10 - z).toNat) ?_ tp_F 0 C ⟨by omega, fr_rf, fun j j1 j2 => by omega⟩ (tp_F_pos (by omega))
  intro rec z C1 hI hrec
  obtain ⟨i1, i2, i3⟩ := hI
  have e6 : fx_X6_size C1 = some (m, C1) := by unfold fx_X6_size; rw [i2 52 (by simp), hm]
  unfold fx_X10_fitsSights_L16
  rw [e6, tp_bd_s, w32_id (show -2147483648 ≤ z ∧ z < 2147483648 by omega), w32_id (show -2147483648 ≤ m ∧ m < 2147483648 by omega)]
  by_cases hz : z < m
  · rw [if_pos hz]
    obtain ⟨s1, s2, s3⟩ := hs2 z i1.1 hz
    refine wp_call (cs_copyPost (C := C1) (n := n) (D := D) (R := R) (B := B) (i := i) (k := k) n8.2 (by rw [i2 26 (by simp), i2 27 (by simp), i2 25 (by simp)]; exact h) hi hk) (fun _ C2 q => ?_)
    obtain ⟨q1, q2⟩ := q
    rw [w32_id (show -2147483648 ≤ i ∧ i < 2147483648 by omega)]
    refine wp_ck (by omega) ?_
    refine wp_lm ?_
    generalize tp_up C2 29 i k = C3 at *
    have f3 := fr_tr i2 q1
    have rd : ∀ C4 : tp_M, tp_fr [18, 28, 29, 30, 59] C C4 → fx_X6_start z C4 = some (A z, C4) ∧ fx_X6_steps z C4 = some (S z, C4) ∧ fx_X6_place z C4 = some (E z, C4) := fun C4 f4 => by
      unfold fx_X6_start fx_X6_steps fx_X6_place
      rw [f4 52 (by simp), f4 53 (by simp), f4 54 (by simp), f4 55 (by simp), hm, hA, hS, hE, w32_id (show -2147483648 ≤ z ∧ z < 2147483648 by omega), w32_id (show -2147483648 ≤ m ∧ m < 2147483648 by omega), if_neg (show ¬ z < 0 by omega), if_pos hz, if_neg (show ¬ z < 0 by omega), if_pos hz, if_neg (show ¬ z < 0 by omega), if_pos hz, tp_ck_t (by omega), tp_ck_t (by omega), tp_ck_t (by omega)]
      exact ⟨rfl, rfl, rfl⟩
    rw [(rd C3 f3).1, tp_bd_s]
    refine wp_lt ?_
    refine wp_lt ?_
    have hR := rr_of q2
    have fin : ∀ (y : Int) (C4 : tp_M), y = (wk D G f s (rw_post R i k) (A z) (S z).toNat).1 → tp_fr [18, 28, 29, 30, 59] C C4 → wp (tp_bd (fx_X6_place z C4) (fun r26 M27 => if w32 y = w32 r26 then tp_lt (z + 1) (fun x28 => rec x28 M27) else some (0, M27))) Q := fun y C4 hy f4 => by
      have hp := (wk_pos (f := f) (s := s) hN.2.1 hR (show 0 ≤ A z ∧ A z < n by omega) (S z).toNat).1
      rw [← hy] at hp
      rw [(rd C4 f4).2.2, tp_bd_s, w32_id (show -2147483648 ≤ y ∧ y < 2147483648 by omega), w32_id (show -2147483648 ≤ E z ∧ E z < 2147483648 by omega)]
      by_cases hq : y = E z
      · rw [if_pos hq]
        refine wp_lt ?_
        refine hrec _ _ ⟨by omega, f4, fun j j1 j2 => ?_⟩ (by omega)
        by_cases hj : j = z
        · rw [hj, ← hy]; exact hq
        · exact i3 j j1 (by omega)
      · rw [if_neg hq]
        refine wp_some (hQ _ _ ⟨f4, Or.inr ⟨rfl, fun c => hq ?_⟩⟩)
        rw [hy]
        exact c z i1.1 hz
    refine wp_lp2 (fun a g C4 => ∃ l : Nat, (l : Int) ≤ S z ∧ g = (l : Int) ∧ a = (wk D G f s (rw_post R i k) (A z) l).1 ∧ tp_fr [18, 28, 29, 30, 59] C C4 ∧ sm_row (C4 29) (C4 30) (C4 28 2) (C4 28 3) (wk D G f s (rw_post R i k) (A z) l).2 n D B) (fun _ g _ => (20 - g).toNat) ?_ tp_F (A z) 0 C3 ⟨0, by omega, rfl, rfl, f3, q2⟩ (tp_F_pos (by omega))
    intro rec2 a g C4 hI2 hrec2
    obtain ⟨l, l1, rfl, rfl, l4, l5⟩ := hI2
    have hp := (wk_pos (f := f) (s := s) hN.2.1 hR (show 0 ≤ A z ∧ A z < n by omega) l).1
    unfold fx_X10_fitsSights_L61
    rw [(rd C4 l4).2.1, tp_bd_s, w32_id (show -2147483648 ≤ (l : Int) ∧ (l : Int) < 2147483648 by omega), w32_id (show -2147483648 ≤ S z ∧ S z < 2147483648 by omega), w32_id (show -2147483648 ≤ (wk D G f s (rw_post R i k) (A z) l).1 ∧ (wk D G f s (rw_post R i k) (A z) l).1 < 2147483648 by omega)]
    by_cases hl : (l : Int) < S z
    · rw [if_pos hl]
      by_cases h0 : (wk D G f s (rw_post R i k) (A z) l).1 = 0
      · rw [if_pos h0]
        exact fin _ C4 (by rw [h0]; exact (wk_stay h0 _ (by omega)).symm) l4
      · rw [if_neg h0]
        have hN4 : nC C4 n D G := nC_fr hN (l4 5 (by simp)) (l4 6 (by simp)) (l4 7 (by simp)) (l4 8 (by simp)) (l4 9 (by simp))
        have e16 : C4 (15 + 1) = f := by rw [show C4 (15 + 1) = C4 16 from rfl, l4 16 (by simp), hf]
        refine wp_call (cs_step (t := 15) (k1 := 28) (s := s) (Or.inl rfl) (Or.inr (Or.inl rfl)) hN4 (by rw [l4 15 (by simp)]; exact hs) (by rw [e16]; exact hw) l5 ⟨by omega, hp.2⟩) (fun r C5 t => ?_)
        obtain ⟨t1, t2, t3⟩ := t
        rw [e16] at t3
        have hws := wk_s h0
        refine wp_lt ?_
        refine wp_lt ?_
        refine hrec2 _ _ _ ⟨l + 1, by omega, by omega, ?_, fr_tr l4 (fr_mono t2 (by simp)), ?_⟩ (by omega)
        · rw [hws, t1]
        · rw [hws]; exact t3
    · rw [if_neg hl]
      exact fin _ C4 (by rw [show (S z).toNat = l by omega]) l4
  · rw [if_neg hz]
    exact wp_some (hQ _ _ ⟨i2, Or.inl ⟨rfl, fun j j1 j2 => i3 j j1 (by omega)⟩⟩)
theorem cs_numbers {C : tp_M} {n : Int} {D G f R : Int → Int} {s B i m : Int} {A S E : Int → Int} (hN : nC C n D G) (hs : C 15 4 = s) (hf : C 16 = f) (hw : rc_wf f s) (h : sm_row (C 26) (C 27) (C 25 2) (C 25 3) R n D B) (hi : 1 ≤ i ∧ i < n) (hm : C 52 3 = m) (hA : C 53 = A) (hS : C 54 = S) (hE : C 55 = E) (hm2 : 0 ≤ m ∧ m ≤ 10) (hs2 : ∀ j : Int, 0 ≤ j → j < m → (1 ≤ A j ∧ A j < n) ∧ (0 ≤ S j ∧ S j ≤ 20) ∧ 0 ≤ E j ∧ E j < n) : wp (fx_X10_possibleNumbers i C) (fun x C1 => tp_fr [18, 28, 29, 30, 59] C C1 ∧ (0 ≤ x ∧ x < 256) ∧ ∀ j : Nat, j < 8 → (bt x j ↔ (j : Int) < D i ∧ fits_k D G f s R A S E m i (j : Int))) := by
  have n8 := cn_n hN
  have d4 := cn_D hN hi
  refine wp_K (fun Q hQ => ?_)
  unfold fx_X10_possibleNumbers
  refine wp_lt ?_
  refine wp_lt ?_
  refine wp_lp2 (fun a z C1 => (0 ≤ z ∧ z ≤ D i) ∧ tp_fr [18, 28, 29, 30, 59] C C1 ∧ (0 ≤ a ∧ a < 256) ∧ ∀ j : Nat, j < 8 → (bt a j ↔ (j : Int) < z ∧ fits_k D G f s R A S E m i (j : Int))) (fun _ z _ => (4 - z).toNat) ?_ tp_F 0 0 C ⟨by omega, fr_rf, by omega, fun j hj => ⟨fun q => absurd q (bt_0 j), fun q => by omega⟩⟩ (tp_F_pos (by omega))
  intro rec a z C1 hI hrec
  obtain ⟨i1, i2, i3, i4⟩ := hI
  have hN1 : nC C1 n D G := nC_fr hN (i2 5 (by simp)) (i2 6 (by simp)) (i2 7 (by simp)) (i2 8 (by simp)) (i2 9 (by simp))
  unfold fx_X10_possibleNumbers_L4
  rw [cn_degree hN1 hi, tp_bd_s, w32_id (show -2147483648 ≤ z ∧ z < 2147483648 by omega), w32_id (show -2147483648 ≤ D i ∧ D i < 2147483648 by omega)]
  by_cases hz : z < D i
  · rw [if_pos hz]
    refine wp_call (cs_fits (f := f) (s := s) (R := R) (B := B) (i := i) (k := z) (m := m) (A := A) (S := S) (E := E) hN1 (by rw [i2 15 (by simp)]; exact hs) (by rw [i2 16 (by simp)]; exact hf) hw (by rw [i2 26 (by simp), i2 27 (by simp), i2 25 (by simp)]; exact h) hi ⟨i1.1, hz⟩ (by rw [i2 52 (by simp)]; exact hm) (by rw [i2 53 (by simp)]; exact hA) (by rw [i2 54 (by simp)]; exact hS) (by rw [i2 55 (by simp)]; exact hE) hm2 hs2) (fun r C2 q => ?_)
    obtain ⟨q1, q2⟩ := q
    have f2 := fr_tr i2 q1
    have hbt := bt_or i3 (v := z) (by omega)
    refine wp_jn1 ?_
    rcases q2 with ⟨rfl, q2⟩ | ⟨rfl, q2⟩
    · rw [show w32 1 = 1 from rfl, if_neg (by decide)]
      refine wp_lt ?_
      refine wp_lt ?_
      refine hrec _ _ _ ⟨by omega, f2, hbt.1, fun j hj => ?_⟩ (by omega)
      rw [hbt.2 j, i4 j hj]
      constructor
      · rintro (⟨w1, w2⟩ | w)
        · exact ⟨by omega, w2⟩
        · exact ⟨by omega, by rw [w]; exact q2⟩
      · rintro ⟨w1, w2⟩
        by_cases e : (j : Int) = z
        · exact Or.inr e
        · exact Or.inl ⟨by omega, w2⟩
    · rw [show w32 0 = 0 from rfl, if_pos rfl]
      refine wp_lt ?_
      refine hrec _ _ _ ⟨by omega, f2, i3, fun j hj => ?_⟩ (by omega)
      rw [i4 j hj]
      constructor
      · rintro ⟨w1, w2⟩
        exact ⟨by omega, w2⟩
      · rintro ⟨w1, w2⟩
        by_cases e : (j : Int) = z
        · rw [e] at w2
          exact absurd w2 q2
        · exact ⟨by omega, w2⟩
  · rw [if_neg hz]
    refine wp_some (hQ _ _ ⟨i2, i3, fun j hj => ?_⟩)
    rw [i4 j hj, show z = D i by omega]
theorem fits_cg {D G f : Int → Int} {s : Int} {R A S E A2 S2 E2 : Int → Int} {m i k : Int} (e : ∀ j : Int, 0 ≤ j → j < m → A2 j = A j ∧ S2 j = S j ∧ E2 j = E j) : fits_k D G f s R A2 S2 E2 m i k ↔ fits_k D G f s R A S E m i k := by
  constructor
  · intro h j j1 j2
    obtain ⟨e1, e2, e3⟩ := e j j1 j2
    rw [← e1, ← e2, ← e3]
    exact h j j1 j2
  · intro h j j1 j2
    obtain ⟨e1, e2, e3⟩ := e j j1 j2
    rw [e1, e2, e3]
    exact h j j1 j2
/-- both sides' numbers -/
theorem w2_numbers {B : Int} {C M M1 : tp_M} {i : Int} (h : Sim B C M) (hi : 1 ≤ i ∧ i < M 0 3) (hM1 : M1 = tp_up M 0 0 0) : wp2 (fx_X10_possibleNumbers i C) (fx_X11_numbers i M1) (fun x C2 y M2 => x = y ∧ tp_fr [18, 28, 29, 30, 59] C C2 ∧ (tp_fr [0, 5, 11, 12] M M2 ∧ ∀ j : Int, j ∉ ([0, 32, 33] : List Int) → M2 0 j = M 0 j) ∧ (0 ≤ x ∧ x < 256) ∧ ∀ j : Nat, j < 8 → (bt x j → (j : Int) < M 2 i)) := by
  have hN : nC C (M 0 3) (M 2) (M 3) := h.2.2.1
  have n8 := cn_n hN
  have hrow := h.2.2.2.1
  obtain ⟨u1, u2, u3⟩ := h.2.2.2.2.1
  obtain ⟨v1, v2, v3⟩ := h.2.2.2.2.2.2.2.1
  have e0 : ∀ j : Int, ¬ j = 0 → M1 0 j = M 0 j := fun j hj => by rw [hM1, up_j _ _ _ hj]
  have ek : ∀ c : Nat, ¬ c = 0 → M1 c = M c := fun c hc => by rw [hM1, up_k _ _ _ hc]
  refine wp2_of (cs_numbers (f := C 16) (s := C 15 4) (i := i) (m := C 52 3) (A := C 53) (S := C 54) (E := C 55) hN rfl rfl (by rw [u1]; exact u2) hrow hi rfl rfl rfl rfl (by omega) (fun j j1 j2 => ?_)) (ps_numbers (M := M1) (f := C 16) (s := C 15 4) (i := i) (m := C 52 3) (by rw [e0 3 (by decide), ek 2 (by decide), ek 3 (by decide)]; exact hN.2.1) ⟨by rw [e0 18 (by decide), u1], by rw [u1]; exact u2, by rw [u1, ek 9 (by decide)]; exact u3⟩ (by rw [e0 3 (by decide), ek 2 (by decide), ek 4 (by decide)]; exact rr_of hrow) (by rw [e0 3 (by decide)]; exact hi) (by rw [e0 39 (by decide)]; omega) (by omega) (fun j j1 j2 => ?_)) (fun x C2 y M2 p q => ?_)
  · obtain ⟨w1, w2, w3, w4, w5, w6⟩ := v3 j j1 (by omega)
    rw [w1, w3, w5]
    exact ⟨w2, w4, w6⟩
  · obtain ⟨w1, w2, w3, w4, w5, w6⟩ := v3 j j1 (by omega)
    rw [ek 24 (by decide), ek 25 (by decide), ek 26 (by decide), e0 3 (by decide)]
    exact ⟨w2, w4, w6⟩
  · obtain ⟨p1, p2, p3⟩ := p
    obtain ⟨q1, q2, q3, q4⟩ := q
    rw [ek 2 (by decide), ek 3 (by decide), ek 4 (by decide), ek 24 (by decide), ek 25 (by decide), ek 26 (by decide)] at q4
    refine ⟨bt_ext p2 q3 (fun j hj => ?_), p1, ⟨fr_tr (by rw [hM1]; exact fr_up fr_rf (by simp)) q1, fun j hj => ?_⟩, p2, fun j hj hb => ((p3 j hj).mp hb).1⟩
    · rw [p3 j hj, q4 j hj, fits_cg (fun l l1 l2 => ?_)]
      obtain ⟨w1, w2, w3, w4, w5, w6⟩ := v3 l l1 (by omega)
      exact ⟨w1, w3, w5⟩
    · simp only [List.mem_cons, List.not_mem_nil, or_false, not_or] at hj
      rw [q2 j (by simp; omega), e0 j (by omega)]
