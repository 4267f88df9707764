/-! THE TURN of the reference; a step on both sides -/
theorem pm_turn {k1 : Nat} (hk : k1 = 4 ∨ k1 = 5) {M : tp_M} {f : Int → Int} {s v : Int} (hv : 1 ≤ v ∧ v < 8) (hs : M 0 18 = s) (hw : rc_wf f s) (hc : ∀ k : Int, 0 ≤ k → k < s → M 9 k = rc_map (f k)) (hp : 0 ≤ M k1 v ∧ M k1 v < 4) : wp (fx_X11_turn k1 17 v M) (fun r M1 => tp_fr [11, 12] M M1 ∧ r = rv_turn f (rv_q (M 2 v) (M k1 v) (M 3 (4 * v + M k1 v)) (M k1 (8 + v)) v (M k1 8) (M k1 16)) s) := by
  have n12 : ¬ k1 = 12 := by omega
  unfold fx_X11_turn
  rw [w32_id (show -2147483648 ≤ v ∧ v < 2147483648 by omega), w32_id (show -2147483648 ≤ 8 + v ∧ 8 + v < 2147483648 by omega)]
  refine wp_ck (by omega) ?_
  refine wp_lm ?_
  refine wp_ck (by omega) ?_
  refine wp_lm ?_
  refine wp_ck (by omega) ?_
  simp only [up_k _ _ _ n12]
  rw [pm_goalOf (by omega), tp_bd_s]
  refine wp_lm ?_
  refine wp_ck (by omega) ?_
  refine wp_lm ?_
  refine wp_lm ?_
  refine wp_ck (by omega) ?_
  refine wp_nz (by decide) ?_
  refine wp_lm ?_
  refine wp_ck (by omega) ?_
  refine wp_nz (by decide) ?_
  refine wp_lm ?_
  simp only [up_k _ _ _ n12, up_k _ _ _ (show ¬ (3 : Nat) = 12 by decide)]
  generalize hM : tp_up (tp_up (tp_up (tp_up (tp_up (tp_up (tp_up M 12 0 (M 2 v)) 12 1 (M k1 v)) 12 2 (M 3 (4 * v + M k1 v))) 12 3 (M k1 (8 + v))) 12 4 v) 12 5 (x_rem (M k1 8) 7)) 12 6 (x_rem (M k1 16) 7) = M9
  have f9 : tp_fr [12] M M9 := by
    rw [← hM]
    exact fr_up (fr_up (fr_up (fr_up (fr_up (fr_up (fr_up fr_rf (by decide)) (by decide)) (by decide)) (by decide)) (by decide)) (by decide)) (by decide)
  refine wp_call (pm_ruled (f := f) (q := rv_q (M 2 v) (M k1 v) (M 3 (4 * v + M k1 v)) (M k1 (8 + v)) v (M k1 8) (M k1 16)) (by rw [f9 0 (by decide)]; exact hs) hw (by rw [f9 9 (by decide)]; exact hc) (fun j j1 j2 => ?_)) (fun r M1 h => ?_)
  · rw [← hM]
    have hj : j = 0 ∨ j = 1 ∨ j = 2 ∨ j = 3 ∨ j = 4 ∨ j = 5 ∨ j = 6 := by omega
    rcases hj with rfl | rfl | rfl | rfl | rfl | rfl | rfl <;> rfl
  · obtain ⟨h1, h2⟩ := h
    refine wp_some ⟨fr_tr (fr_mono f9 (by decide)) (fr_mono h1 (by decide)), ?_⟩
    rw [h2]
    unfold rv_turn
    by_cases h0 : s = 0
    · rw [if_pos h0, if_pos h0]; rfl
    · rw [if_neg h0, if_neg h0]
theorem rv_turn_in (f q : Int → Int) (s : Int) : 0 ≤ rv_turn f q s ∧ rv_turn f q s ≤ 9 := by
  unfold rv_turn
  split
  · omega
  · have := w32_in (rv_stk f q s.toNat 0)
    rw [w32_id (show -2147483648 ≤ min 9 (w32 (rv_stk f q s.toNat 0)) ∧ min 9 (w32 (rv_stk f q s.toNat 0)) < 2147483648 by omega)]
    omega
theorem x_rem_nn {a b : Int} (ha : 0 ≤ a ∧ a < 2147483648) (hb : 0 < b ∧ b < 2147483648) : x_rem a b = a % b := by
  unfold x_rem
  rw [w32_id (by omega), w32_id (by omega), Int.tmod_eq_emod_of_nonneg ha.1]
/-- what a step leaves: the post turned, one step more, one more at the inn if there -/
def sp_post (D G f : Int → Int) (s v post crowd housed steps : Int) : Int := (post + rv_turn f (rv_q (D v) post (G (4 * v + post)) crowd v housed steps) s) % D v
/-- the class's step of one in no crowd -/
theorem pc_stride {t k1 : Nat} (ht : t = 15 ∨ t = 20) (hk : k1 = 25 ∨ k1 = 28 ∨ k1 = 31) {M : tp_M} {s v n : Int} (hn : nt_ok M 5 n) (hs : M t 4 = s) (hw : rc_wf (M (t + 1)) s) (hv : 1 ≤ v ∧ v < n) (hd : 1 ≤ M 6 v) (hp : 0 ≤ M (k1 + 1) v ∧ M (k1 + 1) v < M 6 v) (hg : 0 ≤ M 7 (4 * v + M (k1 + 1) v) ∧ M 7 (4 * v + M (k1 + 1) v) < 8) (hh : 0 ≤ M k1 2 ∧ M k1 2 ≤ 9999) (hst : 0 ≤ M k1 3 ∧ M k1 3 ≤ 99999) : wp (fx_X10_stride k1 t v M) (fun r M1 => r = M 7 (4 * v + M (k1 + 1) v) ∧ tp_fr [t + 3, k1, k1 + 1] M M1 ∧ (∀ j : Int, M1 (k1 + 1) j = if j = v then sp_post (M 6) (M 7) (M (t + 1)) s v (M (k1 + 1) v) (M (k1 + 2) v) (M k1 2) (M k1 3) else M (k1 + 1) j) ∧ M1 k1 2 = (if r = 0 then min 9999 (M k1 2 + 1) else M k1 2) ∧ M1 k1 3 = min 99999 (M k1 3 + 1)) := by
  obtain ⟨n1, n2, n3⟩ := id hn
  have hdv := n3 v (by omega) (by omega)
  have hdv : 0 ≤ M 6 v ∧ M 6 v ≤ 4 := hdv
  have iv : pu_in v := by unfold pu_in; omega
  have ip : pu_in (M (k1 + 1) v) := by unfold pu_in; omega
  unfold fx_X10_stride
  rw [pc_degree n1 (by omega) iv, tp_bd_s, if_pos (by omega)]
  show wp (tp_lt (M 6 v) _) _
  refine wp_lt ?_
  rw [w32_id (by omega), if_neg (by omega), w32_id (show -2147483648 ≤ v ∧ v < 2147483648 by omega)]
  refine wp_ck (by omega) ?_
  rw [pc_goal hn iv ip, if_pos ⟨hv.1, hv.2, hp⟩, tp_bd_s]
  show wp (tp_lt (M 7 (4 * v + M (k1 + 1) v)) _) _
  refine wp_lt ?_
  generalize hgo : M 7 (4 * v + M (k1 + 1) v) = go at *
  refine wp_call (pc_turn ht hk hs hw (by omega)) (fun r M1 h => ?_)
  obtain ⟨h1, h2⟩ := h
  have hr := rv_turn_in (M (t + 1)) (rv_q (M 6 v) (M (k1 + 1) v) go (M (k1 + 2) v) v (M k1 2) (M k1 3)) s
  rw [← h2] at hr
  have e1 : M1 (k1 + 1) = M (k1 + 1) := h1 _ (by simp; omega)
  have e0 : M1 k1 = M k1 := h1 _ (by simp; omega)
  refine wp_lt ?_
  refine wp_ck (by omega) ?_
  refine wp_nz (by omega) ?_
  refine wp_ck (by omega) ?_
  refine wp_lm ?_
  rw [e1, x_rem_nn (by omega) (by omega)]
  refine wp_jn0 ?_
  have fin : ∀ (M2 : tp_M), tp_fr [t + 3, k1, k1 + 1] M M2 → (∀ j : Int, M2 (k1 + 1) j = if j = v then sp_post (M 6) (M 7) (M (t + 1)) s v (M (k1 + 1) v) (M (k1 + 2) v) (M k1 2) (M k1 3) else M (k1 + 1) j) → M2 k1 2 = (if go = 0 then min 9999 (M k1 2 + 1) else M k1 2) → M2 k1 3 = M k1 3 → wp (tp_lm (tp_up M2 k1 3 (min 99999 (w32 (M2 k1 3 + 1)))) (fun M12 => some (go, M12))) (fun r M1 => r = go ∧ tp_fr [t + 3, k1, k1 + 1] M M1 ∧ (∀ j : Int, M1 (k1 + 1) j = if j = v then sp_post (M 6) (M 7) (M (t + 1)) s v (M (k1 + 1) v) (M (k1 + 2) v) (M k1 2) (M k1 3) else M (k1 + 1) j) ∧ M1 k1 2 = (if r = 0 then min 9999 (M k1 2 + 1) else M k1 2) ∧ M1 k1 3 = min 99999 (M k1 3 + 1)) := fun M2 a1 a2 a3 a4 => by
    refine wp_lm ?_
    refine wp_some ⟨rfl, fr_up a1 (by simp), fun j => ?_, ?_, ?_⟩
    · rw [up_k _ _ _ (by omega)]; exact a2 j
    · rw [up_j _ _ _ (by decide)]; exact a3
    · rw [up_s, a4, w32_id (by omega)]
  have hpost : ∀ j : Int, tp_up M1 (k1 + 1) v ((M (k1 + 1) v + r) % M 6 v) (k1 + 1) j = if j = v then sp_post (M 6) (M 7) (M (t + 1)) s v (M (k1 + 1) v) (M (k1 + 2) v) (M k1 2) (M k1 3) else M (k1 + 1) j := fun j => by
    rw [up_c, e1, h2]
    unfold sp_post
    rw [hgo]
  have ffr : tp_fr [t + 3, k1, k1 + 1] M (tp_up M1 (k1 + 1) v ((M (k1 + 1) v + r) % M 6 v)) := fr_up (fr_mono h1 (by simp)) (by simp)
  by_cases h0 : go = 0
  · rw [w32_id (by omega), if_pos h0]
    unfold fx_X2_house
    rw [tp_lm_s, tp_bd_s]
    refine fin _ (fr_up ffr (by simp)) (fun j => ?_) ?_ ?_
    · rw [up_k _ _ _ (by omega)]; exact hpost j
    · rw [up_s, if_pos h0, up_k _ _ _ (by omega), e0, w32_id (by omega)]
    · rw [up_j _ _ _ (by decide), up_k _ _ _ (by omega), e0]
  · rw [w32_id (by omega), if_neg h0]
    refine fin _ ffr hpost ?_ ?_
    · rw [if_neg h0, up_k _ _ _ (by omega), e0]
    · rw [up_k _ _ _ (by omega), e0]
/-- the reference's step of one in no crowd -/
theorem pm_stepOf {k1 : Nat} (hk : k1 = 4 ∨ k1 = 5) {M : tp_M} {f : Int → Int} {s v : Int} (hv : 1 ≤ v ∧ v < 8) (hs : M 0 18 = s) (hw : rc_wf f s) (hc : ∀ k : Int, 0 ≤ k → k < s → M 9 k = rc_map (f k)) (hd : 1 ≤ M 2 v ∧ M 2 v ≤ 4) (hp : 0 ≤ M k1 v ∧ M k1 v < M 2 v) (hg : 0 ≤ M 3 (4 * v + M k1 v) ∧ M 3 (4 * v + M k1 v) < 8) (hh : 0 ≤ M k1 8 ∧ M k1 8 ≤ 9999) (hst : 0 ≤ M k1 16 ∧ M k1 16 ≤ 99999) : wp (fx_X11_stepOf k1 17 v M) (fun r M1 => r = M 3 (4 * v + M k1 v) ∧ tp_fr [11, 12, k1] M M1 ∧ ∀ j : Int, M1 k1 j = if j = v then sp_post (M 2) (M 3) f s v (M k1 v) (M k1 (8 + v)) (M k1 8) (M k1 16) else if j = 8 then (if r = 0 then min 9999 (M k1 8 + 1) else M k1 8) else if j = 16 then min 99999 (M k1 16 + 1) else M k1 j) := by
  have n12 : ¬ k1 = 12 := by omega
  have n11 : ¬ k1 = 11 := by omega
  unfold fx_X11_stepOf fx_X11_turnsPost
  rw [w32_id (show -2147483648 ≤ v ∧ v < 2147483648 by omega)]
  refine wp_bd ?_
  refine wp_ck (by omega) ?_
  rw [pm_goalOf (by omega), tp_bd_s]
  refine wp_lt ?_
  refine wp_ck (by omega) ?_
  generalize hgo : M 3 (4 * v + M k1 v) = go at *
  refine wp_call (pm_turn hk hv hs hw hc (by omega)) (fun r M1 h => ?_)
  obtain ⟨h1, h2⟩ := h
  have e2 : M1 2 = M 2 := h1 _ (by decide)
  have ek : M1 k1 = M k1 := h1 _ (by simp; omega)
  rw [hgo] at h2
  have hr := rv_turn_in f (rv_q (M 2 v) (M k1 v) go (M k1 (8 + v)) v (M k1 8) (M k1 16)) s
  rw [← h2] at hr
  rw [e2, w32_id (show -2147483648 ≤ M 2 v ∧ M 2 v < 2147483648 by omega)]
  refine wp_ck (by omega) ?_
  refine wp_nz (by omega) ?_
  refine wp_ck (by omega) ?_
  refine wp_lm ?_
  refine wp_ck (by omega) ?_
  refine wp_ck (by omega) ?_
  refine wp_lm ?_
  rw [x_rem_nn (by omega) (by omega), up_j _ _ _ (show ¬ (16 : Int) = v by omega), ek, w32_id (by omega)]
  refine wp_some ?_
  refine wp_lt ?_
  have hfr : tp_fr [11, 12, k1] M (tp_up (tp_up M1 k1 v ((M k1 v + r) % M 2 v)) k1 16 (min 99999 (M k1 16 + 1))) := fr_up (fr_up (fr_mono h1 (by simp)) (by simp)) (by simp)
  have hval : ∀ j : Int, tp_up (tp_up M1 k1 v ((M k1 v + r) % M 2 v)) k1 16 (min 99999 (M k1 16 + 1)) k1 j = if j = v then sp_post (M 2) (M 3) f s v (M k1 v) (M k1 (8 + v)) (M k1 8) (M k1 16) else if j = 16 then min 99999 (M k1 16 + 1) else M k1 j := fun j => by
    rw [up_c, up_c, ek, h2]
    unfold sp_post
    rw [hgo]
    by_cases h16 : j = 16
    · rw [if_pos h16, if_neg (by omega), if_pos h16]
    · rw [if_neg h16, if_neg h16]
  by_cases h0 : go = 0
  · rw [w32_id (by omega), if_pos h0]
    unfold fx_X11_comesTo
    rw [if_pos (by decide)]
    refine wp_bd ?_
    refine wp_ck (by omega) ?_
    refine wp_ck (by decide) ?_
    refine wp_lm ?_
    refine wp_some ?_
    refine wp_some ⟨rfl, fr_up hfr (by simp), fun j => ?_⟩
    rw [show w32 (8 + 0) = 8 from rfl, up_c, hval j, hval 8, if_neg (show ¬ (8 : Int) = v by omega), if_neg (show ¬ (8 : Int) = 16 by decide), w32_id (by omega)]
    by_cases h8 : j = 8
    · rw [if_pos h8, if_neg (by omega), if_pos h8, if_pos h0]
    · rw [if_neg h8]
      by_cases hv2 : j = v
      · rw [if_pos hv2, if_pos hv2]
      · rw [if_neg hv2, if_neg hv2, if_neg h8]
  · rw [w32_id (by omega), if_neg h0]
    refine wp_some ⟨rfl, hfr, fun j => ?_⟩
    rw [hval j]
    by_cases hv2 : j = v
    · rw [if_pos hv2, if_pos hv2]
    · rw [if_neg hv2, if_neg hv2]
      by_cases h8 : j = 8
      · rw [if_pos h8, if_neg (by omega), if_neg h0, h8]
      · rw [if_neg h8]
