/-! A STEP, each side by itself against a row R -/
def rw_step (D G f : Int → Int) (s : Int) (R : Int → Int) (v : Int) : Int → Int := fun j => if j = v then sp_post D G f s v (R v) (R (8 + v)) (R 8) (R 16) else if j = 8 then (if G (4 * v + R v) = 0 then min 9999 (R 8 + 1) else R 8) else if j = 16 then min 99999 (R 16 + 1) else R j
def rw_add (R : Int → Int) (v x : Int) : Int → Int := fun j => if j = 8 + v then R j + x else R j
/-- one of the crowd at v goes a step -/
def rw_from (D G f : Int → Int) (s : Int) (R : Int → Int) (v : Int) : Int → Int := if G (4 * v + R v) = 0 then rw_step D G f s (rw_add R v (-1)) v else rw_add (rw_step D G f s (rw_add R v (-1)) v) (G (4 * v + R v)) 1
theorem sr_add {P W : Int → Int} {h s : Int} {R : Int → Int} {n : Int} {D : Int → Int} {B B2 v x : Int} {W2 : Int → Int} (hn : n ≤ 8) (hB : B ≤ B2) (g : sm_row P W h s R n D B) (hv : 1 ≤ v ∧ v < n) (hx : 0 ≤ R (8 + v) + x ∧ R (8 + v) + x ≤ B2) (hW : ∀ u : Int, W2 u = if u = v then W u + x else W u) : sm_row P W2 h s (rw_add R v x) n D B2 := by
  obtain ⟨g1, g2, g3, g4, g5, g6⟩ := g
  have e (j : Int) (hj : ¬ j = 8 + v) : rw_add R v x j = R j := if_neg hj
  refine ⟨by rw [e 8 (by omega)]; exact g1, by rw [e 8 (by omega)]; exact g2, by rw [e 16 (by omega)]; exact g3, by rw [e 16 (by omega)]; exact g4, fun u u1 u2 => ?_, fun u u1 u2 u3 => ?_⟩
  · obtain ⟨t1, t2, t3, t4⟩ := g5 u u1 u2
    rw [e u (by omega), hW]
    by_cases huv : u = v
    · subst huv
      have e8 : rw_add R u x (8 + u) = R (8 + u) + x := if_pos rfl
      rw [if_pos rfl, e8, t3]
      exact ⟨t1, t2, rfl, hx⟩
    · rw [if_neg huv, e (8 + u) (by omega)]
      exact ⟨t1, t2, t3, by omega⟩
  · obtain ⟨t1, t2⟩ := g6 u u1 u2 u3
    rw [hW, if_neg (by omega)]
    exact ⟨t1, t2⟩
theorem rw_goal {c4 c5 : Int} {C6 C7 C8 C9 : Int → Int} {n : Int} {D G : Int → Int} (hN : sm_net c4 c5 C6 C7 C8 C9 n D G) {v p : Int} (hv : 1 ≤ v ∧ v < n) (hp : 0 ≤ p ∧ p < D v) : 0 ≤ G (4 * v + p) ∧ G (4 * v + p) < n ∧ ¬ G (4 * v + p) = v := (hN.2.1.2 v hv.1 hv.2).2 p hp.1 hp.2
/-- the class's step -/
theorem cs_step {t k1 : Nat} (ht : t = 15 ∨ t = 20) (hk : k1 = 25 ∨ k1 = 28 ∨ k1 = 31) {C : tp_M} {n : Int} {D G R : Int → Int} {B s v : Int} (hN : sm_net (C 5 4) (C 5 5) (C 6) (C 7) (C 8) (C 9) n D G) (hs : C t 4 = s) (hw : rc_wf (C (t + 1)) s) (h : sm_row (C (k1 + 1)) (C (k1 + 2)) (C k1 2) (C k1 3) R n D B) (hv : 1 ≤ v ∧ v < n) :
    wp (fx_X10_stride k1 t v C) (fun r C1 => r = G (4 * v + R v) ∧ tp_fr [t + 3, k1, k1 + 1] C C1 ∧ sm_row (C1 (k1 + 1)) (C1 (k1 + 2)) (C1 k1 2) (C1 k1 3) (rw_step D G (C (t + 1)) s R v) n D B) := by
  obtain ⟨n1, ⟨n2, n3⟩, n4, n5, n6, n7⟩ := id hN
  obtain ⟨g1, g2, g3, g4, g5, g6⟩ := h
  obtain ⟨p1, p2, p3, p4⟩ := g5 v hv.1 hv.2
  obtain ⟨d1, d2⟩ := n3 v hv.1 hv.2
  obtain ⟨m1, -, m2⟩ := n6 v hv.1 hv.2
  have dg := d2 (R v) p2.1 p2.2
  have mg := m2 (R v) p2.1 p2.2
  refine wp_mono (pc_stride ht hk (M := C) (n := n) ⟨n1, by omega, n5⟩ hs hw hv (by omega) (by rw [p1, m1]; exact p2) (by rw [p1, mg]; omega) (by omega) (by omega)) (fun r C1 q => ?_)
  obtain ⟨a1, a2, a3, a4, a5⟩ := q
  have hr : r = G (4 * v + R v) := by rw [a1, p1, mg]
  have w2 : C1 (k1 + 2) = C (k1 + 2) := a2 _ (by simp; omega)
  have hsp : sp_post (C 6) (C 7) (C (t + 1)) s v (C (k1 + 1) v) (C (k1 + 2) v) (C k1 2) (C k1 3) = sp_post D G (C (t + 1)) s v (R v) (R (8 + v)) (R 8) (R 16) := by
    unfold sp_post
    rw [p1, p3, g1, g3, m1, mg]
  have hsr : 0 ≤ sp_post D G (C (t + 1)) s v (R v) (R (8 + v)) (R 8) (R 16) ∧ sp_post D G (C (t + 1)) s v (R v) (R (8 + v)) (R 8) (R 16) < D v := by
    unfold sp_post
    exact ⟨Int.emod_nonneg _ (by omega), Int.emod_lt_of_pos _ (by omega)⟩
  have h8 : rw_step D G (C (t + 1)) s R v 8 = if G (4 * v + R v) = 0 then min 9999 (R 8 + 1) else R 8 := by
    unfold rw_step
    rw [if_neg (by omega), if_pos rfl]
  have h16 : rw_step D G (C (t + 1)) s R v 16 = min 99999 (R 16 + 1) := by
    unfold rw_step
    rw [if_neg (by omega), if_neg (by decide), if_pos rfl]
  refine ⟨hr, a2, ?_, ?_, ?_, ?_, fun u u1 u2 => ?_, fun u u1 u2 u3 => ?_⟩
  · rw [a4, h8, hr, g1]
  · rw [h8]; split <;> omega
  · rw [a5, h16, g3]
  · rw [h16]; omega
  · obtain ⟨t1, t2, t3, t4⟩ := g5 u u1 u2
    have e8 : rw_step D G (C (t + 1)) s R v (8 + u) = R (8 + u) := by
      unfold rw_step
      rw [if_neg (by omega), if_neg (by omega), if_neg (by omega)]
    rw [e8, w2, a3 u]
    by_cases huv : u = v
    · subst huv
      have e2 : rw_step D G (C (t + 1)) s R u u = sp_post D G (C (t + 1)) s u (R u) (R (8 + u)) (R 8) (R 16) := if_pos rfl
      rw [if_pos rfl, e2, hsp]
      exact ⟨rfl, hsr, t3, t4⟩
    · have e2 : rw_step D G (C (t + 1)) s R v u = R u := by
        unfold rw_step
        rw [if_neg huv, if_neg (by omega), if_neg (by omega)]
      rw [if_neg huv, e2]
      exact ⟨t1, t2, t3, t4⟩
  · obtain ⟨t1, t2⟩ := g6 u u1 u2 u3
    rw [w2, a3 u, if_neg (by omega)]
    exact ⟨t1, t2⟩
/-- what the reference wants for a step -/
def ps_ok (kr : Nat) (M : tp_M) (f : Int → Int) (s v : Int) : Prop := (1 ≤ v ∧ v < 8) ∧ M 0 18 = s ∧ rc_wf f s ∧ (∀ k : Int, 0 ≤ k → k < s → M 9 k = rc_map (f k)) ∧ (1 ≤ M 2 v ∧ M 2 v ≤ 4) ∧ (0 ≤ M kr v ∧ M kr v < M 2 v) ∧ (0 ≤ M 3 (4 * v + M kr v) ∧ M 3 (4 * v + M kr v) < 8) ∧ (0 ≤ M kr 8 ∧ M kr 8 ≤ 9999) ∧ (0 ≤ M kr 16 ∧ M kr 16 ≤ 99999)
theorem ps_turns {kr : Nat} (hk : kr = 4 ∨ kr = 5) {M : tp_M} {f : Int → Int} {s v : Int} (h : ps_ok kr M f s v) : wp (fx_X11_turnsPost kr 17 v M) (fun r M1 => r = M 3 (4 * v + M kr v) ∧ tp_fr [11, 12, kr] M M1 ∧ ∀ j : Int, M1 kr j = if j = v then sp_post (M 2) (M 3) f s v (M kr v) (M kr (8 + v)) (M kr 8) (M kr 16) else if j = 16 then min 99999 (M kr 16 + 1) else M kr j) := by
  obtain ⟨hv, hs, hw, hc, hd, hp, hg, hh, hst⟩ := h
  have n12 : ¬ kr = 12 := by omega
  have n11 : ¬ kr = 11 := by omega
  unfold fx_X11_turnsPost
  rw [w32_id (show -2147483648 ≤ v ∧ v < 2147483648 by omega)]
  refine wp_ck (by omega) ?_
  rw [pm_goalOf (by omega), tp_bd_s]
  refine wp_lt ?_
  refine wp_ck (by omega) ?_
  generalize hgo : M 3 (4 * v + M kr v) = go at *
  refine wp_call (pm_turn hk hv hs hw hc (by omega)) (fun r M1 h => ?_)
  obtain ⟨h1, h2⟩ := h
  have e2 : M1 2 = M 2 := h1 _ (by decide)
  have ek : M1 kr = M kr := h1 _ (by simp; omega)
  rw [hgo] at h2
  have hr := rv_turn_in f (rv_q (M 2 v) (M kr v) go (M kr (8 + v)) v (M kr 8) (M kr 16)) s
  rw [← h2] at hr
  rw [e2, w32_id (show -2147483648 ≤ M 2 v ∧ M 2 v < 2147483648 by omega)]
  refine wp_ck (by omega) ?_
  refine wp_nz (by omega) ?_
  refine wp_ck (by omega) ?_
  refine wp_lm ?_
  refine wp_ck (by omega) ?_
  refine wp_ck (by omega) ?_
  refine wp_lm ?_
  rw [x_rem_nn (by omega) (by omega), up_j _ _ _ (show ¬ (16 : Int) = v by omega), ek, w32_id (by omega)]
  refine wp_some ⟨rfl, fr_up (fr_up (fr_mono h1 (by simp)) (by simp)) (by simp), fun j => ?_⟩
  rw [up_c, up_c, ek, h2]
  unfold sp_post
  rw [hgo]
  by_cases h16 : j = 16
  · rw [if_pos h16, if_neg (by omega), if_pos h16]
  · rw [if_neg h16, if_neg h16]
theorem ps_step {kr : Nat} (hk : kr = 4 ∨ kr = 5) {M : tp_M} {f : Int → Int} {s v : Int} (h : ps_ok kr M f s v) : wp (fx_X11_stepOf kr 17 v M) (fun r M1 => r = M 3 (4 * v + M kr v) ∧ tp_fr [11, 12, kr] M M1 ∧ M1 kr = rw_step (M 2) (M 3) f s (M kr) v) := by
  obtain ⟨hv, hs, hw, hc, hd, hp, hg, hh, hst⟩ := h
  refine wp_mono (pm_stepOf hk hv hs hw hc hd hp hg hh hst) (fun r M1 q => ?_)
  obtain ⟨q1, q2, q3⟩ := q
  refine ⟨q1, q2, ?_⟩
  funext j
  rw [q3 j, q1]
  rfl
theorem ps_from {kr : Nat} (hk : kr = 4 ∨ kr = 5) {M : tp_M} {f : Int → Int} {s v : Int} (h : ps_ok kr M f s v) : wp (fx_X11_stepFrom kr 17 v M) (fun r M1 => r = M 3 (4 * v + M kr v) ∧ tp_fr [11, 12, kr] M M1 ∧ M1 kr = rw_from (M 2) (M 3) f s (M kr) v) := by
  obtain ⟨hv, hs, hw, hc, hd, hp, hg, hh, hst⟩ := h
  unfold fx_X11_stepFrom
  rw [w32_id (show -2147483648 ≤ 8 + v ∧ 8 + v < 2147483648 by omega)]
  refine wp_ck (by omega) ?_
  refine wp_ck (by omega) ?_
  refine wp_lm ?_
  generalize hM1 : tp_up M kr (8 + v) (M kr (8 + v) - 1) = M1
  have e1 : M1 kr = rw_add (M kr) v (-1) := by
    rw [← hM1]
    funext j
    rw [up_c]
    unfold rw_add
    by_cases hj : j = 8 + v
    · rw [if_pos hj, if_pos hj, hj]; omega
    · rw [if_neg hj, if_neg hj]
  have eo : ∀ c : Nat, ¬ c = kr → M1 c = M c := fun c hc => by rw [← hM1, up_k _ _ _ hc]
  have ej : ∀ j : Int, ¬ j = 8 + v → M1 kr j = M kr j := fun j hj => by rw [e1]; exact if_neg hj
  have f1 : tp_fr [11, 12, kr] M M1 := by rw [← hM1]; exact fr_up fr_rf (by simp)
  refine wp_call (ps_turns hk (M := M1) (f := f) (s := s) (v := v) ⟨hv, by rw [eo 0 (by omega)]; exact hs, hw, by rw [eo 9 (by omega)]; exact hc, by rw [eo 2 (by omega)]; exact hd, by rw [eo 2 (by omega), ej v (by omega)]; exact hp, by rw [eo 3 (by omega), ej v (by omega)]; exact hg, by rw [ej 8 (by omega)]; exact hh, by rw [ej 16 (by omega)]; exact hst⟩) (fun r M2 q => ?_)
  obtain ⟨q1, q2, q3⟩ := q
  rw [eo 3 (by omega), ej v (by omega)] at q1
  refine wp_lt ?_
  unfold fx_X11_comesTo
  rw [w32_id (show -2147483648 ≤ r ∧ r < 2147483648 by omega)]
  refine wp_bd ?_
  by_cases h0 : r = 0
  · rw [if_pos h0, h0]
    refine wp_ck (by omega) ?_
    refine wp_ck (by decide) ?_
    refine wp_lm ?_
    refine wp_some ?_
    refine wp_some ⟨by rw [← q1, h0], ?_, ?_⟩
    · exact fr_up (fr_tr f1 q2) (by simp)
    · funext j
      unfold rw_from
      rw [if_pos (by rw [← q1, h0]), show w32 (8 + 0) = 8 from rfl, up_c, q3 8, if_neg (show ¬ (8 : Int) = v by omega), if_neg (show ¬ (8 : Int) = 16 by decide), ej 8 (by omega), w32_id (by omega), q3 j]
      unfold rw_step
      rw [← e1, eo 2 (by omega), eo 3 (by omega), ej v (by omega), ej 8 (by omega), ej 16 (by omega)]
      by_cases h8 : j = 8
      · rw [if_pos h8, if_neg (by omega), if_pos h8, if_pos (by rw [← q1, h0])]
      · rw [if_neg h8, if_neg h8]
  · rw [if_neg h0, w32_id (show -2147483648 ≤ 8 + r ∧ 8 + r < 2147483648 by omega)]
    refine wp_ck (by omega) ?_
    refine wp_ck (by omega) ?_
    refine wp_lm ?_
    refine wp_some ?_
    refine wp_some ⟨q1, ?_, ?_⟩
    · exact fr_up (fr_tr f1 q2) (by simp)
    · funext j
      unfold rw_from
      rw [if_neg (by rw [← q1]; exact h0), up_c, ← q1]
      unfold rw_add
      have hq : ∀ i : Int, M2 kr i = rw_step (M 2) (M 3) f s (rw_add (M kr) v (-1)) v i := fun i => by
        rw [q3 i]
        unfold rw_step
        rw [← e1, eo 2 (by omega), eo 3 (by omega), ej v (by omega), ej 8 (by omega), ej 16 (by omega)]
        by_cases h8 : i = 8
        · rw [h8, if_neg (by omega), if_neg (by decide), if_neg (by omega), if_pos rfl, if_neg (by rw [← q1]; exact h0), ej 8 (by omega)]
        · rw [if_neg h8]
      by_cases hj : j = 8 + r
      · rw [if_pos hj, if_pos hj, hq, hj]
        rfl
      · rw [if_neg hj, if_neg hj]
        exact hq j
