/-! A WALK to the inn, each side by itself -/
def wk (D G f : Int → Int) (s : Int) (R : Int → Int) (v : Int) : Nat → Int × (Int → Int)
  | 0 => (v, R)
  | k + 1 => if (wk D G f s R v k).1 = 0 then wk D G f s R v k else (G (4 * (wk D G f s R v k).1 + (wk D G f s R v k).2 (wk D G f s R v k).1), rw_step D G f s (wk D G f s R v k).2 (wk D G f s R v k).1)
theorem wk_s {D G f : Int → Int} {s : Int} {R : Int → Int} {v : Int} {k : Nat} (h : ¬ (wk D G f s R v k).1 = 0) : wk D G f s R v (k + 1) = (G (4 * (wk D G f s R v k).1 + (wk D G f s R v k).2 (wk D G f s R v k).1), rw_step D G f s (wk D G f s R v k).2 (wk D G f s R v k).1) := if_neg h
theorem wk_s0 {D G f : Int → Int} {s : Int} {R : Int → Int} {v : Int} {k : Nat} (h : (wk D G f s R v k).1 = 0) : wk D G f s R v (k + 1) = wk D G f s R v k := if_pos h
/-- he comes home in k steps -/
def wk_hm (p : Nat → Int) (k : Nat) : Prop := 1 ≤ k ∧ k ≤ 999 ∧ p k = 0 ∧ ∀ i : Nat, i < k → ¬ p i = 0
def wk_cnt (p : Nat → Int) : Nat → Int → Int
  | 0, _ => 0
  | k + 1, u => wk_cnt p k u + if p k = u then 1 else 0
theorem wk_cnt_in (p : Nat → Int) (u : Int) : ∀ k : Nat, 0 ≤ wk_cnt p k u ∧ wk_cnt p k u ≤ (k : Int) := by
  intro k
  induction k with
  | zero => exact ⟨Int.le_refl 0, Int.le_refl 0⟩
  | succ k ih => unfold wk_cnt; split <;> omega
theorem wk_cnt_pos (p : Nat → Int) (u : Int) : ∀ k : Nat, 0 < wk_cnt p k u ↔ ∃ i : Nat, i < k ∧ p i = u := by
  intro k
  induction k with
  | zero => exact ⟨fun h => absurd h (Int.lt_irrefl 0), fun ⟨i, hi, _⟩ => absurd hi (Nat.not_lt_zero i)⟩
  | succ k ih =>
    have h0 := wk_cnt_in p u k
    unfold wk_cnt
    by_cases hk : p k = u
    · rw [if_pos hk]
      exact ⟨fun _ => ⟨k, by omega, hk⟩, fun _ => by omega⟩
    · rw [if_neg hk, Int.add_zero, ih]
      exact ⟨fun ⟨i, h1, h2⟩ => ⟨i, by omega, h2⟩, fun ⟨i, h1, h2⟩ => ⟨i, by
        have : ¬ i = k := fun q => hk (q ▸ h2)
        omega, h2⟩⟩
theorem wk_hm_u {p : Nat → Int} {k l : Nat} (h1 : wk_hm p k) (h2 : wk_hm p l) : k = l := by
  obtain ⟨a1, a2, a3, a4⟩ := h1
  obtain ⟨b1, b2, b3, b4⟩ := h2
  by_cases h : k < l
  · exact absurd a3 (b4 k h)
  · by_cases h' : l < k
    · exact absurd b3 (a4 l h')
    · omega
/-- a row that can be gone on -/
def rr_ok (n : Int) (D R : Int → Int) : Prop := (0 ≤ R 8 ∧ R 8 ≤ 9999) ∧ (0 ≤ R 16 ∧ R 16 ≤ 99999) ∧ ∀ v : Int, 1 ≤ v → v < n → 0 ≤ R v ∧ R v < D v
theorem rr_of {P W : Int → Int} {h s : Int} {R : Int → Int} {n : Int} {D : Int → Int} {B : Int} (g : sm_row P W h s R n D B) : rr_ok n D R := ⟨g.2.1, g.2.2.2.1, fun v v1 v2 => (g.2.2.2.2.1 v v1 v2).2.1⟩
theorem rr_step {n : Int} {D G f R : Int → Int} {s v : Int} (hn : n ≤ 8) (h : rr_ok n D R) (hv : 1 ≤ v ∧ v < n) (hd : 1 ≤ D v) : rr_ok n D (rw_step D G f s R v) := by
  obtain ⟨h1, h2, h3⟩ := h
  refine ⟨?_, ?_, fun u u1 u2 => ?_⟩
  · unfold rw_step
    rw [if_neg (show ¬ (8 : Int) = v by omega), if_pos rfl]
    split <;> omega
  · unfold rw_step
    rw [if_neg (show ¬ (16 : Int) = v by omega), if_neg (by decide), if_pos rfl]
    omega
  · unfold rw_step
    by_cases hu : u = v
    · rw [if_pos hu]
      unfold sp_post
      rw [hu]
      exact ⟨Int.emod_nonneg _ (by omega), Int.emod_lt_of_pos _ (by omega)⟩
    · rw [if_neg hu, if_neg (by omega), if_neg (by omega)]
      exact h3 u u1 u2
def rM (M : tp_M) (f : Int → Int) (s : Int) : Prop := M 0 18 = s ∧ rc_wf f s ∧ ∀ k : Int, 0 ≤ k → k < s → M 9 k = rc_map (f k)
theorem ps_mk {kr : Nat} {M : tp_M} {f : Int → Int} {s v : Int} (hn : nt_net (M 0 3) (M 2) (M 3)) (hr : rM M f s) (h : rr_ok (M 0 3) (M 2) (M kr)) (hv : 1 ≤ v ∧ v < M 0 3) : ps_ok kr M f s v := by
  obtain ⟨n1, n2⟩ := hn
  obtain ⟨h1, h2, h3⟩ := h
  obtain ⟨d1, d2⟩ := n2 v hv.1 hv.2
  have hp := h3 v hv.1 hv.2
  have dg := d2 (M kr v) hp.1 hp.2
  exact ⟨by omega, hr.1, hr.2.1, hr.2.2, d1, hp, by omega, h1, h2⟩
theorem wk_pos {n : Int} {D G f R : Int → Int} {s v : Int} (hn : nt_net n D G) (h : rr_ok n D R) (hv : 0 ≤ v ∧ v < n) : ∀ k : Nat, (0 ≤ (wk D G f s R v k).1 ∧ (wk D G f s R v k).1 < n) ∧ rr_ok n D (wk D G f s R v k).2 := by
  intro k
  induction k with
  | zero => exact ⟨hv, h⟩
  | succ k ih =>
    obtain ⟨i1, i2⟩ := ih
    by_cases h0 : (wk D G f s R v k).1 = 0
    · rw [wk_s0 h0]; exact ⟨i1, i2⟩
    · rw [wk_s h0]
      have hv2 : 1 ≤ (wk D G f s R v k).1 ∧ (wk D G f s R v k).1 < n := by omega
      obtain ⟨d1, d2⟩ := hn.2 _ hv2.1 hv2.2
      have hp := i2.2.2 _ hv2.1 hv2.2
      have dg := d2 _ hp.1 hp.2
      exact ⟨by dsimp only; omega, rr_step hn.1.2 i2 hv2 d1.1⟩
/-- one row of leaves wiped -/
theorem cs_walkHome {t : Nat} (ht : t = 15 ∨ t = 20) {C : tp_M} {n : Int} {D G R : Int → Int} {B s v : Int} (hN : nC C n D G) (hs : C t 4 = s) (hw : rc_wf (C (t + 1)) s) (h : sm_row (C 29) (C 30) (C 28 2) (C 28 3) R n D B) (hv : 1 ≤ v ∧ v < n) :
    wp (fx_X10_walkHome 28 t v C) (fun r C1 => tp_fr [t + 3, 28, 29, 59] C C1 ∧ ((∃ k : Nat, wk_hm (fun i => (wk D G (C (t + 1)) s R v i).1) k ∧ r = (k : Int) ∧ sm_row (C1 29) (C1 30) (C1 28 2) (C1 28 3) (wk D G (C (t + 1)) s R v k).2 n D B ∧ ∀ u : Int, 0 ≤ u → u < 8 → C1 59 u = wk_cnt (fun i => (wk D G (C (t + 1)) s R v i).1) k u) ∨ (r = -3 ∧ ∀ i : Nat, i ≤ 999 → ¬ (wk D G (C (t + 1)) s R v i).1 = 0))) := by
  have n8 := cn_n hN
  generalize hf : C (t + 1) = f at *
  refine wp_K (fun Q hQ => ?_)
  unfold fx_X10_walkHome
  refine wp_lt ?_
  refine wp_lp1 (fun z C1 => (0 ≤ z ∧ z ≤ 8) ∧ tp_fr [59] C C1 ∧ ∀ u : Int, 0 ≤ u → u < z → C1 59 u = 0) (fun z _ => (8 - z).toNat) ?_ tp_F 0 C ⟨by omega, fr_rf, fun u u1 u2 => by omega⟩ (tp_F_pos (by omega))
  intro rec z C1 hI hrec
  obtain ⟨i1, i2, i3⟩ := hI
  unfold fx_X10_walkHome_L3
  by_cases hz : z < 8
  · simp (disch := omega) only [↓tp_lm_n, ↓tp_lt_n, ↓tp_bd_n, ↓tp_jn0_n, ↓tp_jn1_n, ↓tp_jn2_n, ↓tp_jn3_n, w32_id, if_pos, if_neg, tp_ck_t, tp_nz_t, tp_gd_i]
    refine hrec _ _ ⟨by omega, fr_up i2 (by simp), fun u u1 u2 => ?_⟩ (by omega)
    rw [up_c]
    by_cases hu : u = z
    · rw [if_pos hu]
    · rw [if_neg hu]; exact i3 u u1 (by omega)
  · rw [w32_id (by omega), if_neg hz]
    refine wp_lt ?_
    refine wp_lt ?_
    refine wp_lp2 (fun a g C2 => ∃ k : Nat, k ≤ 999 ∧ g = (k : Int) + 1 ∧ a = (wk D G f s R v k).1 ∧ (∀ i : Nat, i ≤ k → ¬ (wk D G f s R v i).1 = 0) ∧ tp_fr [t + 3, 28, 29, 59] C C2 ∧ sm_row (C2 29) (C2 30) (C2 28 2) (C2 28 3) (wk D G f s R v k).2 n D B ∧ ∀ u : Int, 0 ≤ u → u < 8 → C2 59 u = wk_cnt (fun i => (wk D G f s R v i).1) k u) (fun _ g _ => (1001 - g).toNat) ?_ tp_F v 1 C1 ⟨0, by omega, rfl, rfl, fun i hi => by rw [show i = 0 by omega]; show ¬ v = 0; omega, fr_mono i2 (by simp), ?_, fun u u1 u2 => i3 u u1 (by omega)⟩ (tp_F_pos (by omega))
    · intro rec2 a g C2 hI2 hrec2
      obtain ⟨k, k1, rfl, rfl, j3, j4, j5, j6⟩ := hI2
      obtain ⟨w1, w2⟩ := wk_pos (f := f) (s := s) hN.2.1 (rr_of h) (show 0 ≤ v ∧ v < n by omega) k
      have w0 := j3 k (Nat.le_refl k)
      have hv2 : 1 ≤ (wk D G f s R v k).1 ∧ (wk D G f s R v k).1 < n := by omega
      have eo : ∀ c : Nat, ¬ c = t + 3 → ¬ c = 28 → ¬ c = 29 → ¬ c = 59 → C2 c = C c := fun c c1 c2 c3 c4 => j4 c (by simp; omega)
      have hN2 : nC C2 n D G := nC_fr hN (eo 5 (by omega) (by omega) (by omega) (by omega)) (eo 6 (by omega) (by omega) (by omega) (by omega)) (eo 7 (by omega) (by omega) (by omega) (by omega)) (eo 8 (by omega) (by omega) (by omega) (by omega)) (eo 9 (by omega) (by omega) (by omega) (by omega))
      unfold fx_X10_walkHome_L33
      by_cases hk : k < 999
      · generalize hC3 : tp_up C2 59 (wk D G f s R v k).1 (C2 59 (wk D G f s R v k).1 + 1) = C3
        have e3 : ∀ c : Nat, ¬ c = 59 → C3 c = C2 c := fun c hc => by rw [← hC3, up_k _ _ _ hc]
        have hN3 : nC C3 n D G := nC_fr hN2 (e3 5 (by decide)) (e3 6 (by decide)) (e3 7 (by decide)) (e3 8 (by decide)) (e3 9 (by decide))
        rw [cn_hasPost hN2 (by unfold pu_in; omega)]
        simp (disch := omega) only [↓tp_lm_n, ↓tp_lt_n, ↓tp_bd_n, ↓tp_jn0_n, ↓tp_jn1_n, ↓tp_jn2_n, ↓tp_jn3_n, w32_id, if_pos, if_neg, tp_ck_t, tp_nz_t, tp_gd_i, fl01, hC3]
        refine wp_call (cs_step (t := t) (k1 := 28) (s := s) ht (Or.inr (Or.inl rfl)) hN3 (by rw [e3 t (by omega), eo t (by omega) (by omega) (by omega) (by omega)]; exact hs) (by rw [e3 (t + 1) (by omega), eo (t + 1) (by omega) (by omega) (by omega) (by omega), hf]; exact hw) (by rw [e3 29 (by decide), e3 30 (by decide), e3 28 (by decide)]; exact j5) hv2) (fun r C4 q => ?_)
        obtain ⟨q1, q2, q3⟩ := q
        have hf3 : C3 (t + 1) = f := by rw [e3 (t + 1) (by omega), eo (t + 1) (by omega) (by omega) (by omega) (by omega), hf]
        rw [hf3] at q3
        have hws := wk_s w0
        have hr1 : r = (wk D G f s R v (k + 1)).1 := by rw [hws, q1]
        have hR1 : (wk D G f s R v (k + 1)).2 = rw_step D G f s (wk D G f s R v k).2 (wk D G f s R v k).1 := by rw [hws]
        rw [← hR1] at q3
        have hb := (wk_pos (f := f) (s := s) hN.2.1 (rr_of h) (show 0 ≤ v ∧ v < n by omega) (k + 1)).1
        have f4 : tp_fr [t + 3, 28, 29, 59] C C4 := by
          refine fr_tr ?_ (fr_mono q2 (by simp))
          rw [← hC3]
          exact fr_up j4 (by simp)
        have c4 : ∀ u : Int, 0 ≤ u → u < 8 → C4 59 u = wk_cnt (fun i => (wk D G f s R v i).1) (k + 1) u := fun u u1 u2 => by
          rw [q2 59 (by simp; omega), ← hC3, up_c]
          unfold wk_cnt
          by_cases hu : u = (wk D G f s R v k).1
          · rw [if_pos hu, if_pos hu.symm, ← hu, j6 u u1 u2]
          · rw [if_neg hu, if_neg (fun q => hu q.symm), j6 u u1 u2]; omega
        by_cases h0 : r = 0
        · simp (disch := omega) only [↓tp_lm_n, ↓tp_lt_n, ↓tp_bd_n, ↓tp_jn0_n, ↓tp_jn1_n, ↓tp_jn2_n, ↓tp_jn3_n, w32_id, if_pos, if_neg, tp_ck_t, tp_nz_t, tp_gd_i]
          refine wp_some (hQ _ _ ⟨f4, Or.inl ⟨k + 1, ⟨by omega, by omega, hr1.symm.trans h0, fun i hi => j3 i (by omega)⟩, rfl, q3, c4⟩⟩)
        · simp (disch := omega) only [↓tp_lm_n, ↓tp_lt_n, ↓tp_bd_n, ↓tp_jn0_n, ↓tp_jn1_n, ↓tp_jn2_n, ↓tp_jn3_n, w32_id, if_pos, if_neg, tp_ck_t, tp_nz_t, tp_gd_i]
          refine hrec2 _ _ _ ⟨k + 1, by omega, by omega, hr1, fun i hi => ?_, f4, q3, c4⟩ (by omega)
          by_cases hik : i ≤ k
          · exact j3 i hik
          · rw [show i = k + 1 by omega, ← hr1]; exact h0
      · simp (disch := omega) only [↓tp_lm_n, ↓tp_lt_n, ↓tp_bd_n, ↓tp_jn0_n, ↓tp_jn1_n, ↓tp_jn2_n, ↓tp_jn3_n, w32_id, if_pos, if_neg, tp_ck_t, tp_nz_t, tp_gd_i]
        refine wp_some (hQ _ _ ⟨j4, Or.inr ⟨rfl, fun i hi => j3 i (by omega)⟩⟩)
    · rw [i2 29 (by simp), i2 30 (by simp), i2 28 (by simp)]
      exact h
