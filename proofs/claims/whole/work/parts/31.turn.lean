/-! A RULE WORKED: what both sides come to -/
def rv_join (c a b : Int) : Int := if c = 2042 then a * b else if c = 2043 then a + b else if c = 2045 then a - b else if c = 2060 then (if w32 a < w32 b then 1 else 0) else if c = 2061 then (if w32 a = w32 b then 1 else 0) else if c = 2062 then (if w32 a ≤ w32 b then 0 else 1) else if w32 b = 0 then 0 else x_div a b
def rv_let (q : Int → Int) (c : Int) : Int := if c < 1000 then c else q (rc_map c - 1000)
/-- the stack behind k codes -/
def rv_stk (f q : Int → Int) : Nat → Int → Int
  | 0 => fun _ => 0
  | k + 1 => if f (k : Int) < 2000 then (fun j => if j = rc_high f k then rv_let q (f (k : Int)) else rv_stk f q k j) else if f (k : Int) = 3000 then (fun j => if j = rc_high f k - 1 then -(rv_stk f q k (rc_high f k - 1)) else rv_stk f q k j) else (fun j => if j = rc_high f k - 2 then rv_join (f (k : Int)) (rv_stk f q k (rc_high f k - 2)) (rv_stk f q k (rc_high f k - 1)) else rv_stk f q k j)
def rv_turn (f q : Int → Int) (s : Int) : Int := if s = 0 then 1 else max 0 (w32 (min 9 (w32 (rv_stk f q s.toNat 0))))
theorem rc_high_s (f : Int → Int) (k : Nat) : rc_high f (k + 1) = if f (k : Int) < 2000 then rc_high f k + 1 else if f (k : Int) = 3000 then rc_high f k else rc_high f k - 1 := rfl
theorem rv_pos {f : Int → Int} {s : Int} (h : rc_wf f s) : ∀ k : Nat, (k : Int) ≤ s → 0 ≤ rc_high f k ∧ rc_high f k ≤ (k : Int) := by
  intro k
  induction k with
  | zero => intro _; exact ⟨Int.le_refl 0, Int.le_refl 0⟩
  | succ k ih =>
    intro hk
    have h1 := ih (by omega)
    obtain ⟨g1, g2, g3⟩ := h.2.1 k (by omega)
    unfold rc_high
    by_cases c1 : f (k : Int) < 2000
    · rw [if_pos c1]; omega
    · rw [if_neg c1]
      by_cases c2 : f (k : Int) = 3000
      · rw [if_pos c2]; omega
      · rw [if_neg c2]
        have := g3 (by omega) c2
        omega
/-- the letters' values -/
def rv_q (deg post go crowd v housed steps : Int) (j : Int) : Int := if j = 0 then deg else if j = 1 then post else if j = 2 then go else if j = 3 then crowd else if j = 4 then v else if j = 5 then x_rem housed 7 else x_rem steps 7
theorem pc_letter {c : Int} {k1 : Nat} {v deg go : Int} {M : tp_M} (hc : rc_ok c) (h1 : 1000 ≤ c) (h2 : c < 2000) (hv : 1 ≤ v ∧ v < 8) : fx_X9_letterValue (c - 1000) k1 v deg go M = some (rv_let (rv_q deg (M (k1 + 1) v) go (M (k1 + 2) v) v (M k1 2) (M k1 3)) c, M) := by
  unfold fx_X9_letterValue rv_let
  rw [w32_id (show -2147483648 ≤ v ∧ v < 2147483648 by omega), if_neg (show ¬ v < 1 by omega), if_pos (show v < 8 by omega), if_neg (show ¬ c < 1000 by omega)]
  unfold rc_ok at hc
  rcases hc with hc | hc | hc | hc | hc | hc | hc | hc | hc | hc | hc | hc | hc | hc | hc | hc
  · omega
  · subst hc; rfl
  · subst hc; rw [if_neg (by decide), if_neg (by decide), if_neg (by decide), if_neg (by decide), if_pos (by decide), tp_ck_t (by omega)]; rfl
  · subst hc; rfl
  · subst hc; rw [if_pos (by decide), tp_ck_t (by omega)]; rfl
  · subst hc; rfl
  · subst hc; rfl
  · subst hc; rfl
  · omega
  · omega
  · omega
  · omega
  · omega
  · omega
  · omega
  · omega
theorem pc_joined {c a b : Int} {M : tp_M} (hc : rc_ok c) (h1 : 2000 ≤ c) (h2 : ¬ c = 3000) : fx_X9_joined (c - 2000) a b M = some (rv_join c a b, M) := by
  unfold fx_X9_joined rv_join
  unfold rc_ok at hc
  rw [w32_id (show -2147483648 ≤ c - 2000 ∧ c - 2000 < 2147483648 by omega)]
  simp only [show (c - 2000 = 42) = (c = 2042) from propext (by omega), show (c - 2000 = 43) = (c = 2043) from propext (by omega), show (c - 2000 = 45) = (c = 2045) from propext (by omega), show (c - 2000 = 60) = (c = 2060) from propext (by omega), show (c - 2000 = 61) = (c = 2061) from propext (by omega), show (c - 2000 = 62) = (c = 2062) from propext (by omega)]
  repeat' split
  all_goals first | rfl | (rw [tp_nz_t (by assumption)])
/-- the class's turn -/
theorem pc_turn {t k1 : Nat} (ht : t = 15 ∨ t = 20) (hk : k1 = 25 ∨ k1 = 28 ∨ k1 = 31) {M : tp_M} {s v deg go : Int} (hs : M t 4 = s) (hw : rc_wf (M (t + 1)) s) (hv : 1 ≤ v ∧ v < 8) : wp (fx_X9_turn t k1 v deg go M) (fun r M1 => tp_fr [t + 3] M M1 ∧ r = rv_turn (M (t + 1)) (rv_q deg (M (k1 + 1) v) go (M (k1 + 2) v) v (M k1 2) (M k1 3)) s) := by
  have hs40 := hw.1
  unfold fx_X9_turn rv_turn
  rw [hs, w32_id (by omega)]
  by_cases h0 : s = 0
  · rw [if_pos h0, if_pos h0]
    exact wp_some ⟨fr_rf, rfl⟩
  · rw [if_neg h0, if_neg h0]
    refine wp_lt ?_
    refine wp_lt ?_
    generalize hq : rv_q deg (M (k1 + 1) v) go (M (k1 + 2) v) v (M k1 2) (M k1 3) = q
    refine wp_lp2 (fun z3 z4 M1 => ∃ k : Nat, z4 = (k : Int) ∧ (k : Int) ≤ s ∧ z3 = rc_high (M (t + 1)) k ∧ tp_fr [t + 3] M M1 ∧ ∀ j : Int, 0 ≤ j → j < z3 → M1 (t + 3) j = rv_stk (M (t + 1)) q k j) (fun _ z4 _ => (s - z4).toNat) ?_ tp_F 0 0 M ⟨0, rfl, by show (0 : Int) ≤ s; omega, rfl, fr_rf, fun j h1 h2 => by omega⟩ (tp_F_pos (by omega))
    intro rec z3 z4 M1 hI hrec
    obtain ⟨k, rfl, i2, rfl, i4, i5⟩ := hI
    have e1 : M1 (t + 1) = M (t + 1) := i4 _ (by simp)
    have e0 : M1 t = M t := i4 _ (by simp)
    have ek : ∀ j : Nat, j < 3 → M1 (k1 + j) = M (k1 + j) := fun j hj => i4 _ (by simp; omega)
    have hp := rv_pos hw k i2
    unfold fx_X9_turn_L15
    rw [e0, hs, w32_id (by omega), w32_id (by omega)]
    by_cases hk2 : (k : Int) < s
    · obtain ⟨g1, g2, g3⟩ := hw.2.1 k hk2
      rw [if_pos hk2]
      refine wp_ck (by omega) ?_
      refine wp_lt ?_
      refine wp_jn1 ?_
      rw [e1]
      have hc : w32 (M (t + 1) (k : Int)) = M (t + 1) (k : Int) := w32_id (by unfold rc_ok at g1; omega)
      have go2 : ∀ (h9 : Int) (M2 : tp_M), h9 = rc_high (M (t + 1)) (k + 1) → tp_fr [t + 3] M M2 → (∀ j : Int, 0 ≤ j → j < h9 → M2 (t + 3) j = rv_stk (M (t + 1)) q (k + 1) j) → wp (tp_lt ((k : Int) + 1) (fun x9 => rec h9 x9 M2)) (fun r M3 => tp_fr [t + 3] M M3 ∧ r = max 0 (w32 (min 9 (w32 (rv_stk (M (t + 1)) q s.toNat 0))))) := fun h9 M2 a1 a2 a3 => by
        refine wp_lt ?_
        exact hrec _ _ _ ⟨k + 1, by omega, by omega, a1, a2, a3⟩ (by omega)
      rw [hc]
      by_cases c1 : M (t + 1) (k : Int) < 2000
      · rw [if_pos c1, w32_id (by omega), if_pos (by omega)]
        refine wp_jn1 ?_
        have fin : ∀ y : Int, y = rv_let q (M (t + 1) (k : Int)) → ∀ M2 : tp_M, M2 = M1 → wp (tp_ck (rc_high (M (t + 1)) k) 40 (tp_lm (tp_up M2 (t + 3) (rc_high (M (t + 1)) k) y) (fun M17 => tp_lt (rc_high (M (t + 1)) k + 1) (fun x18 => tp_lt ((k : Int) + 1) (fun x9 => rec x18 x9 M17))))) (fun r M3 => tp_fr [t + 3] M M3 ∧ r = max 0 (w32 (min 9 (w32 (rv_stk (M (t + 1)) q s.toNat 0))))) := fun y hy M2 hM2 => by
          subst hM2
          refine wp_ck (by omega) ?_
          refine wp_lm ?_
          refine wp_lt ?_
          refine go2 _ _ ?_ (fr_up i4 (by simp)) (fun j j1 j2 => ?_)
          · rw [rc_high_s, if_pos c1]
          · rw [up_c]
            unfold rv_stk
            rw [if_pos c1]
            show _ = if j = rc_high (M (t + 1)) k then _ else _
            by_cases hj : j = rc_high (M (t + 1)) k
            · rw [if_pos hj, if_pos hj, hy]
            · rw [if_neg hj, if_neg hj]
              exact i5 j j1 (by omega)
        by_cases c3 : M (t + 1) (k : Int) < 1000
        · rw [if_pos c3]
          exact fin _ (by unfold rv_let; rw [if_pos c3]) _ rfl
        · rw [if_neg c3, pc_letter g1 (by omega) c1 hv, tp_bd_s]
          have e2 := ek 1 (by decide)
          have e3 := ek 2 (by decide)
          have e4 := ek 0 (by decide)
          have e4 : M1 k1 = M k1 := e4
          rw [e2, e3, e4, hq]
          exact fin _ rfl _ rfl
      · rw [if_neg c1]
        by_cases c2 : M (t + 1) (k : Int) = 3000
        · have := g2 c2
          rw [if_pos c2, w32_id (show -2147483648 ≤ rc_high (M (t + 1)) k ∧ rc_high (M (t + 1)) k < 2147483648 by omega), if_neg (by omega), w32_id (by omega)]
          refine wp_ck (by omega) ?_
          refine wp_ck (by omega) ?_
          refine wp_lm ?_
          refine go2 _ _ ?_ (fr_up i4 (by simp)) (fun j j1 j2 => ?_)
          · rw [rc_high_s, if_neg c1, if_pos c2]
          · rw [up_c]
            unfold rv_stk
            rw [if_neg c1, if_pos c2]
            show _ = if j = rc_high (M (t + 1)) k - 1 then _ else _
            by_cases hj : j = rc_high (M (t + 1)) k - 1
            · rw [if_pos hj, if_pos hj, i5 _ (by omega) (by omega)]
            · rw [if_neg hj, if_neg hj]
              exact i5 j j1 (by omega)
        · have := g3 (by omega) c2
          rw [if_neg c2, w32_id (show -2147483648 ≤ rc_high (M (t + 1)) k ∧ rc_high (M (t + 1)) k < 2147483648 by omega), if_neg (by omega)]
          refine wp_lt ?_
          rw [w32_id (by omega), w32_id (by omega)]
          refine wp_ck (by omega) ?_
          refine wp_ck (by omega) ?_
          rw [pc_joined g1 (by omega) c2, tp_bd_s]
          refine wp_ck (by omega) ?_
          refine wp_lm ?_
          refine go2 _ _ ?_ (fr_up i4 (by simp)) (fun j j1 j2 => ?_)
          · rw [rc_high_s, if_neg c1, if_neg c2]; omega
          · rw [up_c]
            unfold rv_stk
            rw [if_neg c1, if_neg c2]
            show _ = if j = rc_high (M (t + 1)) k - 2 then _ else _
            by_cases hj : j = rc_high (M (t + 1)) k - 2
            · rw [if_pos (by omega), if_pos hj, i5 _ (by omega) (by omega), i5 _ (by omega) (by omega)]
              congr 1 <;> congr 1 <;> omega
            · rw [if_neg (by omega), if_neg hj]
              exact i5 j j1 (by omega)
    · rw [if_neg hk2]
      have hks : s.toNat = k := by omega
      have hh := hw.2.2 (by omega)
      rw [hks] at hh
      refine wp_some ⟨i4, ?_⟩
      rw [hks, i5 0 (by omega) (by omega)]
