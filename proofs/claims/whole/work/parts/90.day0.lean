/-! DAY: the text read -/
/-- which act a sign names -/
def dk (c : Int) : Int := if c = 97 then 0 else if c = 103 then 1 else if c = 119 then 2 else if c = 98 then 3 else if c = 99 then 4 else if c = 112 then 5 else -1
/-- of how many signs -/
def dl (c : Int) : Int := if dk c ≤ 0 then 1 else if dk c ≤ 3 then 2 else 3
abbrev dsec (c d : Int) : Prop := (c = 99 ∧ 49 ≤ d ∧ d ≤ 57) ∨ (¬ c = 99 ∧ 48 ≤ d ∧ d ≤ 51)
def dok (T : Int → Int) (e p : Int) : Prop := 0 ≤ dk (T p) ∧ p + dl (T p) ≤ e ∧ (2 ≤ dl (T p) → 48 ≤ T (p + 1) ∧ T (p + 1) ≤ 57) ∧ (dl (T p) = 3 → dsec (T p) (T (p + 2)))
def dno (T : Int → Int) (e p q : Int) : Prop := (dk (T p) < 0 ∧ q = p) ∨ (1 ≤ dk (T p) ∧ ¬ (p + 1 < e ∧ 48 ≤ T (p + 1) ∧ T (p + 1) ≤ 57) ∧ q = p + 1) ∨ (4 ≤ dk (T p) ∧ (p + 1 < e ∧ 48 ≤ T (p + 1) ∧ T (p + 1) ≤ 57) ∧ ¬ (p + 2 < e ∧ dsec (T p) (T (p + 2))) ∧ q = p + 2)
/-- where act k begins -/
def dp (T : Int → Int) : Nat → Int
  | 0 => 0
  | k + 1 => dp T k + dl (T (dp T k))
theorem dl_in (c : Int) : 1 ≤ dl c ∧ dl c ≤ 3 := by
  unfold dl
  repeat' split
  all_goals omega
theorem dk_in (c : Int) : -1 ≤ dk c ∧ dk c ≤ 5 := by
  unfold dk
  repeat' split
  all_goals omega
theorem dp_ge (T : Int → Int) : ∀ k : Nat, (k : Int) ≤ dp T k := by
  intro k
  induction k with
  | zero => exact Int.le_refl 0
  | succ k ih =>
    have := dl_in (T (dp T k))
    show ((k + 1 : Nat) : Int) ≤ dp T k + dl (T (dp T k))
    omega
theorem dl_dk {c : Int} : (dl c = 1 ↔ dk c ≤ 0) ∧ (dl c = 2 ↔ 1 ≤ dk c ∧ dk c ≤ 3) ∧ (dl c = 3 ↔ 4 ≤ dk c) := by
  unfold dl
  by_cases h1 : dk c ≤ 0
  · rw [if_pos h1]; omega
  · rw [if_neg h1]
    by_cases h2 : dk c ≤ 3
    · rw [if_pos h2]; omega
    · rw [if_neg h2]; omega
theorem dk_sg {c : Int} : (dk c = 0 ↔ c = 97) ∧ (dk c = 1 ↔ c = 103) ∧ (dk c = 2 ↔ c = 119) ∧ (dk c = 3 ↔ c = 98) ∧ (dk c = 4 ↔ c = 99) ∧ (dk c = 5 ↔ c = 112) := by
  unfold dk
  repeat' split
  all_goals omega
theorem tk_0 (c : Int) : tk 0 c = dk c := by
  have e0 : sx_chr 0 0 = 97 := by decide +kernel
  have e1 : sx_chr 0 (0 + 1) = 103 := by decide +kernel
  have e2 : sx_chr 0 (0 + 1 + 1) = 119 := by decide +kernel
  have e3 : sx_chr 0 (0 + 1 + 1 + 1) = 98 := by decide +kernel
  have e4 : sx_chr 0 (0 + 1 + 1 + 1 + 1) = 99 := by decide +kernel
  have e5 : sx_chr 0 (0 + 1 + 1 + 1 + 1 + 1) = 112 := by decide +kernel
  show tk_from 0 c 6 0 = _
  unfold tk_from tk_from tk_from tk_from tk_from tk_from tk_from dk
  rw [e0, e1, e2, e3, e4, e5]
  simp only [eq_comm (a := c)]
  rfl
section PS
variable {T : Int → Int} {e p : Int}
theorem ps_num1 {M : tp_M} (h6 : M 6 = T) (h11 : M 0 11 = e) (h10 : M 0 10 = p) (h : 0 ≤ p ∧ p ≤ e ∧ e ≤ 80) (hT : ∀ j : Int, 0 ≤ j → j < e → 0 ≤ T j ∧ T j < 256) : fx_X11_number 1 M = if p < e ∧ 48 ≤ T p ∧ T p ≤ 57 then some (T p - 48, tp_up M 0 10 (p + 1)) else some (-1, M) := by
  unfold fx_X11_number
  rw [ps_isDigit h10 h11 h (fun q => by rw [h6]; exact hT p h.1 q), h6, tp_bd_s]
  by_cases c : p < e ∧ 48 ≤ T p ∧ T p ≤ 57
  · rw [if_pos c, if_pos c, if_neg (show ¬ w32 1 = 0 by decide), tp_lt_s, tp_lt_s]
    have : ∀ n : Nat, 2 ≤ n → tp_lp2 (fx_X11_number_L13 1) n 0 0 M = some (T p - 48, tp_up M 0 10 (p + 1)) := fun n hn => by
      obtain ⟨n, rfl⟩ : ∃ k, n = k + 2 := ⟨n - 2, by omega⟩
      rw [tp_lp2_s]
      unfold fx_X11_number_L13
      rw [if_pos (by decide), ps_isDigit h10 h11 h (fun q => by rw [h6]; exact hT p h.1 q), h6, tp_bd_s, if_pos c, if_neg (show ¬ w32 1 = 0 by decide), h10, w32_id (show -2147483648 ≤ p ∧ p < 2147483648 by omega), tp_ck_t (by omega), h6, tp_lt_s, tp_lm_s, tp_lt_s, tp_lp2_s, if_neg (by decide), show 10 * 0 + T p - 48 = T p - 48 by omega]
    exact this tp_F (by unfold tp_F; omega)
  · rw [if_neg c, if_neg c, if_pos (show w32 0 = 0 by decide)]
theorem ps_digitIn {M : tp_M} {lo hi : Int} (h6 : M 6 = T) (h11 : M 0 11 = e) (h10 : M 0 10 = p) (h : 0 ≤ p ∧ p ≤ e ∧ e ≤ 80) (hT : ∀ j : Int, 0 ≤ j → j < e → 0 ≤ T j ∧ T j < 256) (hl : 0 ≤ lo ∧ lo ≤ hi ∧ hi ≤ 9) : fx_X11_digitIn lo hi M = if p < e ∧ lo ≤ T p - 48 ∧ T p - 48 ≤ hi then some (T p - 48, tp_up M 0 10 (p + 1)) else some (-1, M) := by
  unfold fx_X11_digitIn
  rw [h10, h11, w32_id (show -2147483648 ≤ p ∧ p < 2147483648 by omega), w32_id (show -2147483648 ≤ e ∧ e < 2147483648 by omega)]
  by_cases c : p < e
  · have := hT p h.1 c
    rw [if_pos c, tp_ck_t (by omega), h6, w32_id (show -2147483648 ≤ T p - 48 ∧ T p - 48 < 2147483648 by omega), w32_id (show -2147483648 ≤ lo ∧ lo < 2147483648 by omega), w32_id (show -2147483648 ≤ hi ∧ hi < 2147483648 by omega), pm_in (by unfold pu_in; omega) (by unfold pu_in; omega) (by unfold pu_in; omega), tp_bd_s]
    by_cases c2 : lo ≤ T p - 48 ∧ T p - 48 ≤ hi
    · rw [if_pos c2, if_neg (show ¬ w32 1 = 0 by decide), h10, tp_lm_s, up_s, show p + 1 - 1 = p by omega, w32_id (show -2147483648 ≤ p ∧ p < 2147483648 by omega), tp_ck_t (by omega), up_k _ _ _ (by decide), h6, if_pos ⟨c, c2⟩]
    · rw [if_neg c2, if_pos (show w32 0 = 0 by decide), if_neg (fun q => c2 q.2)]
  · rw [if_neg c, if_neg (fun q => c q.1)]
/-- only the reader's cells change -/
def dy_M (M M1 : tp_M) : Prop := tp_fr [0, 16, 17, 18] M M1 ∧ ∀ j : Int, ¬ j = 10 → ¬ j = 30 → M1 0 j = M 0 j
theorem ps_readsAct {M : tp_M} {k : Int} (h6 : M 6 = T) (h11 : M 0 11 = e) (h10 : M 0 10 = p) (h30 : M 0 30 = k) (hk : 0 ≤ k ∧ k < 60) (h : 0 ≤ p ∧ p < e ∧ e ≤ 80) (hT : ∀ j : Int, 0 ≤ j → j < e → 0 ≤ T j ∧ T j < 256) :
    wp (fx_X11_readsAct M) (fun r M1 => dy_M M M1 ∧ M1 0 30 = k + 1 ∧ (∀ j : Int, ¬ j = k → M1 16 j = M 16 j ∧ M1 17 j = M 17 j ∧ M1 18 j = M 18 j) ∧ ((r = 1 ∧ dok T e p ∧ M1 0 10 = p + dl (T p) ∧ M1 16 k = dk (T p) ∧ (2 ≤ dl (T p) → M1 17 k = T (p + 1) - 48) ∧ (dl (T p) = 3 → M1 18 k = T (p + 2) - 48)) ∨ (r = 0 ∧ dno T e p (M1 0 10)))) := by
  have hc := hT p h.1 h.2.1
  have hk5 := dk_in (T p)
  obtain ⟨l1, l2, l3⟩ := dl_dk (c := T p)
  unfold fx_X11_readsAct
  refine wp_lt ?_
  rw [h30, ps_takesOf h10 h11 (by omega) 0 (by decide) (fun q => by rw [h6]; exact hc), h6, tk_0, w32_id (show -2147483648 ≤ k ∧ k < 2147483648 by omega)]
  by_cases c0 : 0 ≤ dk (T p)
  · rw [if_pos ⟨h.2.1, c0⟩, tp_bd_s]
    refine wp_ck (by omega) ?_
    refine wp_lm ?_
    rw [show tp_up (tp_up M 0 10 (p + 1)) 16 k (dk (T p)) 0 30 = k by rw [up_k _ _ _ (by decide), up_j _ _ _ (by decide)]; exact h30]
    refine wp_lm ?_
    generalize hM5 : tp_up (tp_up (tp_up M 0 10 (p + 1)) 16 k (dk (T p))) 0 30 (k + 1) = M5
    have f5 : dy_M M M5 := by
      rw [← hM5]
      refine ⟨fr_up (fr_up (fr_up fr_rf (by simp)) (by simp)) (by simp), fun j a b => ?_⟩
      rw [up_j _ _ _ b, up_k _ _ _ (by decide), up_j _ _ _ a]
    have e10 : M5 0 10 = p + 1 := by rw [← hM5, up_j _ _ _ (by decide), up_k _ _ _ (by decide), up_s]
    have e30 : M5 0 30 = k + 1 := by rw [← hM5]; exact up_s _ _ _ _
    have e16 : ∀ j : Int, M5 16 j = if j = k then dk (T p) else M 16 j := fun j => by
      rw [← hM5, up_k _ _ _ (by decide), up_c, up_k _ _ _ (by decide)]
    have e17 : M5 17 = M 17 := by rw [← hM5, up_k _ _ _ (by decide), up_k _ _ _ (by decide), up_k _ _ _ (by decide)]
    have e18 : M5 18 = M 18 := by rw [← hM5, up_k _ _ _ (by decide), up_k _ _ _ (by decide), up_k _ _ _ (by decide)]
    have e6 : M5 6 = T := by rw [f5.1 6 (by simp)]; exact h6
    have e11 : M5 0 11 = e := by rw [f5.2 11 (by decide) (by decide)]; exact h11
    have e16k : M5 16 k = dk (T p) := by rw [e16 k, if_pos rfl]
    rw [e16k, w32_id (show -2147483648 ≤ dk (T p) ∧ dk (T p) < 2147483648 by omega)]
    refine wp_ck (by omega) ?_
    by_cases c1 : dk (T p) ≤ 0
    · rw [if_pos c1]
      refine wp_ck (by omega) ?_
      rw [if_pos (by omega)]
      refine wp_some ⟨f5, e30, fun j hj => ⟨by rw [e16 j, if_neg hj], by rw [e17], by rw [e18]⟩, Or.inl ⟨rfl, ⟨c0, by omega, fun q => by omega, fun q => by omega⟩, by rw [e10, l1.mpr c1], e16k, fun q => by omega, fun q => by omega⟩⟩
    · rw [if_neg c1, ps_num1 (M := M5) (T := T) (e := e) (p := p + 1) e6 e11 e10 (by omega) hT]
      by_cases cd : p + 1 < e ∧ 48 ≤ T (p + 1) ∧ T (p + 1) ≤ 57
      · rw [if_pos cd, tp_bd_s]
        refine wp_ck (by omega) ?_
        refine wp_lm ?_
        generalize hM8 : tp_up (tp_up M5 0 10 (p + 1 + 1)) 17 k (T (p + 1) - 48) = M8
        have f8 : dy_M M M8 := by
          rw [← hM8]
          exact ⟨fr_up (fr_up f5.1 (by simp)) (by simp), fun j a b => by rw [up_k _ _ _ (by decide), up_j _ _ _ a]; exact f5.2 j a b⟩
        have g10 : M8 0 10 = p + 2 := by rw [← hM8, up_k _ _ _ (by decide), up_s]; omega
        have g30 : M8 0 30 = k + 1 := by rw [← hM8, up_k _ _ _ (by decide), up_j _ _ _ (by decide)]; exact e30
        have g16 : M8 16 = M5 16 := by rw [← hM8, up_k _ _ _ (by decide), up_k _ _ _ (by decide)]
        have g17 : ∀ j : Int, M8 17 j = if j = k then T (p + 1) - 48 else M 17 j := fun j => by
          rw [← hM8, up_c, up_k _ _ _ (by decide), e17]
        have g18 : M8 18 = M 18 := by rw [← hM8, up_k _ _ _ (by decide), up_k _ _ _ (by decide), e18]
        have g6 : M8 6 = T := by rw [f8.1 6 (by simp)]; exact h6
        have g11 : M8 0 11 = e := by rw [f8.2 11 (by decide) (by decide)]; exact h11
        have g17k : M8 17 k = T (p + 1) - 48 := by rw [g17 k, if_pos rfl]
        have g16k : M8 16 k = dk (T p) := by rw [g16, e16k]
        have rest : ∀ j : Int, ¬ j = k → M8 16 j = M 16 j ∧ M8 17 j = M 17 j ∧ M8 18 j = M 18 j := fun j hj => ⟨by rw [g16, e16 j, if_neg hj], by rw [g17 j, if_neg hj], by rw [g18]⟩
        refine wp_ck (by omega) ?_
        refine wp_jn0 ?_
        rw [g17k, w32_id (show -2147483648 ≤ T (p + 1) - 48 ∧ T (p + 1) - 48 < 2147483648 by omega), if_neg (by omega)]
        refine wp_ck (by omega) ?_
        rw [g16k, w32_id (show -2147483648 ≤ dk (T p) ∧ dk (T p) < 2147483648 by omega)]
        by_cases c4 : dk (T p) < 4
        · rw [if_pos c4]; (try dsimp only)
          refine wp_ck (by omega) ?_
          rw [g17k, w32_id (show -2147483648 ≤ T (p + 1) - 48 ∧ T (p + 1) - 48 < 2147483648 by omega), if_neg (by omega)]
          refine wp_some ⟨f8, g30, rest, Or.inl ⟨rfl, ⟨c0, by omega, fun _ => cd.2, fun q => by omega⟩, by rw [g10, l2.mpr (by omega)], g16k, fun _ => g17k, fun q => by omega⟩⟩
        · rw [if_neg c4]
          refine wp_ck (by omega) ?_
          refine wp_jn1 ?_
          have l33 := l3.mpr (by omega)
          have sgs := dk_sg (c := T p)
          have fin : ∀ (lo hi : Int), (0 ≤ lo ∧ lo ≤ hi ∧ hi ≤ 9) → (∀ d : Int, (lo ≤ d - 48 ∧ d - 48 ≤ hi) ↔ dsec (T p) d) → wp (tp_bd (fx_X11_digitIn lo hi M8) (fun r15 M16 => tp_ck k 60 (tp_lm (tp_up M16 18 k r15) (fun M12 => tp_ck k 60 (if w32 (M12 18 k) < 0 then some (0, M12) else some (1, M12)))))) (fun r M1 => dy_M M M1 ∧ M1 0 30 = k + 1 ∧ (∀ j : Int, ¬ j = k → M1 16 j = M 16 j ∧ M1 17 j = M 17 j ∧ M1 18 j = M 18 j) ∧ ((r = 1 ∧ dok T e p ∧ M1 0 10 = p + dl (T p) ∧ M1 16 k = dk (T p) ∧ (2 ≤ dl (T p) → M1 17 k = T (p + 1) - 48) ∧ (dl (T p) = 3 → M1 18 k = T (p + 2) - 48)) ∨ (r = 0 ∧ dno T e p (M1 0 10)))) := fun lo hi hl hs => by
            rw [ps_digitIn (M := M8) (T := T) (e := e) (p := p + 2) g6 g11 g10 (by omega) hT hl]
            by_cases c2 : p + 2 < e ∧ lo ≤ T (p + 2) - 48 ∧ T (p + 2) - 48 ≤ hi
            · rw [if_pos c2, tp_bd_s]
              refine wp_ck (by omega) ?_
              refine wp_lm ?_
              rw [up_s, w32_id (show -2147483648 ≤ T (p + 2) - 48 ∧ T (p + 2) - 48 < 2147483648 by omega), if_neg (by omega)]
              refine wp_ck (by omega) ?_
              refine wp_some ⟨⟨fr_up (fr_up f8.1 (by simp)) (by simp), fun j a b => by rw [up_k _ _ _ (by decide), up_j _ _ _ a]; exact f8.2 j a b⟩, by rw [up_k _ _ _ (by decide), up_j _ _ _ (by decide)]; exact g30, fun j hj => ⟨?_, ?_, ?_⟩, Or.inl ⟨rfl, ⟨c0, by omega, fun _ => cd.2, fun _ => (hs _).mp c2.2⟩, ?_, ?_, fun _ => ?_, fun _ => up_s _ _ _ _⟩⟩
              · rw [up_k _ _ _ (by decide), up_k _ _ _ (by decide)]; exact (rest j hj).1
              · rw [up_k _ _ _ (by decide), up_k _ _ _ (by decide)]; exact (rest j hj).2.1
              · rw [up_j _ _ _ hj, up_k _ _ _ (by decide)]; exact (rest j hj).2.2
              · rw [up_k _ _ _ (by decide), up_s, l33]; omega
              · rw [up_k _ _ _ (by decide), up_k _ _ _ (by decide)]; exact g16k
              · rw [up_k _ _ _ (by decide), up_k _ _ _ (by decide)]; exact g17k
            · rw [if_neg c2, tp_bd_s]
              refine wp_ck (by omega) ?_
              refine wp_lm ?_
              rw [up_s, if_pos (by decide)]
              refine wp_ck (by omega) ?_
              refine wp_some ⟨⟨fr_up f8.1 (by simp), fun j a b => by rw [up_k _ _ _ (by decide)]; exact f8.2 j a b⟩, by rw [up_k _ _ _ (by decide)]; exact g30, fun j hj => ⟨?_, ?_, ?_⟩, Or.inr ⟨rfl, Or.inr (Or.inr ⟨by omega, cd, fun q => c2 ⟨q.1, (hs _).mpr q.2⟩, by rw [up_k _ _ _ (by decide)]; exact g10⟩)⟩⟩
              · rw [up_k _ _ _ (by decide)]; exact (rest j hj).1
              · rw [up_k _ _ _ (by decide)]; exact (rest j hj).2.1
              · rw [up_j _ _ _ hj]; exact (rest j hj).2.2
          by_cases c44 : dk (T p) = 4
          · rw [if_pos c44]
            have := sgs.2.2.2.2.1.mp c44
            exact fin 1 9 (by omega) (fun d => by unfold dsec; omega)
          · rw [if_neg c44]
            have := sgs.2.2.2.2.1
            exact fin 0 3 (by omega) (fun d => by unfold dsec; omega)
      · rw [if_neg cd, tp_bd_s]
        refine wp_ck (by omega) ?_
        refine wp_lm ?_
        refine wp_ck (by omega) ?_
        refine wp_jn0 ?_
        rw [up_s, if_pos (by decide)]
        refine wp_ck (by omega) ?_
        rw [up_s, if_pos (by decide)]
        refine wp_some ⟨⟨fr_up f5.1 (by simp), fun j a b => by rw [up_k _ _ _ (by decide)]; exact f5.2 j a b⟩, by rw [up_k _ _ _ (by decide)]; exact e30, fun j hj => ⟨?_, ?_, ?_⟩, Or.inr ⟨rfl, Or.inr (Or.inl ⟨by omega, cd, by rw [up_k _ _ _ (by decide)]; exact e10⟩)⟩⟩
        · rw [up_k _ _ _ (by decide), e16 j, if_neg hj]
        · rw [up_j _ _ _ hj, e17]
        · rw [up_k _ _ _ (by decide), e18]
  · rw [if_neg (fun q => c0 q.2), tp_bd_s]
    refine wp_ck (by omega) ?_
    refine wp_lm ?_
    rw [show tp_up M 16 k (-1) 0 30 = k by rw [up_k _ _ _ (by decide)]; exact h30]
    refine wp_lm ?_
    have e16 : tp_up (tp_up M 16 k (-1)) 0 30 (k + 1) 16 k = -1 := by rw [up_k _ _ _ (by decide), up_s]
    rw [e16]
    refine wp_ck (by omega) ?_
    rw [if_pos (by decide)]
    refine wp_ck (by omega) ?_
    rw [if_neg (by decide)]
    refine wp_some ⟨⟨fr_up (fr_up fr_rf (by simp)) (by simp), fun j a b => by rw [up_j _ _ _ b, up_k _ _ _ (by decide)]⟩, up_s _ _ _ _, fun j hj => ⟨?_, ?_, ?_⟩, Or.inr ⟨rfl, Or.inl ⟨by omega, ?_⟩⟩⟩
    · rw [up_k _ _ _ (by decide), up_j _ _ _ hj]
    · rw [up_k _ _ _ (by decide), up_k _ _ _ (by decide)]
    · rw [up_k _ _ _ (by decide), up_k _ _ _ (by decide)]
    · rw [up_j _ _ _ (by decide), up_k _ _ _ (by decide)]; exact h10
/-- the acts as they lie -/
def dar (T : Int → Int) (M : tp_M) (k : Nat) : Prop := ∀ i : Nat, i < k → M 16 (i : Int) = dk (T (dp T i)) ∧ (2 ≤ dl (T (dp T i)) → M 17 (i : Int) = T (dp T i + 1) - 48) ∧ (dl (T (dp T i)) = 3 → M 18 (i : Int) = T (dp T i + 2) - 48)
theorem ps_dayreads {M : tp_M} {c1 : Int} {K : Int → tp_M → tp_O} {Q : Int → tp_M → Prop} (h6 : M 6 = T) (h11 : M 0 11 = e) (h10 : M 0 10 = 0) (h30 : M 0 30 = 0) (he : 0 ≤ e ∧ e ≤ 60) (hT : ∀ j : Int, 0 ≤ j → j < e → 0 ≤ T j ∧ T j < 256)
    (hg : ∀ (k : Nat) (M1 : tp_M), (k : Int) ≤ e → dp T k = e → (∀ i : Nat, i < k → dok T e (dp T i)) → dy_M M M1 → M1 0 10 = e → M1 0 30 = (k : Int) → dar T M1 k → wp (K 1 M1) Q)
    (hb : ∀ (k : Nat) (q : Int) (M1 : tp_M), dp T k < e → (∀ i : Nat, i < k → dok T e (dp T i)) → dno T e (dp T k) q → dy_M M M1 → M1 0 10 = q → wp (K 0 M1) Q) : wp (tp_lp1 (fx_X11_day_L19 c1 K) tp_F 1 M) Q := by
  refine wp_lp1 (fun b M1 => dy_M M M1 ∧ ((b = 1 ∧ ∃ k : Nat, M1 0 10 = dp T k ∧ dp T k ≤ e ∧ M1 0 30 = (k : Int) ∧ (∀ i : Nat, i < k → dok T e (dp T i)) ∧ dar T M1 k) ∨ (b = 0 ∧ ∃ (k : Nat) (q : Int), dp T k < e ∧ (∀ i : Nat, i < k → dok T e (dp T i)) ∧ dno T e (dp T k) q ∧ M1 0 10 = q))) (fun b M1 => (2 * (e - M1 0 30) + b + 4 * b).toNat) ?_ tp_F 1 M ⟨⟨fr_rf, fun _ _ _ => rfl⟩, Or.inl ⟨rfl, 0, h10, he.1, h30, fun i hi => by omega, fun i hi => by omega⟩⟩ (tp_F_pos (by omega))
  rintro rec b M1 ⟨f, hI⟩ hrec
  unfold fx_X11_day_L19
  rcases hI with ⟨rfl, k, i1, i2, i3, i4, i5⟩ | ⟨rfl, k, q, j1, j2, j3, j4⟩
  · have hk := dp_ge T k
    have g11 : M1 0 11 = e := by rw [f.2 11 (by decide) (by decide)]; exact h11
    have g6 : M1 6 = T := by rw [f.1 6 (by simp)]; exact h6
    rw [if_neg (show ¬ w32 1 = 0 by decide), i1, g11, w32_id (show -2147483648 ≤ dp T k ∧ dp T k < 2147483648 by omega), w32_id (show -2147483648 ≤ e ∧ e < 2147483648 by omega)]
    by_cases c : dp T k < e
    · rw [if_pos c]
      refine wp_call (ps_readsAct (T := T) (e := e) (p := dp T k) (k := (k : Int)) g6 g11 i1 i3 (by omega) (by omega) hT) (fun r M2 w => ?_)
      obtain ⟨w1, w2, w3, w4⟩ := w
      have fm : dy_M M M2 := ⟨fr_tr f.1 w1.1, fun j a b => (w1.2 j a b).trans (f.2 j a b)⟩
      refine wp_lt ?_
      rcases w4 with ⟨rfl, x1, x2, x3, x4, x5⟩ | ⟨rfl, x1⟩
      · refine hrec _ _ ⟨fm, Or.inl ⟨rfl, k + 1, x2, x1.2.1, by rw [w2]; omega, fun i hi => ?_, fun i hi => ?_⟩⟩ (by omega)
        · by_cases ei : i = k
          · rw [ei]; exact x1
          · exact i4 i (by omega)
        · by_cases ei : i = k
          · rw [ei]; exact ⟨x3, x4, x5⟩
          · obtain ⟨a1, a2, a3⟩ := w3 (i : Int) (by omega)
            rw [a1, a2, a3]
            exact i5 i (by omega)
      · refine hrec _ _ ⟨fm, Or.inr ⟨rfl, k, M2 0 10, c, i4, x1, rfl⟩⟩ (by omega)
    · rw [if_neg c]
      exact hg k M1 (by omega) (by omega) i4 f (by omega) i3 i5
  · rw [if_pos (show w32 0 = 0 by decide)]
    exact hb k q M1 j1 j2 j3 f j4
end PS
/-! the other reader -/
section CS
variable {T : Int → Int} {N e : Int}
theorem cs_isAct {c : Int} (hc : 0 ≤ c ∧ c < 256) (C : tp_M) : fx_X10_isAct c C = some (if 0 ≤ dk c then 1 else 0, C) := by
  unfold fx_X10_isAct dk
  rw [w32_id (by omega)]
  repeat' split
  all_goals first | rfl | (exfalso; omega)
theorem cs_signsOf {c : Int} (hc : 0 ≤ c ∧ c < 256) (hk : 0 ≤ dk c) (C : tp_M) : fx_X10_signsOf c C = some (dl c, C) := by
  unfold dk at hk
  unfold fx_X10_signsOf dl dk
  rw [w32_id (by omega)]
  repeat' split
  all_goals first | rfl | (exfalso; omega)
theorem cs_second {c d : Int} (hc : 0 ≤ c ∧ c < 256) (hd : 0 ≤ d ∧ d < 256) (C : tp_M) : (dsec c d → fx_X10_isSecondDigit c d C = some (1, C)) ∧ (¬ dsec c d → fx_X10_isSecondDigit c d C = some (0, C)) := by
  unfold fx_X10_isSecondDigit dsec
  rw [w32_id (show -2147483648 ≤ c ∧ c < 2147483648 by omega), w32_id (show -2147483648 ≤ d ∧ d < 2147483648 by omega)]
  constructor
  · intro q
    repeat' split
    all_goals first | rfl | (exfalso; omega)
  · intro q
    repeat' split
    all_goals first | rfl | (exfalso; omega)
variable {C : tp_M} {K : Int → tp_M → tp_O}
/-- an act's first sign -/
theorem cs_d0 (h1 : C 1 1 = N) (hN : 0 ≤ N ∧ N ≤ 80) (h2 : ∀ j : Int, 0 ≤ j → j < N → C 2 j = T j) (hT : ∀ j : Int, 0 ≤ j → j < N → 0 ≤ T j ∧ T j < 256) (he : e ≤ N) {p : Int} (hp : 0 ≤ p ∧ p < e) (rec : Int → Int → Int → tp_M → tp_O) (kd : Int) : fx_X10_checkDay_L20 e K rec kd 0 p C = if 0 ≤ dk (T p) then rec (T p) (dl (T p) - 1) (p + 1) C else some (-1 - p, C) := by
  have hc := hT p hp.1 (by omega)
  unfold fx_X10_checkDay_L20
  rw [w32_id (show -2147483648 ≤ p ∧ p < 2147483648 by omega), w32_id (show -2147483648 ≤ e ∧ e < 2147483648 by omega), if_pos hp.2, cs_tx h1 hN (by omega), tp_bd_s, h2 p hp.1 (by omega), tp_lt_s, tp_jn2_s]; (try dsimp only); rw [if_pos (show w32 0 = 0 by decide), cs_isAct hc, tp_bd_s]
  by_cases c : 0 ≤ dk (T p)
  · rw [if_pos c, if_pos c, if_neg (show ¬ w32 1 = 0 by decide), tp_lt_s, cs_signsOf hc c, tp_bd_s, tp_lt_s, tp_lt_s]
  · rw [if_neg c, if_neg c, if_pos (show w32 0 = 0 by decide)]
/-- a sign behind it -/
theorem cs_d1 (h1 : C 1 1 = N) (hN : 0 ≤ N ∧ N ≤ 80) (h2 : ∀ j : Int, 0 ≤ j → j < N → C 2 j = T j) (hT : ∀ j : Int, 0 ≤ j → j < N → 0 ≤ T j ∧ T j < 256) (he : e ≤ N) {p kd l : Int} (hp : 0 ≤ p ∧ p < e) (hk : 0 ≤ kd ∧ kd < 256) (hk0 : 0 ≤ dk kd) (hl : l = 1 ∨ l = 2) (rec : Int → Int → Int → tp_M → tp_O) :
    ((if l = 1 ∧ dl kd = 3 then dsec kd (T p) else 48 ≤ T p ∧ T p ≤ 57) → fx_X10_checkDay_L20 e K rec kd l p C = rec kd (l - 1) (p + 1) C) ∧ (¬ (if l = 1 ∧ dl kd = 3 then dsec kd (T p) else 48 ≤ T p ∧ T p ≤ 57) → fx_X10_checkDay_L20 e K rec kd l p C = some (-1 - p, C)) := by
  have hc := hT p hp.1 (by omega)
  have hl0 : ¬ w32 l = 0 := by rcases hl with rfl | rfl <;> decide
  have hlm : l + -1 = l - 1 := by omega
  unfold fx_X10_checkDay_L20
  rw [w32_id (show -2147483648 ≤ p ∧ p < 2147483648 by omega), w32_id (show -2147483648 ≤ e ∧ e < 2147483648 by omega), if_pos hp.2, cs_tx h1 hN (by omega), tp_bd_s, h2 p hp.1 (by omega), tp_lt_s, tp_jn2_s]; (try dsimp only); rw [if_neg hl0, tp_jn1_s, tp_jn0_s]; (try dsimp only); rw [w32_id (show -2147483648 ≤ l ∧ l < 2147483648 by omega)]
  by_cases c3 : l = 1 ∧ dl kd = 3
  · rw [if_pos c3, if_pos c3.1, cs_signsOf hk hk0, tp_bd_s, c3.2, if_pos (by decide), tp_lt_s, tp_jn0_s]; (try dsimp only); rw [if_neg (show ¬ w32 1 = 0 by decide)]
    obtain ⟨s1, s2⟩ := cs_second hk hc C
    constructor
    · intro q
      rw [s1 q, tp_bd_s, if_neg (show ¬ w32 1 = 0 by decide), tp_lt_s, tp_lt_s, hlm]
    · intro q
      rw [s2 q, tp_bd_s, if_pos (show w32 0 = 0 by decide)]
  · rw [if_neg c3]
    have hdig : (tp_lt (0 : Int) (fun x21 => tp_jn0 (fun M22 => tp_lt (l + (-1)) (fun x23 => tp_lt (p + 1) (fun x18 => rec kd x23 x18 M22))) (fun jk117 => if w32 x21 = 0 then tp_bd (fx_X10_isDigit (T p) C) (fun r24 M25 => if w32 r24 = 0 then some (-1 - p, M25) else jk117 M25) else tp_bd (fx_X10_isSecondDigit kd (T p) C) (fun r26 M27 => if w32 r26 = 0 then some (-1 - p, M27) else jk117 M27)))) = if 48 ≤ T p ∧ T p ≤ 57 then rec kd (l - 1) (p + 1) C else some (-1 - p, C) := by
      rw [tp_lt_s, tp_jn0_s]; (try dsimp only); rw [if_pos (show w32 0 = 0 by decide), cs_isDigit hc, tp_bd_s]
      by_cases q : 48 ≤ T p ∧ T p ≤ 57
      · rw [if_pos q, if_pos q, if_neg (show ¬ w32 1 = 0 by decide), tp_lt_s, tp_lt_s, hlm]
      · rw [if_neg q, if_neg q, if_pos (show w32 0 = 0 by decide)]
    have hx : (if l = 1 then tp_bd (fx_X10_signsOf kd C) (fun r29 M30 => if w32 r29 = 3 then tp_lt (1 : Int) (fun x21 => tp_jn0 (fun M22 => tp_lt (l + (-1)) (fun x23 => tp_lt (p + 1) (fun x18 => rec kd x23 x18 M22))) (fun jk117 => if w32 x21 = 0 then tp_bd (fx_X10_isDigit (T p) M30) (fun r24 M25 => if w32 r24 = 0 then some (-1 - p, M25) else jk117 M25) else tp_bd (fx_X10_isSecondDigit kd (T p) M30) (fun r26 M27 => if w32 r26 = 0 then some (-1 - p, M27) else jk117 M27))) else tp_lt (0 : Int) (fun x21 => tp_jn0 (fun M22 => tp_lt (l + (-1)) (fun x23 => tp_lt (p + 1) (fun x18 => rec kd x23 x18 M22))) (fun jk117 => if w32 x21 = 0 then tp_bd (fx_X10_isDigit (T p) M30) (fun r24 M25 => if w32 r24 = 0 then some (-1 - p, M25) else jk117 M25) else tp_bd (fx_X10_isSecondDigit kd (T p) M30) (fun r26 M27 => if w32 r26 = 0 then some (-1 - p, M27) else jk117 M27)))) else tp_lt (0 : Int) (fun x21 => tp_jn0 (fun M22 => tp_lt (l + (-1)) (fun x23 => tp_lt (p + 1) (fun x18 => rec kd x23 x18 M22))) (fun jk117 => if w32 x21 = 0 then tp_bd (fx_X10_isDigit (T p) C) (fun r24 M25 => if w32 r24 = 0 then some (-1 - p, M25) else jk117 M25) else tp_bd (fx_X10_isSecondDigit kd (T p) C) (fun r26 M27 => if w32 r26 = 0 then some (-1 - p, M27) else jk117 M27)))) = if 48 ≤ T p ∧ T p ≤ 57 then rec kd (l - 1) (p + 1) C else some (-1 - p, C) := by
      by_cases c1 : l = 1
      · have := dl_in kd
        rw [if_pos c1, cs_signsOf hk hk0, tp_bd_s, w32_id (show -2147483648 ≤ dl kd ∧ dl kd < 2147483648 by omega), if_neg (fun q => c3 ⟨c1, q⟩)]
        exact hdig
      · rw [if_neg c1]
        exact hdig
    constructor
    · intro q
      refine Eq.trans hx ?_
      rw [if_pos q]
    · intro q
      refine Eq.trans hx ?_
      rw [if_neg q]
theorem cs_d3 (hl : -2147483648 ≤ e ∧ e < 2147483648) (rec : Int → Int → Int → tp_M → tp_O) (kd l : Int) : fx_X10_checkDay_L20 e K rec kd l e C = K l C := by
  unfold fx_X10_checkDay_L20
  rw [if_neg (by omega)]
theorem cs_acts (h1 : C 1 1 = N) (hN : 0 ≤ N ∧ N ≤ 80) (h2 : ∀ j : Int, 0 ≤ j → j < N → C 2 j = T j) (hT : ∀ j : Int, 0 ≤ j → j < N → 0 ≤ T j ∧ T j < 256) (he : e ≤ N) : ∀ (k n : Nat), (∀ i : Nat, i < k → dok T e (dp T i)) → dp T k + 2 ≤ (n : Int) → ∃ (m : Nat) (kd : Int), (m : Int) = (n : Int) - dp T k ∧ tp_lp3 (fx_X10_checkDay_L20 e K) n 0 0 0 C = tp_lp3 (fx_X10_checkDay_L20 e K) m kd 0 (dp T k) C := by
  intro k
  induction k with
  | zero => intro n _ _; exact ⟨n, 0, by show (n : Int) = (n : Int) - 0; omega, rfl⟩
  | succ k ih =>
    intro n hk hn
    have hge := dp_ge T k
    have hdl := dl_in (T (dp T k))
    have e1 : dp T (k + 1) = dp T k + dl (T (dp T k)) := rfl
    obtain ⟨m, kd, m1, m2⟩ := ih n (fun i hi => hk i (by omega)) (by omega)
    obtain ⟨o1, o2, o3, o4⟩ := hk k (by omega)
    have hc := hT (dp T k) (by omega) (by omega)
    rw [m2]
    obtain ⟨m, rfl⟩ : ∃ a, m = a + 1 := ⟨m - 1, by omega⟩
    rw [tp_lp3_s, cs_d0 h1 hN h2 hT he (by omega), if_pos o1]
    generalize hp : dp T k = p at *
    by_cases l1 : dl (T p) = 1
    · exact ⟨m, T p, by omega, by rw [e1, l1]; rfl⟩
    · obtain ⟨m, rfl⟩ : ∃ a, m = a + 1 := ⟨m - 1, by omega⟩
      by_cases l2 : dl (T p) = 2
      · refine ⟨m, T p, by omega, ?_⟩
        rw [l2, show (2 : Int) - 1 = 1 from rfl, tp_lp3_s, (cs_d1 h1 hN h2 hT he (by omega) hc o1 (Or.inl rfl) _).1 (by rw [if_neg (by omega)]; exact o3 (by omega)), e1, l2, show p + 1 + 1 = p + 2 by omega]
        rfl
      · have l3 : dl (T p) = 3 := by omega
        obtain ⟨m, rfl⟩ : ∃ a, m = a + 1 := ⟨m - 1, by omega⟩
        refine ⟨m, T p, by omega, ?_⟩
        rw [l3, show (3 : Int) - 1 = 2 from rfl, tp_lp3_s, (cs_d1 h1 hN h2 hT he (by omega) hc o1 (Or.inr rfl) _).1 (by rw [if_neg (by omega)]; exact o3 (by omega)), show (2 : Int) - 1 = 1 from rfl, tp_lp3_s, (cs_d1 h1 hN h2 hT he (p := p + 1 + 1) (by omega) hc o1 (Or.inl rfl) _).1 (by rw [if_pos ⟨rfl, l3⟩, show p + 1 + 1 = p + 2 by omega]; exact o4 l3), e1, l3, show p + 1 + 1 + 1 = p + 3 by omega]
        rfl
theorem cs_checkDay (h1 : C 1 1 = N) (hN : 0 ≤ N ∧ N ≤ 80) (h2 : ∀ j : Int, 0 ≤ j → j < N → C 2 j = T j) (hT : ∀ j : Int, 0 ≤ j → j < N → 0 ≤ T j ∧ T j < 256) (he : e = min N 60) (k : Nat) (hk : ∀ i : Nat, i < k → dok T e (dp T i)) :
    (dp T k = e → fx_X10_checkDay C = some (if 60 < N then -61 else 0, C)) ∧ (∀ q : Int, dp T k < e → dno T e (dp T k) q → fx_X10_checkDay C = some (if 60 < N ∧ 60 ≤ q then -61 else -1 - q, C)) := by
  have hge := dp_ge T k
  have hsz : fx_X7_size C = some (N, C) := by rw [pc_X7_size, h1]
  have run : ∃ (K : Int → tp_M → tp_O), fx_X10_checkDay C = tp_lp3 (fx_X10_checkDay_L20 e K) tp_F 0 0 0 C ∧ ∀ l : Int, (0 ≤ l ∧ l ≤ 2) → K l C = some (if 60 < N then -61 else if l ≤ 0 then 0 else -1 - N, C) := by
    refine ⟨fun y11 M37 => tp_bd (fx_X7_size M37) (fun r38 M39 => if w32 r38 ≤ 60 then (if w32 y11 ≤ 0 then some (0, M39) else tp_bd (fx_X7_size M39) (fun r40 M41 => some ((-1) - r40, M41))) else some ((-61), M39)), ?_, fun l hl => ?_⟩
    · unfold fx_X10_checkDay
      rw [tp_lt_s, tp_lt_s, hsz, tp_bd_s, w32_id (show -2147483648 ≤ N ∧ N < 2147483648 by omega), ← he, tp_lt_s, tp_lt_s]
    · try simp only
      rw [hsz, tp_bd_s, w32_id (show -2147483648 ≤ N ∧ N < 2147483648 by omega), w32_id (show -2147483648 ≤ l ∧ l < 2147483648 by omega)]
      by_cases c : N ≤ 60
      · rw [if_pos c, if_neg (show ¬ 60 < N by omega)]
        by_cases c2 : l ≤ 0
        · rw [if_pos c2, if_pos c2]
        · rw [if_neg c2, if_neg c2, hsz, tp_bd_s]
      · rw [if_neg c, if_pos (show 60 < N by omega)]
  obtain ⟨K, r1, r2⟩ := run
  have hF : (tp_F : Int) = 100000000 := rfl
  constructor
  · intro hq
    obtain ⟨m, kd, m1, m2⟩ := cs_acts (K := K) h1 hN h2 hT (by omega) k tp_F hk (by omega)
    obtain ⟨m, rfl⟩ : ∃ a, m = a + 1 := ⟨m - 1, by omega⟩
    rw [r1, m2, hq, tp_lp3_s, cs_d3 (by omega), r2 0 (by omega)]
    rfl
  · intro q hq hd
    obtain ⟨m, kd, m1, m2⟩ := cs_acts (K := K) h1 hN h2 hT (by omega) k tp_F hk (by omega)
    generalize hp : dp T k = p at *
    have hc := hT p (by omega) (by omega)
    obtain ⟨l1, l2, l3⟩ := dl_dk (c := T p)
    have hdl := dl_in (T p)
    have bad : ∀ x : Int, 0 ≤ x → x < e → (if 60 < N ∧ 60 ≤ x then (-61 : Int) else -1 - x) = -1 - x := fun x _ hx => if_neg (by omega)
    have fin : ∀ (x l : Int), x = e → 1 ≤ l → l ≤ 2 → (if 60 < N then (-61 : Int) else if l ≤ 0 then 0 else -1 - N) = if 60 < N ∧ 60 ≤ x then -61 else -1 - x := fun x l hx hl _ => by
      by_cases c : 60 < N
      · rw [if_pos c, if_pos (by omega)]
      · rw [if_neg c, if_neg (by omega), if_neg (by omega)]; omega
    obtain ⟨m, rfl⟩ : ∃ a, m = a + 1 := ⟨m - 1, by omega⟩
    rw [r1, m2, tp_lp3_s, cs_d0 h1 hN h2 hT (by omega) (by omega)]
    obtain ⟨m, rfl⟩ : ∃ a, m = a + 1 := ⟨m - 1, by omega⟩
    rcases hd with ⟨d1, rfl⟩ | ⟨d1, d2, rfl⟩ | ⟨d1, d2, d3, rfl⟩
    · rw [if_neg (by omega), bad q (by omega) hq]
    · rw [if_pos (by omega), tp_lp3_s]
      have hll : dl (T p) - 1 = 1 ∨ dl (T p) - 1 = 2 := by omega
      by_cases c : p + 1 < e
      · have hno : ¬ (if dl (T p) - 1 = 1 ∧ dl (T p) = 3 then dsec (T p) (T (p + 1)) else 48 ≤ T (p + 1) ∧ T (p + 1) ≤ 57) := by
          rw [if_neg (by omega)]
          exact fun w => d2 ⟨c, w⟩
        rw [(cs_d1 h1 hN h2 hT (by omega) (p := p + 1) ⟨by omega, c⟩ hc (by omega) hll _).2 hno, bad (p + 1) (by omega) c]
      · have ec : p + 1 = e := by omega
        rw [ec, cs_d3 (by omega), r2 _ (by omega), fin e _ rfl (by omega) (by omega)]
    · have d33 := l3.mpr d1
      rw [if_pos (by omega), d33, show (3 : Int) - 1 = 2 from rfl, tp_lp3_s, (cs_d1 h1 hN h2 hT (by omega) (p := p + 1) ⟨by omega, d2.1⟩ hc (by omega) (Or.inr rfl) _).1 (by rw [if_neg (by omega)]; exact d2.2), show (2 : Int) - 1 = 1 from rfl]
      obtain ⟨m, rfl⟩ : ∃ a, m = a + 1 := ⟨m - 1, by omega⟩
      rw [tp_lp3_s, show p + 1 + 1 = p + 2 by omega]
      by_cases c : p + 2 < e
      · rw [(cs_d1 h1 hN h2 hT (by omega) (p := p + 2) ⟨by omega, c⟩ hc (by omega) (Or.inl rfl) _).2 (by rw [if_pos ⟨rfl, d33⟩]; exact fun w => d3 ⟨c, w⟩), bad (p + 2) (by omega) c]
      · have ec : p + 2 = e := by omega
        rw [ec, cs_d3 (by omega), r2 1 (by omega), fin e 1 rfl (by omega) (by omega)]
end CS
