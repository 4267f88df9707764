/-! RULE, LAW: both readers -/
theorem stk_map {f g : Int → Int} : ∀ {K : List Int}, stk f K → stk g (K.map rc_map) → ∀ j : Int, 0 ≤ j → j < (K.length : Int) → g j = rc_map (f j) := by
  intro K
  induction K with
  | nil => intro _ _ j j1 j2; simp at j2; omega
  | cons x l ih =>
    intro h1 h2 j j1 j2
    simp only [List.length_cons] at j2
    by_cases e : j = (l.length : Int)
    · have h3 : g ((l.map rc_map).length : Int) = rc_map x := h2.1
      rw [List.length_map] at h3
      rw [e, h3, h1.1]
    · exact ih h1.2 h2.2 j j1 (by omega)
theorem wl_wf {f : Int → Int} : ∀ (K : List Int) (h : Int), stk f K → wl K h → rc_high f K.length = h ∧ ∀ k : Nat, k < K.length → rc_ok (f k) ∧ (f k = 3000 → 1 ≤ rc_high f k) ∧ (2000 ≤ f k → ¬ f k = 3000 → 2 ≤ rc_high f k) := by
  intro K
  induction K with
  | nil =>
    intro h _ hw
    have hw : h = 0 := hw
    exact ⟨hw.symm, fun k hk => by simp at hk⟩
  | cons x l ih =>
    intro h hs hw
    obtain ⟨w1, w2⟩ := hw
    have hx : f (l.length : Int) = x := hs.1
    simp only [List.length_cons]
    have hk : ∀ k : Nat, k < l.length + 1 → (∀ k : Nat, k < l.length → rc_ok (f k) ∧ (f k = 3000 → 1 ≤ rc_high f k) ∧ (2000 ≤ f k → ¬ f k = 3000 → 2 ≤ rc_high f k)) → (x = 3000 → 1 ≤ rc_high f l.length) → (2000 ≤ x → ¬ x = 3000 → 2 ≤ rc_high f l.length) → rc_ok (f k) ∧ (f k = 3000 → 1 ≤ rc_high f k) ∧ (2000 ≤ f k → ¬ f k = 3000 → 2 ≤ rc_high f k) := fun k k1 k2 k3 k4 => by
      by_cases e : k = l.length
      · rw [e, hx]; exact ⟨w1, k3, k4⟩
      · exact k2 k (by omega)
    rw [rc_high_s, hx]
    by_cases c1 : x < 2000
    · rw [if_pos c1] at w2
      obtain ⟨i1, i2⟩ := ih (h - 1) hs.2 w2
      rw [if_pos c1]
      exact ⟨by omega, fun k k1 => hk k k1 i2 (fun _ => by omega) (fun _ => by omega)⟩
    · rw [if_neg c1] at w2
      by_cases c2 : x = 3000
      · rw [if_pos c2] at w2
        obtain ⟨i1, i2⟩ := ih h hs.2 w2.2
        rw [if_neg c1, if_pos c2]
        exact ⟨i1, fun k k1 => hk k k1 i2 (fun _ => by omega) (fun _ q => absurd c2 q)⟩
      · rw [if_neg c2] at w2
        obtain ⟨i1, i2⟩ := ih (h + 1) hs.2 w2.2
        rw [if_neg c1, if_neg c2]
        exact ⟨by omega, fun k k1 => hk k k1 i2 (fun q => absurd q c2) (fun _ _ => by omega)⟩
theorem stk_wf {f : Int → Int} {K : List Int} (hs : stk f K) (hl : K.length ≤ 40) (hw : K = [] ∨ wl K 1) : rc_wf f (K.length : Int) := by
  refine ⟨by omega, fun k hk => ?_, fun hk => ?_⟩
  · rcases hw with rfl | hw
    · simp at hk; omega
    · exact (wl_wf K 1 hs hw).2 k (by omega)
  · rcases hw with rfl | hw
    · simp at hk
    · rw [show ((K.length : Int)).toNat = K.length by omega]
      exact (wl_wf K 1 hs hw).1
section CL
variable {T : Int → Int} {e N : Int} {K : tp_M → tp_O} {Q : Int → tp_M → Prop}
theorem cs_tx {C : tp_M} {p : Int} (h1 : C 1 1 = N) (hN : 0 ≤ N ∧ N ≤ 80) (hp : 0 ≤ p ∧ p < N) : fx_X7_at p C = some (C 2 p, C) := by
  unfold fx_X7_at
  rw [h1, w32_id (show -2147483648 ≤ p ∧ p < 2147483648 by omega), if_neg (by omega), w32_id (by omega), if_pos hp.2, tp_ck_t (by omega)]
/-- a sign of the text, by the one machine and the other -/
theorem cs_iter {C : tp_M} {S : RS} {p : Nat} {rec : Int → tp_M → tp_O} (h1 : C 1 1 = N) (hN : 0 ≤ N ∧ N ≤ 80) (h2 : ∀ j : Int, 0 ≤ j → j < N → C 2 j = T j) (hT : ∀ j : Int, 0 ≤ j → j < N → 0 ≤ T j ∧ T j < 256) (heN : e ≤ N) (he : e ≤ 40) (hC : rs_C C S) (ho : rs_ok p S) (hp : (p : Int) < e)
    (hs : ∀ (S1 : RS) (C1 : tp_M), rs_step S (T p) = some S1 → tp_fr [20, 21, 22, 24] C C1 → rs_C C1 S1 → rs_ok (p + 1) S1 → wp (rec ((p : Int) + 1) C1) Q)
    (hn : ∀ C1 : tp_M, rs_step S (T p) = none → tp_fr [20, 21, 22, 24] C C1 → Q (-1 - (p : Int)) C1) : wp (fx_X9_read_L44 20 e K rec (p : Int) C) Q := by
  have h8 := hC.2.2.2.2.2.2.2
  have hat := cs_tx h1 hN (p := (p : Int)) (by omega)
  have hc := hT (p : Int) (by omega) (by omega)
  have h2p := h2 (p : Int) (by omega) (by omega)
  unfold fx_X9_read_L44
  rw [w32_id (show -2147483648 ≤ (p : Int) ∧ (p : Int) < 2147483648 by omega), w32_id (show -2147483648 ≤ e ∧ e < 2147483648 by omega), if_pos hp]
  refine wp_jn1 ?_
  have fin : ∀ (r : Int) (C1 : tp_M), rs_post (rs_step S (T p)) p C r C1 → wp (tp_lt r (fun x15 => if w32 x15 = 0 then some (-1 - (p : Int), C1) else tp_lt ((p : Int) + 1) (fun x16 => rec x16 C1))) Q := fun r C1 q => by
    obtain ⟨q1, q2, q3⟩ := q
    refine wp_lt ?_
    cases hst : rs_step S (T p) with
    | none =>
      rw [q2 hst, if_pos (by decide)]
      exact wp_some (hn C1 hst q1)
    | some S1 =>
      obtain ⟨q4, q5, q6⟩ := q3 S1 hst
      rw [q4, if_neg (by decide)]
      refine wp_lt ?_
      exact hs S1 C1 hst q1 q5 q6
  rw [h8]
  by_cases hw : S.2.2.2.2 = true
  · rw [if_pos hw, if_neg (show ¬ w32 1 = 0 by decide), hat, tp_bd_s, h2p]
    exact wp_call (cs_takeThing hC ho (by omega) hc hw) fin
  · rw [if_neg hw, if_pos (show w32 0 = 0 by decide), hat, tp_bd_s, h2p]
    exact wp_call (cs_takeNext hC ho (by omega) hc (by simpa using hw)) fin
theorem cs_loop (hN : 0 ≤ N ∧ N ≤ 80) (hT : ∀ j : Int, 0 ≤ j → j < N → 0 ≤ T j ∧ T j < 256) (heN : e ≤ N) (he : e ≤ 40) : ∀ (k p n : Nat) (S S1 : RS) (C : tp_M), C 1 1 = N → (∀ j : Int, 0 ≤ j → j < N → C 2 j = T j) → rs_C C S → rs_ok p S → rs_run T k (p : Int) S S1 → (p : Int) + (k : Int) ≤ e → k < n →
    (∀ (C1 : tp_M) (m : Nat), tp_fr [20, 21, 22, 24] C C1 → rs_C C1 S1 → rs_ok (p + k) S1 → m + k = n → wp (tp_lp1 (fx_X9_read_L44 20 e K) m ((p + k : Nat) : Int) C1) Q) → wp (tp_lp1 (fx_X9_read_L44 20 e K) n (p : Int) C) Q := by
  intro k
  induction k with
  | zero =>
    intro p n S S1 C h1 h2 hC ho hr hp hn hq
    have hr : S1 = S := hr
    subst hr
    exact hq C n fr_rf hC ho rfl
  | succ k ih =>
    intro p n S S1 C h1 h2 hC ho hr hp hn hq
    obtain ⟨S2, r1, r2⟩ := hr
    cases n with
    | zero => omega
    | succ n =>
      rw [tp_lp1_s]
      refine cs_iter h1 hN h2 hT heN he hC ho (by omega) (fun S3 C1 e3 f c o => ?_) (fun C1 e3 => by rw [r1] at e3; cases e3)
      rw [r1] at e3
      cases e3
      refine ih (p + 1) n S2 S1 C1 (by rw [f 1 (by simp)]; exact h1) (by rw [f 2 (by simp)]; exact h2) c o r2 (by omega) (by omega) (fun C2 m f2 c2 o2 hm => ?_)
      rw [show p + 1 + k = p + (k + 1) by omega] at o2 ⊢
      exact hq C2 m (fr_tr f f2) c2 o2 (by omega)
end CL
def S0 : RS := ([], [], [0], 0, true)
/-- what both readers answer at a text of N signs -/
def rs_ans (N q : Int) : Int := if 40 < N ∧ 40 ≤ q then -41 else -1 - q
def rs_bad (T : Int → Int) (N : Int) (r : Int) : Prop := 0 < N ∧ ∃ q : Int, 0 ≤ q ∧ rs_fl T (min N 40) 0 S0 q ∧ r = rs_ans N q
def rs_good (T : Int → Int) (N : Int) (K : List Int) : Prop := (N = 0 ∧ K = []) ∨ ((0 < N ∧ N ≤ 40) ∧ rs_dn T N 1 0 False 0 S0 N K)
def rs_long (T : Int → Int) (N : Int) : Prop := 40 < N ∧ ∃ K : List Int, rs_dn T 40 1 0 False 0 S0 40 K
theorem cs_readAny {T : Int → Int} {N : Int} {C : tp_M} (h1 : C 1 1 = N) (hN : 0 ≤ N ∧ N ≤ 80) (h2 : ∀ j : Int, 0 ≤ j → j < N → C 2 j = T j) (hT : ∀ j : Int, 0 ≤ j → j < N → 0 ≤ T j ∧ T j < 256) :
    (∀ r : Int, rs_bad T N r → wp (fx_X9_read 20 C) (fun x C1 => tp_fr [20, 21, 22, 24] C C1 ∧ x = r)) ∧ (∀ K : List Int, rs_good T N K → wp (fx_X9_read 20 C) (fun x C1 => tp_fr [20, 21, 22, 24] C C1 ∧ x = 0 ∧ C1 20 4 = (K.length : Int) ∧ stk (C1 21) K)) ∧ (rs_long T N → wp (fx_X9_read 20 C) (fun x C1 => tp_fr [20, 21, 22, 24] C C1 ∧ x = -41)) := by
  have hsz : ∀ C1 : tp_M, C1 1 1 = N → fx_X7_size C1 = some (N, C1) := fun C1 q => by rw [pc_X7_size, q]
  generalize hC0 : tp_up (tp_up (tp_up (tp_up (tp_up (tp_up C 20 4 0) 20 5 0) 20 6 0) 20 7 0) 20 8 1) (20 + 4) 0 0 = C0
  have f0 : tp_fr [20, 21, 22, 24] C C0 := by
    rw [← hC0]
    exact fr_up (fr_up (fr_up (fr_up (fr_up (fr_up fr_rf (by simp)) (by simp)) (by simp)) (by simp)) (by simp)) (by simp)
  have c0 : rs_C C0 S0 := by
    rw [← hC0]
    refine ⟨?_, trivial, ?_, trivial, ?_, ⟨?_, trivial⟩, ?_, ?_⟩
    · simp (disch := omega) only [up_k, up_j, up_s]; rfl
    · simp (disch := omega) only [up_k, up_j, up_s]; rfl
    · simp (disch := omega) only [up_k, up_j, up_s]; rfl
    · exact up_s _ _ _ _
    · simp (disch := omega) only [up_k, up_j, up_s]; rfl
    · simp (disch := omega) only [up_k, up_j, up_s]; rfl
  have o0 : rs_ok 0 S0 := ⟨by decide, by decide, fun x hx => (by cases hx), fun x hx => Or.inl (by simpa [S0] using hx), by decide⟩
  have d1 : C0 1 1 = N := by rw [f0 1 (by simp)]; exact h1
  have d2 : ∀ j : Int, 0 ≤ j → j < N → C0 2 j = T j := by rw [f0 2 (by simp)]; exact h2
  have hx : ∀ Q : Int → tp_M → Prop, (∀ K : tp_M → tp_O, (∀ C1 : tp_M, C1 1 1 = N → K C1 = if w32 N ≤ 40 then tp_jn0 (fun M30 => tp_bd (fx_X9_emitWaiting 20 1 M30) (fun r31 M32 => some (0, M32))) (fun jk134 => if w32 N ≤ 0 then jk134 C1 else tp_jn0 (fun M33 => tp_bd (fx_X7_size M33) (fun r34 M35 => some (-1 - r34, M35))) (fun jk127 => if w32 (C1 20 8) = 0 then (if w32 (C1 20 6) ≤ 0 then jk134 C1 else jk127 C1) else jk127 C1)) else some (-41, C1)) → wp (tp_lp1 (fx_X9_read_L44 20 (min N 40) K) tp_F 0 C0) Q) → wp (fx_X9_read 20 C) Q := fun Q h => by
    unfold fx_X9_read
    rw [tp_lm_s, tp_lm_s, tp_lm_s, tp_lm_s, tp_lm_s, tp_lm_s, hC0, hsz C0 d1, tp_bd_s, tp_lt_s, tp_lt_s, w32_id (show -2147483648 ≤ N ∧ N < 2147483648 by omega)]
    refine h _ (fun C1 q => ?_)
    try simp only
    rw [hsz C1 q, tp_bd_s, hsz C1 q, tp_bd_s]
  have hK : ∀ (Q : Int → tp_M → Prop) (k : Nat) (S1 : RS), rs_run T k 0 S0 S1 → (k : Int) ≤ min N 40 → (∀ (K : tp_M → tp_O) (C1 : tp_M) (m : Nat), (∀ C1 : tp_M, C1 1 1 = N → K C1 = if w32 N ≤ 40 then tp_jn0 (fun M30 => tp_bd (fx_X9_emitWaiting 20 1 M30) (fun r31 M32 => some (0, M32))) (fun jk134 => if w32 N ≤ 0 then jk134 C1 else tp_jn0 (fun M33 => tp_bd (fx_X7_size M33) (fun r34 M35 => some (-1 - r34, M35))) (fun jk127 => if w32 (C1 20 8) = 0 then (if w32 (C1 20 6) ≤ 0 then jk134 C1 else jk127 C1) else jk127 C1)) else some (-41, C1)) → tp_fr [20, 21, 22, 24] C C1 → rs_C C1 S1 → rs_ok k S1 → wp (fx_X9_read_L44 20 (min N 40) K (tp_lp1 (fx_X9_read_L44 20 (min N 40) K) m) (k : Int) C1) Q) → wp (fx_X9_read 20 C) Q := fun Q k S1 r1 r2 r3 => by
    refine hx Q (fun K hKK => ?_)
    refine cs_loop (T := T) (e := min N 40) hN hT (by omega) (by omega) k 0 tp_F S0 S1 C0 d1 d2 c0 o0 r1 (by omega) (tp_F_pos (by omega)) (fun C1 m f c o hm => ?_)
    cases m with
    | zero => unfold tp_F at hm; omega
    | succ m =>
      rw [tp_lp1_s]
      rw [Nat.zero_add] at o ⊢
      exact r3 K C1 m hKK (fr_tr f0 f) c o
  have hend : ∀ (K : tp_M → tp_O) (rec : Int → tp_M → tp_O) (k : Nat) (C1 : tp_M), (k : Int) = min N 40 → fx_X9_read_L44 20 (min N 40) K rec (k : Int) C1 = K C1 := fun K rec k C1 hk => by
    unfold fx_X9_read_L44
    rw [if_neg (by rw [hk]; omega)]
  refine ⟨fun r hb => ?_, fun K hg => ?_, fun hl => ?_⟩
  · obtain ⟨n0, q, q0, ⟨k, S1, k1, k2, k3, k4⟩, rfl⟩ := hb
    have k1 : q = (k : Int) := by omega
    subst k1
    refine hK _ k S1 k3 k2 (fun K C1 m hKK f c o => ?_)
    rcases k4 with ⟨k4, k5⟩ | ⟨k4, k5⟩
    · refine cs_iter (T := T) (e := min N 40) (p := k) (by rw [f 1 (by simp)]; exact h1) hN (by rw [f 2 (by simp)]; exact h2) hT (by omega) (by omega) c o k4 (fun S2 C2 e2 => by rw [k5] at e2; cases e2) (fun C2 e2 f2 => ⟨fr_tr f f2, ?_⟩)
      unfold rs_ans
      rw [if_neg (by omega)]
    · have hc11 : C1 1 1 = N := by rw [f 1 (by simp)]; exact h1
      rw [hend _ _ _ _ k4, hKK C1 hc11, w32_id (show -2147483648 ≤ N ∧ N < 2147483648 by omega)]
      unfold rs_ans
      by_cases n40 : N ≤ 40
      · rw [if_pos n40, if_neg (by omega)]
        refine wp_jn0 ?_
        rw [if_neg (by omega)]
        refine wp_jn0 ?_
        have fin : wp (tp_bd (fx_X7_size C1) (fun r34 M35 => some (-1 - r34, M35))) (fun x C2 => tp_fr [20, 21, 22, 24] C C2 ∧ x = -1 - (k : Int)) := by
          rw [hsz C1 hc11, tp_bd_s]
          exact wp_some ⟨f, by omega⟩
        rw [c.2.2.2.2.2.2.2, c.2.2.2.2.1]
        by_cases hw : S1.2.2.2.2 = true
        · rw [if_pos hw, if_neg (show ¬ w32 1 = 0 by decide)]
          exact fin
        · have o2 := o.2.1
          have : 2 ≤ S1.2.2.1.length := by
            rcases k5 with k5 | k5
            · exact absurd k5 hw
            · exact k5
          rw [if_neg hw, if_pos (show w32 0 = 0 by decide), w32_id (by omega), if_neg (by omega)]
          exact fin
      · rw [if_neg n40, if_pos (by omega)]
        exact wp_some ⟨f, rfl⟩
  · rcases hg with ⟨n0, rfl⟩ | ⟨⟨n0, n40⟩, k, S1, V, k1, k2, k3, k4, k5, k6, k7, k8, k9, k10, k11, k12, k13, k14⟩
    · refine hK _ 0 S0 rfl (by omega) (fun K C1 m hKK f c o => ?_)
      have hc11 : C1 1 1 = N := by rw [f 1 (by simp)]; exact h1
      rw [hend _ _ _ _ (by omega), hKK C1 hc11, n0, if_pos (by decide)]
      refine wp_jn0 ?_
      rw [if_pos (by decide)]
      refine wp_call (cs_pops (k := 1) (by omega) [] [] tp_F C1 c.1 c.2.1 c.2.2.1 c.2.2.2.1 (by decide) (fun x hx => by cases hx) (tp_F_pos (by decide))) (fun _ C2 q => ?_)
      obtain ⟨q1, q2, q3, q4, q5⟩ := q
      exact wp_some ⟨fr_tr f (fr_mono q1 (by simp)), rfl, q3, q4⟩
    · have k2 : N = (k : Int) := by omega
      have hmin : min N 40 = N := by omega
      refine hK _ k S1 k4 (by omega) (fun K' C1 m hKK f c o => ?_)
      have hc11 : C1 1 1 = N := by rw [f 1 (by simp)]; exact h1
      have hl := k9.2
      have hl1 : S1.2.2.1.length = 1 := hl
      rw [hend _ _ _ _ (by omega), hKK C1 hc11, w32_id (show -2147483648 ≤ N ∧ N < 2147483648 by omega), if_pos n40]
      refine wp_jn0 ?_
      rw [if_neg (by omega)]
      refine wp_jn0 ?_
      rw [c.2.2.2.2.2.2.2, c.2.2.2.2.1, k5, if_neg (show ¬ false = true by decide), if_pos (show w32 0 = 0 by decide), hl1, if_pos (by decide)]
      refine wp_call (cs_pops (k := 1) (by omega) S1.2.1 S1.1 tp_F C1 c.1 c.2.1 c.2.2.1 c.2.2.2.1 (by have := o.1; omega) o.2.2.1 (tp_F_pos (by have := o.1; omega))) (fun _ C2 q => ?_)
      obtain ⟨q1, q2, q3, q4, q5⟩ := q
      have hpp : rs_pops 1 S1.1 S1.2.1 = (K, []) := by
        rw [k6, k8]
        exact pops_V V S1.1 [] k7 (fun x hx => by cases hx)
      rw [hpp] at q3 q4
      exact wp_some ⟨fr_tr f (fr_mono q1 (by simp)), rfl, q3, q4⟩
  · obtain ⟨n40, K, k, S1, V, k1, k2, k3, k4, -⟩ := hl
    have k2 : 40 = (k : Int) := by omega
    refine hK _ k S1 k4 (by omega) (fun K' C1 m hKK f c o => ?_)
    have hc11 : C1 1 1 = N := by rw [f 1 (by simp)]; exact h1
    rw [hend _ _ _ _ (by omega), hKK C1 hc11, w32_id (show -2147483648 ≤ N ∧ N < 2147483648 by omega), if_neg (by omega)]
    exact wp_some ⟨f, rfl⟩
/-! the reference -/
theorem ps_faultOf {N b q e : Int} {M : tp_M} {most : Int} (hN : 0 ≤ N ∧ N ≤ 80) (hm : 0 ≤ most ∧ most ≤ 80) (hb : b = 0 ∨ b = 1) (hq : M 0 10 = q) (he : M 0 11 = e) (h : 0 ≤ q ∧ q ≤ e ∧ e ≤ 80) : fx_X11_faultOf N most b M = some (if most < N ∧ ((b = 1 ∧ q = e) ∨ most ≤ q) then -1 - most else if b = 1 ∧ q = e then 0 else -1 - q, M) := by
  unfold fx_X11_faultOf
  rw [tp_jn1_s]; (try dsimp only); rw [tp_jn0_s]; (try dsimp only); rw [hq, he, w32_id (show -2147483648 ≤ q ∧ q < 2147483648 by omega), w32_id (show -2147483648 ≤ e ∧ e < 2147483648 by omega), w32_id (show -2147483648 ≤ N ∧ N < 2147483648 by omega), w32_id (show -2147483648 ≤ most ∧ most < 2147483648 by omega)]
  simp only [tp_lt_n, tp_jn0_n, hq, show w32 0 = 0 from rfl, show w32 1 = 1 from rfl, if_true]
  have hbw : w32 b = b := by rcases hb with rfl | rfl <;> rfl
  rw [hbw]
  rcases hb with rfl | rfl
  all_goals repeat' split
  all_goals first | rfl | (exfalso; omega)
theorem dn_S0 {T : Int → Int} {e q : Int} {K : List Int} {c : Prop} (h : rs_dn T e 1 0 c 0 S0 q K) (hT : ∀ j : Int, 0 ≤ j → j < e → 0 ≤ T j ∧ T j < 256) (hq : q < e) : rs_fl T e 0 S0 q := by
  obtain ⟨k, S1, V, k1, k2, k3, k4, k5, k6, k7, k8, k9, k10, k11, k12, k13, k14⟩ := h
  obtain ⟨so, sw, sc, sd, st⟩ := S1
  simp only at k5
  subst k5
  obtain ⟨s1, s2, s3⟩ := k12 hq
  exact ⟨k, _, k2, k3, k4, Or.inl ⟨hq, step_stuck (hT q (by omega) hq) (fun _ => k9.2) (k11 hq) (s1 (by decide)) (s2 (by decide)) (s3 (by decide))⟩⟩
def rd_M (M M1 : tp_M) : Prop := tp_fr [0, 10] M M1 ∧ M1 0 9 = 0 ∧ ∀ j : Int, ¬ j = 9 → ¬ j = 10 → ¬ j = 11 → ¬ j = 12 → ¬ j = 19 → M1 0 j = M 0 j
theorem ps_readsRule {T : Int → Int} {N : Int} {M : tp_M} (h9 : M 0 9 = N) (hN : 0 ≤ N ∧ N ≤ 80) (h6 : M 6 = T) (hT : ∀ j : Int, 0 ≤ j → j < N → 0 ≤ T j ∧ T j < 256) :
    wp (fx_X11_readsRule M) (fun r M1 => rd_M M M1 ∧ ((rs_bad T N r ∧ r < 0) ∨ (r = 0 ∧ ∃ K : List Int, rs_good T N K ∧ K.length ≤ 40 ∧ (K = [] ∨ wl K 1) ∧ M1 0 19 = (K.length : Int) ∧ stk (M1 10) (K.map rc_map)) ∨ (r = -41 ∧ rs_long T N))) := by
  unfold fx_X11_readsRule fx_X11_begins
  rw [tp_lt_s, tp_lm_s, tp_lm_s, tp_lm_s, tp_lm_s, tp_bd_s, h9, w32_id (show -2147483648 ≤ N ∧ N < 2147483648 by omega), show w32 40 = 40 from rfl]
  refine wp_lt ?_
  refine wp_lm ?_
  refine wp_jn1 ?_
  refine wp_jn0 ?_
  generalize hM0 : tp_up (tp_up (tp_up (tp_up (tp_up M 0 9 0) 0 10 0) 0 12 0) 0 11 (min N 40)) 0 19 0 = M0
  have f0 : rd_M M M0 := by
    rw [← hM0]
    refine ⟨fr_up (fr_up (fr_up (fr_up (fr_up fr_rf (by simp)) (by simp)) (by simp)) (by simp)) (by simp), ?_, fun j a b c d e => ?_⟩
    · simp (disch := omega) only [up_j, up_s]
    · simp (disch := omega) only [up_j]
  have e10 : M0 0 10 = 0 := by rw [← hM0]; simp (disch := omega) only [up_j, up_s]
  have e11 : M0 0 11 = min N 40 := by rw [← hM0]; simp (disch := omega) only [up_j, up_s]
  have e12 : M0 0 12 = 0 := by rw [← hM0]; simp (disch := omega) only [up_j, up_s]
  have e19 : M0 0 19 = 0 := by rw [← hM0]; exact up_s _ _ _ _
  rw [w32_id (show -2147483648 ≤ N ∧ N < 2147483648 by omega)]
  by_cases n0 : N = 0
  · rw [if_pos n0]; (try dsimp only)
    refine wp_lt ?_
    rw [ps_faultOf (q := 0) (e := min N 40) hN (by omega) (Or.inr rfl) e10 e11 (by omega), tp_bd_s, if_neg (by omega), if_pos (by omega)]
    exact wp_some ⟨f0, Or.inr (Or.inl ⟨rfl, [], Or.inl ⟨n0, rfl⟩, by decide, Or.inl rfl, e19, trivial⟩)⟩
  · rw [if_neg n0]; (try dsimp only)
    have hT2 : ∀ j : Int, 0 ≤ j → j < min N 40 → 0 ≤ T j ∧ T j < 256 := fun j a b => hT j a (by omega)
    have hall := (rs_all (T := T) (e := min N 40) hT2 (by omega) 100).1
    refine wp_call (hall 0 0 S0 M0 (by omega) ⟨by rw [f0.1 6 (by simp)]; exact h6, e11, rfl, ⟨e19, trivial, e12, e10⟩, by omega, by decide, by decide⟩ (fun _ x hx => by cases hx) (fun _ => rfl) (by show min N 40 - 0 + 5 * (5 - ((1 : Nat) : Int)) + (4 - 0) + 1 ≤ ((100 : Nat) : Int); omega)) (fun x M1 w => ?_)
    obtain ⟨w1, w2⟩ := w
    have fm : rd_M M M1 := ⟨fr_tr f0.1 w1.1, by rw [w1.2 9 (by decide) (by decide) (by decide)]; exact f0.2.1, fun j a b c d e => (w1.2 j b d e).trans (f0.2.2 j a b c d e)⟩
    have g11 : M1 0 11 = min N 40 := by rw [w1.2 11 (by decide) (by decide) (by decide)]; exact e11
    rcases w2 with ⟨rfl, q, K, d1, d2⟩ | ⟨rfl, d1, -, -⟩
    · rw [if_neg (show ¬ w32 1 = 0 by decide)]
      refine wp_lt ?_
      have d1 : rs_dn T (min N 40) 1 0 (1 ≤ (0 : Int)) 0 S0 q K := d1
      have hq : 0 ≤ q ∧ q ≤ min N 40 := by
        obtain ⟨k, S1, V, k1, k2, k3, -⟩ := d1
        omega
      rw [ps_faultOf (q := q) (e := min N 40) hN (by omega) (Or.inr rfl) d2.2.2.2 g11 (by omega), tp_bd_s]
      refine wp_some ⟨fm, ?_⟩
      by_cases hqe : q = min N 40
      · by_cases n40 : N ≤ 40
        · rw [if_neg (by omega), if_pos ⟨rfl, hqe⟩]
          have hqN : q = N := by omega
          have d3 := d1
          obtain ⟨k, S1, V, k1, k2, k3, k4, k5, k6, k7, k8, k9, k10, k11, k12, k13, k14⟩ := d3
          refine Or.inr (Or.inl ⟨rfl, K, Or.inr ⟨⟨by omega, n40⟩, ⟨k, S1, V, k1, by omega, by omega, k4, k5, k6, k7, k8, k9, fun c => c.elim, fun c => by omega, fun c => by omega, k13, k14⟩⟩, ?_, Or.inr (k13 0 (by decide) rfl), d2.1, d2.2.1⟩)
          have : S0.1.length = 0 := rfl
          omega
        · rw [if_pos (by omega)]
          refine Or.inr (Or.inr ⟨rfl, by omega, K, ?_⟩)
          obtain ⟨k, S1, V, k1, k2, k3, k4, k5, k6, k7, k8, k9, k10, k11, k12, k13, k14⟩ := d1
          exact ⟨k, S1, V, k1, by omega, by omega, k4, k5, k6, k7, k8, k9, fun c => c.elim, fun c => by omega, fun c => by omega, k13, k14⟩
      · rw [if_neg (by omega), if_neg (by omega)]
        refine Or.inl ⟨⟨by omega, q, hq.1, dn_S0 d1 hT2 (by omega), ?_⟩, by omega⟩
        unfold rs_ans
        rw [if_neg (by omega)]
    · rw [if_pos (show w32 0 = 0 by decide)]
      refine wp_lt ?_
      have hq : 0 ≤ M1 0 10 ∧ M1 0 10 ≤ min N 40 := by
        obtain ⟨k, S1, k1, k2, -⟩ := d1
        omega
      rw [ps_faultOf (q := M1 0 10) (e := min N 40) hN (by omega) (Or.inl rfl) rfl g11 (by omega), tp_bd_s]
      refine wp_some ⟨fm, Or.inl ⟨⟨by omega, M1 0 10, hq.1, d1, ?_⟩, ?_⟩⟩
      · unfold rs_ans
        by_cases c : 40 < N ∧ 40 ≤ M1 0 10
        · rw [if_pos (by omega), if_pos c]; rfl
        · rw [if_neg (by omega), if_neg (by omega), if_neg c]
      · split <;> omega
/-- both readers at one text -/
theorem w2_reads {T : Int → Int} {N : Int} {C M : tp_M} (h1 : C 1 1 = N) (hN : 0 ≤ N ∧ N ≤ 80) (h2 : ∀ j : Int, 0 ≤ j → j < N → C 2 j = T j) (hT : ∀ j : Int, 0 ≤ j → j < N → 0 ≤ T j ∧ T j < 256) (h9 : M 0 9 = N) (h6 : M 6 = T) :
    ∃ (r : Int) (C1 M1 : tp_M), fx_X9_read 20 C = some (r, C1) ∧ fx_X11_readsRule M = some (r, M1) ∧ tp_fr [20, 21, 22, 24] C C1 ∧ rd_M M M1 ∧ (-100 ≤ r ∧ r ≤ 0) ∧ (r = 0 → ∃ K : List Int, K.length ≤ 40 ∧ (K = [] ∨ wl K 1) ∧ C1 20 4 = (K.length : Int) ∧ stk (C1 21) K ∧ M1 0 19 = (K.length : Int) ∧ stk (M1 10) (K.map rc_map)) := by
  obtain ⟨r, M1, e1, m1, m2⟩ := ps_readsRule h9 hN h6 hT
  obtain ⟨a1, a2, a3⟩ := cs_readAny h1 hN h2 hT
  rcases m2 with ⟨m2, m3⟩ | ⟨rfl, K, m2, m3, m4, m5, m6⟩ | ⟨rfl, m2⟩
  · obtain ⟨x, C1, e2, c1, rfl⟩ := a1 r m2
    refine ⟨x, C1, M1, e2, e1, c1, m1, ?_, fun q => by omega⟩
    obtain ⟨n0, q, q0, ⟨k, S1, k1, k2, -⟩, q2⟩ := m2
    unfold rs_ans at q2
    split at q2 <;> omega
  · obtain ⟨x, C1, e2, c1, rfl, c2, c3⟩ := a2 K m2
    exact ⟨0, C1, M1, e2, e1, c1, m1, by omega, fun _ => ⟨K, m3, m4, c2, c3, m5, m6⟩⟩
  · obtain ⟨x, C1, e2, c1, rfl⟩ := a3 m2
    exact ⟨-41, C1, M1, e2, e1, c1, m1, by omega, fun q => by omega⟩
