/-! DAY: done, and the call -/
section EX
variable {T : Int → Int} {N B : Int} {C0 M0 : tp_M}
/-- as far as done -/
def ex_ok (C0 M0 : tp_M) (B : Int) (C M : tp_M) : Prop := ac_C C0 C ∧ ac_M M0 M ∧ ac_row C M (M0 0 3) (M0 2) B
theorem ex_env {C M : tp_M} (hE : ac_env C0 M0) (h : ex_ok C0 M0 B C M) : ac_env C M ∧ ac_row C M (M 0 3) (M 2) B := by
  obtain ⟨f, g, r⟩ := h
  unfold ac_env at hE ⊢
  have e3 : M 0 3 = M0 0 3 := g.2 3 (by simp)
  have e18 : M 0 18 = M0 0 18 := g.2 18 (by simp)
  rw [e3, e18, g.1 2 (by simp), g.1 3 (by simp), g.1 9 (by simp), f 15 (by simp), f 16 (by simp)]
  exact ⟨⟨nC_fr hE.1 (f 5 (by simp)) (f 6 (by simp)) (f 7 (by simp)) (f 8 (by simp)) (f 9 (by simp)), hE.2⟩, r⟩
theorem ex_next {C M C1 M1 : tp_M} {B2 : Int} (h : ex_ok C0 M0 B C M) (f : ac_C C C1) (g : ac_M M M1) (r : ac_row C1 M1 (M 0 3) (M 2) B2) : ex_ok C0 M0 B2 C1 M1 := by
  have e3 : M 0 3 = M0 0 3 := h.2.1.2 3 (by simp)
  have e2 : M 2 = M0 2 := h.2.1.1 2 (by simp)
  exact ⟨fr_tr h.1 f, ⟨fr_tr h.2.1.1 g.1, fun j hj => (g.2 j hj).trans (h.2.1.2 j hj)⟩, by rw [← e3, ← e2]; exact r⟩
theorem ac_le {C M : tp_M} {n : Int} {D : Int → Int} {B B2 : Int} (hB : B ≤ B2) (h : ac_row C M n D B) : ac_row C M n D B2 := sm_row_le hB h
/-- one act on both sides -/
theorem ex_act {C M : tp_M} {k : Nat} {p a b : Int} (hE : ac_env C0 M0) (h : ex_ok C0 M0 B C M) (hB : 99 ≤ B ∧ B ≤ 800000) (hT : ∀ j : Int, 0 ≤ j → j < N → 0 ≤ T j ∧ T j < 256) (hN : N ≤ 60) (hp : 0 ≤ p) (hk : k < 60) (hd : dok T N p) (h16 : M 16 (k : Int) = dk (T p)) (h17 : 2 ≤ dl (T p) → M 17 (k : Int) = T (p + 1) - 48) (h18 : dl (T p) = 3 → M 18 (k : Int) = T (p + 2) - 48) (ha : 2 ≤ dl (T p) → a = T (p + 1)) (hb : dl (T p) = 3 → b = T (p + 2)) :
    wp2 (fx_X10_act (T p) (a - 48) (b - 48) C) (fx_X11_does (k : Int) M) (fun r1 C1 r2 M1 => ac_in r1 ∧ r2 = (if r1 < 0 then 0 else 1) ∧ ex_ok C0 M0 (B + 4) C1 M1) := by
  obtain ⟨d1, d2, d3, d4⟩ := hd
  have hdl := dl_in (T p)
  have hc := hT p hp (by omega)
  obtain ⟨l1, l2, l3⟩ := dl_dk (c := T p)
  obtain ⟨g0, g1, g2, g3, g4, g5⟩ := dk_sg (c := T p)
  have hk5 := dk_in (T p)
  obtain ⟨eE, eR⟩ := ex_env hE h
  have fin : ∀ {P : tp_M → tp_M → Int → Prop} {o1 o2 : tp_O} {B2 : Int}, B2 ≤ B + 4 → wp2 o1 o2 (ac_post C M B2 P) → wp2 (tp_bd o1 (fun r C1 => some (r, C1))) (tp_bd o2 (fun r M1 => if w32 r < 0 then some (0, M1) else some (1, M1))) (fun r1 C1 r2 M1 => ac_in r1 ∧ r2 = (if r1 < 0 then 0 else 1) ∧ ex_ok C0 M0 (B + 4) C1 M1) := fun {P o1 o2 B2} hB2 hw => by
    refine wp2_call hw (fun r1 C1 r2 M1 q => ?_)
    obtain ⟨rfl, q2, q3, q4, q5, -⟩ := q
    have hin := q2
    unfold ac_in at hin
    have hx := ex_next h q3 q4 (ac_le hB2 q5)
    rw [w32_id (by omega)]
    by_cases c : r1 < 0
    · rw [if_pos c]
      exact wp2_some ⟨q2, by rw [if_pos c], hx⟩
    · rw [if_neg c]
      exact wp2_some ⟨q2, by rw [if_neg c], hx⟩
  unfold fx_X10_act fx_X11_does
  rw [w32_id (show -2147483648 ≤ (k : Int) ∧ (k : Int) < 2147483648 by omega)]
  refine wp2_ck2 (by omega) ?_
  refine wp2_lt2 ?_
  refine wp2_ck2 (by omega) ?_
  rw [h16, w32_id (show -2147483648 ≤ T p ∧ T p < 2147483648 by omega), w32_id (show -2147483648 ≤ dk (T p) ∧ dk (T p) < 2147483648 by omega)]
  have pin : ∀ x : Int, 0 ≤ x → x < 256 → pu_in (x - 48) := fun x x1 x2 => by unfold pu_in; omega
  have hq1 : 2 ≤ dl (T p) → 0 ≤ T (p + 1) ∧ T (p + 1) < 256 := fun q => hT _ (by omega) (by omega)
  have hq2 : dl (T p) = 3 → 0 ≤ T (p + 2) ∧ T (p + 2) < 256 := fun q => hT _ (by omega) (by omega)
  have h6 : dk (T p) = 0 ∨ dk (T p) = 1 ∨ dk (T p) = 2 ∨ dk (T p) = 3 ∨ dk (T p) = 4 ∨ dk (T p) = 5 := by omega
  rcases h6 with q | q | q | q | q | q
  · have := g0.mp q
    rw [if_neg (by omega), if_neg (by omega), if_neg (by omega), if_neg (by omega), if_neg (by omega), if_pos q]
    exact fin (by omega) (ac_calms eE eR (by omega))
  · have := g1.mp q
    rw [if_neg (by omega), if_neg (by omega), if_pos (by omega), if_neg (by omega), if_pos q, h17 (by omega), ha (by omega)]
    exact fin (by omega) (ac_goes (pin _ (hq1 (by omega)).1 (hq1 (by omega)).2) eE eR (by omega))
  · have := g2.mp q
    rw [if_neg (by omega), if_neg (by omega), if_neg (by omega), if_neg (by omega), if_pos (by omega), if_neg (by omega), if_neg (by omega), if_pos q, h17 (by omega), ha (by omega)]
    exact fin (by omega) (ac_walks (pin _ (hq1 (by omega)).1 (hq1 (by omega)).2) eE eR (by omega))
  · have := g3.mp q
    rw [if_pos (by omega), if_neg (by omega), if_neg (by omega), if_neg (by omega), if_pos q, h17 (by omega), ha (by omega)]
    exact fin (by omega) (ac_bursts (pin _ (hq1 (by omega)).1 (hq1 (by omega)).2) eE eR (by omega))
  · have := g4.mp q
    rw [if_neg (by omega), if_pos (by omega), if_neg (by omega), if_neg (by omega), if_neg (by omega), if_neg (by omega), if_pos q, tp_ck_t (by omega), h17 (by omega), ha (by omega), h18 (by omega), hb (by omega)]
    exact fin (by omega) (ac_comes (pin _ (hq1 (by omega)).1 (hq1 (by omega)).2) (pin _ (hq2 (by omega)).1 (hq2 (by omega)).2) eE eR (by omega) (by omega))
  · have := g5.mp q
    rw [if_neg (by omega), if_neg (by omega), if_neg (by omega), if_pos (by omega), if_neg (by omega), if_neg (by omega), if_neg (by omega), if_neg (by omega), if_neg (by omega), tp_ck_t (by omega), h17 (by omega), ha (by omega), h18 (by omega), hb (by omega)]
    exact fin (by omega) (ac_points (pin _ (hq1 (by omega)).1 (hq1 (by omega)).2) (pin _ (hq2 (by omega)).1 (hq2 (by omega)).2) eE eR)
theorem cs_tx_u {C : tp_M} {p : Int} (h1 : C 1 1 = N) (hN : 0 ≤ N ∧ N ≤ 80) (hp : 0 ≤ p ∧ p < 100) : fx_X7_at p C = some (if p < N then C 2 p else -1, C) := by
  by_cases h : p < N
  · rw [cs_tx h1 hN ⟨hp.1, h⟩, if_pos h]
  · unfold fx_X7_at
    rw [h1, w32_id (show -2147483648 ≤ p ∧ p < 2147483648 by omega), if_neg (by omega), w32_id (by omega), if_neg h, if_neg h]
/-- all acts, as far as none is refused -/
theorem ex_loop {c1 : Int} {K1 : Int → Int → tp_M → tp_O} {K2 : Int → tp_M → tp_O} {Q : Int → tp_M → Int → tp_M → Prop} (hE : ac_env C0 M0) (h1 : C0 1 1 = N) (hN : 0 ≤ N ∧ N ≤ 60) (h2 : ∀ j : Int, 0 ≤ j → j < N → C0 2 j = T j) (hT : ∀ j : Int, 0 ≤ j → j < N → 0 ≤ T j ∧ T j < 256) (hB : 99 ≤ B ∧ B ≤ 700000) {k : Nat} (hk : ∀ i : Nat, i < k → dok T N (dp T i)) (hkN : dp T k = N) (har : dar T M0 k) (h30 : M0 0 30 = (k : Int))
    (hQ : ∀ (j : Nat) (f : Int) (C M : tp_M), j ≤ k → f = (if j < k then 1 else 0) → ex_ok C0 M0 (B + 300) C M → wp2 (K1 (j : Int) f C) (K2 (j : Int) M) Q) :
    ∀ (m j : Nat) (C M : tp_M) (n1 n2 : Nat), m + j = k → ex_ok C0 M0 (B + 4 * (j : Int)) C M → N - dp T j + 2 ≤ (n1 : Int) → m + 1 ≤ n2 → wp2 (tp_lp3 (fx_X10_day_L40 c1 N K1) n1 (j : Int) 0 (dp T j) C) (tp_lp1 (fx_X11_day_L64 K2) n2 (j : Int) M) Q := by
  intro m
  induction m with
  | zero =>
    intro j C M n1 n2 hm hx hn1 hn2
    have hj : j = k := by omega
    subst hj
    have hge := dp_ge T j
    obtain ⟨n1, rfl⟩ : ∃ a, n1 = a + 1 := ⟨n1 - 1, by omega⟩
    obtain ⟨n2, rfl⟩ : ∃ a, n2 = a + 1 := ⟨n2 - 1, by omega⟩
    rw [tp_lp3_s, tp_lp1_s]
    unfold fx_X10_day_L40 fx_X11_day_L64
    rw [hkN, if_neg (by omega), hx.2.1.2 30 (by simp), h30, if_neg (by omega)]
    exact hQ j 0 C M (Nat.le_refl j) (by rw [if_neg (by omega)]) ⟨hx.1, hx.2.1, ac_le (by omega) hx.2.2⟩
  | succ m ih =>
    intro j C M n1 n2 hm hx hn1 hn2
    have hge := dp_ge T j
    have hgk := dp_ge T k
    have hd := hk j (by omega)
    obtain ⟨d1, d2, d3, d4⟩ := hd
    have hdl := dl_in (T (dp T j))
    have e1 : dp T (j + 1) = dp T j + dl (T (dp T j)) := rfl
    obtain ⟨a1, a2, a3⟩ := har j (by omega)
    have hc := hT (dp T j) (by omega) (by omega)
    obtain ⟨n1, rfl⟩ : ∃ a, n1 = a + 1 := ⟨n1 - 1, by omega⟩
    obtain ⟨n2, rfl⟩ : ∃ a, n2 = a + 1 := ⟨n2 - 1, by omega⟩
    have c11 : C 1 1 = N := by rw [hx.1 1 (by simp)]; exact h1
    have c2 : ∀ i : Int, 0 ≤ i → i < N → C 2 i = T i := by rw [hx.1 2 (by simp)]; exact h2
    have hat (p : Int) (hp : 0 ≤ p ∧ p < 100) := cs_tx_u (C := C) (p := p) c11 (by omega) hp
    rw [tp_lp3_s, tp_lp1_s]
    have hdok := hk j (by omega)
    generalize hp : dp T j = p at *
    have hL : ∀ (n : Nat) (C1 : tp_M) (z : Int) (l : Int), C1 1 1 = N → (∀ i : Int, 0 ≤ i → i < N → C1 2 i = T i) → 1 ≤ z → z ≤ dl (T p) → l = dl (T p) - z → (∃ n2 : Nat, (n2 : Int) = (n : Int) - l ∧ (l ≤ (n : Int) → tp_lp3 (fx_X10_day_L40 c1 N K1) n ((j : Int) + 1) 0 (p + z) C1 = tp_lp3 (fx_X10_day_L40 c1 N K1) n2 ((j : Int) + 1) 0 (p + dl (T p)) C1)) ∨ (n : Int) < l := by
      intro n C1 z l f1 f2 z1 z2 hl
      have stepd : ∀ (rec : Int → Int → Int → tp_M → tp_O) (x : Int), p + 1 ≤ x → x < p + dl (T p) → dk (T x) < 0 → fx_X10_day_L40 c1 N K1 rec ((j : Int) + 1) 0 x C1 = rec ((j : Int) + 1) 0 (x + 1) C1 := fun rec x x1 x2 x3 => by
        have hcx := hT x (by omega) (by omega)
        unfold fx_X10_day_L40
        rw [w32_id (show -2147483648 ≤ x ∧ x < 2147483648 by omega), w32_id (show -2147483648 ≤ N ∧ N < 2147483648 by omega), if_pos (by omega), if_pos (show w32 0 = 0 by decide), cs_tx f1 (by omega) (by omega), tp_bd_s, f2 x (by omega) (by omega), cs_isAct hcx, tp_bd_s, tp_jn2_s]; (try dsimp only); rw [if_neg (show ¬ 0 ≤ dk (T x) by omega), if_pos (show w32 0 = 0 by decide), tp_lt_s]
      have hsec : dl (T p) = 3 → dk (T (p + 2)) < 0 := fun q => by
        have := d4 q
        unfold dsec at this
        unfold dk
        repeat' split
        all_goals omega
      have hfir : 2 ≤ dl (T p) → dk (T (p + 1)) < 0 := fun q => by
        have := d3 q
        unfold dk
        repeat' split
        all_goals omega
      by_cases hnl : (n : Int) < l
      · exact Or.inr hnl
      · refine Or.inl ⟨n - l.toNat, by omega, fun _ => ?_⟩
        have h3 : l = 0 ∨ l = 1 ∨ l = 2 := by omega
        rcases h3 with h3 | h3 | h3
        · rw [h3, show z = dl (T p) by omega]
          rfl
        · obtain ⟨n, rfl⟩ : ∃ a, n = a + 1 := ⟨n - 1, by omega⟩
          rw [tp_lp3_s, stepd _ (p + z) (by omega) (by omega) ?_, h3, show p + z + 1 = p + dl (T p) by omega]
          · rfl
          · by_cases q : z = 1
            · rw [q]; exact hfir (by omega)
            · rw [show z = 2 by omega]; exact hsec (by omega)
        · obtain ⟨n, rfl⟩ : ∃ a, n = a + 1 + 1 := ⟨n - 2, by omega⟩
          have z11 : z = 1 := by omega
          rw [tp_lp3_s, stepd _ (p + z) (by omega) (by omega) (by rw [z11]; exact hfir (by omega)), tp_lp3_s, stepd _ (p + z + 1) (by omega) (by omega) (by rw [z11, show p + 1 + 1 = p + 2 by omega]; exact hsec (by omega)), h3, show p + z + 1 + 1 = p + dl (T p) by omega]
          rfl
    have hs1 : ∀ rec : Int → Int → Int → tp_M → tp_O, fx_X10_day_L40 c1 N K1 rec (j : Int) 0 p C = tp_bd (fx_X10_act (T p) ((if p + 1 < N then C 2 (p + 1) else -1) - 48) ((if p + 2 < N then C 2 (p + 2) else -1) - 48) C) (fun r M33 => if w32 r < 0 then rec (j : Int) 1 (p + 1) M33 else rec ((j : Int) + 1) 0 (p + 1) M33) := fun rec => by
      have hpN : p < N := by omega
      unfold fx_X10_day_L40
      rw [w32_id (show -2147483648 ≤ p ∧ p < 2147483648 by omega), w32_id (show -2147483648 ≤ N ∧ N < 2147483648 by omega), if_pos hpN, if_pos (show w32 0 = 0 by decide), hat p (by omega), tp_bd_s, if_pos hpN, c2 p (by omega) (by omega), cs_isAct hc, tp_bd_s, if_pos d1, tp_jn2_s]; (try dsimp only); rw [if_neg (show ¬ w32 1 = 0 by decide), hat p (by omega), tp_bd_s, if_pos hpN, c2 p (by omega) (by omega), hat (p + 1) (by omega), tp_bd_s, hat (p + 2) (by omega), tp_bd_s]
      rfl
    have hs2 : ∀ rec : Int → tp_M → tp_O, fx_X11_day_L64 K2 rec (j : Int) M = tp_bd (fx_X11_does (j : Int) M) (fun r M24 => if w32 r = 0 then K2 (j : Int) M24 else rec ((j : Int) + 1) M24) := fun rec => by
      unfold fx_X11_day_L64
      rw [hx.2.1.2 30 (by simp), h30, w32_id (show -2147483648 ≤ (j : Int) ∧ (j : Int) < 2147483648 by omega), w32_id (show -2147483648 ≤ (k : Int) ∧ (k : Int) < 2147483648 by omega), if_pos (by omega)]
      rfl
    have hjk : j < 60 := by omega
    rw [hs1, hs2]
    refine wp2_call (ex_act (T := T) (N := N) (p := p) (k := j) hE hx (by omega) hT hN.2 (by omega) hjk hdok (by rw [hx.2.1.1 16 (by simp)]; exact a1) (fun q => by rw [hx.2.1.1 17 (by simp)]; exact a2 q) (fun q => by rw [hx.2.1.1 18 (by simp)]; exact a3 q) (fun q => by rw [if_pos (by omega), c2 _ (by omega) (by omega)]) (fun q => by rw [if_pos (by omega), c2 _ (by omega) (by omega)])) (fun r1 C1 r2 M1 w => ?_)
    obtain ⟨w1, w2, w3⟩ := w
    unfold ac_in at w1
    rw [w32_id (show -2147483648 ≤ r1 ∧ r1 < 2147483648 by omega)]
    by_cases cr : r1 < 0
    · rw [if_pos cr] at w2 ⊢
      rw [w2, if_pos (show w32 0 = 0 by decide)]
      obtain ⟨n1, rfl⟩ : ∃ a, n1 = a + 1 := ⟨n1 - 1, by omega⟩
      rw [tp_lp3_s]
      have : ∀ rec : Int → Int → Int → tp_M → tp_O, fx_X10_day_L40 c1 N K1 rec (j : Int) 1 (p + 1) C1 = K1 (j : Int) 1 C1 := fun rec => by
        unfold fx_X10_day_L40
        by_cases q : w32 (p + 1) < w32 N
        · rw [if_pos q, if_neg (by decide)]
        · rw [if_neg q]
      rw [this]
      exact hQ j 1 C1 M1 (by omega) (by rw [if_pos (by omega)]) ⟨w3.1, w3.2.1, ac_le (by omega) w3.2.2⟩
    · rw [if_neg cr] at w2 ⊢
      rw [w2, if_neg (show ¬ w32 1 = 0 by decide)]
      rcases hL n1 C1 1 (dl (T p) - 1) (by rw [w3.1 1 (by simp)]; exact h1) (by rw [w3.1 2 (by simp)]; exact h2) (by omega) (by omega) rfl with ⟨n3, q1, q2⟩ | q
      · rw [q2 (by omega)]
        have := ih (j + 1) C1 M1 n3 n2 (by omega) (by rw [show B + 4 * ((j + 1 : Nat) : Int) = B + 4 * (j : Int) + 4 by omega]; exact w3) (by rw [e1]; omega) (by omega)
        rw [e1] at this
        exact this
      · omega
end EX
section ST
variable {B : Int} {C M : tp_M}
theorem st_day (hB : 1000 ≤ B ∧ B ≤ 600000) (h : Sim B C M) : wp2 (fx_X10_day C) (fx_X11_day M) (Ans (B + 1000)) := by
  obtain ⟨⟨t1, t2⟩, t3, t4⟩ := txt_T h
  have n8 := h.2.2.1.2.1.1
  have hu := h.2.2.2.2.2.1
  have hk := h.2.2.2.2.2.2.1
  have hrw := h.2.2.2.1
  generalize hT : M 6 = T at *
  generalize hNN : M 0 9 = N at *
  unfold fx_X10_day fx_X11_day fx_X11_begins
  refine wp2_lm2 ?_
  rw [tp_lt_s, tp_lm_s, tp_lm_s, tp_lm_s, tp_lm_s, tp_bd_s, show tp_up M 0 0 0 0 9 = N by rw [up_j _ _ _ (by decide)]; exact hNN, w32_id (show -2147483648 ≤ N ∧ N < 2147483648 by omega), show w32 60 = 60 from rfl]
  refine wp2_lt2 ?_
  refine wp2_lm2 ?_
  refine wp2_lt2 ?_
  generalize hM0 : tp_up (tp_up (tp_up (tp_up (tp_up (tp_up M 0 0 0) 0 9 0) 0 10 0) 0 12 0) 0 11 (min N 60)) 0 30 0 = M0
  have fM0 : tp_fr [0] M M0 := by rw [← hM0]; exact fr_up (fr_up (fr_up (fr_up (fr_up (fr_up fr_rf (by simp)) (by simp)) (by simp)) (by simp)) (by simp)) (by simp)
  have m09 : M0 0 9 = 0 := by rw [← hM0]; simp (disch := omega) only [up_j, up_s]
  have m010 : M0 0 10 = 0 := by rw [← hM0]; simp (disch := omega) only [up_j, up_s]
  have m011 : M0 0 11 = min N 60 := by rw [← hM0]; simp (disch := omega) only [up_j, up_s]
  have m030 : M0 0 30 = 0 := by rw [← hM0]; exact up_s _ _ _ _
  have m0j : ∀ j : Int, j ∈ ([1, 3, 18, 23, 39, 44] : List Int) → M0 0 j = M 0 j := fun j hj => by
    simp only [List.mem_cons, List.not_mem_nil, or_false] at hj
    rw [← hM0]; simp (disch := omega) only [up_j]
  have m06 : M0 6 = T := by rw [fM0 6 (by simp)]; exact hT
  have hsz : fx_X7_size C = some (N, C) := by rw [pc_X7_size, t1]
  have hT2 : ∀ j : Int, 0 ≤ j → j < min N 60 → 0 ≤ T j ∧ T j < 256 := fun j a b => t4 j a (by omega)
  have go : ∀ (o1 o2 : tp_O) (Q : Int → tp_M → Int → tp_M → Prop), wp o2 (fun r M1 => wp2 o1 (some (r, M1)) Q) → wp2 o1 o2 Q := fun o1 o2 Q ⟨r, M1, e, hp⟩ => by rw [e]; exact hp
  have swp : ∀ (o1 o2 : tp_O) (Q : Int → tp_M → Int → tp_M → Prop), wp2 o1 o2 Q → wp o2 (fun r M1 => wp2 o1 (some (r, M1)) Q) := fun o1 o2 Q hw => by
    obtain ⟨q1, q2, e1, e2, hq⟩ := hw
    exact ⟨q2.1, q2.2, e2, ⟨q1, q2, e1, rfl, hq⟩⟩
  have bad : ∀ (r : Int) (M1 : tp_M), (-2147483648 ≤ r ∧ r < 0) → dy_M M0 M1 → fx_X10_checkDay C = some (r, C) → wp2 (tp_bd (fx_X10_checkDay C) (fun r1 M2 => tp_lt r1 (fun x3 => tp_jn1 (fun y4 M5 => tp_lt y4 (fun x6 => tp_lt 0 (fun x7 => tp_lt 0 (fun x8 => tp_bd (fx_X2_copyFrom 31 25 M5) (fun r9 M10 => tp_lt 0 (fun x11 => tp_lp3 (fx_X10_day_L40 x3 x6 (fun y16 y17 M37 => tp_bd (fx_X7_cut 0 M37) (fun r38 M39 => if w32 x3 < 0 then some (x3, M39) else tp_jn0 (fun M40 => tp_bd (fx_X8_tell__ (w32 y17) (w32 (M40 25 2)) M40) (fun r41 M42 => some (y16, M42))) (fun jk161 => if w32 y16 ≤ 0 then jk161 M39 else tp_bd (fx_X3_push 31 M39) (fun r43 M44 => jk161 M44))))) tp_F x7 x8 x11 M10)))))) (fun jk20 => if w32 x3 < 0 then jk20 0 M2 else tp_bd (fx_X7_size M2) (fun r45 M46 => jk20 r45 M46))))) (some (r, M1)) (Ans (B + 1000)) := fun r M1 hr f hq => by
    rw [hq, tp_bd_s, tp_lt_s, tp_jn1_s]; (try dsimp only); rw [w32_id (by omega), if_pos hr.2, tp_lt_s, tp_lt_s, tp_lt_s]
    refine wp2_c1 (wr_c C) (fun _ C1 w => ?_)
    rw [tp_lt_s]
    have : ∀ n : Nat, 1 ≤ n → ∀ K : Int → Int → tp_M → tp_O, tp_lp3 (fx_X10_day_L40 r 0 K) n 0 0 0 C1 = K 0 0 C1 := fun n hn K => by
      obtain ⟨n, rfl⟩ : ∃ a, n = a + 1 := ⟨n - 1, by omega⟩
      rw [tp_lp3_s]
      unfold fx_X10_day_L40
      rw [if_neg (by decide)]
    rw [this tp_F (by unfold tp_F; omega)]
    refine wp2_c1 (cs_cut0 (C := C1) (N := N) (by rw [w.1 1 (by simp)]; exact t1) t2) (fun _ C2 v => ?_)
    rw [if_pos hr.2]
    refine wp2_some ⟨rfl, Sim_txt h (by omega) (SC := [1, 31, 32, 33]) (SM := [0, 16, 17, 18]) (fr_tr (fr_mono w.1 (by simp)) (fr_mono v.1 (by simp))) (fr_tr (fr_mono fM0 (by simp)) f.1) (by decide) (by decide) (fun j hj => ?_) (txt_0 v.2 (by rw [f.2 9 (by decide) (by decide)]; exact m09))⟩
    rw [← m0j j hj]
    simp only [List.mem_cons, List.not_mem_nil, or_false] at hj
    exact f.2 j (by omega) (by omega)
  refine go _ _ _ ?_
  refine ps_dayreads (T := T) (e := min N 60) m06 m011 m010 m030 (by omega) hT2 (fun k M1 hkN hdp hok f e10 e30 har => ?_) (fun k q M1 hdp hok hno f e10 => ?_)
  · refine swp _ _ _ ?_
    have g11 : M1 0 11 = min N 60 := by rw [f.2 11 (by decide) (by decide)]; exact m011
    have hcd := (cs_checkDay (T := T) (e := min N 60) t1 t2 t3 t4 rfl k hok).1 hdp
    rw [ps_faultOf (q := min N 60) (e := min N 60) t2 (by omega) (Or.inr rfl) e10 g11 (by omega), tp_bd_s]
    refine wp2_lt2 ?_
    have hv : (if 60 < N ∧ (((1 : Int) = 1 ∧ min N 60 = min N 60) ∨ 60 ≤ min N 60) then (-1 - 60 : Int) else if (1 : Int) = 1 ∧ min N 60 = min N 60 then 0 else -1 - min N 60) = if 60 < N then -61 else 0 := by
      by_cases c : 60 < N
      · rw [if_pos ⟨c, Or.inl ⟨rfl, rfl⟩⟩, if_pos c]; rfl
      · rw [if_neg (fun q => c q.1), if_pos ⟨rfl, rfl⟩, if_neg c]
    rw [hv]
    by_cases n60 : 60 < N
    · rw [if_pos n60, if_pos (show w32 (-61) < 0 by decide)]
      exact bad (-61) M1 (by omega) f (by rw [hcd, if_pos n60])
    · rw [if_neg n60, if_neg (show ¬ w32 0 < 0 by decide), hcd, if_neg n60, tp_bd_s]
      have hmin : min N 60 = N := by omega
      rw [hmin] at hdp hok hkN
      refine wp2_lt1 ?_
      refine wp2_jn11 ?_
      rw [if_neg (show ¬ w32 0 < 0 by decide), hsz, tp_bd_s]
      refine wp2_lt1 ?_
      refine wp2_lt1 ?_
      refine wp2_lt1 ?_
      refine wp2_c1 (wr_c C) (fun _ C1 wc => ?_)
      have e23 : M1 0 23 = M 0 23 := by rw [f.2 23 (by decide) (by decide)]; exact m0j 23 (by simp)
      have fMM1 : tp_fr [0, 16, 17, 18] M M1 := fr_tr (fr_mono fM0 (by simp)) f.1
      have f0j : ∀ j : Int, j ∈ ([1, 3, 18, 23, 39, 44] : List Int) → M1 0 j = M 0 j := fun j hj => by
        have hj2 := hj
        simp only [List.mem_cons, List.not_mem_nil, or_false] at hj2
        rw [f.2 j (by omega) (by omega)]; exact m0j j hj
      refine wp2_c2 (pm_putsBy (M := M1) (u := M 0 23) e23 hu.2.1) (fun _ M2 wp => ?_)
      obtain ⟨p1, p2⟩ := wp
      have b0 : M2 0 = M1 0 := p1 0 (by simp)
      refine wp2_lt1 ?_
      refine wp2_lt2 ?_
      have c1f := wc.1
      have hE : ac_env C1 M2 ∧ ac_row C1 M2 (M2 0 3) (M2 2) B := by
        unfold ac_env ac_row
        rw [b0, f0j 3 (by simp), f0j 18 (by simp), p1 2 (by simp), p1 3 (by simp), p1 4 (by simp), p1 9 (by simp), fMM1 2 (by simp), fMM1 3 (by simp), fMM1 4 (by simp), fMM1 9 (by simp), c1f 15 (by simp), c1f 16 (by simp), c1f 25 (by simp), c1f 26 (by simp), c1f 27 (by simp)]
        exact ⟨⟨nC_fr h.2.2.1 (c1f 5 (by simp)) (c1f 6 (by simp)) (c1f 7 (by simp)) (c1f 8 (by simp)) (c1f 9 (by simp)), h.2.2.2.2.1⟩, hrw⟩
      have hF : (tp_F : Int) = 100000000 := rfl
      refine ex_loop (T := T) (N := N) (C0 := C1) (M0 := M2) (B := B) (k := k) hE.1 (by rw [c1f 1 (by simp)]; exact t1) (by omega) (by rw [c1f 2 (by simp)]; exact t3) t4 (by omega) hok hdp (fun i hi => by rw [p1 16 (by simp), p1 17 (by simp), p1 18 (by simp)]; exact har i hi) (by rw [b0]; exact e30) (fun j fl C3 M3 hj hfl hx => ?_) k 0 C1 M2 tp_F tp_F rfl ⟨fr_rf, ⟨fr_rf, fun _ _ => rfl⟩, by simpa using hE.2⟩ (by show N - 0 + 2 ≤ _; omega) (by omega)
      obtain ⟨x1, x2, x3⟩ := hx
      try simp only
      refine wp2_c1 (cs_cut0 (C := C3) (N := N) (by rw [x1 1 (by simp), c1f 1 (by simp)]; exact t1) t2) (fun _ C4 v => ?_)
      obtain ⟨v1, v2⟩ := v
      rw [if_neg (show ¬ w32 0 < 0 by decide)]
      refine wp2_jn01 ?_
      refine wp2_lm2 ?_
      refine wp2_jn12 ?_
      have y30 : tp_up M3 0 1 0 0 30 = (k : Int) := by rw [up_j _ _ _ (by decide), x2.2 30 (by simp), b0]; exact e30
      have hflag : ∀ K : Int → tp_M → tp_O, (if w32 (j : Int) < w32 (tp_up M3 0 1 0 0 30) then K 1 (tp_up M3 0 1 0) else K 0 (tp_up M3 0 1 0)) = K fl (tp_up M3 0 1 0) := fun K => by
        rw [y30, w32_id (show -2147483648 ≤ (j : Int) ∧ (j : Int) < 2147483648 by omega), w32_id (show -2147483648 ≤ (k : Int) ∧ (k : Int) < 2147483648 by omega), hfl]
        by_cases q : j < k
        · rw [if_pos (by omega), if_pos q]
        · rw [if_neg (by omega), if_neg q]
      rw [hflag (fun y28 M29 => tp_bd (fx_X11_flag y28 M29) fun r30 M31 => tp_bd (fx_X11_enters (w32 r30) M31) fun r32 M33 => tp_bd (fx_X11_enters (w32 (M33 4 8)) M33) fun r34 M35 => if w32 (j : Int) ≤ 0 then some (0, M35) else tp_bd (fx_X11_adds (j : Int) M35) fun r36 M37 => some (r36, M37))]
      try dsimp only
      have hfl2 : (if w32 fl = 0 then (0 : Int) else 1) = fl := by
        rw [hfl]
        by_cases q : j < k
        · rw [if_pos q]; rfl
        · rw [if_neg q]; rfl
      rw [pm_flag, tp_bd_s, hfl2]
      have hhouse : C4 25 2 = M3 4 8 := by rw [v1 25 (by simp)]; exact x3.1
      rw [(pm_enter2 (a := w32 fl) (b := 0) (up_s _ _ _ _)).1, tp_bd_s, show tp_up (tp_up (tp_up M3 0 1 0) 1 0 (w32 fl)) 0 1 (0 + 1) 4 8 = M3 4 8 by simp (disch := omega) only [up_k], (pm_enter2 (a := w32 fl) (b := w32 (M3 4 8)) (up_s _ _ _ _)).2, tp_bd_s]
      have tM := td_2M (tp_up M3 0 1 0) (w32 fl) (w32 (M3 4 8))
      generalize hM5 : tp_up (tp_up (tp_up (tp_up (tp_up M3 0 1 0) 1 0 (w32 fl)) 0 1 (0 + 1)) 1 (0 + 1) (w32 (M3 4 8))) 0 1 (0 + 1 + 1) = M5 at *
      have fM5 : tp_fr [0, 1] M3 M5 := by rw [← hM5]; exact fr_up (fr_up (fr_up (fr_up (fr_up fr_rf (by simp)) (by simp)) (by simp)) (by simp)) (by simp)
      have f50 : ∀ i : Int, ¬ i = 1 → M5 0 i = M3 0 i := fun i hi => by rw [← hM5]; simp (disch := omega) only [up_j, up_k]
      have fC4 : tp_fr [1, 3, 4, 18, 25, 26, 27, 28, 29, 30, 31, 32, 33, 37, 38, 59] C C4 := fr_tr (fr_mono c1f (by simp)) (fr_tr (fr_mono x1 (by simp)) (fr_mono v1 (by simp)))
      have fM5' : tp_fr [0, 1, 4, 5, 11, 12, 14, 15, 16, 17, 18] M M5 := fr_tr (fr_mono fMM1 (by simp)) (fr_tr (fr_mono p1 (by simp)) (fr_tr (fr_mono x2.1 (by simp)) (fr_mono fM5 (by simp))))
      have h0 : ∀ i : Int, i ∈ ([3, 18, 23, 39, 44] : List Int) → M5 0 i = M 0 i := fun i hi => by
        simp only [List.mem_cons, List.not_mem_nil, or_false] at hi
        rw [f50 i (by omega), x2.2 i (by simp; omega), b0]
        exact f0j i (by simp; omega)
      have g9 : M5 0 9 = 0 := by rw [f50 9 (by decide), x2.2 9 (by simp), b0, f.2 9 (by decide) (by decide)]; exact m09
      have e3 : M5 0 3 = M 0 3 := h0 3 (by simp)
      have e2 : M5 2 = M 2 := fM5' 2 (by simp)
      have a34 : C4 34 = C 34 := fC4 34 (by simp)
      have a35 : C4 35 = C 35 := fC4 35 (by simp)
      have a14 : M5 14 = M2 14 := by rw [fM5 14 (by simp), x2.1 14 (by simp)]
      have a23 : M5 0 23 = M 0 23 := h0 23 (by simp)
      have hp2 : ∀ i : Int, M5 14 i = if 17 * M 0 23 ≤ i ∧ i < 17 * M 0 23 + 17 then M 4 (i - 17 * M 0 23) else M 14 i := fun i => by
        rw [a14, p2 i, fMM1 4 (by simp), fMM1 14 (by simp)]
      have hrow5 : sm_row (C4 26) (C4 27) (C4 25 2) (C4 25 3) (M5 4) (M 0 3) (M 2) (B + 1000) := by
        have := x3
        unfold ac_row at this
        rw [b0, f0j 3 (by simp), p1 2 (by simp), fMM1 2 (by simp)] at this
        rw [v1 25 (by simp), v1 26 (by simp), v1 27 (by simp), fM5 4 (by simp)]
        exact sm_row_le (by omega) this
      rw [w32_id (show -2147483648 ≤ (j : Int) ∧ (j : Int) < 2147483648 by omega)]
      have told2 : ∀ C5 : tp_M, sm_told (tp_up (tp_up (tp_up (tp_up (tp_up C5 3 1 0) 4 0 (w32 fl)) 3 1 1) 4 1 (w32 (M3 4 8))) 3 1 2 3 1) (tp_up (tp_up (tp_up (tp_up (tp_up C5 3 1 0) 4 0 (w32 fl)) 3 1 1) 4 1 (w32 (M3 4 8))) 3 1 2 4) (M5 0 1) (M5 1) := fun C5 => by
        have tC := td_2C C5 (w32 fl) (w32 (M3 4 8))
        refine ⟨by rw [tC.1, tM.1], by rw [tM.1]; decide, fun i i1 i2 => ?_⟩
        rw [tM.1] at i2
        rw [tC.2 i i1 i2, tM.2 i i1 i2]
      by_cases c0 : (j : Int) ≤ 0
      · rw [if_pos c0, if_pos c0, hhouse, pc_tell2, tp_bd_s]
        refine wp2_some ⟨by rw [show (j : Int) = 0 by omega], Sim_day h (by omega) (SC := [1, 3, 4, 18, 25, 26, 27, 28, 29, 30, 31, 32, 33, 37, 38, 59]) (SM := [0, 1, 4, 5, 11, 12, 14, 15, 16, 17, 18]) (fr_up (fr_up (fr_up (fr_up (fr_up fC4 (by simp)) (by simp)) (by simp)) (by simp)) (by simp)) fM5' (by decide) (by decide) (fun i hi => h0 i (by simp only [List.mem_cons, List.not_mem_nil, or_false] at hi ⊢; omega)) (txt_0 ?_ g9) (told2 C4) ?_ ?_ ?_⟩
        · simp (disch := omega) only [up_k]; exact v2
        · simp (disch := omega) only [up_k]
          rw [e3, e2]; exact hrow5
        · simp (disch := omega) only [up_k]
          rw [a34, a35, a23, e3, e2]
          exact sm_undo_le (by omega) (sm_undo_cg (by omega) hu (fun i i1 i2 => by rw [hp2 i, if_neg (by omega)]))
        · simp (disch := omega) only [up_k]
          rw [a34, a35, fM5' 32 (by simp), fM5' 33 (by simp), e3, e2]
          exact sm_kept_le (by omega) hk
      · rw [if_neg c0, if_neg c0]
        have u3 := hu.2.2.1
        have hu1 := hu.1
        obtain ⟨xx, C5, k1, k2, k3, k4, k5, k6⟩ := pc_push (k := 31) (Or.inr (Or.inr rfl)) (M := C4) (c1 := C 34 1) (c2 := C 34 2) (by rw [a34]) (by rw [a34]) (by have := hu.2.1; omega) u3
        obtain ⟨x2', M6, k1', q1, q2, q3, q4, q5, q6⟩ := pm_adds (M := M5) (r := (j : Int)) (u := M 0 23) a23 hu.2.1
        rw [k1, tp_bd_s, k1', tp_bd_s, k2 25 (by simp), hhouse, pc_tell2, tp_bd_s]
        refine wp2_some ⟨by rw [q1], Sim_day h (by omega) (SC := [1, 3, 4, 18, 25, 26, 27, 28, 29, 30, 31, 32, 33, 34, 35, 37, 38, 59]) (SM := [0, 1, 4, 5, 11, 12, 14, 15, 16, 17, 18]) (fr_up (fr_up (fr_up (fr_up (fr_up (fr_tr (fr_mono fC4 (by simp)) (fr_mono k2 (by simp))) (by simp)) (by simp)) (by simp)) (by simp)) (by simp)) (fr_tr (fr_mono fM5' (by simp)) (fr_mono q2 (by simp))) (by decide) (by decide) (fun i hi => ?_) (txt_0 ?_ ?_) ?_ ?_ ?_ ?_⟩
        · have hi2 := hi
          simp only [List.mem_cons, List.not_mem_nil, or_false] at hi2
          by_cases e : i = 23
          · exact absurd hi (by rw [e]; decide)
          · rw [q3 i e]; exact h0 i (by simp; omega)
        · simp (disch := omega) only [up_k]
          rw [k2 1 (by simp)]; exact v2
        · rw [q3 9 (by decide)]; exact g9
        · rw [q3 1 (by decide), q2 1 (by simp)]; exact told2 C5
        · simp (disch := omega) only [up_k]
          rw [k2 25 (by simp), k2 26 (by simp), k2 27 (by simp), q2 4 (by simp), q3 3 (by decide), e3, q2 2 (by simp), e2]
          exact hrow5
        · simp (disch := omega) only [up_k]
          rw [k3, k4, k6, q4, q3 3 (by decide), e3, q2 2 (by simp), e2, a35]
          have g31 : C4 31 = C1 31 := by rw [v1 31 (by simp), x1 31 (by simp)]
          have g32 : C4 (31 + 1) = C1 32 := by rw [v1 32 (by simp), x1 32 (by simp)]
          have g33 : C4 (31 + 2) = C1 33 := by rw [v1 33 (by simp), x1 33 (by simp)]
          rw [g31, g32, g33]
          refine sm_push (R := M 4) (U1 := M5 14) (by omega) (sm_undo_le (by omega) hu) (sm_row_le (show B ≤ B + 1000 by omega) ?_) hp2 (fun hlt => by rw [q5 hlt]) (fun he i i1 i2 => by rw [q6 he i i1 i2])
          obtain ⟨w1, w2, w3, w4⟩ := wc
          exact sm_row_cg (by omega) hrw (fun v v1 v2 => (w4 v v1 v2).1) (fun v v1 v2 => (w4 v v1 v2).2) w2 w3 (fun _ _ _ => rfl)
        · simp (disch := omega) only [up_k]
          rw [k5, k6, q2 32 (by simp), q2 33 (by simp), q3 3 (by decide), e3, q2 2 (by simp), e2, a34, a35, fM5' 32 (by simp), fM5' 33 (by simp)]
          obtain ⟨k1, k2⟩ := hk
          refine ⟨k1, fun i hi => ⟨(k2 i hi).1, (k2 i hi).2.1, fun hki => sm_place_cg (by omega) (sm_row_le (by omega) ((k2 i hi).2.2 hki)) (fun j j1 j2 => wr_other (by omega) ⟨j1, j2⟩) (fun _ _ _ => rfl)⟩⟩
  · refine swp _ _ _ ?_
    have g11 : M1 0 11 = min N 60 := by rw [f.2 11 (by decide) (by decide)]; exact m011
    have hcd := (cs_checkDay (T := T) (e := min N 60) t1 t2 t3 t4 rfl k hok).2 q hdp hno
    have hge := dp_ge T k
    have hq : 0 ≤ q ∧ q ≤ min N 60 := by
      unfold dno at hno
      rcases hno with ⟨_, rfl⟩ | ⟨_, _, rfl⟩ | ⟨_, w, _, rfl⟩ <;> omega
    rw [ps_faultOf (q := q) (e := min N 60) t2 (by omega) (Or.inl rfl) e10 g11 (by omega), tp_bd_s]
    refine wp2_lt2 ?_
    have hval : (if 60 < N ∧ (((0 : Int) = 1 ∧ q = min N 60) ∨ 60 ≤ q) then (-1 - 60 : Int) else if (0 : Int) = 1 ∧ q = min N 60 then 0 else -1 - q) = if 60 < N ∧ 60 ≤ q then -61 else -1 - q := by
      by_cases c : 60 < N ∧ 60 ≤ q
      · rw [if_pos (by omega), if_pos c]; rfl
      · rw [if_neg (by omega), if_neg (by omega), if_neg c]
    rw [hval]
    have hr : -2147483648 ≤ (if 60 < N ∧ 60 ≤ q then (-61 : Int) else -1 - q) ∧ (if 60 < N ∧ 60 ≤ q then (-61 : Int) else -1 - q) < 0 := by split <;> omega
    generalize (if 60 < N ∧ 60 ≤ q then (-61 : Int) else -1 - q) = r at *
    rw [w32_id (by omega), if_pos hr.2]
    exact bad r M1 hr f hcd
end ST
