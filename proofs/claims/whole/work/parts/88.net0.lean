/-! NET: the text read, line by line -/
theorem up_up (M : tp_M) (k : Nat) (j x y : Int) : tp_up (tp_up M k j x) k j y = tp_up M k j y := by
  funext k2 j2
  unfold tp_up
  by_cases h : k2 = k ∧ j2 = j
  · rw [if_pos h, if_pos h]
  · rw [if_neg h, if_neg h, if_neg h]
/-- a sign that can go on a line -/
abbrev ng (i c : Int) : Prop := 48 ≤ c ∧ c ≤ 55 ∧ ¬ c - 48 = i
section NL
variable {T : Int → Int} {N i p : Int}
theorem ps_digitOf {M : tp_M} (h6 : M 6 = T) (h11 : M 0 11 = N) (h10 : M 0 10 = p) (hi : 1 ≤ i ∧ i ≤ 7) (h : 0 ≤ p ∧ p ≤ N ∧ N ≤ 80) (hT : ∀ j : Int, 0 ≤ j → j < N → 0 ≤ T j ∧ T j < 256) : (p < N ∧ ng i (T p) → fx_X11_digitOf i M = some (T p - 48, tp_up M 0 10 (p + 1))) ∧ (¬ (p < N ∧ ng i (T p)) → fx_X11_digitOf i M = some (-1, M)) := by
  have hz : tp_up M 0 10 p = M := by rw [← h10]; exact up_same M 0 10
  have main : fx_X11_digitOf i M = if p < N ∧ ng i (T p) then some (T p - 48, tp_up M 0 10 (p + 1)) else some (-1, M) := by
    unfold fx_X11_digitOf fx_X11_digitIn
    rw [h10, h11, w32_id (show -2147483648 ≤ p ∧ p < 2147483648 by omega), w32_id (show -2147483648 ≤ N ∧ N < 2147483648 by omega), w32_id (show -2147483648 ≤ i ∧ i < 2147483648 by omega)]
    have no : tp_bd (some (-1, M)) (fun r1 M2 => tp_lt r1 (fun x3 => tp_jn1 (fun y4 M5 => tp_bd (fx_X11_flag y4 M5) (fun r6 M7 => tp_lm (tp_up M7 0 10 ((M2 0 10) - r6)) (fun M8 => if w32 x3 = i then some (-1, M8) else some (x3, M8)))) (fun jk23 => if w32 x3 = i then jk23 1 M2 else jk23 0 M2))) = some (-1, M) := by
      rw [tp_bd_s, tp_lt_s, tp_jn1_s]; (try dsimp only); rw [if_neg (show ¬ w32 (-1) = i by show ¬ (-1 : Int) = i; omega), pm_flag, if_pos (by decide), tp_bd_s, tp_lm_s, if_neg (show ¬ w32 (-1) = i by show ¬ (-1 : Int) = i; omega), h10, Int.sub_zero, hz]
    by_cases hl : p < N
    · have ht := hT p h.1 hl
      rw [if_pos hl, tp_ck_t (by omega), h6, w32_id (show -2147483648 ≤ T p - 48 ∧ T p - 48 < 2147483648 by omega), show w32 0 = 0 from rfl, show w32 7 = 7 from rfl, pm_in (by unfold pu_in; omega) (by unfold pu_in; omega) (by unfold pu_in; omega), tp_bd_s]
      by_cases h2 : 0 ≤ T p - 48 ∧ T p - 48 ≤ 7
      · rw [if_pos h2, if_neg (show ¬ w32 1 = 0 by decide), h10, tp_lm_s, up_s, w32_id (show -2147483648 ≤ p + 1 - 1 ∧ p + 1 - 1 < 2147483648 by omega), tp_ck_t (by omega), up_k _ _ _ (by decide), h6, show p + 1 - 1 = p by omega, tp_bd_s, tp_lt_s, tp_jn1_s]; (try dsimp only); rw [w32_id (show -2147483648 ≤ T p - 48 ∧ T p - 48 < 2147483648 by omega), up_s]
        by_cases h3 : T p - 48 = i
        · rw [if_pos h3, pm_flag, if_neg (by decide), tp_bd_s, tp_lm_s, if_pos h3, if_neg (fun q => q.2.2.2 h3), up_up, show p + 1 - 1 = p by omega, hz]
        · rw [if_neg h3, pm_flag, if_pos (by decide), tp_bd_s, tp_lm_s, if_neg h3, if_pos ⟨hl, by omega, by omega, h3⟩, up_up, Int.sub_zero]
      · rw [if_neg h2, if_pos (show w32 0 = 0 by decide), if_neg (fun q => h2 ⟨by have := q.2.1; omega, by have := q.2.2.1; omega⟩)]
        exact no
    · rw [if_neg hl, if_neg (fun q => hl q.1)]
      exact no
  constructor
  · intro q; rw [main, if_pos q]
  · intro q; rw [main, if_neg q]
theorem ps_readsLine {M : tp_M} (h6 : M 6 = T) (h11 : M 0 11 = N) (h10 : M 0 10 = p) (h15 : M 0 15 = i - 1) (hi : 1 ≤ i ∧ i ≤ 7) (h : 0 ≤ p ∧ p ≤ N ∧ N ≤ 80) (hT : ∀ j : Int, 0 ≤ j → j < N → 0 ≤ T j ∧ T j < 256) :
    wp (fx_X11_readsLine M) (fun r M1 => tp_fr [0, 7, 8] M M1 ∧ (∀ j : Int, ¬ j = 10 → ¬ j = 15 → M1 0 j = M 0 j) ∧ M1 0 15 = i ∧ ∃ m : Nat, m ≤ 4 ∧ M1 0 10 = p + (m : Int) ∧ p + (m : Int) ≤ N ∧ M1 7 i = (m : Int) ∧ (∀ v : Int, ¬ v = i → M1 7 v = M 7 v) ∧ (∀ j : Int, 0 ≤ j → j < (m : Int) → ng i (T (p + j)) ∧ M1 8 (4 * i + j) = T (p + j) - 48) ∧ (∀ j : Int, j < 4 * i ∨ 4 * i + 4 ≤ j → M1 8 j = M 8 j) ∧ ((r = 1 ∧ 1 ≤ m ∧ ¬ (p + (m : Int) < N ∧ 48 ≤ T (p + (m : Int)) ∧ T (p + (m : Int)) ≤ 57)) ∨ (r = 0 ∧ (m = 0 ∨ (p + (m : Int) < N ∧ 48 ≤ T (p + (m : Int)) ∧ T (p + (m : Int)) ≤ 57)) ∧ (m = 4 ∨ ¬ (p + (m : Int) < N ∧ ng i (T (p + (m : Int)))))))) := by
  refine wp_K (fun Q hQ => ?_)
  unfold fx_X11_readsLine
  rw [h15, show i - 1 + 1 = i by omega]
  refine wp_lt ?_
  rw [w32_id (show -2147483648 ≤ i ∧ i < 2147483648 by omega), if_neg (by omega)]
  refine wp_lt ?_
  refine wp_lt ?_
  refine wp_lp2 (fun z b M1 => tp_fr [0, 8] M M1 ∧ (∀ j : Int, ¬ j = 10 → M1 0 j = M 0 j) ∧ ∃ m : Nat, z = (m : Int) ∧ m ≤ 4 ∧ M1 0 10 = p + (m : Int) ∧ p + (m : Int) ≤ N ∧ (∀ j : Int, 0 ≤ j → j < (m : Int) → ng i (T (p + j)) ∧ M1 8 (4 * i + j) = T (p + j) - 48) ∧ (∀ j : Int, j < 4 * i ∨ 4 * i + 4 ≤ j → M1 8 j = M 8 j) ∧ (b = 1 ∨ (b = 0 ∧ (m = 0 ∨ (p + (m : Int) < N ∧ 48 ≤ T (p + (m : Int)) ∧ T (p + (m : Int)) ≤ 57)) ∧ (m = 4 ∨ ¬ (p + (m : Int) < N ∧ ng i (T (p + (m : Int)))))))) (fun z b _ => (2 * (4 - z) + b).toNat) ?_ tp_F 0 1 M ⟨fr_rf, fun _ _ => rfl, 0, rfl, by omega, by rw [h10]; simp, by simp; omega, fun j a b => by simp at b; omega, fun _ _ => rfl, Or.inl rfl⟩ (tp_F_pos (by omega))
  rintro rec z b M1 ⟨f1, f2, m, rfl, m4, m1, m2, m3, m5, m6⟩ hrec
  have g6 : M1 6 = T := by rw [f1 6 (by simp)]; exact h6
  have g11 : M1 0 11 = N := by rw [f2 11 (by decide)]; exact h11
  have fin : ∀ b : Int, (b = 0 ∨ b = 1) → ((b = 1 ∧ 1 ≤ m ∧ ¬ (p + (m : Int) < N ∧ 48 ≤ T (p + (m : Int)) ∧ T (p + (m : Int)) ≤ 57)) ∨ (b = 0 ∧ (m = 0 ∨ (p + (m : Int) < N ∧ 48 ≤ T (p + (m : Int)) ∧ T (p + (m : Int)) ≤ 57)) ∧ (m = 4 ∨ ¬ (p + (m : Int) < N ∧ ng i (T (p + (m : Int))))))) → wp (tp_ck i 8 (tp_lm (tp_up M1 7 i (m : Int)) (fun M25 => tp_lm (tp_up M25 0 15 (M25 0 15 + 1)) (fun M26 => tp_gd (w32 b = 0 ∨ w32 b = 1) inferInstance (some (b, M26)))))) Q := fun b hb hc => by
    refine wp_ck (by omega) ?_
    refine wp_lm ?_
    rw [up_k _ _ _ (by decide), f2 15 (by decide), h15, show i - 1 + 1 = i by omega]
    refine wp_lm ?_
    refine wp_gd (by rcases hb with rfl | rfl <;> decide) (wp_some (hQ _ _ ⟨fr_up (fr_up (fr_mono f1 (by simp)) (by simp)) (by simp), fun j a c => ?_, up_s _ _ _ _, m, m4, ?_, m2, ?_, fun v hv => ?_, fun j a c => ?_, fun j a => ?_, hc⟩))
    · rw [up_j _ _ _ c, up_k _ _ _ (by decide)]; exact f2 j a
    · rw [up_j _ _ _ (by decide), up_k _ _ _ (by decide)]; exact m1
    · rw [up_k _ _ _ (by decide), up_s]
    · rw [up_k _ _ _ (by decide), up_j _ _ _ hv, f1 7 (by simp)]
    · rw [up_k _ _ _ (by decide), up_k _ _ _ (by decide)]; exact m3 j a c
    · rw [up_k _ _ _ (by decide), up_k _ _ _ (by decide)]; exact m5 j a
  unfold fx_X11_readsLine_L19
  rcases m6 with rfl | ⟨rfl, m6, m7⟩
  · rw [if_neg (show ¬ w32 1 = 0 by decide)]
    refine wp_jn0 ?_
    have go : (m = 0 ∨ (p + (m : Int) < N ∧ 48 ≤ T (p + (m : Int)) ∧ T (p + (m : Int)) ≤ 57)) → wp (tp_jn1 (fun y10 M11 => tp_lt y10 (fun x12 => tp_jn1 (fun y13 M14 => tp_lt y13 (fun x15 => tp_jn1 (fun y16 M17 => rec y16 x15 M17) (fun jk80 => if w32 x15 = 0 then jk80 (m : Int) M14 else tp_ck (w32 (4 * i + (m : Int))) 32 (tp_lm (tp_up M14 8 (w32 (4 * i + (m : Int))) x12) (fun M18 => tp_lt ((m : Int) + 1) (fun x19 => jk80 x19 M18)))))) (fun jk60 => if w32 x12 < 0 then jk60 0 M11 else jk60 1 M11))) (fun jk48 => if w32 (m : Int) < 4 then tp_bd (fx_X11_digitOf i M1) (fun r20 M21 => jk48 r20 M21) else jk48 (-1) M1)) Q := fun hm => by
      refine wp_jn1 ?_
      have no : (m = 4 ∨ ¬ (p + (m : Int) < N ∧ ng i (T (p + (m : Int))))) → wp (tp_lt (-1 : Int) (fun x12 => tp_jn1 (fun y13 M14 => tp_lt y13 (fun x15 => tp_jn1 (fun y16 M17 => rec y16 x15 M17) (fun jk80 => if w32 x15 = 0 then jk80 (m : Int) M14 else tp_ck (w32 (4 * i + (m : Int))) 32 (tp_lm (tp_up M14 8 (w32 (4 * i + (m : Int))) x12) (fun M18 => tp_lt ((m : Int) + 1) (fun x19 => jk80 x19 M18)))))) (fun jk60 => if w32 x12 < 0 then jk60 0 M1 else jk60 1 M1))) Q := fun hn => by
        refine wp_lt ?_
        refine wp_jn1 ?_
        rw [if_pos (by decide)]
        refine wp_lt ?_
        refine wp_jn1 ?_
        rw [if_pos (by decide)]
        exact hrec _ _ _ ⟨f1, f2, m, rfl, m4, m1, m2, m3, m5, Or.inr ⟨rfl, hm, hn⟩⟩ (by omega)
      rw [w32_id (show -2147483648 ≤ (m : Int) ∧ (m : Int) < 2147483648 by omega)]
      by_cases c4 : (m : Int) < 4
      · rw [if_pos c4]
        have hd := ps_digitOf (M := M1) (T := T) (N := N) (p := p + (m : Int)) (i := i) g6 g11 m1 hi (by omega) hT
        by_cases cg : p + (m : Int) < N ∧ ng i (T (p + (m : Int)))
        · have hg := cg.2
          unfold ng at hg
          rw [hd.1 cg, tp_bd_s]
          refine wp_lt ?_
          refine wp_jn1 ?_
          rw [w32_id (by omega), if_neg (by omega)]
          refine wp_lt ?_
          refine wp_jn1 ?_
          rw [if_neg (by decide), w32_id (by omega)]
          refine wp_ck (by omega) ?_
          refine wp_lm ?_
          refine wp_lt ?_
          refine hrec _ _ _ ⟨fr_up (fr_up f1 (by simp)) (by simp), fun j hj => by rw [up_k _ _ _ (by decide), up_j _ _ _ hj]; exact f2 j hj, m + 1, by omega, by omega, by rw [up_k _ _ _ (by decide), up_s]; omega, by omega, fun j a c => ?_, fun j a => ?_, Or.inl rfl⟩ (by omega)
          · rw [up_c]
            by_cases e : j = (m : Int)
            · rw [if_pos (by omega), e]; exact ⟨cg.2, rfl⟩
            · rw [if_neg (by omega), up_k _ _ _ (by decide)]; exact m3 j a (by omega)
          · rw [up_j _ _ _ (by omega), up_k _ _ _ (by decide)]; exact m5 j a
        · rw [hd.2 cg, tp_bd_s]
          exact no (Or.inr cg)
      · rw [if_neg c4]
        exact no (Or.inl (by omega))
    rw [w32_id (show -2147483648 ≤ (m : Int) ∧ (m : Int) < 2147483648 by omega)]
    by_cases c0 : (m : Int) = 0
    · rw [if_pos c0]
      have := go (Or.inl (by omega))
      rw [w32_id (show -2147483648 ≤ (m : Int) ∧ (m : Int) < 2147483648 by omega)] at this
      exact this
    · rw [if_neg c0, ps_isDigit m1 g11 (by omega) (fun q => by rw [g6]; exact hT _ (by omega) q), g6, tp_bd_s]
      by_cases cd : p + (m : Int) < N ∧ 48 ≤ T (p + (m : Int)) ∧ T (p + (m : Int)) ≤ 57
      · rw [if_pos cd, if_neg (show ¬ w32 1 = 0 by decide)]
        have := go (Or.inr cd)
        rw [w32_id (show -2147483648 ≤ (m : Int) ∧ (m : Int) < 2147483648 by omega)] at this
        exact this
      · rw [if_neg cd, if_pos (show w32 0 = 0 by decide)]
        exact fin 1 (Or.inr rfl) (Or.inl ⟨rfl, by omega, cd⟩)
  · rw [if_pos (show w32 0 = 0 by decide)]
    exact fin 0 (Or.inl rfl) (Or.inr ⟨rfl, m6, m7⟩)
end NL
/-! the other reader -/
/-- b has the bits of k ways of v -/
def nw (b : Int) (G : Int → Int) (v k : Int) : Prop := (0 ≤ b ∧ b < 256) ∧ (∀ j : Nat, j < 8 → (bt b j ↔ ∃ m : Int, 0 ≤ m ∧ m < k ∧ G (4 * v + m) = (j : Int))) ∧ ∀ m : Int, 0 ≤ m → m < k → 0 ≤ G (4 * v + m) ∧ G (4 * v + m) < 8 ∧ ¬ G (4 * v + m) = v
def crow (C : tp_M) (G : Int → Int) (v d : Int) : Prop := C 11 v = d ∧ nw (C 13 v) G v d ∧ ∀ j : Int, 0 ≤ j → j < d → C 12 (4 * v + j) = G (4 * v + j)
theorem crow_fr {C C1 : tp_M} {G : Int → Int} {v d : Int} (h : crow C G v d) (e1 : C1 11 v = C 11 v) (e2 : C1 13 v = C 13 v) (e3 : ∀ j : Int, 0 ≤ j → j < d → C1 12 (4 * v + j) = C 12 (4 * v + j)) : crow C1 G v d :=
  ⟨by rw [e1]; exact h.1, by rw [e2]; exact h.2.1, fun j a b => by rw [e3 j a b]; exact h.2.2 j a b⟩
theorem crow_G {C : tp_M} {G G2 : Int → Int} {v d : Int} (h : crow C G v d) (e : ∀ j : Int, 0 ≤ j → j < d → G2 (4 * v + j) = G (4 * v + j)) : crow C G2 v d := by
  obtain ⟨h1, ⟨h2, h3, h4⟩, h5⟩ := h
  refine ⟨h1, ⟨h2, fun j hj => ?_, fun m a b => by rw [e m a b]; exact h4 m a b⟩, fun j a b => by rw [e j a b]; exact h5 j a b⟩
  rw [h3 j hj]
  exact ⟨fun ⟨m, a, b, c⟩ => ⟨m, a, b, by rw [e m a b]; exact c⟩, fun ⟨m, a, b, c⟩ => ⟨m, a, b, by rw [← e m a b]; exact c⟩⟩
/-- rows as they stand, of line i so far t -/
def cst (C : tp_M) (G Dv : Int → Int) (S i t : Int) : Prop := C 10 5 = S + t ∧ C 11 0 = 0 ∧ (∀ v : Int, 1 ≤ v → v < 8 → ¬ v = i → crow C G v (Dv v)) ∧ crow C G i t
section CN
variable {T G Dv : Int → Int} {N i S : Int} {K : Int → tp_M → tp_O} {o2 : tp_O} {Q : Int → tp_M → Int → tp_M → Prop}
theorem cs_addWay {C : tp_M} {t g : Int} (hs : cst C G Dv S i t) (hi : 1 ≤ i ∧ i ≤ 7) (ht : 0 ≤ t ∧ t < 4) (hg : 0 ≤ g ∧ g ≤ 7 ∧ ¬ g = i) (hG : G (4 * i + t) = g) (hd : ∀ v : Int, 1 ≤ v → v < 8 → 0 ≤ Dv v ∧ Dv v ≤ 4) : wp (fx_X4_addWay 10 i g C) (fun r C1 => r = 1 ∧ tp_fr [10, 11, 12, 13] C C1 ∧ cst C1 G Dv S i (t + 1)) := by
  obtain ⟨h1, h0, h2, h3⟩ := hs
  obtain ⟨h4, ⟨h5, h6, h7⟩, h8⟩ := h3
  unfold fx_X4_addWay
  rw [w32_id (show -2147483648 ≤ i ∧ i < 2147483648 by omega), if_neg (by omega), if_pos (by omega), w32_id (show -2147483648 ≤ g ∧ g < 2147483648 by omega), if_neg (by omega), show (10 + 1) = 11 from rfl, show (10 + 2) = 12 from rfl, show (10 + 3) = 13 from rfl, h4, w32_id (show -2147483648 ≤ t ∧ t < 2147483648 by omega), if_pos (by omega), w32_id (show -2147483648 ≤ i * 4 + t ∧ i * 4 + t < 2147483648 by omega), show i * 4 + t = 4 * i + t by omega]
  refine wp_ck (by omega) ?_
  refine wp_ck (by omega) ?_
  refine wp_ck (by omega) ?_
  refine wp_lm ?_
  rw [show tp_up C 12 (4 * i + t) g 11 i = t by rw [up_k _ _ _ (by decide)]; exact h4]
  refine wp_ck (by omega) ?_
  refine wp_ck (by omega) ?_
  refine wp_lm ?_
  refine wp_ck (by omega) ?_
  refine wp_ck (by omega) ?_
  rw [show tp_up (tp_up C 12 (4 * i + t) g) 11 i (t + 1) 13 i = C 13 i by rw [up_k _ _ _ (by decide), up_k _ _ _ (by decide)]]
  refine wp_lm ?_
  rw [show tp_up (tp_up (tp_up C 12 (4 * i + t) g) 11 i (t + 1)) 13 i (x_or (C 13 i) (x_shl 1 g)) 10 5 = S + t by rw [up_k _ _ _ (by decide), up_k _ _ _ (by decide), up_k _ _ _ (by decide)]; exact h1]
  refine wp_lm ?_
  have ho := bt_or h5 (v := g) (by omega)
  refine wp_some ⟨rfl, fr_up (fr_up (fr_up (fr_up fr_rf (by simp)) (by simp)) (by simp)) (by simp), ?_, ?_, fun v v1 v2 v3 => ?_, ?_, ⟨?_, fun j hj => ?_, fun m a b => ?_⟩, fun j a b => ?_⟩
  · rw [up_s]; omega
  · simp (disch := omega) only [up_k, up_j]; exact h0
  · have := hd v v1 v2
    refine crow_fr (h2 v v1 v2 v3) ?_ ?_ (fun j a b => ?_)
    · simp (disch := omega) only [up_k, up_j]
    · simp (disch := omega) only [up_k, up_j]
    · simp (disch := omega) only [up_k, up_j]
  · simp (disch := omega) only [up_k, up_s]
  · simp (disch := omega) only [up_k, up_s]; exact ho.1
  · simp (disch := omega) only [up_k, up_s]
    rw [ho.2 j, h6 j hj]
    constructor
    · rintro (⟨m, a, b, c⟩ | q)
      · exact ⟨m, a, by omega, c⟩
      · exact ⟨t, by omega, by omega, by rw [hG, q]⟩
    · rintro ⟨m, a, b, c⟩
      by_cases e : m = t
      · rw [e, hG] at c; exact Or.inr c.symm
      · exact Or.inl ⟨m, a, by omega, c⟩
  · by_cases e : m = t
    · rw [e, hG]; omega
    · exact h7 m a (by omega)
  · simp (disch := omega) only [up_k]
    rw [up_c]
    by_cases e : j = t
    · rw [if_pos (by omega), e, hG]
    · rw [if_neg (by omega)]; exact h8 j a (by omega)
theorem cs_digits (hN : 0 ≤ N ∧ N ≤ 80) (hT : ∀ j : Int, 0 ≤ j → j < N → 0 ≤ T j ∧ T j < 256) (hi : 1 ≤ i ∧ i ≤ 7) (hd : ∀ v : Int, 1 ≤ v → v < 8 → 0 ≤ Dv v ∧ Dv v ≤ 4) : ∀ (m : Nat) (t p : Int) (n : Nat) (C : tp_M), C 1 1 = N → (∀ j : Int, 0 ≤ j → j < N → C 2 j = T j) → cst C G Dv S i t → 0 ≤ t → t + (m : Int) ≤ 4 → 0 ≤ p → p + (m : Int) ≤ N → m < n → (∀ j : Int, 0 ≤ j → j < (m : Int) → ng i (T (p + j)) ∧ G (4 * i + (t + j)) = T (p + j) - 48) →
    (∀ (C1 : tp_M) (n1 : Nat), n1 + m = n → tp_fr [10, 11, 12, 13] C C1 → cst C1 G Dv S i (t + (m : Int)) → wp2 (tp_lp2 (fx_X4_read_L8 10 K) n1 i (p + (m : Int)) C1) o2 Q) → wp2 (tp_lp2 (fx_X4_read_L8 10 K) n i p C) o2 Q := by
  intro m
  induction m with
  | zero =>
    intro t p n C h1 h2 hs ht ht4 hp hpN hn hg hq
    have := hq C n rfl fr_rf (by simpa using hs)
    simpa using this
  | succ m ih =>
    intro t p n C h1 h2 hs ht ht4 hp hpN hn hg hq
    cases n with
    | zero => omega
    | succ n =>
      obtain ⟨g1, g2⟩ := hg 0 (by decide) (by omega)
      rw [Int.add_zero] at g1 g2
      unfold ng at g1
      rw [Int.add_zero] at g2
      have hc := hT p hp (by omega)
      have ihn := ih (t + 1) (p + 1) n
      rw [tp_lp2_s]
      generalize tp_lp2 (fx_X4_read_L8 10 K) n = R at *
      unfold fx_X4_read_L8
      rw [pc_X7_size, h1, tp_bd_s, w32_id (show -2147483648 ≤ p ∧ p < 2147483648 by omega), w32_id (show -2147483648 ≤ N ∧ N < 2147483648 by omega), if_pos (by omega), cs_tx h1 hN (by omega), tp_bd_s, h2 p hp (by omega)]
      refine wp2_lt1 ?_
      refine wp2_jn11 ?_
      refine wp2_jn01 ?_
      rw [w32_id (show -2147483648 ≤ T p ∧ T p < 2147483648 by omega), if_neg (by omega)]; (try dsimp only); rw [if_neg (by omega), if_pos (by omega)]
      refine wp2_c1 (cs_addWay (g := T p - 48) hs hi (by omega) (by omega) g2 hd) (fun r C1 w => ?_)
      obtain ⟨rfl, w1, w2⟩ := w
      rw [if_neg (show ¬ w32 1 = 0 by decide)]
      refine wp2_lt1 ?_
      refine ihn C1 (by rw [w1 1 (by simp)]; exact h1) (by rw [w1 2 (by simp)]; exact h2) w2 (by omega) (by omega) (by omega) (by omega) (by omega) (fun j a b => ?_) (fun C2 n1 e f c => ?_)
      · have := hg (j + 1) (by omega) (by omega)
        rw [show p + 1 + j = p + (j + 1) by omega, show t + 1 + j = t + (j + 1) by omega]
        exact this
      · rw [show p + 1 + (m : Int) = p + ((m + 1 : Nat) : Int) by omega]
        rw [show t + 1 + (m : Int) = t + ((m + 1 : Nat) : Int) by omega] at c
        exact hq C2 n1 (by omega) (fr_tr w1 f) c
theorem cs_semi {C : tp_M} {p d : Int} {rec : Int → Int → tp_M → tp_O} (hN : 0 ≤ N ∧ N ≤ 80) (h1 : C 1 1 = N) (h2 : C 2 p = 59) (hp : 0 ≤ p ∧ p < N) (hi : 1 ≤ i ∧ i ≤ 7) (hd : C 11 i = d) (hd1 : 1 ≤ d ∧ d ≤ 4) : fx_X4_read_L8 10 K rec i p C = rec (i + 1) (p + 1) C := by
  unfold fx_X4_read_L8
  rw [pc_X7_size, h1, tp_bd_s, w32_id (show -2147483648 ≤ p ∧ p < 2147483648 by omega), w32_id (show -2147483648 ≤ N ∧ N < 2147483648 by omega), if_pos (by omega), cs_tx h1 hN (by omega), tp_bd_s, h2, tp_lt_s, tp_jn1_s, tp_jn0_s]; (try dsimp only); rw [if_pos (by decide), w32_id (show -2147483648 ≤ i ∧ i < 2147483648 by omega), if_pos (by omega), tp_ck_t (by omega), show (10 + 1) = 11 from rfl, hd, w32_id (show -2147483648 ≤ d ∧ d < 2147483648 by omega), if_neg (by omega), tp_lt_s, tp_lt_s]
theorem cs_refuse {C : tp_M} {p d c : Int} {rec : Int → Int → tp_M → tp_O} (hN : 0 ≤ N ∧ N ≤ 80) (h1 : C 1 1 = N) (h2 : C 2 p = c) (hc : 0 ≤ c ∧ c < 256) (hp : 0 ≤ p ∧ p < N) (hi : 1 ≤ i ∧ i ≤ 8) (hd : i < 8 → C 11 i = d ∧ 0 ≤ d ∧ d ≤ 4) (h59 : c = 59 → i < 8 → d = 0) (hbad : i = 8 ∨ d = 4 ∨ ¬ ng i c) : fx_X4_read_L8 10 K rec i p C = some (-1 - p, C) := by
  have low : (if c < 48 then some (-1 - p, C) else if c ≤ 55 then tp_bd (fx_X4_addWay 10 i (c - 48) C) (fun r18 M19 => if w32 r18 = 0 then some (-1 - p, M19) else tp_lt (p + 1) (fun x16 => rec i x16 M19)) else some (-1 - p, C)) = some (-1 - p, C) := by
    by_cases q1 : c < 48
    · rw [if_pos q1]
    · rw [if_neg q1]
      by_cases q2 : c ≤ 55
      · rw [if_pos q2]
        have : fx_X4_addWay 10 i (c - 48) C = some (0, C) := by
          unfold fx_X4_addWay
          rw [w32_id (show -2147483648 ≤ i ∧ i < 2147483648 by omega), if_neg (by omega), w32_id (show -2147483648 ≤ c - 48 ∧ c - 48 < 2147483648 by omega)]
          by_cases q3 : i < 8
          · obtain ⟨d1, d2, d3⟩ := hd q3
            rw [if_pos q3]
            by_cases q4 : i = c - 48
            · rw [if_pos q4]
            · rw [if_neg q4, tp_ck_t (by omega), show (10 + 1) = 11 from rfl, d1, w32_id (show -2147483648 ≤ d ∧ d < 2147483648 by omega), if_neg (by unfold ng at hbad; omega)]
          · rw [if_neg q3]
        rw [this, tp_bd_s, if_pos (by decide)]
      · rw [if_neg q2]
  unfold fx_X4_read_L8
  rw [pc_X7_size, h1, tp_bd_s, w32_id (show -2147483648 ≤ p ∧ p < 2147483648 by omega), w32_id (show -2147483648 ≤ N ∧ N < 2147483648 by omega), if_pos (by omega), cs_tx h1 hN (by omega), tp_bd_s, h2, tp_lt_s, tp_jn1_s, tp_jn0_s]; (try dsimp only); rw [w32_id (show -2147483648 ≤ c ∧ c < 2147483648 by omega)]
  by_cases q5 : c = 59
  · rw [if_pos q5, w32_id (show -2147483648 ≤ i ∧ i < 2147483648 by omega)]
    by_cases q6 : i < 8
    · obtain ⟨d1, d2, d3⟩ := hd q6
      rw [if_pos q6, tp_ck_t (by omega), show (10 + 1) = 11 from rfl, d1, h59 q5 q6, if_pos (by decide)]
      exact low
    · rw [if_neg q6]
      exact low
  · rw [if_neg q5]
    exact low
theorem cs_fin {C : tp_M} {rec : Int → Int → tp_M → tp_O} (hN : 0 ≤ N ∧ N ≤ 80) (h1 : C 1 1 = N) : fx_X4_read_L8 10 K rec i N C = K i C := by
  unfold fx_X4_read_L8
  rw [pc_X7_size, h1, tp_bd_s, if_neg (by omega)]
end CN
/-- both readers at the beginning of line i -/
def nst (T : Int → Int) (N i p : Int) (C M : tp_M) : Prop := (C 1 1 = N ∧ ∀ j : Int, 0 ≤ j → j < N → C 2 j = T j) ∧ (M 6 = T ∧ M 0 11 = N ∧ M 0 10 = p ∧ M 0 15 = i - 1) ∧ (0 ≤ p ∧ p ≤ N) ∧ C 10 5 = sumI (M 7) 1 (i - 1).toNat ∧ C 11 0 = 0 ∧ (∀ v : Int, 1 ≤ v → v < 8 → crow C (M 8) v (if v < i then M 7 v else 0)) ∧ ∀ v : Int, 1 ≤ v → v < i → 1 ≤ M 7 v ∧ M 7 v ≤ 4
theorem net_loop {T : Int → Int} {N : Int} {C0 M0 : tp_M} {K88 : Int → tp_M → tp_O} {K52 : Int → tp_M → tp_O} {Q : Int → tp_M → Int → tp_M → Prop} (hN : 0 ≤ N ∧ N ≤ 80) (hT : ∀ j : Int, 0 ≤ j → j < N → 0 ≤ T j ∧ T j < 256)
    (hb : ∀ (q : Int) (C M : tp_M), 0 ≤ q → q ≤ N → tp_fr [10, 11, 12, 13] C0 C → tp_fr [0, 7, 8] M0 M → (∀ j : Int, ¬ j = 10 → ¬ j = 15 → M 0 j = M0 0 j) → Q (-1 - q) C (-1 - q) M)
    (hk8 : ∀ (i : Int) (C : tp_M), 1 ≤ i → i ≤ 8 → C 1 1 = N → (i < 8 → C 11 i = 0) → K88 i C = some (-1 - N, C))
    (hk0 : ∀ M : tp_M, K52 0 M = some (-1 - M 0 10, M))
    (hk1 : ∀ (q : Int) (M : tp_M), M 0 10 = q → M 0 11 = N → 0 ≤ q → q < N → K52 1 M = some (-1 - q, M))
    (he : ∀ (i : Int) (C M : tp_M), 1 ≤ i → i ≤ 7 → nst T N (i + 1) N C M → tp_fr [10, 11, 12, 13] C0 C → tp_fr [0, 7, 8] M0 M → (∀ j : Int, ¬ j = 10 → ¬ j = 15 → M 0 j = M0 0 j) → wp2 (K88 i C) (K52 1 M) Q) :
    ∀ (f : Nat) (i p : Int) (C M : tp_M) (n1 n2 : Nat), (f : Int) = 8 - i → 1 ≤ i → nst T N i p C M → tp_fr [10, 11, 12, 13] C0 C → tp_fr [0, 7, 8] M0 M → (∀ j : Int, ¬ j = 10 → ¬ j = 15 → M 0 j = M0 0 j) → N - p + 2 ≤ (n1 : Int) → f + 2 ≤ n2 → wp2 (tp_lp2 (fx_X4_read_L8 10 K88) n1 i p C) (tp_lp2 (fx_X11_net_L21 K52) n2 1 1 M) Q := by
  intro f
  induction f with
  | zero =>
    rintro i p C M n1 n2 hf hi ⟨⟨s1, s2⟩, ⟨s3, s4, s5, s6⟩, s7, s8, s9, s10, s11⟩ fC fM f0 hn1 hn2
    have i8 : i = 8 := by omega
    obtain ⟨n2, rfl⟩ : ∃ k, n2 = k + 2 := ⟨n2 - 2, by omega⟩
    obtain ⟨n1, rfl⟩ : ∃ k, n1 = k + 1 := ⟨n1 - 1, by omega⟩
    rw [tp_lp2_s]
    have hr : tp_lp2 (fx_X11_net_L21 K52) (n2 + 2) 1 1 M = some (-1 - p, M) := by
      rw [tp_lp2_s]
      unfold fx_X11_net_L21 fx_X11_readsLine
      rw [if_neg (show ¬ w32 1 = 0 by decide), s6, i8, show (8 : Int) - 1 + 1 = 8 from rfl, tp_lt_s, if_pos (show w32 8 = 8 by decide), tp_bd_s, tp_lt_s, tp_jn1_s, tp_jn0_s]; (try dsimp only); rw [if_pos (show w32 0 = 0 by decide), tp_lt_s, tp_lp2_s, if_pos (show w32 0 = 0 by decide), hk0, s5]
    rw [hr]
    by_cases hp : p < N
    · rw [cs_refuse (d := 0) hN s1 (s2 p s7.1 hp) (hT p s7.1 hp) ⟨s7.1, hp⟩ (by omega) (fun q => by omega) (fun _ q => by omega) (Or.inl i8)]
      exact wp2_some (hb p C M s7.1 s7.2 fC fM f0)
    · have : p = N := by omega
      subst this
      rw [cs_fin hN s1, hk8 i C (by omega) (by omega) s1 (fun q => by omega)]
      exact wp2_some (hb p C M s7.1 s7.2 fC fM f0)
  | succ f ih =>
    rintro i p C M n1 n2 hf hi ⟨⟨s1, s2⟩, ⟨s3, s4, s5, s6⟩, s7, s8, s9, s10, s11⟩ fC fM f0 hn1 hn2
    obtain ⟨n2, rfl⟩ : ∃ k, n2 = k + 2 := ⟨n2 - 2, by omega⟩
    rw [tp_lp2_s (fx_X11_net_L21 K52)]
    unfold fx_X11_net_L21
    rw [if_neg (show ¬ w32 1 = 0 by decide)]
    refine wp2_c2 (ps_readsLine (M := M) (T := T) (N := N) (i := i) (p := p) s3 s4 s5 s6 (by omega) (by omega) hT) (fun r M1 w => ?_)
    obtain ⟨w1, w2, w3, m, m4, w4, w5, w6, w7, w8, w9, w10⟩ := w
    have fM1 : tp_fr [0, 7, 8] M0 M1 := fr_tr fM w1
    have f01 : ∀ j : Int, ¬ j = 10 → ¬ j = 15 → M1 0 j = M0 0 j := fun j a b => (w2 j a b).trans (f0 j a b)
    have g11 : M1 0 11 = N := by rw [w2 11 (by decide) (by decide)]; exact s4
    have g6 : M1 6 = T := by rw [w1 6 (by simp)]; exact s3
    refine wp2_lt2 ?_
    refine wp2_jn12 ?_
    refine wp2_jn02 ?_
    have hd : ∀ v : Int, 1 ≤ v → v < 8 → 0 ≤ (if v < i then M 7 v else 0) ∧ (if v < i then M 7 v else 0) ≤ 4 := fun v v1 v2 => by
      by_cases e : v < i
      · rw [if_pos e]; have := s11 v v1 e; omega
      · rw [if_neg e]; omega
    have hst : cst C (M1 8) (fun v => if v < i then M 7 v else 0) (C 10 5) i 0 := by
      refine ⟨by omega, s9, fun v v1 v2 v3 => crow_G (s10 v v1 v2) (fun j a b => w9 _ (by have := hd v v1 v2; have b : j < (if v < i then M 7 v else 0) := b; omega)), ?_⟩
      have := s10 i hi (by omega)
      rw [if_neg (by omega)] at this
      exact crow_G this (fun j a b => by omega)
    refine cs_digits (T := T) (G := M1 8) (Dv := fun v => if v < i then M 7 v else 0) (S := C 10 5) hN hT (by omega) hd m 0 p n1 C s1 s2 hst (by omega) (by omega) s7.1 w5 (by omega) (fun j a b => by rw [Int.zero_add]; exact w8 j a b) (fun C1 n3 e3 x1 x2 => ?_)
    rw [Int.zero_add] at x2
    have fC1 : tp_fr [10, 11, 12, 13] C0 C1 := fr_tr fC x1
    have c11 : C1 1 1 = N := by rw [x1 1 (by simp)]; exact s1
    have c2 : ∀ j : Int, 0 ≤ j → j < N → C1 2 j = T j := by rw [x1 2 (by simp)]; exact s2
    obtain ⟨n3, rfl⟩ : ∃ k, n3 = k + 1 := ⟨n3 - 1, by omega⟩
    rw [tp_lp2_s (fx_X4_read_L8 10 K88)]
    have cd : C1 11 i = (m : Int) := x2.2.2.2.1
    rcases w10 with ⟨rfl, y1, y2⟩ | ⟨rfl, y1, y2⟩
    · rw [if_neg (show ¬ w32 1 = 0 by decide), ps_takes w4 g11 (by omega) 59 (by omega) (fun q => by rw [g6]; exact hT _ (by omega) q), g6]
      have hnst : ∀ (q : Int) (M2 : tp_M), (0 ≤ q ∧ q ≤ N) → M2 0 10 = q → M2 6 = M1 6 → M2 0 11 = M1 0 11 → M2 0 15 = M1 0 15 → M2 7 = M1 7 → M2 8 = M1 8 → nst T N (i + 1) q C1 M2 := fun q M2 hq e10 e6 e11 e15 e7 e8 => by
        refine ⟨⟨c11, c2⟩, ⟨by rw [e6]; exact g6, by rw [e11]; exact g11, e10, by rw [e15, w3]; omega⟩, hq, ?_, x2.2.1, fun v v1 v2 => ?_, fun v v1 v2 => ?_⟩
        · rw [x2.1, s8, e7, show (i + 1 - 1).toNat = (i - 1).toNat + 1 by omega]
          show _ = sumI (M1 7) 1 (i - 1).toNat + M1 7 (1 + (((i - 1).toNat : Nat) : Int))
          rw [show 1 + (((i - 1).toNat : Nat) : Int) = i by omega, w6, sumI_cg (f := M1 7) (g := M 7) _ _ (fun z z1 z2 => w7 z (by omega))]
        · rw [e8, e7]
          by_cases e : v = i
          · rw [if_pos (by omega), e, w6]; exact x2.2.2.2
          · have := x2.2.2.1 v v1 v2 e
            by_cases e2 : v < i
            · rw [if_pos (by omega), w7 v e]
              simp only [if_pos e2] at this
              exact this
            · rw [if_neg (by omega)]
              simp only [if_neg e2] at this
              exact this
        · rw [e7]
          by_cases e : v = i
          · rw [e, w6]; omega
          · rw [w7 v e]; exact s11 v v1 (by omega)
      by_cases csemi : p + (m : Int) < N ∧ T (p + (m : Int)) = 59
      · rw [if_pos csemi, tp_bd_s, if_neg (show ¬ w32 1 = 0 by decide)]
        refine wp2_lt2 ?_
        rw [cs_semi (d := (m : Int)) hN c11 (by rw [c2 _ (by omega) csemi.1]; exact csemi.2) (by omega) (by omega) cd (by omega)]
        refine ih (i + 1) (p + (m : Int) + 1) C1 (tp_up M1 0 10 (p + (m : Int) + 1)) n3 (n2 + 1) (by omega) (by omega) (hnst _ _ (by omega) (up_s _ _ _ _) (up_k _ _ _ (by decide)) (up_j _ _ _ (by decide)) (up_j _ _ _ (by decide)) (up_k _ _ _ (by decide)) (up_k _ _ _ (by decide))) fC1 (fr_up fM1 (by simp)) (fun j a b => by rw [up_j _ _ _ a]; exact f01 j a b) (by omega) (by omega)
      · rw [if_neg csemi, tp_bd_s, if_pos (show w32 0 = 0 by decide)]
        refine wp2_lt2 ?_
        rw [tp_lp2_s, if_pos (show w32 0 = 0 by decide)]
        by_cases hp : p + (m : Int) < N
        · have hc := hT (p + (m : Int)) (by omega) hp
          rw [hk1 _ M1 w4 g11 (by omega) hp, cs_refuse (d := (m : Int)) hN c11 (c2 _ (by omega) hp) hc (by omega) (by omega) (fun _ => ⟨cd, by omega, by omega⟩) (fun q => absurd ⟨hp, q⟩ csemi) (Or.inr (Or.inr (fun q => y2 ⟨hp, q.1, by have := q.2.1; omega⟩)))]
          exact wp2_some (hb _ C1 M1 (by omega) w5 fC1 fM1 f01)
        · have hpN : p + (m : Int) = N := by omega
          rw [hpN, cs_fin hN c11]
          exact he i C1 M1 hi (by omega) (hnst N M1 (by omega) (by rw [w4, hpN]) rfl rfl rfl rfl rfl) fC1 fM1 f01
    · rw [if_pos (show w32 0 = 0 by decide)]
      refine wp2_lt2 ?_
      rw [tp_lp2_s, if_pos (show w32 0 = 0 by decide), hk0, w4]
      by_cases hp : p + (m : Int) < N
      · have hc := hT (p + (m : Int)) (by omega) hp
        rw [cs_refuse (d := (m : Int)) hN c11 (c2 _ (by omega) hp) hc (by omega) (by omega) (fun _ => ⟨cd, by omega, by omega⟩) (fun q _ => by omega) (by
          rcases y2 with y2 | y2
          · exact Or.inr (Or.inl (by omega))
          · exact Or.inr (Or.inr (fun q => y2 ⟨hp, q⟩)))]
        exact wp2_some (hb _ C1 M1 (by omega) w5 fC1 fM1 f01)
      · have hpN : p + (m : Int) = N := by omega
        have m0 : m = 0 := by omega
        rw [hpN, cs_fin hN c11, hk8 i C1 (by omega) (by omega) c11 (fun _ => by rw [cd, m0]; rfl)]
        have := hb N C1 M1 (by omega) (by omega) fC1 fM1 f01
        exact wp2_some this
