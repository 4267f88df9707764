/-! TREES: the reference's settings; the call -/
theorem sum_full {f : Int → Int} : ∀ k : Nat, (∀ z : Int, 1 ≤ z → z < 1 + (k : Int) → 0 ≤ f z ∧ f z ≤ 1) → (sumI f 1 k = (k : Int) ↔ ∀ z : Int, 1 ≤ z → z < 1 + (k : Int) → f z = 1) := by
  intro k
  induction k with
  | zero => intro _; exact ⟨fun _ z a b => by omega, fun _ => rfl⟩
  | succ k ih =>
    intro h
    have i := ih (fun z a b => h z a (by omega))
    have hk := h (1 + (k : Int)) (by omega) (by omega)
    have hs := sumI_in (g := f) (lo := 0) (hi := 1) k 1 (fun z a b => h z a (by omega))
    show sumI f 1 k + f (1 + (k : Int)) = ((k + 1 : Nat) : Int) ↔ _
    constructor
    · intro e z a b
      have h1 : sumI f 1 k = (k : Int) := by omega
      by_cases c : z = 1 + (k : Int)
      · rw [c]; omega
      · exact i.mp h1 z a (by omega)
    · intro e
      have h1 := i.mpr (fun z a b => e z a (by omega))
      have h2 := e (1 + (k : Int)) (by omega) (by omega)
      omega
section PS
variable {n : Int} {D G : Int → Int} {m : Nat}
theorem nt_D (hn : nt_net n D G) (hm : (n - 1).toNat = m) : (∀ i : Nat, i < m → 1 ≤ nD D i ∧ nD D i ≤ 4 ∧ ((nD D i : Nat) : Int) = D ((i : Int) + 1)) := fun i hi => by
  have n8 := hn.1
  have := (hn.2 ((i : Int) + 1) (by omega) (by omega)).1
  unfold nD
  omega
theorem wu_le (hn : nt_net n D G) (hm : (n - 1).toNat = m) : ∀ v : Nat, v ≤ m → 1 ≤ wu (nD D) v ∧ wu (nD D) v ≤ 4 ^ v := by
  have hD := nt_D hn hm
  intro v
  induction v with
  | zero => intro _; exact ⟨Nat.le_refl 1, Nat.le_refl 1⟩
  | succ v ih =>
    intro hv
    obtain ⟨i1, i2⟩ := ih (by omega)
    obtain ⟨d1, d2, -⟩ := hD v (by omega)
    refine ⟨Nat.mul_pos i1 d1, ?_⟩
    rw [Nat.pow_succ]
    exact Nat.mul_le_mul i2 d2
theorem wu_16 (hn : nt_net n D G) (hm : (n - 1).toNat = m) {v : Nat} (hv : v ≤ m) : 1 ≤ wu (nD D) v ∧ wu (nD D) v ≤ 16384 := by
  have n8 := hn.1
  obtain ⟨h1, h2⟩ := wu_le hn hm v hv
  have h3 : (4 : Nat) ^ v ≤ 4 ^ 7 := Nat.pow_le_pow_right (by decide) (by omega)
  have h4 : (4 : Nat) ^ 7 = 16384 := by decide
  omega
end PS
section PR
variable {M : tp_M} {m : Nat}
theorem ps_settings (hn : nt_net (M 0 3) (M 2) (M 3)) (hm : (M 0 3 - 1).toNat = m) : fx_X11_settings M = some (((wu (nD (M 2)) m : Nat) : Int), M) := by
  have n8 := hn.1
  have hD := nt_D hn hm
  suffices h : wp (fx_X11_settings M) (fun r M1 => M1 = M ∧ r = ((wu (nD (M 2)) m : Nat) : Int)) by
    obtain ⟨r, M1, e, rfl, rfl⟩ := h
    exact e
  unfold fx_X11_settings
  refine wp_lt ?_
  refine wp_lt ?_
  refine wp_lp2 (fun a z M1 => M1 = M ∧ ∃ v : Nat, z = (v : Int) + 1 ∧ v ≤ m ∧ a = ((wu (nD (M 2)) v : Nat) : Int)) (fun _ z _ => (9 - z).toNat) ?_ tp_F 1 1 M ⟨rfl, 0, rfl, by omega, rfl⟩ (tp_F_pos (by omega))
  rintro rec a z M1 ⟨rfl, v, rfl, v1, rfl⟩ hrec
  unfold fx_X11_settings_L4
  rw [w32_id (show -2147483648 ≤ (v : Int) + 1 ∧ (v : Int) + 1 < 2147483648 by omega), w32_id (show -2147483648 ≤ M1 0 3 ∧ M1 0 3 < 2147483648 by omega)]
  by_cases hv : (v : Int) + 1 < M1 0 3
  · rw [if_pos hv]
    refine wp_ck (by omega) ?_
    refine wp_lt ?_
    refine wp_lt ?_
    refine hrec _ _ _ ⟨rfl, v + 1, by omega, by omega, ?_⟩ (by omega)
    rw [← (hD v (by omega)).2.2]
    show _ = ((wu (nD (M1 2)) v * nD (M1 2) v : Nat) : Int)
    rw [Int.natCast_mul]
  · rw [if_neg hv]
    exact wp_some ⟨rfl, by rw [show v = m by omega]⟩
theorem ps_laysSetting (hn : nt_net (M 0 3) (M 2) (M 3)) (hm : (M 0 3 - 1).toNat = m) {s : Nat} (hs : s < 2147483648) : wp (fx_X11_laysSetting (s : Int) M) (fun r M1 => tp_fr [20] M M1 ∧ (∀ i : Nat, i < m → M1 20 ((i : Int) + 1) = ((dg (nD (M 2)) m s i : Nat) : Int)) ∧ r = trb m (nD (M 2)) (nG (M 3)) s) := by
  have n8 := hn.1
  have hD := nt_D hn hm
  refine wp_K (fun Q hQ => ?_)
  unfold fx_X11_laysSetting
  refine wp_lt ?_
  refine wp_lt ?_
  refine wp_lp2 (fun a z M1 => ∃ v q : Nat, z = (v : Int) ∧ a = (q : Int) ∧ v ≤ m ∧ q < 2147483648 ∧ tp_fr [20] M M1 ∧ (∀ i : Nat, i < v → dg (nD (M 2)) m s i = dg (nD (M 2)) v q i) ∧ ∀ i : Nat, v ≤ i → i < m → M1 20 ((i : Int) + 1) = ((dg (nD (M 2)) m s i : Nat) : Int)) (fun _ z _ => z.toNat) ?_ tp_F (s : Int) (M 0 3 - 1) M ⟨m, s, by omega, rfl, Nat.le_refl m, hs, fr_rf, fun _ _ => rfl, fun i i1 i2 => by omega⟩ (tp_F_pos (by omega))
  rintro rec a z M1 ⟨v, q, rfl, rfl, v1, q1, f, h1, h2⟩ hrec
  have e2 : M1 2 = M 2 := f 2 (by simp)
  have e3 : M1 3 = M 3 := f 3 (by simp)
  have e0 : M1 0 = M 0 := f 0 (by simp)
  unfold fx_X11_laysSetting_L9
  rw [w32_id (show -2147483648 ≤ (v : Int) ∧ (v : Int) < 2147483648 by omega)]
  by_cases hv : (v : Int) ≤ 0
  · rw [if_pos hv]
    have hR : ∀ u : Int, 1 ≤ u → u < M1 0 3 → 0 ≤ M1 20 u ∧ M1 20 u < M1 2 u := fun u u1 u2 => by
      rw [e0] at u2
      have := h2 (u - 1).toNat (by omega) (by omega)
      rw [show (((u - 1).toNat : Nat) : Int) + 1 = u by omega] at this
      have hl := dg_lt (m := m) (D := nD (M 2)) (fun i hi => (hD i hi).1) m s (u - 1).toNat (Nat.le_refl m) (by omega)
      have hd := (hD (u - 1).toNat (by omega)).2.2
      rw [show (((u - 1).toNat : Nat) : Int) + 1 = u by omega] at hd
      rw [this, e2]
      omega
    have hn1 : nt_net (M1 0 3) (M1 2) (M1 3) := by rw [e0, e2, e3]; exact hn
    try dsimp only
    rw [ps_comesBy (Or.inr ⟨rfl, rfl⟩) hn1 hR, tp_bd_s, e0, e3, hm]
    have hw1 : ∀ z : Int, 0 ≤ ob_w8 (M 3) (M1 20) z ∧ ob_w8 (M 3) (M1 20) z ≤ 1 := fun z => by unfold ob_w8; split <;> omega
    have hb := sumI_in (g := ob_w8 (M 3) (M1 20)) (lo := 0) (hi := 1) m 1 (fun z _ _ => hw1 z)
    have hfull := sum_full (f := ob_w8 (M 3) (M1 20)) m (fun z _ _ => hw1 z)
    have hal := al_ob (n := M 0 3) (D := M 2) (G := M 3) (R := M1 20) (s := sg_of (nG (M 3)) (dg (nD (M 2)) m s)) hn (fun u u1 u2 => by have := hR u u1 (by rw [e0]; exact u2); rw [e2] at this; exact this) (fun i hi => by
      rw [h2 i (by omega) (by omega)]; rfl)
    rw [hm] at hal
    have hiff : sumI (ob_w8 (M 3) (M1 20)) 1 m = M 0 3 - 1 ↔ al m (sg_of (nG (M 3)) (dg (nD (M 2)) m s)) := by
      rw [hal, show M 0 3 - 1 = (m : Int) by omega, hfull]
      constructor
      · intro h u u1 u2
        have := h u u1 (by omega)
        unfold ob_w8 at this
        exact Classical.byContradiction (fun c => by rw [if_neg c] at this; omega)
      · intro h u u1 u2
        unfold ob_w8
        rw [if_pos (h u u1 (by omega))]
    rw [w32_id (show -2147483648 ≤ sumI (ob_w8 (M 3) (M1 20)) 1 m ∧ sumI (ob_w8 (M 3) (M1 20)) 1 m < 2147483648 by omega), w32_id (show -2147483648 ≤ M 0 3 - 1 ∧ M 0 3 - 1 < 2147483648 by omega)]
    by_cases c : sumI (ob_w8 (M 3) (M1 20)) 1 m = M 0 3 - 1
    · rw [if_pos c]
      exact wp_some (hQ _ _ ⟨f, fun i hi => h2 i (by omega) hi, ((trb_01 s).1 (hiff.mp c)).symm⟩)
    · rw [if_neg c]
      exact wp_some (hQ _ _ ⟨f, fun i hi => h2 i (by omega) hi, ((trb_01 s).2 (fun w => c (hiff.mpr w))).symm⟩)
  · rw [if_neg hv]
    obtain ⟨u, rfl⟩ : ∃ u, v = u + 1 := ⟨v - 1, by omega⟩
    obtain ⟨d1, d2, d3⟩ := hD u (by omega)
    have dE : M1 2 ((u + 1 : Nat) : Int) = ((nD (M 2) u : Nat) : Int) := by rw [e2, d3, show ((u + 1 : Nat) : Int) = (u : Int) + 1 by omega]
    rw [dE, x_rem_nn (by omega) (by omega)]
    refine wp_ck (by omega) ?_
    refine wp_nz (by rw [w32_id (by omega)]; omega) ?_
    refine wp_ck (by omega) ?_
    refine wp_lm ?_
    refine wp_ck (by omega) ?_
    rw [show tp_up M1 20 ((u + 1 : Nat) : Int) ((q : Int) % ((nD (M 2) u : Nat) : Int)) 2 ((u + 1 : Nat) : Int) = ((nD (M 2) u : Nat) : Int) by rw [up_k _ _ _ (by decide)]; exact dE, x_div_nn (by omega) (by omega)]
    refine wp_nz (by rw [w32_id (by omega)]; omega) ?_
    refine wp_lt ?_
    refine wp_lt ?_
    have hq2 : q / nD (M 2) u ≤ q := Nat.div_le_self _ _
    refine hrec _ _ _ ⟨u, q / nD (M 2) u, by omega, by rw [Int.natCast_ediv], by omega, by omega, fr_up f (by simp), fun i hi => ?_, fun i i1 i2 => ?_⟩ (by omega)
    · rw [h1 i (by omega)]
      show (if i = u then q % nD (M 2) u else dg (nD (M 2)) u (q / nD (M 2) u) i) = _
      rw [if_neg (by omega)]
    · rw [up_c]
      by_cases c : i = u
      · rw [if_pos (by omega), c, h1 u (by omega), ← Int.natCast_emod]
        show _ = (((if u = u then q % nD (M 2) u else dg (nD (M 2)) u (q / nD (M 2) u) u : Nat)) : Int)
        rw [if_pos rfl]
      · rw [if_neg (by omega)]; exact h2 i (by omega) i2
end PR
theorem T_cc {n : Int} {D G : Int → Int} {m v b : Nat} {s : Nat → Int} (hv : v ≤ m) (hs : ∀ i : Nat, i < v → s i = sg_of (nG G) (dg (nD D) v b) i) : dt_det m (tmx v s (nD D) (nG G)) = cc m (nD D) (nG G) v b := by
  rw [tn_det (m - v) v s (by omega)]
  exact tn_cg _ _ _ _ (by omega) hs
section ST
variable {B : Int} {C M : tp_M}
theorem tr_net (h : Sim B C M) {M1 : tp_M} (f : tp_fr [0, 1, 20] M M1) (e3 : M1 0 3 = M 0 3) : nt_net (M1 0 3) (M1 2) (M1 3) := by
  rw [e3, f 2 (by simp), f 3 (by simp)]; exact h.2.2.1.2.1
theorem st_trees (h : Sim B C M) : wp2 (fx_X10_trees C) (fx_X11_trees M) (Ans B) := by
  have hN : nC C (M 0 3) (M 2) (M 3) := h.2.2.1
  have n8 := cn_n hN
  have hn := hN.2.1
  generalize hm : (M 0 3 - 1).toNat = m
  have hD := nt_D hn hm
  have w16 := wu_16 hn hm (Nat.le_refl m)
  have hwm : wf (nD (M 2)) m 0 = wu (nD (M 2)) m := by
    have := wu_wf (m := m) (D := nD (M 2)) m 0 (by omega)
    rw [← this]; show wu (nD (M 2)) m * 1 = _; rw [Nat.mul_one]
  have hww : w32 ((wu (nD (M 2)) m : Nat) : Int) = ((wu (nD (M 2)) m : Nat) : Int) := w32_id (by omega)
  refine wp2_of (P1 := fun r C1 => tp_fr (3 :: 4 :: elC) C C1 ∧ tdC C1 1 (fun _ => ((wu (nD (M 2)) m : Nat) : Int)) ∧ r = cc m (nD (M 2)) (nG (M 3)) 0 0) (P2 := fun r M1 => tp_fr [0, 1, 20] M M1 ∧ (∀ j : Int, ¬ j = 0 → ¬ j = 1 → M1 0 j = M 0 j) ∧ tdM M1 1 (fun _ => ((wu (nD (M 2)) m : Nat) : Int)) ∧ r = cc m (nD (M 2)) (nG (M 3)) 0 0) ?_ ?_ (fun r1 C1 r2 M1 p q => ?_)
  · unfold fx_X10_trees
    refine wp_lt ?_
    refine wp_lt ?_
    refine wp_lp2 (fun a z C1 => C1 = C ∧ ∃ v : Nat, z = (v : Int) + 1 ∧ v ≤ m ∧ a = ((wu (nD (M 2)) v : Nat) : Int)) (fun _ z _ => (9 - z).toNat) ?_ tp_F 1 1 C ⟨rfl, 0, rfl, by omega, rfl⟩ (tp_F_pos (by omega))
    rintro rec a z C1 ⟨rfl, v, rfl, v1, rfl⟩ hrec
    unfold fx_X10_trees_L4
    rw [cn_crossings hN, tp_bd_s, w32_id (show -2147483648 ≤ (v : Int) + 1 ∧ (v : Int) + 1 < 2147483648 by omega), w32_id (show -2147483648 ≤ M 0 3 ∧ M 0 3 < 2147483648 by omega)]
    by_cases hv : (v : Int) + 1 < M 0 3
    · rw [if_pos hv, cn_degree hN (by omega), tp_bd_s]
      refine wp_lt ?_
      refine wp_lt ?_
      refine hrec _ _ _ ⟨rfl, v + 1, by omega, by omega, ?_⟩ (by omega)
      rw [← (hD v (by omega)).2.2]
      show _ = ((wu (nD (M 2)) v * nD (M 2) v : Nat) : Int)
      rw [Int.natCast_mul]
    · have hvm : v = m := by omega
      subst hvm
      rw [if_neg hv]; (try dsimp only); rw [hww, pc_tell1, tp_bd_s]
      have hN2 : nC (tp_up (tp_up (tp_up C1 3 1 0) 4 0 ((wu (nD (M 2)) v : Nat) : Int)) 3 1 1) (M 0 3) (M 2) (M 3) := nC_fr hN (by simp (disch := omega) only [up_k]) (by simp (disch := omega) only [up_k]) (by simp (disch := omega) only [up_k]) (by simp (disch := omega) only [up_k]) (by simp (disch := omega) only [up_k])
      have hT := cs_treesWith (f := 0) (s := fun _ => 0) hN2 (by omega) (fun i hi => by omega)
      refine wp_call hT (fun r C2 w => ?_)
      obtain ⟨w1, w2, -⟩ := w
      have td := td_1C C1 ((wu (nD (M 2)) v : Nat) : Int)
      refine wp_some ⟨fr_tr (fr_up (fr_up (fr_up fr_rf (by simp)) (by simp)) (by simp)) (fr_mono w1 (by simp)), ⟨by rw [w1 3 (by simp)]; exact td.1, fun j j1 j2 => by rw [w1 4 (by simp)]; exact td.2 j j1 j2⟩, ?_⟩
      rw [w2, hm]
      exact T_cc (n := 0) (by omega) (fun i hi => by omega)
  · unfold fx_X11_trees
    refine wp_lm ?_
    refine wp_lt ?_
    refine wp_lt ?_
    refine wp_lp2 (fun a z M1 => tp_fr [0, 1, 20] M M1 ∧ (∀ j : Int, ¬ j = 0 → ¬ j = 1 → M1 0 j = M 0 j) ∧ ∃ s : Nat, z = (s : Int) ∧ s ≤ wu (nD (M 2)) m ∧ a = ahd m (nD (M 2)) (nG (M 3)) s) (fun _ z _ => (((wu (nD (M 2)) m : Nat) : Int) - z).toNat) ?_ tp_F 0 0 _ ⟨fr_up fr_rf (by simp), fun j a _ => up_j _ _ _ a, 0, rfl, by omega, rfl⟩ (tp_F_pos (by omega))
    rintro rec a z M1 ⟨f, f0, s, rfl, s1, rfl⟩ hrec
    have e3 : M1 0 3 = M 0 3 := f0 3 (by decide) (by decide)
    have e2 : M1 2 = M 2 := f 2 (by simp)
    have e33 : M1 3 = M 3 := f 3 (by simp)
    have hn1 := tr_net h f e3
    unfold fx_X11_trees_L9
    rw [ps_settings (m := m) hn1 (by rw [e3]; exact hm), tp_bd_s, e2, w32_id (show -2147483648 ≤ (s : Int) ∧ (s : Int) < 2147483648 by omega), w32_id (show -2147483648 ≤ ((wu (nD (M 2)) m : Nat) : Int) ∧ ((wu (nD (M 2)) m : Nat) : Int) < 2147483648 by omega)]
    by_cases hsW : (s : Int) < ((wu (nD (M 2)) m : Nat) : Int)
    · rw [if_pos hsW]
      refine wp_call (ps_laysSetting (m := m) (s := s) hn1 (by rw [e3]; exact hm) (by omega)) (fun r M2 w => ?_)
      obtain ⟨w1, w2, w3⟩ := w
      rw [e2, e33] at w3
      have t01 := trb_in (m := m) (D := nD (M 2)) (g := nG (M 3)) s
      rw [pm_flag, tp_bd_s]
      refine wp_lt ?_
      refine wp_lt ?_
      refine hrec _ _ _ ⟨?_, ?_, s + 1, ?_, ?_, ?_⟩ ?_
      · exact fr_tr f (fr_mono w1 (by simp))
      · intro j a b
        rw [w1 0 (by simp)]
        exact f0 j a b
      · omega
      · omega
      · show _ = ahd m (nD (M 2)) (nG (M 3)) s + trb m (nD (M 2)) (nG (M 3)) s
        rw [w3, w32_id (by omega)]
        by_cases c : trb m (nD (M 2)) (nG (M 3)) s = 0
        · rw [if_pos c, c]
        · rw [if_neg c]; omega
      · omega
    · rw [if_neg hsW]
      have hs : s = wu (nD (M 2)) m := by omega
      refine wp_lm ?_
      have hn2 : nt_net (tp_up M1 0 1 0 0 3) (tp_up M1 0 1 0 2) (tp_up M1 0 1 0 3) := by
        rw [up_j _ _ _ (by decide), up_k _ _ _ (by decide), up_k _ _ _ (by decide)]; exact hn1
      rw [ps_settings (m := m) hn2 (by rw [up_j _ _ _ (by decide), e3]; exact hm), tp_bd_s, up_k _ _ _ (by decide), e2, hww, pm_enters (t := 0) (up_s _ _ _ _) (by decide), tp_bd_s]
      refine wp_some ⟨?_, ?_, ?_, ?_⟩
      · exact fr_up (fr_up (fr_up f (by simp)) (by simp)) (by simp)
      · intro j a b
        rw [up_j _ _ _ b, up_k _ _ _ (by decide), up_j _ _ _ b]; exact f0 j a b
      · exact td_1M _ _
      · rw [hs, cc_all, hwm]
        rfl
  · obtain ⟨p1, p2, p3⟩ := p
    obtain ⟨q1, q2, q3, q4⟩ := q
    refine ans_told h (fr_mono p1 (by simp)) (fr_mono q1 (by simp)) (fun j hj => ?_) (by rw [p3, q4]) ⟨by decide, by decide⟩ p2 q3 (fun _ _ _ => rfl)
    exact q2 j (f0_ne hj (by decide)) (f0_ne hj (by decide))
end ST
