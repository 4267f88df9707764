/-! PLANTS: the call -/
theorem ps_entersPosts {M : tp_M} {m s : Nat} (hn : nt_net (M 0 3) (M 2) (M 3)) (hm : (M 0 3 - 1).toNat = m) (hs : s < 2147483648) : wp (fx_X11_entersPosts (s : Int) M) (fun _ M1 => tp_fr [0, 1, 20] M M1 ∧ (∀ j : Int, ¬ j = 1 → M1 0 j = M 0 j) ∧ tdM M1 (M 0 3 - 1) (fun j => w32 ((dg (nD (M 2)) m s j.toNat : Nat) : Int))) := by
  have n8 := hn.1
  refine wp_K (fun Q hQ => ?_)
  unfold fx_X11_entersPosts
  refine wp_call (ps_laysSetting hn hm hs) (fun r M1 w => ?_)
  obtain ⟨w1, w2, -⟩ := w
  refine wp_lm ?_
  refine wp_lt ?_
  have e0 : ∀ j : Int, M1 0 j = M 0 j := fun j => by rw [w1 0 (by simp)]
  refine lp1_enter (body := fx_X11_entersPosts_L13) (K := fun M4 => some (0, M4)) (g := fun z => w32 (M1 20 z)) (n := M 0 3) (M := tp_up M1 0 1 0) (Q := Q) (by omega) (up_s _ _ _ _) (fun rec z M4 t1 t2 z1 z2 => ?_) (fun rec M4 t1 t2 => ?_) (fun M4 t1 t2 t3 => wp_some (hQ _ _ ⟨?_, fun j hj => ?_, t3.1, fun j j1 j2 => ?_⟩))
  · have e3 : M4 0 3 = M 0 3 := by rw [t2 3 (by decide), up_j _ _ _ (by decide), e0]
    have e20 : M4 20 = M1 20 := by rw [t1 20 (by simp), up_k _ _ _ (by decide)]
    unfold fx_X11_entersPosts_L13
    rw [e3, e20]
    simp (disch := omega) only [↓tp_lm_n, ↓tp_lt_n, ↓tp_bd_n, ↓tp_jn0_n, ↓tp_jn1_n, ↓tp_jn2_n, ↓tp_jn3_n, w32_id, if_pos, if_neg, if_true, if_false, tp_ck_t, tp_nz_t, tp_gd_i]
  · have e3 : M4 0 3 = M 0 3 := by rw [t2 3 (by decide), up_j _ _ _ (by decide), e0]
    unfold fx_X11_entersPosts_L13
    rw [e3]
    simp (disch := omega) only [↓tp_lm_n, ↓tp_lt_n, ↓tp_bd_n, ↓tp_jn0_n, ↓tp_jn1_n, ↓tp_jn2_n, ↓tp_jn3_n, w32_id, if_pos, if_neg, if_true, if_false, tp_ck_t, tp_nz_t, tp_gd_i]
  · exact fr_tr (fr_mono w1 (by simp)) (fr_tr (fr_up fr_rf (by simp)) (fr_mono t1 (by simp)))
  · rw [t2 j hj, up_j _ _ _ hj, e0]
  · rw [t3.2 j j1 j2]
    have := w2 j.toNat (by omega)
    rw [show ((j.toNat : Nat) : Int) = j by omega] at this
    show w32 (M1 20 (j + 1)) = _
    rw [this]
section ST
variable {B : Int} {C M : tp_M} {a1 : Int}
/-- where the search comes to: the tree with so many ahead -/
def pl_ok (m : Nat) (D : Nat → Nat) (g : Nat → Nat → Int) (a1 : Int) (d : Nat → Nat) : Prop := (∀ i : Nat, i < m → d i < D i) ∧ trb m D g (nb D d m) = 1 ∧ a1 = ahd m D g (nb D d m)
theorem cs_plants (h : Sim B C M) {m : Nat} (hm : (M 0 3 - 1).toNat = m) (ha : 0 ≤ a1 ∧ a1 ≤ 999) : wp (fx_X10_plants a1 C) (fun r C1 => tp_fr (3 :: 4 :: 60 :: elC) C C1 ∧ ((r = -2 ∧ ahd m (nD (M 2)) (nG (M 3)) (wu (nD (M 2)) m) ≤ a1 ∧ C1 3 1 = C 3 1 ∧ C1 4 = C 4) ∨ (r = 0 ∧ ∃ d : Nat → Nat, pl_ok m (nD (M 2)) (nG (M 3)) a1 d ∧ tdC C1 (M 0 3 - 1) (fun j => w32 (d j.toNat : Int))))) := by
  have hN : nC C (M 0 3) (M 2) (M 3) := h.2.2.1
  have n8 := cn_n hN
  have hn := hN.2.1
  have hD := nt_D hn hm
  have hwm : wf (nD (M 2)) m 0 = wu (nD (M 2)) m := by
    have := wu_wf (m := m) (D := nD (M 2)) m 0 (by omega)
    rw [← this]; show wu (nD (M 2)) m * 1 = _; rw [Nat.mul_one]
  have hwf (v : Nat) (hv : v < m) : wf (nD (M 2)) (m - v) v = nD (M 2) v * wf (nD (M 2)) (m - (v + 1)) (v + 1) := by
    rw [show m - v = (m - (v + 1)) + 1 by omega]; rfl
  refine wp_K (fun Q hQ => ?_)
  unfold fx_X10_plants
  rw [w32_id (show -2147483648 ≤ a1 ∧ a1 < 2147483648 by omega), if_neg (by omega), if_pos ha.2]
  refine wp_call (cs_T (m := m) (f := 0) (d := fun _ => 0) hN hm (by omega) (fun i hi => by omega)) (fun r C0 w => ?_)
  obtain ⟨w1, w2, w3⟩ := w
  have w2 : r = cc m (nD (M 2)) (nG (M 3)) 0 0 := w2
  rw [cc_all, hwm] at w2
  have w2 : r = ahd m (nD (M 2)) (nG (M 3)) (wu (nD (M 2)) m) := w2
  have f0 : tp_fr (3 :: 4 :: 60 :: elC) C C0 := fr_mono w1 (fun c hc => List.mem_cons_of_mem _ (List.mem_cons_of_mem _ (List.mem_cons_of_mem _ hc)))
  rw [w32_id (show -2147483648 ≤ r ∧ r < 2147483648 by omega)]
  by_cases hlt : a1 < r
  · rw [if_pos hlt]
    refine wp_lt ?_
    refine wp_lt ?_
    refine wp_lp2 (fun a z C1 => tp_fr (60 :: elC) C C1 ∧ ∃ (v : Nat) (d : Nat → Nat), z = (v : Int) + 1 ∧ v ≤ m ∧ (∀ i : Nat, i < v → C1 60 ((i : Int) + 1) = (d i : Int) ∧ d i < nD (M 2) i) ∧ a = a1 - ahd m (nD (M 2)) (nG (M 3)) (nb (nD (M 2)) d v * wf (nD (M 2)) (m - v) v) ∧ (0 ≤ a ∧ a ≤ 999) ∧ a1 < ahd m (nD (M 2)) (nG (M 3)) ((nb (nD (M 2)) d v + 1) * wf (nD (M 2)) (m - v) v)) (fun _ z _ => (9 - z).toNat) ?_ tp_F a1 1 C0 ⟨fr_mono w1 (fun c hc => List.mem_cons_of_mem _ hc), 0, fun _ => 0, rfl, by omega, fun i hi => by omega, by show a1 = a1 - ahd m (nD (M 2)) (nG (M 3)) (0 * wf (nD (M 2)) (m - 0) 0); rw [Nat.zero_mul]; show a1 = a1 - 0; omega, ha, by show a1 < ahd m (nD (M 2)) (nG (M 3)) ((0 + 1) * wf (nD (M 2)) (m - 0) 0); rw [Nat.zero_add, Nat.one_mul, Nat.sub_zero, hwm]; omega⟩ (tp_F_pos (by omega))
    rintro rec a z C1 ⟨f, v, d, rfl, v1, v2, v3, v4, v5⟩ hrec
    have hN1 : nC C1 (M 0 3) (M 2) (M 3) := nC_fr hN (f 5 (by simp)) (f 6 (by simp)) (f 7 (by simp)) (f 8 (by simp)) (f 9 (by simp))
    unfold fx_X10_plants_L40
    rw [cn_crossings hN1, tp_bd_s, w32_id (show -2147483648 ≤ (v : Int) + 1 ∧ (v : Int) + 1 < 2147483648 by omega), w32_id (show -2147483648 ≤ M 0 3 ∧ M 0 3 < 2147483648 by omega)]
    by_cases hv : (v : Int) + 1 < M 0 3
    · rw [if_pos hv]
      obtain ⟨dv1, dv2, dv3⟩ := hD v (by omega)
      refine wp_ck (by omega) ?_
      refine wp_lm ?_
      have nb1 : ∀ k : Nat, nb (nD (M 2)) (fun i => if i = v then k else d i) (v + 1) = nb (nD (M 2)) d v * nD (M 2) v + k := fun k => by
        show nb (nD (M 2)) (fun i => if i = v then k else d i) v * nD (M 2) v + (if v = v then k else d v) = _
        rw [if_pos rfl, nb_cg v (fun i hi => if_neg (by omega))]
      have hTk : ∀ (k : Nat) (C3 : tp_M), tp_fr (60 :: elC) C C3 → k < nD (M 2) v → C3 60 ((v : Int) + 1) = (k : Int) → (∀ i : Nat, i < v → C3 60 ((i : Int) + 1) = (d i : Int)) → wp (fx_X0_treesWith 60 8 ((v : Int) + 1) C3) (fun r C4 => tp_fr elC C3 C4 ∧ r = cc m (nD (M 2)) (nG (M 3)) (v + 1) (nb (nD (M 2)) d v * nD (M 2) v + k) ∧ 0 ≤ r ∧ r ≤ 82575360) := fun k C3 f3 hk e1 e2 => by
        have hN3 : nC C3 (M 0 3) (M 2) (M 3) := nC_fr hN (f3 5 (by simp)) (f3 6 (by simp)) (f3 7 (by simp)) (f3 8 (by simp)) (f3 9 (by simp))
        have hT := cs_T (m := m) (f := v + 1) (d := fun i => if i = v then k else d i) hN3 hm (by omega) (fun i hi => by
          by_cases e : i = v
          · simp only [if_pos e]
            rw [e]
            exact ⟨e1, hk⟩
          · simp only [if_neg e]
            exact ⟨e2 i (by omega), (v2 i (by omega)).2⟩)
        rw [nb1 k, show ((v + 1 : Nat) : Int) = (v : Int) + 1 by omega] at hT
        exact hT
      have f1 : tp_fr (60 :: elC) C (tp_up C1 60 ((v : Int) + 1) 0) := fr_up f (by simp)
      refine wp_call (hTk 0 _ f1 (by omega) (up_s _ _ _ _) (fun i hi => by rw [up_j _ _ _ (by omega)]; exact (v2 i hi).1)) (fun r4 C4 w => ?_)
      obtain ⟨x1, x2, x3⟩ := w
      refine wp_lt ?_
      refine wp_lp2 (fun a t C2 => tp_fr (60 :: elC) C C2 ∧ ∃ k : Nat, k < nD (M 2) v ∧ C2 60 ((v : Int) + 1) = (k : Int) ∧ (∀ i : Nat, i < v → C2 60 ((i : Int) + 1) = (d i : Int)) ∧ a = a1 - ahd m (nD (M 2)) (nG (M 3)) ((nb (nD (M 2)) d v * nD (M 2) v + k) * wf (nD (M 2)) (m - (v + 1)) (v + 1)) ∧ (0 ≤ a ∧ a ≤ 999) ∧ t = cc m (nD (M 2)) (nG (M 3)) (v + 1) (nb (nD (M 2)) d v * nD (M 2) v + k) ∧ (0 ≤ t ∧ t ≤ 82575360)) (fun _ _ C2 => (9 - C2 60 ((v : Int) + 1)).toNat) ?_ tp_F a r4 C4 ⟨fr_tr f1 (fr_mono x1 (fun c hc => List.mem_cons_of_mem _ hc)), 0, by omega, by rw [x1 60 (by simp)]; exact up_s _ _ _ _, fun i hi => by rw [x1 60 (by simp), up_j _ _ _ (by omega)]; exact (v2 i hi).1, by rw [Nat.add_zero, Nat.mul_assoc, ← hwf v (by omega)]; exact v3, v4, x2, x3⟩ (by
        have : C4 60 ((v : Int) + 1) = 0 := by rw [x1 60 (by simp)]; exact up_s _ _ _ _
        rw [this]; exact tp_F_pos (by omega))
      rintro rec2 a2 t C2 ⟨f2, k, k1, k2, k3, k4, k5, k6, k7⟩ hrec2
      have hN2 : nC C2 (M 0 3) (M 2) (M 3) := nC_fr hN (f2 5 (by simp)) (f2 6 (by simp)) (f2 7 (by simp)) (f2 8 (by simp)) (f2 9 (by simp))
      have hblk := ahd_blk (m := m) (D := nD (M 2)) (g := nG (M 3)) (f := m - (v + 1)) (v := v + 1) (nb (nD (M 2)) d v * nD (M 2) v + k) (by omega)
      have out : a2 < t → wp (tp_lt ((v : Int) + 1 + 1) (fun x26 => rec a2 x26 C2)) Q := fun hlt2 => by
        refine wp_lt ?_
        refine hrec _ _ _ ⟨f2, v + 1, fun i => if i = v then k else d i, by omega, by omega, fun i hi => ?_, ?_, k5, ?_⟩ (by omega)
        · by_cases e : i = v
          · simp only [if_pos e]
            rw [e]; exact ⟨k2, k1⟩
          · simp only [if_neg e]
            exact ⟨k3 i (by omega), (v2 i (by omega)).2⟩
        · rw [nb1 k]; exact k4
        · rw [nb1 k, hblk]; omega
      unfold fx_X10_plants_L76
      rw [w32_id (show -2147483648 ≤ a2 ∧ a2 < 2147483648 by omega), w32_id (show -2147483648 ≤ t ∧ t < 2147483648 by omega)]
      by_cases hat : a2 < t
      · rw [if_pos hat]
        exact out hat
      · rw [if_neg hat, w32_id (show -2147483648 ≤ (v : Int) + 1 ∧ (v : Int) + 1 < 2147483648 by omega)]
        refine wp_ck (by omega) ?_
        rw [cn_degree hN2 (a := (v : Int) + 1) (by omega), tp_bd_s, k2, ← dv3, w32_id (show -2147483648 ≤ (k : Int) ∧ (k : Int) < 2147483648 by omega), w32_id (show -2147483648 ≤ ((nD (M 2) v : Nat) : Int) - 1 ∧ ((nD (M 2) v : Nat) : Int) - 1 < 2147483648 by omega)]
        by_cases hkd : (k : Int) < ((nD (M 2) v : Nat) : Int) - 1
        · rw [if_pos hkd]
          refine wp_lt ?_
          refine wp_ck (by omega) ?_
          refine wp_ck (by omega) ?_
          refine wp_lm ?_
          have f3 : tp_fr (60 :: elC) C (tp_up C2 60 ((v : Int) + 1) ((k : Int) + 1)) := fr_up f2 (by simp)
          refine wp_call (hTk (k + 1) _ f3 (by omega) (by rw [up_s]; omega) (fun i hi => by rw [up_j _ _ _ (by omega)]; exact k3 i hi)) (fun r5 C5 w => ?_)
          obtain ⟨y1, y2, y3⟩ := w
          refine wp_lt ?_
          have e60 : C5 60 ((v : Int) + 1) = (k : Int) + 1 := by rw [y1 60 (by simp)]; exact up_s _ _ _ _
          refine hrec2 _ _ _ ⟨fr_tr f3 (fr_mono y1 (fun c hc => List.mem_cons_of_mem _ hc)), k + 1, by omega, by rw [e60]; omega, fun i hi => by rw [y1 60 (by simp), up_j _ _ _ (by omega)]; exact k3 i hi, ?_, by omega, y2, y3⟩ (by rw [e60, k2]; omega)
          rw [← Nat.add_assoc, hblk]; omega
        · exfalso
          have hk1 : k + 1 = nD (M 2) v := by omega
          have : (nb (nD (M 2)) d v * nD (M 2) v + k + 1) * wf (nD (M 2)) (m - (v + 1)) (v + 1) = (nb (nD (M 2)) d v + 1) * wf (nD (M 2)) (m - v) v := by
            rw [Nat.add_assoc, hk1, hwf v (by omega), ← Nat.mul_assoc, show (nb (nD (M 2)) d v + 1) * nD (M 2) v = nb (nD (M 2)) d v * nD (M 2) v + nD (M 2) v by rw [Nat.add_mul, Nat.one_mul]]
          rw [this] at hblk
          omega
    · rw [if_neg hv]
      have hvm : v = m := by omega
      try dsimp only
      rw [cn_crossings hN1, tp_bd_s]
      refine wp_call (pc_tellRow (k := 60) (n := M 0 3) ⟨by decide, by decide⟩ (by omega)) (fun _ C2 w => ?_)
      obtain ⟨x1, x2⟩ := w
      subst hvm
      rw [Nat.sub_self] at v3 v5
      have e1 : wf (nD (M 2)) 0 v = 1 := rfl
      rw [e1, Nat.mul_one] at v3 v5
      have e2 : ahd v (nD (M 2)) (nG (M 3)) (nb (nD (M 2)) d v + 1) = ahd v (nD (M 2)) (nG (M 3)) (nb (nD (M 2)) d v) + trb v (nD (M 2)) (nG (M 3)) (nb (nD (M 2)) d v) := rfl
      have e3 := trb_in (m := v) (D := nD (M 2)) (g := nG (M 3)) (nb (nD (M 2)) d v)
      refine wp_some (hQ _ _ ⟨fr_tr (fr_mono f (fun c hc => List.mem_cons_of_mem _ (List.mem_cons_of_mem _ hc))) (fr_mono x1 (by simp)), Or.inr ⟨rfl, d, ⟨fun i hi => (v2 i hi).2, by omega, by omega⟩, x2.1, fun j j1 j2 => ?_⟩⟩)
      rw [x2.2 j j1 j2]
      have := (v2 j.toNat (by omega)).1
      rw [show ((j.toNat : Nat) : Int) = j by omega] at this
      show w32 (C1 60 (j + 1)) = _
      rw [this]
  · rw [if_neg hlt]
    exact wp_some (hQ _ _ ⟨f0, Or.inl ⟨rfl, by omega, by rw [w1 3 (by simp)], w1 4 (by simp)⟩⟩)
theorem ps_plants (h : Sim B C M) {m : Nat} (hm : (M 0 3 - 1).toNat = m) (ha : 0 ≤ a1 ∧ a1 ≤ 999) : (ahd m (nD (M 2)) (nG (M 3)) (wu (nD (M 2)) m) ≤ a1 → wp (fx_X11_plants a1 M) (fun r M1 => r = -2 ∧ tp_fr [0, 20] M M1 ∧ ∀ j : Int, ¬ j = 0 → M1 0 j = M 0 j)) ∧ (∀ d : Nat → Nat, pl_ok m (nD (M 2)) (nG (M 3)) a1 d → wp (fx_X11_plants a1 M) (fun r M1 => r = 0 ∧ tp_fr [0, 1, 20] M M1 ∧ (∀ j : Int, ¬ j = 0 → ¬ j = 1 → M1 0 j = M 0 j) ∧ tdM M1 (M 0 3 - 1) (fun j => w32 (d j.toNat : Int)))) := by
  have hN : nC C (M 0 3) (M 2) (M 3) := h.2.2.1
  have n8 := cn_n hN
  have hn := hN.2.1
  have hD := nt_D hn hm
  have w16 := wu_16 hn hm (Nat.le_refl m)
  have run : ∀ (Q : Int → tp_M → Prop) (e : Nat), e ≤ wu (nD (M 2)) m → (∀ s : Nat, s < e → trb m (nD (M 2)) (nG (M 3)) s = 1 → ¬ ahd m (nD (M 2)) (nG (M 3)) s = a1) → (∀ (c1 : Int) (M1 : tp_M), tp_fr [0, 20] M M1 → (∀ j : Int, ¬ j = 0 → M1 0 j = M 0 j) → ∀ (K : Int → tp_M → tp_O) (rec : Int → Int → tp_M → tp_O), c1 = a1 → (∀ z M2, K z M2 = tp_bd (fx_X11_entersPosts z M2) (fun r19 M20 => some (0, M20))) → wp (fx_X11_plants_L23 c1 K rec (ahd m (nD (M 2)) (nG (M 3)) e) (e : Int) M1) Q) → wp (fx_X11_plants a1 M) Q := fun Q e he hno hend => by
    unfold fx_X11_plants
    refine wp_lm ?_
    rw [w32_id (show -2147483648 ≤ a1 ∧ a1 < 2147483648 by omega), pm_in (by unfold pu_in; omega) (by unfold pu_in; omega) (by unfold pu_in; omega), tp_bd_s, if_pos ha, if_neg (show ¬ w32 1 = 0 by decide)]
    refine wp_lt ?_
    refine wp_lt ?_
    refine wp_lp2 (fun a z M1 => tp_fr [0, 20] M M1 ∧ (∀ j : Int, ¬ j = 0 → M1 0 j = M 0 j) ∧ ∃ s : Nat, z = (s : Int) ∧ s ≤ e ∧ a = ahd m (nD (M 2)) (nG (M 3)) s) (fun _ z _ => ((e : Int) - z).toNat) ?_ tp_F 0 0 _ ⟨fr_up fr_rf (by simp), fun j a => up_j _ _ _ a, 0, rfl, by omega, rfl⟩ (tp_F_pos (by omega))
    rintro rec a z M1 ⟨f, f0, s, rfl, s1, rfl⟩ hrec
    by_cases hse : s = e
    · rw [hse]
      exact hend a1 M1 f f0 _ rec rfl (fun _ _ => rfl)
    · have e3 : M1 0 3 = M 0 3 := f0 3 (by decide)
      have e2 : M1 2 = M 2 := f 2 (by simp)
      have e33 : M1 3 = M 3 := f 3 (by simp)
      have hn1 : nt_net (M1 0 3) (M1 2) (M1 3) := by rw [e3, e2, e33]; exact hn
      unfold fx_X11_plants_L23
      rw [ps_settings (m := m) hn1 (by rw [e3]; exact hm), tp_bd_s, e2, w32_id (show -2147483648 ≤ (s : Int) ∧ (s : Int) < 2147483648 by omega), w32_id (show -2147483648 ≤ ((wu (nD (M 2)) m : Nat) : Int) ∧ ((wu (nD (M 2)) m : Nat) : Int) < 2147483648 by omega), if_pos (by omega)]
      refine wp_call (ps_laysSetting (m := m) (s := s) hn1 (by rw [e3]; exact hm) (by omega)) (fun r M2 w => ?_)
      obtain ⟨w1, w2, w3⟩ := w
      rw [e2, e33] at w3
      have t01 := trb_in (m := m) (D := nD (M 2)) (g := nG (M 3)) s
      have f2 : tp_fr [0, 20] M M2 := fr_tr f (fr_mono w1 (by simp))
      have f02 : ∀ j : Int, ¬ j = 0 → M2 0 j = M 0 j := fun j a => by rw [w1 0 (by simp)]; exact f0 j a
      have hahd : ahd m (nD (M 2)) (nG (M 3)) (s + 1) = ahd m (nD (M 2)) (nG (M 3)) s + trb m (nD (M 2)) (nG (M 3)) s := rfl
      have hle : ∀ s : Nat, 0 ≤ ahd m (nD (M 2)) (nG (M 3)) s ∧ ahd m (nD (M 2)) (nG (M 3)) s ≤ (s : Int) := fun s => by
        have h1 := sum_bd (f := trb m (nD (M 2)) (nG (M 3))) (c := 1) s (fun t _ => by have := trb_in (m := m) (D := nD (M 2)) (g := nG (M 3)) t; omega)
        have h2 := (sum_nn (f := trb m (nD (M 2)) (nG (M 3))) s (fun t _ => (trb_in t).1)).1
        show 0 ≤ dt_sum (trb m (nD (M 2)) (nG (M 3))) s ∧ dt_sum (trb m (nD (M 2)) (nG (M 3))) s ≤ (s : Int)
        omega
      have hls := hle s
      refine wp_jn1 ?_
      rw [w3, w32_id (by omega)]
      by_cases ct : trb m (nD (M 2)) (nG (M 3)) s = 0
      · rw [if_pos ct]
        refine wp_lt ?_
        exact hrec _ _ _ ⟨f2, f02, s + 1, by omega, by omega, by rw [hahd, ct]; omega⟩ (by omega)
      · have ct1 : trb m (nD (M 2)) (nG (M 3)) s = 1 := by omega
        rw [if_neg ct, w32_id (show -2147483648 ≤ ahd m (nD (M 2)) (nG (M 3)) s ∧ ahd m (nD (M 2)) (nG (M 3)) s < 2147483648 by omega), w32_id (show -2147483648 ≤ a1 ∧ a1 < 2147483648 by omega), if_neg (hno s (by omega) ct1)]
        refine wp_lt ?_
        refine wp_lt ?_
        exact hrec _ _ _ ⟨f2, f02, s + 1, by omega, by omega, by rw [hahd, ct1]⟩ (by omega)
  constructor
  · intro hle
    refine run _ (wu (nD (M 2)) m) (Nat.le_refl _) (fun s hs ht he => ?_) (fun c1 M1 f f0 K rec _ _ => ?_)
    · have hahd : ahd m (nD (M 2)) (nG (M 3)) (s + 1) = ahd m (nD (M 2)) (nG (M 3)) s + trb m (nD (M 2)) (nG (M 3)) s := rfl
      have := ahd_mono (m := m) (D := nD (M 2)) (g := nG (M 3)) (show s + 1 ≤ wu (nD (M 2)) m by omega)
      omega
    · have e3 : M1 0 3 = M 0 3 := f0 3 (by decide)
      have e2 : M1 2 = M 2 := f 2 (by simp)
      have hn1 : nt_net (M1 0 3) (M1 2) (M1 3) := by rw [e3, e2, f 3 (by simp)]; exact hn
      unfold fx_X11_plants_L23
      rw [ps_settings (m := m) hn1 (by rw [e3]; exact hm), tp_bd_s, e2, if_neg (by omega)]
      exact wp_some ⟨rfl, f, f0⟩
  · rintro d ⟨d1, d2, d3⟩
    have hlt := nb_lt m d1
    refine run _ (nb (nD (M 2)) d m) (by omega) (fun s hs ht he => ?_) (fun c1 M1 f f0 K rec hc hK => ?_)
    · have hahd : ahd m (nD (M 2)) (nG (M 3)) (s + 1) = ahd m (nD (M 2)) (nG (M 3)) s + trb m (nD (M 2)) (nG (M 3)) s := rfl
      have := ahd_mono (m := m) (D := nD (M 2)) (g := nG (M 3)) (show s + 1 ≤ nb (nD (M 2)) d m by omega)
      omega
    · subst hc
      have e3 : M1 0 3 = M 0 3 := f0 3 (by decide)
      have e2 : M1 2 = M 2 := f 2 (by simp)
      have e33 : M1 3 = M 3 := f 3 (by simp)
      have hn1 : nt_net (M1 0 3) (M1 2) (M1 3) := by rw [e3, e2, e33]; exact hn
      unfold fx_X11_plants_L23
      rw [ps_settings (m := m) hn1 (by rw [e3]; exact hm), tp_bd_s, e2, if_pos (by rw [w32_id (by omega), w32_id (by omega)]; omega)]
      refine wp_call (ps_laysSetting (m := m) (s := nb (nD (M 2)) d m) hn1 (by rw [e3]; exact hm) (by omega)) (fun r M2 w => ?_)
      obtain ⟨w1, w2, w3⟩ := w
      rw [e2, e33, d2] at w3
      have f2 : tp_fr [0, 20] M M2 := fr_tr f (fr_mono w1 (by simp))
      have f02 : ∀ j : Int, ¬ j = 0 → M2 0 j = M 0 j := fun j a => by rw [w1 0 (by simp)]; exact f0 j a
      refine wp_jn1 ?_
      rw [w3, if_neg (show ¬ w32 1 = 0 by decide), ← d3, if_pos rfl, hK]
      have g3 : M2 0 3 = M 0 3 := f02 3 (by decide)
      have g2 : M2 2 = M 2 := f2 2 (by simp)
      refine wp_call (ps_entersPosts (m := m) (s := nb (nD (M 2)) d m) (M := M2) (by rw [g3, g2, f2 3 (by simp)]; exact hn) (by rw [g3]; exact hm) (by omega)) (fun _ M3 w => ?_)
      obtain ⟨x1, x2, x3⟩ := w
      refine wp_some ⟨rfl, fr_tr (fr_mono f2 (by simp)) x1, fun j a b => by rw [x2 j b]; exact f02 j a, by rw [g3] at x3; exact x3.1, fun j j1 j2 => ?_⟩
      rw [g3, g2] at x3
      rw [x3.2 j j1 j2]
      show w32 ((dg (nD (M 2)) m (nb (nD (M 2)) d m) j.toNat : Nat) : Int) = w32 (d j.toNat : Int)
      rw [nb_dg m d1 j.toNat (by omega)]
theorem st_plants (h1 : pu_in a1) (h : Sim B C M) : wp2 (fx_X10_plants a1 C) (fx_X11_plants a1 M) (Ans B) := by
  have hN : nC C (M 0 3) (M 2) (M 3) := h.2.2.1
  have n8 := cn_n hN
  by_cases ha : 0 ≤ a1 ∧ a1 ≤ 999
  · obtain ⟨r1, C1, e1, f1, q⟩ := cs_plants h rfl ha
    obtain ⟨p1, p2⟩ := ps_plants (B := B) (C := C) h rfl ha
    rcases q with ⟨rfl, q1, q2, q3⟩ | ⟨rfl, d, q1, q2⟩
    · obtain ⟨r2, M1, e2, rfl, g1, g2⟩ := p1 q1
      rw [e1, e2]
      exact wp2_some (ans_same h (fr_mono f1 (by simp)) (fr_mono g1 (by simp)) (fun j hj => g2 j (f0_ne hj (by decide))) rfl q2 q3 (g2 1 (by decide)) (g1 1 (by simp)))
    · obtain ⟨r2, M1, e2, rfl, g1, g2, g3⟩ := p2 d q1
      rw [e1, e2]
      exact wp2_some (ans_told h (fr_mono f1 (by simp)) (fr_mono g1 (by simp)) (fun j hj => g2 j (f0_ne hj (by decide)) (f0_ne hj (by decide))) rfl (by omega) q2 g3 (fun _ _ _ => rfl))
  · unfold fx_X10_plants fx_X11_plants
    refine wp2_lm2 ?_
    unfold pu_in at h1
    rw [w32_id (show -2147483648 ≤ a1 ∧ a1 < 2147483648 by omega), pm_in (by unfold pu_in; omega) (by unfold pu_in; omega) (by unfold pu_in; omega), tp_bd_s, if_neg ha, if_pos (show w32 0 = 0 by decide)]
    by_cases h0 : a1 < 0
    · rw [if_pos h0]
      exact wp2_some (ans_no h)
    · rw [if_neg h0, if_neg (by omega)]
      exact wp2_some (ans_no h)
end ST
