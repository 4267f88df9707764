/-! GROWN, PLANTS -/
theorem nb_cg {D d d2 : Nat → Nat} : ∀ v : Nat, (∀ i : Nat, i < v → d2 i = d i) → nb D d2 v = nb D d v := by
  intro v
  induction v with
  | zero => intro _; rfl
  | succ v ih =>
    intro h
    show nb D d2 v * D v + d2 v = nb D d v * D v + d v
    rw [ih (fun i hi => h i (by omega)), h v (by omega)]
theorem cs_T {C : tp_M} {n : Int} {D G : Int → Int} {m f : Nat} {d : Nat → Nat} (hN : nC C n D G) (hm : (n - 1).toNat = m) (hf : f ≤ m) (hd : ∀ i : Nat, i < f → C 60 ((i : Int) + 1) = (d i : Int) ∧ d i < nD D i) : wp (fx_X0_treesWith 60 8 (f : Int) C) (fun r C1 => tp_fr elC C C1 ∧ r = cc m (nD D) (nG G) f (nb (nD D) d f) ∧ 0 ≤ r ∧ r ≤ 82575360) := by
  have n8 := cn_n hN
  have hD := nt_D hN.2.1 hm
  refine wp_mono (cs_treesWith (s := sg_of (nG G) d) hN (by omega) (fun i hi => ?_)) (fun r C1 w => ?_)
  · obtain ⟨h1, h2⟩ := hd i hi
    obtain ⟨-, -, h3⟩ := hD i (by omega)
    rw [h1]
    exact ⟨by omega, rfl⟩
  · obtain ⟨w1, w2, w3⟩ := w
    refine ⟨w1, ?_, w3⟩
    rw [w2, hm]
    refine T_cc (n := 0) hf (fun i hi => ?_)
    unfold sg_of
    rw [nb_dg f (fun j hj => (hd j hj).2) i hi]
theorem ps_posts20 {M : tp_M} (hn : 2 ≤ M 0 3 ∧ M 0 3 ≤ 8) (hc : ∀ v : Int, 1 ≤ v → v < M 0 3 → (0 ≤ M 20 v ∧ M 20 v < 8) ∧ 0 ≤ M 4 v ∧ M 4 v < 8) : wp (fx_X11_arePosts 20 8 4 17 M) (fun r M1 => M1 = M ∧ ((r = 1 ∧ ∀ v : Int, 1 ≤ v → v < M 0 3 → M 20 v = M 4 v) ∨ (r = 0 ∧ ∃ v : Int, (1 ≤ v ∧ v < M 0 3) ∧ ¬ M 20 v = M 4 v))) := by
  unfold fx_X11_arePosts
  refine wp_lt ?_
  refine wp_lt ?_
  refine wp_lp2 (fun a z M1 => M1 = M ∧ (1 ≤ z ∧ z ≤ M 0 3) ∧ ((a = 1 ∧ ∀ v : Int, 1 ≤ v → v < z → M 20 v = M 4 v) ∨ (a = 0 ∧ ∃ v : Int, (1 ≤ v ∧ v < M 0 3) ∧ ¬ M 20 v = M 4 v))) (fun _ z _ => (8 - z).toNat) ?_ tp_F 1 1 M ⟨rfl, by omega, Or.inl ⟨rfl, fun v v1 v2 => by omega⟩⟩ (tp_F_pos (by omega))
  intro rec a z M1 hI hrec
  obtain ⟨rfl, i1, i2⟩ := hI
  unfold fx_X11_arePosts_L5
  by_cases hz : z < M1 0 3
  · have h9 := hc z (by omega) hz
    rcases i2 with ⟨rfl, i2⟩ | ⟨rfl, i2⟩
    · by_cases he : M1 20 z = M1 4 z
      · simp (disch := omega) only [↓tp_lm_n, ↓tp_lt_n, ↓tp_bd_n, ↓tp_jn0_n, ↓tp_jn1_n, ↓tp_jn2_n, ↓tp_jn3_n, w32_id, if_pos, if_neg, if_true, if_false, tp_ck_t, tp_nz_t, tp_gd_i, he]
        refine hrec _ _ _ ⟨rfl, by omega, Or.inl ⟨rfl, fun v v1 v2 => ?_⟩⟩ (by omega)
        by_cases hv : v = z
        · rw [hv]; exact he
        · exact i2 v v1 (by omega)
      · simp (disch := omega) only [↓tp_lm_n, ↓tp_lt_n, ↓tp_bd_n, ↓tp_jn0_n, ↓tp_jn1_n, ↓tp_jn2_n, ↓tp_jn3_n, w32_id, if_pos, if_neg, if_true, if_false, tp_ck_t, tp_nz_t, tp_gd_i]
        exact hrec _ _ _ ⟨rfl, by omega, Or.inr ⟨rfl, z, by omega, he⟩⟩ (by omega)
    · simp (disch := omega) only [↓tp_lm_n, ↓tp_lt_n, ↓tp_bd_n, ↓tp_jn0_n, ↓tp_jn1_n, ↓tp_jn2_n, ↓tp_jn3_n, w32_id, if_pos, if_neg, if_true, if_false, tp_ck_t, tp_nz_t, tp_gd_i]
      exact hrec _ _ _ ⟨rfl, by omega, Or.inr ⟨rfl, i2⟩⟩ (by omega)
  · rcases i2 with ⟨rfl, i2⟩ | ⟨rfl, i2⟩
    · simp (disch := omega) only [↓tp_lm_n, ↓tp_lt_n, ↓tp_bd_n, ↓tp_jn0_n, ↓tp_jn1_n, ↓tp_jn2_n, ↓tp_jn3_n, w32_id, if_pos, if_neg, if_true, if_false, tp_ck_t, tp_nz_t, tp_gd_i]
      exact wp_some ⟨rfl, Or.inl ⟨rfl, fun v v1 v2 => i2 v v1 (by omega)⟩⟩
    · simp (disch := omega) only [↓tp_lm_n, ↓tp_lt_n, ↓tp_bd_n, ↓tp_jn0_n, ↓tp_jn1_n, ↓tp_jn2_n, ↓tp_jn3_n, w32_id, if_pos, if_neg, if_true, if_false, tp_ck_t, tp_nz_t, tp_gd_i]
      exact wp_some ⟨rfl, Or.inr ⟨rfl, i2⟩⟩
/-- the posts that are, by crossings from 1 on -/
def nP (R : Int → Int) : Nat → Nat := fun i => (R ((i : Int) + 1)).toNat
theorem nP_ok {P W R : Int → Int} {h s B n : Int} {D : Int → Int} {m : Nat} (hn : 2 ≤ n ∧ n ≤ 8) (hm : (n - 1).toNat = m) (g : sm_row P W h s R n D B) : ∀ i : Nat, i < m → P ((i : Int) + 1) = (nP R i : Int) ∧ R ((i : Int) + 1) = (nP R i : Int) ∧ nP R i < nD D i := fun i hi => by
  obtain ⟨g1, g2, -⟩ := g.2.2.2.2.1 ((i : Int) + 1) (by omega) (by omega)
  unfold nP nD
  omega
section ST
variable {B : Int} {C M : tp_M} {a1 : Int}
theorem st_grown (h : Sim B C M) : wp2 (fx_X10_grown C) (fx_X11_grown M) (Ans B) := by
  have hN : nC C (M 0 3) (M 2) (M 3) := h.2.2.1
  have n8 := cn_n hN
  have hn := hN.2.1
  generalize hm : (M 0 3 - 1).toNat = m
  have hD := nt_D hn hm
  have w16 := wu_16 hn hm (Nat.le_refl m)
  have hP := nP_ok n8 hm h.2.2.2.1
  generalize hd : nP (M 4) = d at hP
  have hdm : ∀ i : Nat, i < m → d i < nD (M 2) i := fun i hi => (hP i hi).2.2
  have hsm : nb (nD (M 2)) d m < wu (nD (M 2)) m := nb_lt m hdm
  have hwf (v : Nat) (hv : v < m) : wf (nD (M 2)) (m - v) v = nD (M 2) v * wf (nD (M 2)) (m - (v + 1)) (v + 1) := by
    rw [show m - v = (m - (v + 1)) + 1 by omega]; rfl
  generalize hres : (if trb m (nD (M 2)) (nG (M 3)) (nb (nD (M 2)) d m) = 1 then ahd m (nD (M 2)) (nG (M 3)) (nb (nD (M 2)) d m) else -2) = res
  refine wp2_of (P1 := fun r C1 => tp_fr (60 :: elC) C C1 ∧ r = res) (P2 := fun r M1 => tp_fr [0, 20] M M1 ∧ (∀ j : Int, ¬ j = 0 → M1 0 j = M 0 j) ∧ r = res) ?_ ?_ (fun r1 C1 r2 M1 p q => ?_)
  · refine wp_K (fun Q hQ => ?_)
    unfold fx_X10_grown
    refine wp_lt ?_
    refine wp_lt ?_
    refine wp_lp2 (fun a z C1 => tp_fr (60 :: elC) C C1 ∧ ∃ v : Nat, z = (v : Int) + 1 ∧ v ≤ m ∧ a = ahd m (nD (M 2)) (nG (M 3)) (nb (nD (M 2)) d v * wf (nD (M 2)) (m - v) v) ∧ ∀ i : Nat, i < v → C1 60 ((i : Int) + 1) = (d i : Int)) (fun _ z _ => (9 - z).toNat) ?_ tp_F 0 1 C ⟨fr_rf, 0, rfl, by omega, by show (0 : Int) = ahd m (nD (M 2)) (nG (M 3)) (0 * wf (nD (M 2)) (m - 0) 0); rw [Nat.zero_mul]; rfl, fun i hi => by omega⟩ (tp_F_pos (by omega))
    rintro rec a z C1 ⟨f, v, rfl, v1, rfl, v2⟩ hrec
    have hN1 : nC C1 (M 0 3) (M 2) (M 3) := nC_fr hN (f 5 (by simp)) (f 6 (by simp)) (f 7 (by simp)) (f 8 (by simp)) (f 9 (by simp))
    unfold fx_X10_grown_L4
    rw [cn_crossings hN1, tp_bd_s, w32_id (show -2147483648 ≤ (v : Int) + 1 ∧ (v : Int) + 1 < 2147483648 by omega), w32_id (show -2147483648 ≤ M 0 3 ∧ M 0 3 < 2147483648 by omega)]
    by_cases hv : (v : Int) + 1 < M 0 3
    · rw [if_pos hv]
      refine wp_lt ?_
      obtain ⟨p1, -, p3⟩ := hP v (by omega)
      have hDv := hD v (by omega)
      refine wp_lp2 (fun a z C2 => tp_fr (60 :: elC) C C2 ∧ ∃ k : Nat, z = (k : Int) ∧ k ≤ d v ∧ a = ahd m (nD (M 2)) (nG (M 3)) ((nb (nD (M 2)) d v * nD (M 2) v + k) * wf (nD (M 2)) (m - (v + 1)) (v + 1)) ∧ ∀ i : Nat, i < v → C2 60 ((i : Int) + 1) = (d i : Int)) (fun _ z _ => (9 - z).toNat) ?_ tp_F _ 0 C1 ⟨f, 0, rfl, by omega, by rw [Nat.add_zero, Nat.mul_assoc, ← hwf v (by omega)], v2⟩ (tp_F_pos (by omega))
      rintro rec2 a z C2 ⟨f2, k, rfl, k1, rfl, k2⟩ hrec2
      have hN2 : nC C2 (M 0 3) (M 2) (M 3) := nC_fr hN (f2 5 (by simp)) (f2 6 (by simp)) (f2 7 (by simp)) (f2 8 (by simp)) (f2 9 (by simp))
      unfold fx_X10_grown_L17
      have e26 : C2 26 ((v : Int) + 1) = (d v : Int) := by rw [f2 26 (by simp)]; exact p1
      rw [w32_id (show -2147483648 ≤ (v : Int) + 1 ∧ (v : Int) + 1 < 2147483648 by omega), e26, w32_id (show -2147483648 ≤ (k : Int) ∧ (k : Int) < 2147483648 by omega), w32_id (show -2147483648 ≤ (d v : Int) ∧ (d v : Int) < 2147483648 by omega)]
      refine wp_ck (by omega) ?_
      by_cases hk : (k : Int) < (d v : Int)
      · rw [if_pos hk]
        refine wp_ck (by omega) ?_
        refine wp_lm ?_
        have hN3 : nC (tp_up C2 60 ((v : Int) + 1) (k : Int)) (M 0 3) (M 2) (M 3) := nC_fr hN2 (up_k _ _ _ (by decide)) (up_k _ _ _ (by decide)) (up_k _ _ _ (by decide)) (up_k _ _ _ (by decide)) (up_k _ _ _ (by decide))
        have hT := cs_T (m := m) (f := v + 1) (d := fun i => if i = v then k else d i) hN3 hm (by omega) (fun i hi => by
          by_cases e : i = v
          · simp only [if_pos e]
            rw [e, up_s]
            exact ⟨rfl, by omega⟩
          · simp only [if_neg e]
            rw [up_j _ _ _ (by omega)]
            exact ⟨k2 i (by omega), hdm i (by omega)⟩)
        have enb : nb (nD (M 2)) (fun i => if i = v then k else d i) (v + 1) = nb (nD (M 2)) d v * nD (M 2) v + k := by
          show nb (nD (M 2)) (fun i => if i = v then k else d i) v * nD (M 2) v + (if v = v then k else d v) = _
          rw [if_pos rfl, nb_cg v (fun i hi => if_neg (by omega))]
        rw [enb, show ((v + 1 : Nat) : Int) = (v : Int) + 1 by omega] at hT
        refine wp_call hT (fun r C3 w => ?_)
        obtain ⟨w1, w2, w3⟩ := w
        refine wp_lt ?_
        refine wp_lt ?_
        refine hrec2 _ _ _ ⟨fr_tr (fr_up f2 (by simp)) (fr_mono w1 (fun c hc => List.mem_cons_of_mem _ hc)), k + 1, by omega, by omega, ?_, fun i hi => ?_⟩ (by omega)
        · rw [w2, ← Nat.add_assoc, ahd_blk _ (by omega)]
        · rw [w1 60 (by simp), up_j _ _ _ (by omega)]; exact k2 i hi
      · rw [if_neg hk]
        have hkd : k = d v := by omega
        refine wp_ck (by omega) ?_
        refine wp_ck (by omega) ?_
        refine wp_lm ?_
        refine wp_lt ?_
        refine hrec _ _ _ ⟨fr_up f2 (by simp), v + 1, by omega, by omega, ?_, fun i hi => ?_⟩ (by omega)
        · rw [hkd]; rfl
        · by_cases e : i = v
          · rw [e, up_s]; exact e26
          · rw [up_j _ _ _ (by omega)]; exact k2 i (by omega)
    · rw [if_neg hv]
      have hvm : v = m := by omega
      try dsimp only
      rw [cn_crossings hN1, tp_bd_s, show M 0 3 - 1 = (m : Int) by omega]
      refine wp_call (cs_T (m := m) (f := m) (d := d) hN1 hm (Nat.le_refl m) (fun i hi => ⟨v2 i (by omega), hdm i hi⟩)) (fun r C2 w => ?_)
      obtain ⟨w1, w2, w3⟩ := w
      rw [cc_end] at w2
      have fm : tp_fr (60 :: elC) C C2 := fr_tr f (fr_mono w1 (fun c hc => List.mem_cons_of_mem _ hc))
      rw [w32_id (by omega), w2]
      by_cases c : trb m (nD (M 2)) (nG (M 3)) (nb (nD (M 2)) d m) = 1
      · rw [if_pos c]
        refine wp_some (hQ _ _ ⟨fm, ?_⟩)
        rw [← hres, if_pos c, hvm, Nat.sub_self]
        show ahd m (nD (M 2)) (nG (M 3)) (nb (nD (M 2)) d m * 1) = _
        rw [Nat.mul_one]
      · rw [if_neg c]
        refine wp_some (hQ _ _ ⟨fm, ?_⟩)
        rw [← hres, if_neg c]
  · refine wp_K (fun Q hQ => ?_)
    unfold fx_X11_grown
    refine wp_lm ?_
    refine wp_lt ?_
    refine wp_lt ?_
    refine wp_lp2 (fun a z M1 => tp_fr [0, 20] M M1 ∧ (∀ j : Int, ¬ j = 0 → M1 0 j = M 0 j) ∧ ∃ s : Nat, z = (s : Int) ∧ s ≤ wu (nD (M 2)) m ∧ a = ahd m (nD (M 2)) (nG (M 3)) s ∧ (trb m (nD (M 2)) (nG (M 3)) (nb (nD (M 2)) d m) = 1 → s ≤ nb (nD (M 2)) d m)) (fun _ z _ => (((wu (nD (M 2)) m : Nat) : Int) - z).toNat) ?_ tp_F 0 0 _ ⟨fr_up fr_rf (by simp), fun j a => up_j _ _ _ a, 0, rfl, by omega, rfl, fun _ => by omega⟩ (tp_F_pos (by omega))
    rintro rec a z M1 ⟨f, f0, s, rfl, s1, rfl, s2⟩ hrec
    have e3 : M1 0 3 = M 0 3 := f0 3 (by decide)
    have e2 : M1 2 = M 2 := f 2 (by simp)
    have e33 : M1 3 = M 3 := f 3 (by simp)
    have e4 : M1 4 = M 4 := f 4 (by simp)
    have hn1 : nt_net (M1 0 3) (M1 2) (M1 3) := by rw [e3, e2, e33]; exact hn
    unfold fx_X11_grown_L9
    rw [ps_settings (m := m) hn1 (by rw [e3]; exact hm), tp_bd_s, e2, w32_id (show -2147483648 ≤ (s : Int) ∧ (s : Int) < 2147483648 by omega), w32_id (show -2147483648 ≤ ((wu (nD (M 2)) m : Nat) : Int) ∧ ((wu (nD (M 2)) m : Nat) : Int) < 2147483648 by omega)]
    by_cases hsW : (s : Int) < ((wu (nD (M 2)) m : Nat) : Int)
    · rw [if_pos hsW]
      refine wp_call (ps_laysSetting (m := m) (s := s) hn1 (by rw [e3]; exact hm) (by omega)) (fun r M2 w => ?_)
      obtain ⟨w1, w2, w3⟩ := w
      rw [e2, e33] at w3
      rw [e2] at w2
      have t01 := trb_in (m := m) (D := nD (M 2)) (g := nG (M 3)) s
      have f2 : tp_fr [0, 20] M M2 := fr_tr f (fr_mono w1 (by simp))
      have f02 : ∀ j : Int, ¬ j = 0 → M2 0 j = M 0 j := fun j a => by rw [w1 0 (by simp)]; exact f0 j a
      refine wp_jn1 ?_
      have hahd : ahd m (nD (M 2)) (nG (M 3)) (s + 1) = ahd m (nD (M 2)) (nG (M 3)) s + trb m (nD (M 2)) (nG (M 3)) s := rfl
      rw [w3, w32_id (by omega)]
      by_cases ct : trb m (nD (M 2)) (nG (M 3)) s = 0
      · rw [if_pos ct]
        refine wp_lt ?_
        refine hrec _ _ _ ⟨f2, f02, s + 1, by omega, by omega, by rw [hahd, ct]; omega, fun q => ?_⟩ (by omega)
        have := s2 q
        have : ¬ s = nb (nD (M 2)) d m := fun e => by rw [e, q] at ct; omega
        omega
      · rw [if_neg ct]
        have ct1 : trb m (nD (M 2)) (nG (M 3)) s = 1 := by omega
        have hdg : ∀ v : Int, 1 ≤ v → v < M2 0 3 → M2 20 v = ((dg (nD (M 2)) m s (v - 1).toNat : Nat) : Int) := fun v a b => by
          have := w2 (v - 1).toNat (by rw [f02 3 (by decide)] at b; omega)
          rw [show (((v - 1).toNat : Nat) : Int) + 1 = v by omega] at this
          exact this
        have hpo : ∀ v : Int, 1 ≤ v → v < M2 0 3 → M2 4 v = ((d (v - 1).toNat : Nat) : Int) ∧ d (v - 1).toNat < nD (M 2) (v - 1).toNat ∧ nD (M 2) (v - 1).toNat ≤ 4 ∧ dg (nD (M 2)) m s (v - 1).toNat < nD (M 2) (v - 1).toNat := fun v a b => by
          rw [f02 3 (by decide)] at b
          have h1 := hP (v - 1).toNat (by omega)
          have h2 := hD (v - 1).toNat (by omega)
          have h3 := dg_lt (m := m) (D := nD (M 2)) (fun i hi => (hD i hi).1) m s (v - 1).toNat (Nat.le_refl m) (by omega)
          rw [show (((v - 1).toNat : Nat) : Int) + 1 = v by omega] at h1
          rw [f2 4 (by simp)]
          exact ⟨h1.2.1, h1.2.2, h2.2.1, h3⟩
        refine wp_call (ps_posts20 (M := M2) (by rw [f02 3 (by decide)]; exact n8) (fun v a b => by
          have h1 := hdg v a b
          have h2 := hpo v a b
          rw [h1, h2.1]
          omega)) (fun r M3 w => ?_)
        obtain ⟨rfl, w4⟩ := w
        rcases w4 with ⟨rfl, w4⟩ | ⟨rfl, v, v1, v2⟩
        · rw [if_neg (show ¬ w32 1 = 0 by decide)]
          have hs : s = nb (nD (M 2)) d m := by
            have h1 := nb_of_dg (D := nD (M 2)) (b := 0) m s (fun i hi => (hD i hi).1) (by omega)
            rw [← h1]
            refine nb_cg m (fun i hi => ?_)
            have h2 := w4 ((i : Int) + 1) (by omega) (by rw [f02 3 (by decide)]; omega)
            have h3 := hdg ((i : Int) + 1) (by omega) (by rw [f02 3 (by decide)]; omega)
            have h4 := hpo ((i : Int) + 1) (by omega) (by rw [f02 3 (by decide)]; omega)
            rw [show ((i : Int) + 1 - 1).toNat = i by omega] at h3 h4
            omega
          refine wp_some (hQ _ _ ⟨f2, f02, ?_⟩)
          rw [← hres, ← hs, if_pos ct1]
        · rw [if_pos (show w32 0 = 0 by decide)]
          refine wp_lt ?_
          refine wp_lt ?_
          refine hrec _ _ _ ⟨f2, f02, s + 1, by omega, by omega, by rw [hahd, ct1], fun q => ?_⟩ (by omega)
          have := s2 q
          have : ¬ s = nb (nD (M 2)) d m := fun e => v2 (by
            rw [hdg v v1.1 v1.2, (hpo v v1.1 v1.2).1, e, nb_dg m hdm _ (by have := v1.2; rw [f02 3 (by decide)] at this; omega)])
          omega
    · rw [if_neg hsW]
      refine wp_some (hQ _ _ ⟨f, f0, ?_⟩)
      have : ¬ trb m (nD (M 2)) (nG (M 3)) (nb (nD (M 2)) d m) = 1 := fun q => by have := s2 q; omega
      rw [← hres, if_neg this]
  · obtain ⟨p1, p3⟩ := p
    obtain ⟨q1, q2, q4⟩ := q
    exact ans_same h (fr_mono p1 (by simp)) (fr_mono q1 (by simp)) (fun j hj => q2 j (f0_ne hj (by decide))) (by rw [p3, q4]) (by rw [p1 3 (by simp)]) (p1 4 (by simp)) (q2 1 (by decide)) (q1 1 (by simp))
end ST
