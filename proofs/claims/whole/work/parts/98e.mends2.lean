/-! MENDS: the reference, the call -/
theorem ex_tree {n : Int} {D G : Int → Int} {m : Nat} (hn : nt_net n D G) (hm : (n - 1).toNat = m) (hf : ∀ v : Int, 0 ≤ v → v < n → ∃ d : Nat, nt_far n D G 0 v d) : ∃ s : Nat, s < wu (nD D) m ∧ al m (sg_of (nG G) (dg (nD D) m s)) := by
  have n8 := hn.1
  have hD := nt_D hn hm
  have hx : ∀ v : Int, ∃ d : Nat, 0 ≤ v → v < n → nt_far n D G 0 v d := fun v => by
    by_cases c : 0 ≤ v ∧ v < n
    · obtain ⟨d, h⟩ := hf v c.1 c.2
      exact ⟨d, fun _ _ => h⟩
    · exact ⟨0, fun a b => absurd ⟨a, b⟩ c⟩
  let F : Int → Nat := fun v => Classical.choose (hx v)
  have hF : ∀ v : Int, 0 ≤ v → v < n → nt_far n D G 0 v (F v) := fun v => Classical.choose_spec (hx v)
  have hk : ∀ i : Nat, ∃ k : Nat, i < m → k < nD D i ∧ F (G (4 * ((i : Int) + 1) + (k : Int))) + 1 = F ((i : Int) + 1) := fun i => by
    by_cases c : i < m
    · have h1 := hF ((i : Int) + 1) (by omega) (by omega)
      obtain ⟨-, -, d3⟩ := hD i c
      generalize hv : F ((i : Int) + 1) = dv at *
      cases dv with
      | zero =>
        have : (i : Int) + 1 = 0 := h1.1
        omega
      | succ dv =>
        obtain ⟨-, k, k1, k2, k3⟩ := ls_ex h1
        have hg := (hn.2 ((i : Int) + 1) (by omega) (by omega)).2 k k1 k2
        refine ⟨k.toNat, fun _ => ⟨by omega, ?_⟩⟩
        rw [show ((k.toNat : Nat) : Int) = k by omega]
        have := far_u (hF _ hg.1 hg.2.1) k3
        omega
    · exact ⟨0, fun q => absurd q c⟩
  let e : Nat → Nat := fun i => Classical.choose (hk i)
  have he : ∀ i : Nat, i < m → e i < nD D i ∧ F (G (4 * ((i : Int) + 1) + (e i : Int))) + 1 = F ((i : Int) + 1) := fun i => Classical.choose_spec (hk i)
  refine ⟨nb (nD D) e m, nb_lt m (fun i hi => (he i hi).1), al_cg (s := sg_of (nG G) e) (fun i hi => ?_) ⟨fun i => F ((i : Int) + 1), fun v w hv q hw => ?_⟩⟩
  · unfold sg_of
    rw [nb_dg m (fun i hi => (he i hi).1) i hi]
  · have h1 := (he v hv).2
    have h2 : G (4 * ((v : Int) + 1) + (e v : Int)) - 1 = (w : Int) := q
    rw [show G (4 * ((v : Int) + 1) + (e v : Int)) = (w : Int) + 1 by omega] at h1
    show F ((w : Int) + 1) < F ((v : Int) + 1)
    omega
/-- b is the first of the trees that change the least, L -/
def mb (m : Nat) (D : Nat → Nat) (g : Nat → Nat → Int) (d : Nat → Nat) (W b L : Nat) : Prop := b < W ∧ al m (sg_of g (dg D m b)) ∧ chg d (dg D m b) m = L ∧ (∀ t : Nat, t < W → al m (sg_of g (dg D m t)) → L ≤ chg d (dg D m t) m) ∧ ∀ t : Nat, t < b → al m (sg_of g (dg D m t)) → L < chg d (dg D m t) m
section ST
variable {B : Int} {C M : tp_M}
theorem ps_mends (h : Sim B C M) {m : Nat} (hm : (M 0 3 - 1).toNat = m) : wp (fx_X11_mends M) (fun r M1 => tp_fr [0, 1, 20] M M1 ∧ (∀ j : Int, ¬ j = 0 → ¬ j = 1 → M1 0 j = M 0 j) ∧ ∃ b L : Nat, mb m (nD (M 2)) (nG (M 3)) (nP (M 4)) (wu (nD (M 2)) m) b L ∧ r = (L : Int) ∧ tdM M1 (M 0 3 - 1) (fun j => w32 ((dg (nD (M 2)) m b j.toNat : Nat) : Int))) := by
  have hN : nC C (M 0 3) (M 2) (M 3) := h.2.2.1
  have n8 := cn_n hN
  have hn := hN.2.1
  have hD := nt_D hn hm
  have w16 := wu_16 hn hm (Nat.le_refl m)
  have hP := nP_ok n8 hm h.2.2.2.1
  generalize hd : nP (M 4) = d at *
  obtain ⟨s0, hs0, hs1⟩ := ex_tree hn hm (fun v v1 v2 => by
    obtain ⟨d, -, -, h⟩ := hN.2.2.2.2.2 v v1 v2
    exact ⟨d, h⟩)
  refine wp_K (fun Q hQ => ?_)
  unfold fx_X11_mends
  refine wp_lm ?_
  refine wp_lt ?_
  refine wp_lt ?_
  refine wp_lt ?_
  refine wp_lp3 (fun best least z M1 => tp_fr [0, 20] M M1 ∧ (∀ j : Int, ¬ j = 0 → M1 0 j = M 0 j) ∧ ∃ s : Nat, z = (s : Int) ∧ s ≤ wu (nD (M 2)) m ∧ ((best = -1 ∧ least = 1000000 ∧ ∀ t : Nat, t < s → ¬ al m (sg_of (nG (M 3)) (dg (nD (M 2)) m t))) ∨ ∃ b L : Nat, best = (b : Int) ∧ least = (L : Int) ∧ L ≤ 8 ∧ mb m (nD (M 2)) (nG (M 3)) d s b L)) (fun _ _ z _ => (((wu (nD (M 2)) m : Nat) : Int) - z).toNat) ?_ tp_F (-1) 1000000 0 _ ⟨fr_up fr_rf (by simp), fun j a => up_j _ _ _ a, 0, rfl, by omega, Or.inl ⟨rfl, rfl, fun t ht => by omega⟩⟩ (tp_F_pos (by omega))
  rintro rec best least z M1 ⟨f, f0, s, rfl, s1, hI⟩ hrec
  have e3 : M1 0 3 = M 0 3 := f0 3 (by decide)
  have e2 : M1 2 = M 2 := f 2 (by simp)
  have e33 : M1 3 = M 3 := f 3 (by simp)
  have hn1 : nt_net (M1 0 3) (M1 2) (M1 3) := by rw [e3, e2, e33]; exact hn
  unfold fx_X11_mends_L13
  rw [ps_settings (m := m) hn1 (by rw [e3]; exact hm), tp_bd_s, e2, w32_id (show -2147483648 ≤ (s : Int) ∧ (s : Int) < 2147483648 by omega), w32_id (show -2147483648 ≤ ((wu (nD (M 2)) m : Nat) : Int) ∧ ((wu (nD (M 2)) m : Nat) : Int) < 2147483648 by omega)]
  by_cases hsW : (s : Int) < ((wu (nD (M 2)) m : Nat) : Int)
  · rw [if_pos hsW]
    refine wp_call (ps_laysSetting (m := m) (s := s) hn1 (by rw [e3]; exact hm) (by omega)) (fun r M2 w => ?_)
    obtain ⟨w1, w2, w3⟩ := w
    rw [e2, e33] at w3
    rw [e2] at w2
    have f2 : tp_fr [0, 20] M M2 := fr_tr f (fr_mono w1 (by simp))
    have f02 : ∀ j : Int, ¬ j = 0 → M2 0 j = M 0 j := fun j a => by rw [w1 0 (by simp)]; exact f0 j a
    refine wp_lt ?_
    refine wp_lt ?_
    refine wp_lt ?_
    generalize hcv : chg d (dg (nD (M 2)) m s) m = cv
    have hcl := chg_le d (dg (nD (M 2)) m s) m
    rw [hcv] at hcl
    refine wp_lp2 (fun a z M3 => M3 = M2 ∧ ∃ i : Nat, z = (i : Int) + 1 ∧ i ≤ m ∧ a = ((chg d (dg (nD (M 2)) m s) i : Nat) : Int)) (fun _ z _ => (9 - z).toNat) ?_ tp_F 0 1 M2 ⟨rfl, 0, rfl, by omega, rfl⟩ (tp_F_pos (by omega))
    rintro rec2 a z M3 ⟨rfl, i, rfl, i1, rfl⟩ hrec2
    have hci := chg_le d (dg (nD (M 2)) m s) i
    unfold fx_X11_mends_L34
    rw [f02 3 (by decide), w32_id (show -2147483648 ≤ (i : Int) + 1 ∧ (i : Int) + 1 < 2147483648 by omega), w32_id (show -2147483648 ≤ M 0 3 ∧ M 0 3 < 2147483648 by omega)]
    by_cases hi : (i : Int) + 1 < M 0 3
    · clear hI
      rw [if_pos hi]
      have hp := hP i (by omega)
      have hdi := hD i (by omega)
      have hl := dg_lt (m := m) (D := nD (M 2)) (fun i hi => (hD i hi).1) m s i (Nat.le_refl m) (by omega)
      refine wp_ck (by omega) ?_
      refine wp_ck (by omega) ?_
      refine wp_jn1 ?_
      rw [w2 i (by omega), f2 4 (by simp), hp.2.1, w32_id (show -2147483648 ≤ ((dg (nD (M 2)) m s i : Nat) : Int) ∧ ((dg (nD (M 2)) m s i : Nat) : Int) < 2147483648 by omega), w32_id (show -2147483648 ≤ (d i : Int) ∧ (d i : Int) < 2147483648 by omega)]
      have ec : chg d (dg (nD (M 2)) m s) (i + 1) = chg d (dg (nD (M 2)) m s) i + if dg (nD (M 2)) m s i = d i then 0 else 1 := rfl
      by_cases c : dg (nD (M 2)) m s i = d i
      · rw [if_pos (by omega)]; (try dsimp only); rw [pm_flag, tp_bd_s]
        refine wp_lt ?_
        refine wp_lt ?_
        exact hrec2 _ _ _ ⟨rfl, i + 1, by omega, by omega, by rw [ec, if_pos c]; rfl⟩ (by omega)
      · rw [if_neg (by omega)]; (try dsimp only); rw [pm_flag, tp_bd_s]
        refine wp_lt ?_
        refine wp_lt ?_
        exact hrec2 _ _ _ ⟨rfl, i + 1, by omega, by omega, by rw [ec, if_neg c]; rfl⟩ (by omega)
    · rw [if_neg hi]
      have him : i = m := by omega
      have ei : chg d (dg (nD (M 2)) m s) i = cv := by rw [him]; exact hcv
      rw [ei]
      refine wp_jn1 ?_
      refine wp_jn0 ?_
      by_cases ca : al m (sg_of (nG (M 3)) (dg (nD (M 2)) m s))
      · have hr : r = 1 := by rw [w3]; exact (trb_01 s).1 ca
        subst hr
        have rest : ∀ (bb ll : Int), ((bb = -1 ∧ ll = 1000000 ∧ ∀ t : Nat, t < s + 1 → ¬ al m (sg_of (nG (M 3)) (dg (nD (M 2)) m t))) ∨ ∃ b L : Nat, bb = (b : Int) ∧ ll = (L : Int) ∧ L ≤ 8 ∧ mb m (nD (M 2)) (nG (M 3)) d (s + 1) b L) → wp (rec bb ll ((s : Int) + 1) M3) Q := fun bb ll hh => hrec _ _ _ _ ⟨f2, f02, s + 1, by omega, by omega, hh⟩ (by omega)
        rw [if_neg (show ¬ w32 1 = 0 by decide), w32_id (show -2147483648 ≤ (cv : Int) ∧ (cv : Int) < 2147483648 by omega)]
        rcases hI with ⟨rfl, rfl, hno⟩ | ⟨b, L, rfl, rfl, L8, m1, m2, m3, m4, m5⟩
        · rw [if_pos (show (cv : Int) < w32 1000000 by show (cv : Int) < 1000000; omega)]
          refine wp_lt ?_
          refine wp_jn1 ?_
          rw [if_neg (show ¬ w32 1 = 0 by decide)]
          refine wp_lt ?_
          refine wp_lt ?_
          refine rest _ _ (Or.inr ⟨s, cv, rfl, by rw [show w32 1000000 = 1000000 from rfl]; omega, by omega, by omega, ca, hcv, fun t ht ta => ?_, fun t ht ta => absurd ta (hno t ht)⟩)
          by_cases q : t = s
          · rw [q, hcv]; exact Nat.le_refl _
          · exact absurd ta (hno t (by omega))
        · rw [w32_id (show -2147483648 ≤ (L : Int) ∧ (L : Int) < 2147483648 by omega)]
          by_cases cl : (cv : Int) < (L : Int)
          · rw [if_pos cl]
            refine wp_lt ?_
            refine wp_jn1 ?_
            rw [if_neg (show ¬ w32 1 = 0 by decide)]
            refine wp_lt ?_
            refine wp_lt ?_
            refine rest _ _ (Or.inr ⟨s, cv, rfl, by omega, by omega, by omega, ca, hcv, fun t ht ta => ?_, fun t ht ta => ?_⟩)
            · by_cases q : t = s
              · rw [q, hcv]; exact Nat.le_refl _
              · have := m4 t (by omega) ta; omega
            · have := m4 t ht ta; omega
          · rw [if_neg cl]
            refine wp_lt ?_
            refine wp_jn1 ?_
            rw [if_neg (show ¬ w32 1 = 0 by decide)]
            refine wp_lt ?_
            refine wp_lt ?_
            refine rest _ _ (Or.inr ⟨b, L, rfl, by omega, L8, by omega, m2, m3, fun t ht ta => ?_, m5⟩)
            by_cases q : t = s
            · rw [q, hcv]; omega
            · exact m4 t (by omega) ta
      · have hr : r = 0 := by rw [w3]; exact (trb_01 s).2 ca
        subst hr
        rw [if_pos (show w32 0 = 0 by decide)]
        refine wp_lt ?_
        refine wp_jn1 ?_
        rw [if_pos (show w32 0 = 0 by decide)]
        refine wp_lt ?_
        refine wp_lt ?_
        refine hrec _ _ _ _ ⟨f2, f02, s + 1, by omega, by omega, ?_⟩ (by omega)
        rcases hI with ⟨h1, h2, h3⟩ | ⟨b, L, h1, h2, L8, m1, m2, m3, m4, m5⟩
        · refine Or.inl ⟨h1, h2, fun t ht => ?_⟩
          by_cases q : t = s
          · rw [q]; exact ca
          · exact h3 t (by omega)
        · refine Or.inr ⟨b, L, h1, h2, L8, by omega, m2, m3, fun t ht ta => ?_, m5⟩
          by_cases q : t = s
          · rw [q] at ta; exact absurd ta ca
          · exact m4 t (by omega) ta
  · rw [if_neg hsW]
    have hs : s = wu (nD (M 2)) m := by omega
    rcases hI with ⟨-, -, hno⟩ | ⟨b, L, rfl, rfl, L8, hb⟩
    · exact absurd hs1 (hno s0 (by omega))
    · have hbl := hb.1
      try dsimp only
      refine wp_call (ps_entersPosts (m := m) (s := b) (M := M1) hn1 (by rw [e3]; exact hm) (by omega)) (fun _ M3 w => ?_)
      obtain ⟨x1, x2, x3⟩ := w
      rw [e3, e2] at x3
      rw [hs] at hb
      exact wp_some (hQ _ _ ⟨fr_tr (fr_mono f (by simp)) x1, fun j a b => by rw [x2 j b]; exact f0 j a, b, L, hb, rfl, x3⟩)
theorem st_mends (h : Sim B C M) : wp2 (fx_X10_mends C) (fx_X11_mends M) (Ans B) := by
  have hN : nC C (M 0 3) (M 2) (M 3) := h.2.2.1
  have n8 := cn_n hN
  have hn := hN.2.1
  generalize hm : (M 0 3 - 1).toNat = m
  have hD := nt_D hn hm
  have hP := nP_ok n8 hm h.2.2.2.1
  obtain ⟨r2, M1, em, fm, f0, b, L, hb, rfl, tm⟩ := ps_mends h hm
  generalize hd : nP (M 4) = d at *
  obtain ⟨b1, b2, b3, b4, b5⟩ := hb
  have hL := chg_le d (dg (nD (M 2)) m b) m
  have hc : wp (fx_X10_mends C) (fun r C1 => tp_fr [3, 4, 60] C C1 ∧ r = (L : Int) ∧ tdC C1 (M 0 3 - 1) (fun j => w32 ((dg (nD (M 2)) m b j.toNat : Nat) : Int))) := by
    refine wp_K (fun Q hQ => ?_)
    unfold fx_X10_mends
    refine wp_lt ?_
    refine wp_lp1 (fun z C1 => tp_fr [60] C C1 ∧ ∃ k : Nat, z = (k : Int) ∧ k ≤ L ∧ ∀ j : Nat, j < k → ∀ s : Nat, s < wu (nD (M 2)) m → ¬ gd m (nD (M 2)) (nG (M 3)) d j s) (fun z _ => (9 - z).toNat) ?_ tp_F 0 C ⟨fr_rf, 0, rfl, by omega, fun j hj => by omega⟩ (tp_F_pos (by omega))
    rintro rec z C1 ⟨f, k, rfl, k1, k2⟩ hrec
    have hN1 : nC C1 (M 0 3) (M 2) (M 3) := nC_fr hN (f 5 (by simp)) (f 6 (by simp)) (f 7 (by simp)) (f 8 (by simp)) (f 9 (by simp))
    unfold fx_X10_mends_L2
    rw [cn_crossings hN1, tp_bd_s, w32_id (show -2147483648 ≤ (k : Int) ∧ (k : Int) < 2147483648 by omega), w32_id (show -2147483648 ≤ M 0 3 ∧ M 0 3 < 2147483648 by omega), if_pos (by omega)]
    refine wp_call (cs_mendsWith (m := m) (d := d) (most := k) hN1 hm (fun i hi => by rw [f 26 (by simp)]; exact ⟨(hP i hi).1, (hP i hi).2.2⟩) (by omega)) (fun r C2 w => ?_)
    obtain ⟨w1, w2⟩ := w
    have f2 : tp_fr [60] C C2 := fr_tr f w1
    rcases w2 with ⟨rfl, w2⟩ | ⟨rfl, e, w2, w3, w4, w5⟩
    · rw [if_pos (show w32 0 = 0 by decide)]
      refine wp_lt ?_
      have hkL : ¬ k = L := fun q => w2 b b1 ⟨b2, by rw [b3, q]; exact Nat.le_refl _⟩
      refine hrec _ _ ⟨f2, k + 1, by omega, by omega, fun j hj s hs => ?_⟩ (by omega)
      by_cases q : j = k
      · rw [q]; exact w2 s hs
      · exact k2 j (by omega) s hs
    · rw [if_neg (show ¬ w32 1 = 0 by decide)]
      have hel : ∀ i : Nat, i < m → e i < nD (M 2) i := fun i hi => (w2 i hi).2
      have hbe := nb_lt m hel
      have hde := nb_dg m hel
      have hal : al m (sg_of (nG (M 3)) (dg (nD (M 2)) m (nb (nD (M 2)) e m))) := al_cg (fun i hi => by unfold sg_of; rw [hde i hi]) w3
      have hch : chg d (dg (nD (M 2)) m (nb (nD (M 2)) e m)) m = chg d e m := chg_cg m hde
      have q1 := b4 _ hbe hal
      have hkL : k = L := by omega
      have q2 : ¬ nb (nD (M 2)) e m < b := fun q => by have := b5 _ q hal; omega
      have q3 : ¬ b < nb (nD (M 2)) e m := fun q => w5 b q ⟨b2, by omega⟩
      have hbb : nb (nD (M 2)) e m = b := by omega
      try dsimp only
      have hN2 : nC C2 (M 0 3) (M 2) (M 3) := nC_fr hN (f2 5 (by simp)) (f2 6 (by simp)) (f2 7 (by simp)) (f2 8 (by simp)) (f2 9 (by simp))
      rw [cn_crossings hN2, tp_bd_s]
      refine wp_call (pc_tellRow (k := 60) (n := M 0 3) ⟨by decide, by decide⟩ (by omega)) (fun _ C3 w => ?_)
      obtain ⟨x1, x2⟩ := w
      refine wp_some (hQ _ _ ⟨fr_tr (fr_mono f2 (by simp)) (fr_mono x1 (by simp)), by rw [hkL], x2.1, fun j j1 j2 => ?_⟩)
      rw [x2.2 j j1 j2]
      have h1 := (w2 j.toNat (by omega)).1
      rw [show ((j.toNat : Nat) : Int) = j by omega] at h1
      show w32 (C2 60 (j + 1)) = w32 ((dg (nD (M 2)) m b j.toNat : Nat) : Int)
      rw [h1, ← hbb, hde j.toNat (by omega)]
  obtain ⟨r1, C1, ec, fc, rfl, tc⟩ := hc
  rw [ec, em]
  exact wp2_some (ans_told h (fr_mono fc (by simp)) (fr_mono fm (by simp)) (fun j hj => f0 j (f0_ne hj (by decide)) (f0_ne hj (by decide))) rfl (by omega) tc tm (fun _ _ _ => rfl))
end ST
