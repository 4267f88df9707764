/-! MENDS: the search, and the call -/
def Sb : Nat → Nat
  | 0 => 0
  | f + 1 => 4 * (1 + Sb f) + 1
theorem Sb_le : ∀ f : Nat, f ≤ 7 → Sb f ≤ 27305 := by decide
/-- tries behind u posts set -/
def gw (m : Nat) (e : Nat → Nat) : Nat → Nat
  | 0 => 0
  | u + 1 => gw m e u + e u * (1 + Sb (m - (u + 1))) + 1
theorem gw_le {m : Nat} {D e : Nat → Nat} (hD : ∀ i : Nat, i < m → D i ≤ 4) : ∀ u : Nat, u ≤ m → (∀ i : Nat, i < u → e i < D i) → gw m e u + Sb (m - u) ≤ Sb m := by
  intro u
  induction u with
  | zero => intro _ _; show 0 + Sb (m - 0) ≤ Sb m; rw [Nat.zero_add, Nat.sub_zero]; exact Nat.le_refl _
  | succ u ih =>
    intro hu he
    have h1 := ih (by omega) (fun i hi => he i (by omega))
    have h2 := he u (by omega)
    have h3 := hD u (by omega)
    have e1 : Sb (m - u) = 4 * (1 + Sb (m - (u + 1))) + 1 := by rw [show m - u = (m - (u + 1)) + 1 by omega]; rfl
    show gw m e u + e u * (1 + Sb (m - (u + 1))) + 1 + Sb (m - (u + 1)) ≤ Sb m
    generalize Sb (m - (u + 1)) = X at *
    have h4 : (e u + 1) * (1 + X) ≤ 4 * (1 + X) := Nat.mul_le_mul_right _ (by omega)
    rw [Nat.add_mul, Nat.one_mul] at h4
    omega
theorem gw_cg {m : Nat} {e e2 : Nat → Nat} : ∀ u : Nat, (∀ i : Nat, i < u → e2 i = e i) → gw m e2 u = gw m e u := by
  intro u
  induction u with
  | zero => intro _; rfl
  | succ u ih =>
    intro h
    show gw m e2 u + e2 u * _ + 1 = gw m e u + e u * _ + 1
    rw [ih (fun i hi => h i (by omega)), h u (by omega)]
def gd (m : Nat) (D : Nat → Nat) (g : Nat → Nat → Int) (d : Nat → Nat) (most s : Nat) : Prop := al m (sg_of g (dg D m s)) ∧ chg d (dg D m s) m ≤ most
/-- the first digits of all that lie in a part -/
theorem dg_pre {m : Nat} {D : Nat → Nat} : ∀ (f v b t : Nat), v + f = m → t < wf D f v → ∀ i : Nat, i < v → dg D m (b * wf D f v + t) i = dg D v b i := by
  intro f
  induction f with
  | zero =>
    intro v b t hv ht i hi
    have ht : t < 1 := ht
    have : v = m := by omega
    subst this
    show dg D v (b * 1 + t) i = dg D v b i
    rw [Nat.mul_one, show b + t = b by omega]
  | succ f ih =>
    intro v b t hv ht i hi
    have ht : t < D v * wf D f (v + 1) := ht
    have hW : 0 < wf D f (v + 1) := Nat.pos_of_ne_zero (fun q => by rw [q, Nat.mul_zero] at ht; omega)
    have h1 : t / wf D f (v + 1) < D v := Nat.div_lt_of_lt_mul (by rw [Nat.mul_comm]; exact ht)
    have h2 := Nat.mod_lt t hW
    have h3 := Nat.div_add_mod t (wf D f (v + 1))
    have e1 : b * wf D (f + 1) v + t = (b * D v + t / wf D f (v + 1)) * wf D f (v + 1) + t % wf D f (v + 1) := by
      show b * (D v * wf D f (v + 1)) + t = _
      rw [Nat.add_mul, Nat.mul_assoc, Nat.add_assoc]
      congr 1
      rw [Nat.mul_comm (t / wf D f (v + 1))]
      exact h3.symm
    rw [e1, ih (v + 1) _ _ (by omega) h2 i (by omega), dg_child h1 i (by omega), if_neg (by omega)]
section SR
variable {n : Int} {D G : Int → Int} {m : Nat} {d : Nat → Nat}
/-- nothing good in a part whose first posts are no good -/
theorem gd_skip {D : Nat → Nat} {g : Nat → Nat → Int} {most u b : Nat} {e : Nat → Nat} (hu : u + 1 ≤ m) (he : ∀ i : Nat, i < u + 1 → dg D (u + 1) b i = e i) (hbad : ¬ (chg d e (u + 1) ≤ most) ∨ ¬ al (u + 1) (sg_of g e)) : ∀ s : Nat, b * wf D (m - (u + 1)) (u + 1) ≤ s → s < (b + 1) * wf D (m - (u + 1)) (u + 1) → ¬ gd m D g d most s := by
  intro s h1 h2 hg
  rw [Nat.add_mul, Nat.one_mul] at h2
  have hp := dg_pre (m := m) (D := D) (m - (u + 1)) (u + 1) b (s - b * wf D (m - (u + 1)) (u + 1)) (by omega) (by omega)
  rw [show b * wf D (m - (u + 1)) (u + 1) + (s - b * wf D (m - (u + 1)) (u + 1)) = s by omega] at hp
  have hq : ∀ i : Nat, i < u + 1 → dg D m s i = e i := fun i hi => by rw [hp i hi, he i hi]
  rcases hbad with c | c
  · have a1 := chg_mono (d := d) (e := dg D m s) hu
    rw [chg_cg (u + 1) hq] at a1
    exact c (Nat.le_trans a1 hg.2)
  · refine c (al_cg (fun i hi => ?_) (al_part hu hg.1))
    unfold sg_of
    rw [hq i hi]
theorem cs_mendsWith {C : tp_M} {most : Nat} (hN : nC C n D G) (hm : (n - 1).toNat = m) (hd : ∀ i : Nat, i < m → C 26 ((i : Int) + 1) = (d i : Int) ∧ d i < nD D i) (hmost : most ≤ 7) : wp (fx_X10_mendsWith (most : Int) C) (fun r C1 => tp_fr [60] C C1 ∧ ((r = 0 ∧ ∀ s : Nat, s < wu (nD D) m → ¬ gd m (nD D) (nG G) d most s) ∨ (r = 1 ∧ ∃ e : Nat → Nat, (∀ i : Nat, i < m → C1 60 ((i : Int) + 1) = (e i : Int) ∧ e i < nD D i) ∧ al m (sg_of (nG G) e) ∧ chg d e m ≤ most ∧ ∀ s : Nat, s < nb (nD D) e m → ¬ gd m (nD D) (nG G) d most s))) := by
  have n8 := cn_n hN
  have hD := nt_D hN.2.1 hm
  have hS := Sb_le m (by omega)
  have hwm : wf (nD D) m 0 = wu (nD D) m := by
    have := wu_wf (m := m) (D := nD D) m 0 (by omega)
    rw [← this]; show wu (nD D) m * 1 = _; rw [Nat.mul_one]
  have hwf (v : Nat) (hv : v < m) : wf (nD D) (m - v) v = nD D v * wf (nD D) (m - (v + 1)) (v + 1) := by
    rw [show m - v = (m - (v + 1)) + 1 by omega]; rfl
  obtain ⟨X, hX1, hX2⟩ : ∃ X : Int, 27307 ≤ X ∧ X < 50000 := ⟨30000, by decide, by decide⟩
  refine wp_K (fun Q hQ => ?_)
  unfold fx_X10_mendsWith
  rw [cn_crossings hN, tp_bd_s]
  refine wp_lt ?_
  refine wp_lt ?_
  refine wp_lm ?_
  refine wp_lt ?_
  refine wp_lp2 (fun v z C1 => tp_fr [60] C C1 ∧ ∃ t : Nat, z = (t : Int) ∧ t ≤ 27306 ∧ ((v = 0 ∧ ∀ s : Nat, s < wu (nD D) m → ¬ gd m (nD D) (nG G) d most s) ∨ ∃ (u c : Nat) (e : Nat → Nat), v = (u : Int) + 1 ∧ u < m ∧ c ≤ nD D u ∧ (∀ i : Nat, i < u → C1 60 ((i : Int) + 1) = (e i : Int) ∧ e i < nD D i) ∧ C1 60 ((u : Int) + 1) = (c : Int) - 1 ∧ al u (sg_of (nG G) e) ∧ t ≤ gw m e u + c * (1 + Sb (m - (u + 1))) ∧ ∀ s : Nat, s < (nb (nD D) e u * nD D u + c) * wf (nD D) (m - (u + 1)) (u + 1) → ¬ gd m (nD D) (nG G) d most s)) (fun _ z _ => (X - z).toNat) ?_ tp_F 1 0 _ ⟨fr_up fr_rf (by simp), 0, rfl, by omega, Or.inr ⟨0, 0, fun _ => 0, rfl, by omega, by omega, fun i hi => by omega, by show tp_up C 60 1 (-1) 60 1 = _; rw [up_s]; rfl, ⟨fun _ => 0, fun v w hv => by omega⟩, by omega, fun s hs => by
    have : nb (nD D) (fun _ => 0) 0 = 0 := rfl
    rw [this, Nat.zero_mul, Nat.zero_add, Nat.zero_mul] at hs
    omega⟩⟩ (tp_F_pos (by omega))
  rintro rec v z C1 ⟨f, t, rfl, t1, hI⟩ hrec
  have hN1 : nC C1 n D G := nC_fr hN (f 5 (by simp)) (f 6 (by simp)) (f 7 (by simp)) (f 8 (by simp)) (f 9 (by simp))
  unfold fx_X10_mendsWith_L22
  rw [w32_id (show -2147483648 ≤ (t : Int) ∧ (t : Int) < 2147483648 by omega), if_pos (by omega)]
  rcases hI with ⟨rfl, hno⟩ | ⟨u, c, e, rfl, hu, hc, he, hcu, ha, ht, hno⟩
  · rw [if_pos (by decide)]
    exact wp_some (hQ _ _ ⟨f, Or.inl ⟨rfl, hno⟩⟩)
  · obtain ⟨du1, du2, du3⟩ := hD u hu
    have hgw := gw_le (m := m) (D := nD D) (e := e) (fun i hi => (hD i hi).2.1) u (by omega) (fun i hi => (he i hi).2)
    have hSu : Sb (m - u) = 4 * (1 + Sb (m - (u + 1))) + 1 := by rw [show m - u = (m - (u + 1)) + 1 by omega]; rfl
    have hcS : c * (1 + Sb (m - (u + 1))) ≤ 4 * (1 + Sb (m - (u + 1))) := Nat.mul_le_mul_right _ (by omega)
    have ht2 : t + 1 ≤ 27305 := by omega
    rw [w32_id (show -2147483648 ≤ (u : Int) + 1 ∧ (u : Int) + 1 < 2147483648 by omega), if_neg (by omega), w32_id (show -2147483648 ≤ n - 1 ∧ n - 1 < 2147483648 by omega), if_pos (by omega), hcu, show (c : Int) - 1 + 1 = (c : Int) by omega]
    refine wp_ck (by omega) ?_
    refine wp_ck (by omega) ?_
    refine wp_lm ?_
    refine wp_ck (by omega) ?_
    have f2 : tp_fr [60] C (tp_up C1 60 ((u : Int) + 1) (c : Int)) := fr_up f (by simp)
    have hN2 : nC (tp_up C1 60 ((u : Int) + 1) (c : Int)) n D G := nC_fr hN (f2 5 (by simp)) (f2 6 (by simp)) (f2 7 (by simp)) (f2 8 (by simp)) (f2 9 (by simp))
    rw [cn_degree hN2 (a := (u : Int) + 1) (by omega), tp_bd_s]
    refine wp_jn1 ?_
    rw [up_s, ← du3, w32_id (show -2147483648 ≤ (c : Int) ∧ (c : Int) < 2147483648 by omega), w32_id (show -2147483648 ≤ ((nD D u : Nat) : Int) ∧ ((nD D u : Nat) : Int) < 2147483648 by omega)]
    by_cases hcd : (c : Int) < ((nD D u : Nat) : Int)
    · rw [if_pos hcd]
      generalize he2 : (fun i => if i = u then c else e i) = e2
      have e2u : e2 u = c := by rw [← he2]; exact if_pos rfl
      have e2i : ∀ i : Nat, i < u → e2 i = e i := fun i hi => by rw [← he2]; exact if_neg (by omega)
      have hcell : ∀ i : Nat, i ≤ u → tp_up C1 60 ((u : Int) + 1) (c : Int) 60 ((i : Int) + 1) = (e2 i : Int) ∧ e2 i < nD D i := fun i hi => by
        by_cases q : i = u
        · rw [q, up_s, e2u]; exact ⟨rfl, by omega⟩
        · rw [up_j _ _ _ (by omega), e2i i (by omega)]; exact he i (by omega)
      have hal2 : al u (sg_of (nG G) e2) := al_cg (fun i hi => by unfold sg_of; rw [e2i i hi]) ha
      have hnb : nb (nD D) e2 (u + 1) = nb (nD D) e u * nD D u + c := by
        show nb (nD D) e2 u * nD D u + e2 u = _
        rw [nb_cg u e2i, e2u]
      have hch := cs_changed (C := tp_up C1 60 ((u : Int) + 1) (c : Int)) (u := u + 1) (d := d) (e := e2) (by omega) (fun i hi => by
        obtain ⟨a1, a2⟩ := hcell i (by omega)
        obtain ⟨b1, b2⟩ := hd i (by omega)
        have := (hD i (by omega)).2.1
        exact ⟨a1, by rw [f2 26 (by simp)]; exact b1, by omega, by omega⟩)
      have hchl := chg_le d e2 (u + 1)
      rw [show ((u + 1 : Nat) : Int) = (u : Int) + 1 by omega] at hch
      have stay : ((¬ chg d e2 (u + 1) ≤ most) ∨ ¬ al (u + 1) (sg_of (nG G) e2)) → wp (tp_lt ((t : Int) + 1) (fun x15 => rec ((u : Int) + 1) x15 (tp_up C1 60 ((u : Int) + 1) (c : Int)))) Q := fun hbad => by
        refine wp_lt ?_
        refine hrec _ _ _ ⟨f2, t + 1, by omega, by omega, Or.inr ⟨u, c + 1, e, rfl, hu, by omega, fun i hi => ?_, by rw [up_s]; omega, ha, ?_, fun s hs => ?_⟩⟩ (by omega)
        · rw [up_j _ _ _ (by omega)]; exact he i hi
        · rw [Nat.add_mul c 1, Nat.one_mul]; omega
        · by_cases q : s < (nb (nD D) e u * nD D u + c) * wf (nD D) (m - (u + 1)) (u + 1)
          · exact hno s q
          · refine gd_skip (m := m) (d := d) (u := u) (b := nb (nD D) e u * nD D u + c) (e := e2) (by omega) (fun i hi => ?_) hbad s (by omega) hs
            rw [← hnb]
            exact nb_dg (u + 1) (fun i hi => (hcell i (by omega)).2) i hi
      rw [hch, tp_bd_s, w32_id (show -2147483648 ≤ ((chg d e2 (u + 1) : Nat) : Int) ∧ ((chg d e2 (u + 1) : Nat) : Int) < 2147483648 by omega), w32_id (show -2147483648 ≤ (most : Int) ∧ (most : Int) < 2147483648 by omega)]
      by_cases hcm : ((chg d e2 (u + 1) : Nat) : Int) ≤ (most : Int)
      · rw [if_pos hcm]
        refine wp_call (cs_closesRing (m := m) (u := u) (e := e2) hN2 hm hu hcell hal2) (fun r C3 w => ?_)
        obtain ⟨rfl, w⟩ := w
        rcases w with ⟨rfl, w⟩ | ⟨rfl, w⟩
        · rw [if_neg (show ¬ w32 1 = 0 by decide)]
          exact stay (Or.inr w)
        · rw [if_pos (show w32 0 = 0 by decide)]
          by_cases hlast : (u : Int) + 1 = n - 1
          · rw [if_pos hlast]
            have hum : u + 1 = m := by omega
            refine wp_some (hQ _ _ ⟨f2, Or.inr ⟨rfl, e2, fun i hi => hcell i (by omega), by rw [← hum]; exact w, by rw [← hum]; omega, fun s hs => hno s ?_⟩⟩)
            rw [← hum, hnb] at hs
            rw [hum, Nat.sub_self]
            show s < (nb (nD D) e u * nD D u + c) * 1
            rw [Nat.mul_one]; exact hs
          · rw [if_neg hlast]
            refine wp_lt ?_
            rw [w32_id (show -2147483648 ≤ (u : Int) + 1 + 1 ∧ (u : Int) + 1 + 1 < 2147483648 by omega)]
            refine wp_ck (by omega) ?_
            refine wp_lm ?_
            refine wp_lt ?_
            refine hrec _ _ _ ⟨fr_up f2 (by simp), t + 1, by omega, by omega, Or.inr ⟨u + 1, 0, e2, by omega, by omega, by omega, fun i hi => ?_, ?_, w, ?_, fun s hs => hno s ?_⟩⟩ (by omega)
            · rw [up_j _ _ _ (by omega)]; exact hcell i (by omega)
            · rw [show ((u + 1 : Nat) : Int) + 1 = (u : Int) + 1 + 1 by omega, up_s]; rfl
            · show t + 1 ≤ (gw m e2 u + e2 u * (1 + Sb (m - (u + 1))) + 1) + 0 * _
              rw [gw_cg u e2i, e2u, Nat.zero_mul]; omega
            · rw [hnb, Nat.add_zero, Nat.mul_assoc, ← hwf (u + 1) (by omega)] at hs
              exact hs
      · rw [if_neg hcm]
        exact stay (Or.inl (by omega))
    · rw [if_neg hcd]
      have hcD : c = nD D u := by omega
      have hup : (nb (nD D) e u * nD D u + c) * wf (nD D) (m - (u + 1)) (u + 1) = (nb (nD D) e u + 1) * wf (nD D) (m - u) u := by
        rw [hcD, hwf u hu, ← Nat.mul_assoc, show (nb (nD D) e u + 1) * nD D u = nb (nD D) e u * nD D u + nD D u by rw [Nat.add_mul, Nat.one_mul]]
      rw [hup] at hno
      refine wp_lt ?_
      refine wp_lt ?_
      refine hrec _ _ _ ⟨f2, t + 1, by omega, by omega, ?_⟩ (by omega)
      by_cases u0 : u = 0
      · subst u0
        refine Or.inl ⟨by omega, fun s hs => hno s ?_⟩
        have : nb (nD D) e 0 = 0 := rfl
        rw [this, Nat.zero_add, Nat.one_mul, Nat.sub_zero, hwm]
        exact hs
      · obtain ⟨w, rfl⟩ : ∃ w, u = w + 1 := ⟨u - 1, by omega⟩
        have hew := he w (by omega)
        refine Or.inr ⟨w, e w + 1, e, by omega, by omega, by omega, fun i hi => ?_, ?_, al_part (by omega) ha, ?_, fun s hs => hno s hs⟩
        · rw [up_j _ _ _ (by omega)]; exact he i (by omega)
        · rw [up_j _ _ _ (by omega), hew.1]; omega
        · have e1 : gw m e (w + 1) = gw m e w + e w * (1 + Sb (m - (w + 1))) + 1 := rfl
          rw [e1] at ht
          rw [hcD] at ht
          have h5 : nD D (w + 1) * (1 + Sb (m - (w + 1 + 1))) ≤ 4 * (1 + Sb (m - (w + 1 + 1))) := Nat.mul_le_mul_right _ du2
          rw [Nat.add_mul (e w) 1, Nat.one_mul]
          omega
end SR
