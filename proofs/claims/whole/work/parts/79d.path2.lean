/-! ROUTE: the two walks down -/
theorem w2_path {C M : tp_M} {n : Int} {D G f1 f2 : Int → Int} {g a1 : Int} {x : Nat} {Q : Int → tp_M → Int → tp_M → Prop} (hN : nC C n D G) (h3 : M 0 3 = n) (hD : M 2 = D) (hG : M 3 = G) (hg : 0 ≤ g ∧ g < n) (ha : 0 ≤ a1 ∧ a1 < n) (e1 : C 61 = f1) (e2 : M 13 = f2) (h1 : ms_ok n D G g f1) (h2 : fa_ok n D G g f2) (hx : x < 8) (hfx : nt_far n D G g a1 x) (t1 : C 3 1 = 0) (t2 : M 0 1 = 0)
    (hQ : ∀ C2 M2 : tp_M, tp_fr [3, 4] C C2 → tp_fr [0, 1] M M2 → (∀ j : Int, ¬ j = 1 → M2 0 j = M 0 j) → C2 3 1 = (x : Int) → M2 0 1 = (x : Int) → (∀ j : Int, 0 ≤ j → j < (x : Int) → C2 4 j = M2 1 j) → Q (x : Int) C2 (x : Int) M2) : wp2 (tp_lp2 (fx_X10_route_L65 (x : Int)) tp_F a1 ((x : Int) - 1) C) (tp_lp1 (fx_X11_route_L50 a1 g) tp_F a1 M) Q := by
  have n8 := cn_n hN
  have hn := hN.2.1
  have hf8 : ∀ u : Int, 0 ≤ u → u < n → -1 ≤ f1 u ∧ f1 u < 8 := fun u u1 u2 => by
    rcases h1 u u1 u2 with ⟨d, d1, d2, -⟩ | ⟨d2, -⟩ <;> omega
  have hf9 : ∀ u : Int, 0 ≤ u → u < n → 0 ≤ f2 u ∧ f2 u ≤ 1000000 := fun u u1 u2 => by
    rcases h2 u u1 u2 with ⟨d, d1, d2, -⟩ | ⟨d2, -⟩ <;> omega
  refine wp2_lp21 (fun v l C2 w M2 => w = v ∧ (0 ≤ v ∧ v < n) ∧ ∃ d : Nat, d ≤ x ∧ l = (d : Int) - 1 ∧ nt_far n D G g v d ∧ tp_fr [3, 4] C C2 ∧ tp_fr [0, 1] M M2 ∧ (∀ j : Int, ¬ j = 1 → M2 0 j = M 0 j) ∧ C2 3 1 = (x : Int) - (d : Int) ∧ M2 0 1 = (x : Int) - (d : Int) ∧ ∀ j : Int, 0 ≤ j → j < (x : Int) - (d : Int) → C2 4 j = M2 1 j) (fun _ l _ _ _ => (l + 1).toNat) ?_ tp_F tp_F a1 ((x : Int) - 1) C a1 M ⟨rfl, ha, x, by omega, rfl, hfx, fr_rf, fr_rf, fun _ _ => rfl, by omega, by omega, fun j j1 j2 => by omega⟩ (tp_F_pos (by omega)) (tp_F_pos (by omega))
  intro rec1 rec2 v l C2 w M2 hI hrec
  obtain ⟨rfl, hv, d, d1, rfl, hfar, i1, i2, i3, i4, i5, i6⟩ := hI
  have m13 : M2 13 = f2 := by rw [i2 13 (by simp), e2]
  unfold fx_X10_route_L65 fx_X11_route_L50
  rw [w32_id (show -2147483648 ≤ (d : Int) - 1 ∧ (d : Int) - 1 < 2147483648 by omega), w32_id (show -2147483648 ≤ w ∧ w < 2147483648 by omega), w32_id (show -2147483648 ≤ g ∧ g < 2147483648 by omega), w32_id (show -2147483648 ≤ a1 ∧ a1 < 2147483648 by omega)]
  cases d with
  | zero =>
    have hvg : w = g := hfar.1
    rw [if_pos (by omega), if_pos hvg]
    refine wp2_ck2 (by omega) ?_
    rw [m13, fa_at h2 ha hfx]
    exact wp2_some (hQ C2 M2 i1 i2 i3 (by omega) (by omega) (fun j j1 j2 => i6 j j1 (by omega)))
  | succ d =>
    have hne : ¬ w = g := fun c => hfar.2 0 (by omega) c
    obtain ⟨hv1, k, k1, k2, k3⟩ := ls_ex hfar
    have hgk := (hn.2 w hv1.1 hv1.2).2 k k1 k2
    rw [if_neg (by omega), if_neg hne, show ((d + 1 : Nat) : Int) - 1 = (d : Int) by omega]
    have hN2 : nC C2 n D G := nC_fr hN (i1 5 (by simp)) (i1 6 (by simp)) (i1 7 (by simp)) (i1 8 (by simp)) (i1 9 (by simp))
    refine wp2_c1 (cs_least (C := C2) (f := f1) (v := w) (d := (d : Int)) hN2 hv1 (by rw [i1 61 (by simp), e1]) (by omega) hf8 ⟨k, k1, k2, ms_at2 h1 ⟨hgk.1, hgk.2.1⟩ k3⟩) (fun r C3 q => ?_)
    obtain ⟨hC3, q⟩ := q
    subst C3
    refine wp2_lt1 ?_
    refine wp2_lt2 ?_
    refine wp2_lt2 ?_
    have m2 : M2 2 = D := by rw [i2 2 (by simp), hD]
    have m3 : M2 3 = G := by rw [i2 3 (by simp), hG]
    have m03 : M2 0 3 = n := by rw [i3 3 (by decide), h3]
    refine ps_least (M := M2) (f := f2) (d := (d : Int)) (by rw [m03, m2, m3]; exact hn) (by rw [m03]; exact hv1) m13 (by rw [m03]; exact hf9) (by rw [fa_at h2 hv hfar]; omega) (by rw [m2, m3]; exact ⟨k, k1, k2, fa_at h2 ⟨hgk.1, hgk.2.1⟩ k3⟩) (fun y p => ?_)
    rw [m2, m3] at p
    have hy := ls_u hn hv1 h1 h2 (by omega) q p
    subst hy
    obtain ⟨⟨p1, kk, kk1, kk2, kk3⟩, -⟩ := p
    have hr := (hn.2 w hv1.1 hv1.2).2 kk kk1 kk2
    rw [kk3] at hr
    have hfr : nt_far n D G g r d := by
      rcases h2 r hr.1 hr.2.1 with ⟨b, b1, b2, b3⟩ | ⟨b2, b3⟩
      · rw [show d = b by omega]; exact b3
      · omega
    rw [w32_id (show -2147483648 ≤ r ∧ r < 2147483648 by omega), pc_add (t := (x : Int) - ((d + 1 : Nat) : Int)) i4 (by omega), tp_bd_s, pm_enters (t := (x : Int) - ((d + 1 : Nat) : Int)) i5 (by omega), tp_bd_s]
    refine wp2_lt1 ?_
    refine wp2_lt2 ?_
    refine hrec _ _ _ _ _ ⟨rfl, ⟨hr.1, hr.2.1⟩, d, by omega, by omega, hfr, fr_up (fr_up i1 (by simp)) (by simp), fr_up (fr_up i2 (by simp)) (by simp), fun j hj => by rw [up_j _ _ _ hj, up_k _ _ _ (by decide)]; exact i3 j hj, by rw [up_s]; omega, by rw [up_s]; omega, fun j j1 j2 => ?_⟩ (by omega)
    rw [up_k _ _ _ (show ¬ (4 : Nat) = 3 by decide), up_c, up_k _ _ _ (show ¬ (1 : Nat) = 0 by decide), up_c]
    by_cases e : j = (x : Int) - ((d + 1 : Nat) : Int)
    · rw [if_pos e, if_pos e]
    · rw [if_neg e, if_neg e]; exact i6 j j1 (by omega)
