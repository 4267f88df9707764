/-! HOW FAR: fewest ways -/
section FAR
variable {n : Int} {D G : Int → Int} {g : Int}
theorem in_mono {v : Int} {d : Nat} (h : nt_in n D G g d v) : ∀ e : Nat, d ≤ e → nt_in n D G g e v := by
  intro e
  induction e with
  | zero => intro he; rw [show d = 0 by omega] at h; exact h
  | succ e ih =>
    intro he
    by_cases hd : d = e + 1
    · rw [← hd]; exact h
    · exact Or.inl (ih (by omega))
theorem far_u {v : Int} {d e : Nat} (h1 : nt_far n D G g v d) (h2 : nt_far n D G g v e) : d = e := by
  by_cases h : d < e
  · exact absurd h1.1 (h2.2 d h)
  · by_cases h' : e < d
    · exact absurd h2.1 (h1.2 e h')
    · omega
theorem far_min {v : Int} : ∀ d : Nat, nt_in n D G g d v → ∃ e : Nat, e ≤ d ∧ nt_far n D G g v e := by
  intro d
  induction d using Nat.strongRecOn with
  | ind d ih =>
    intro h
    by_cases hx : ∃ e : Nat, e < d ∧ nt_in n D G g e v
    · obtain ⟨e, e1, e2⟩ := hx
      obtain ⟨c, c1, c2⟩ := ih e e1 e2
      exact ⟨c, by omega, c2⟩
    · exact ⟨d, Nat.le_refl d, h, fun e he q => hx ⟨e, he, q⟩⟩
theorem far_lv (hn : nt_net n D G) (hg : 0 ≤ g ∧ g < n) : ∀ (d : Nat) (v : Int), (0 ≤ v ∧ v < n) → nt_far n D G g v d → ∀ i : Nat, i ≤ d → ∃ u : Int, (0 ≤ u ∧ u < n) ∧ nt_far n D G g u i := by
  intro d
  induction d with
  | zero =>
    intro v hv h i hi
    rw [show i = 0 by omega]
    exact ⟨v, hv, h⟩
  | succ d ih =>
    intro v hv h i hi
    by_cases hid : i = d + 1
    · rw [hid]; exact ⟨v, hv, h⟩
    · obtain ⟨h1, h2⟩ := h
      rcases h1 with h1 | ⟨w1, w2, k, k1, k2, k3⟩
      · exact absurd h1 (h2 d (by omega))
      · have hG := (hn.2 v w1 w2).2 k k1 k2
        refine ih (G (4 * v + k)) (by omega) ⟨k3, fun e he q => ?_⟩ i (by omega)
        exact h2 (e + 1) (by omega) (Or.inr ⟨w1, w2, k, k1, k2, q⟩)
theorem far_lt (hn : nt_net n D G) (hg : 0 ≤ g ∧ g < n) {d : Nat} {v : Int} (hv : 0 ≤ v ∧ v < n) (h : nt_far n D G g v d) : (d : Int) < n := by
  by_cases hd : (d : Int) < n
  · exact hd
  · exfalso
    have hl := far_lv hn hg d v hv h
    have hc : ∀ i : Nat, ∃ u : Int, i ≤ n.toNat → (0 ≤ u ∧ u < n) ∧ nt_far n D G g u i := fun i => by
      by_cases hi : i ≤ n.toNat
      · obtain ⟨u, u1⟩ := hl i (by omega)
        exact ⟨u, fun _ => u1⟩
      · exact ⟨0, fun q => absurd q hi⟩
    obtain ⟨i, j, i1, i2, i3⟩ := php n.toNat (fun i => (Classical.choose (hc i)).toNat) (fun i hi => by
      have := (Classical.choose_spec (hc i) hi).1
      omega)
    have a := Classical.choose_spec (hc i) (by omega)
    have b := Classical.choose_spec (hc j) i2
    have e : Classical.choose (hc i) = Classical.choose (hc j) := by
      have a1 := a.1
      have b1 := b.1
      omega
    rw [e] at a
    have := far_u a.2 b.2
    omega
theorem far_8 (hn : nt_net n D G) (hg : 0 ≤ g ∧ g < n) {d : Nat} {v : Int} (hv : 0 ≤ v ∧ v < n) (h : nt_in n D G g d v) : ∃ e : Nat, e < 8 ∧ nt_far n D G g v e := by
  obtain ⟨e, e1, e2⟩ := far_min d h
  have := far_lt hn hg hv e2
  have := hn.1
  exact ⟨e, by omega, e2⟩
/-- f tells how far, or NEVER -/
def fa_snd (n : Int) (D G : Int → Int) (g : Int) (f : Int → Int) : Prop := ∀ v : Int, 0 ≤ v → v < n → (0 ≤ f v ∧ f v ≤ 1000000) ∧ (f v < 1000000 → nt_in n D G g (f v).toNat v)
def fa_cpl (n : Int) (D G : Int → Int) (g : Int) (f : Int → Int) (v : Int) (k : Nat) : Prop := ∀ d : Nat, d ≤ k → nt_in n D G g d v → f v ≤ (d : Int)
def fa_ok (n : Int) (D G : Int → Int) (g : Int) (f : Int → Int) : Prop := ∀ v : Int, 0 ≤ v → v < n → (∃ d : Nat, d < 8 ∧ f v = (d : Int) ∧ nt_far n D G g v d) ∨ (f v = 1000000 ∧ ∀ d : Nat, ¬ nt_in n D G g d v)
theorem fa_end {f : Int → Int} (hn : nt_net n D G) (hg : 0 ≤ g ∧ g < n) (hs : fa_snd n D G g f) (hc : ∀ v : Int, 0 ≤ v → v < n → fa_cpl n D G g f v 8) : fa_ok n D G g f := by
  intro v v1 v2
  obtain ⟨⟨s1, s2⟩, s3⟩ := hs v v1 v2
  by_cases h : ∃ d : Nat, nt_in n D G g d v
  · obtain ⟨d, hd⟩ := h
    obtain ⟨e, e1, e2⟩ := far_8 hn hg ⟨v1, v2⟩ hd
    have h1 := hc v v1 v2 e (by omega) e2.1
    have h2 := s3 (by omega)
    have h3 : ¬ (f v).toNat < e := fun q => e2.2 _ q h2
    exact Or.inl ⟨e, e1, by omega, e2⟩
  · refine Or.inr ⟨?_, fun d hd => h ⟨d, hd⟩⟩
    by_cases q : f v < 1000000
    · exact absurd ⟨_, s3 q⟩ h
    · omega
end FAR
theorem pm_laysFar {M : tp_M} {g : Int} (hn : nt_net (M 0 3) (M 2) (M 3)) (hg : 0 ≤ g ∧ g < M 0 3) : wp (fx_X11_laysFar g M) (fun _ M1 => tp_fr [13] M M1 ∧ fa_ok (M 0 3) (M 2) (M 3) g (M1 13)) := by
  have n8 := hn.1
  generalize hD : M 2 = D at *
  generalize hG : M 3 = G at *
  generalize hnn : M 0 3 = n at *
  refine wp_K (fun Q hQ => ?_)
  unfold fx_X11_laysFar
  refine wp_lt ?_
  refine wp_lp1 (fun z M1 => (0 ≤ z ∧ z ≤ 8) ∧ tp_fr [13] M M1 ∧ ∀ u : Int, 0 ≤ u → u < z → M1 13 u = if u = g then 0 else 1000000) (fun z _ => (8 - z).toNat) ?_ tp_F 0 M ⟨by omega, fr_rf, fun u u1 u2 => by omega⟩ (tp_F_pos (by omega))
  intro rec z M1 hI hrec
  obtain ⟨i1, i2, i3⟩ := hI
  unfold fx_X11_laysFar_L2
  by_cases hz : z < 8
  · by_cases he : z = g
    · rw [w32_id (show -2147483648 ≤ z ∧ z < 2147483648 by omega), if_pos hz, w32_id (show -2147483648 ≤ g ∧ g < 2147483648 by omega)]
      refine wp_jn1 ?_
      rw [if_pos he]
      refine wp_ck (by omega) ?_
      refine wp_lm ?_
      refine wp_lt ?_
      refine hrec _ _ ⟨by omega, fr_up i2 (by simp), fun u u1 u2 => ?_⟩ (by omega)
      rw [up_c]
      by_cases hu : u = z
      · rw [if_pos hu, if_pos (by omega)]
      · rw [if_neg hu]; exact i3 u u1 (by omega)
    · rw [w32_id (show -2147483648 ≤ z ∧ z < 2147483648 by omega), if_pos hz, w32_id (show -2147483648 ≤ g ∧ g < 2147483648 by omega)]
      refine wp_jn1 ?_
      rw [if_neg he]
      refine wp_ck (by omega) ?_
      refine wp_lm ?_
      refine wp_lt ?_
      refine hrec _ _ ⟨by omega, fr_up i2 (by simp), fun u u1 u2 => ?_⟩ (by omega)
      rw [up_c]
      by_cases hu : u = z
      · rw [if_pos hu, if_neg (by omega)]
      · rw [if_neg hu]; exact i3 u u1 (by omega)
  · rw [w32_id (by omega), if_neg hz]
    refine wp_lt ?_
    have hz8 : z = 8 := by omega
    subst hz8
    have hs0 : fa_snd n D G g (M1 13) := fun v v1 v2 => by
      rw [i3 v v1 (by omega)]
      by_cases hv : v = g
      · rw [if_pos hv]
        exact ⟨by omega, fun _ => hv⟩
      · rw [if_neg hv]
        exact ⟨by omega, fun q => absurd q (by decide)⟩
    have hc0 : ∀ v : Int, 0 ≤ v → v < n → fa_cpl n D G g (M1 13) v 0 := fun v v1 v2 d hd hin => by
      rw [show d = 0 by omega] at hin
      have hin : v = g := hin
      rw [i3 v v1 (by omega), if_pos hin]
      omega
    refine wp_lp1 (fun k M2 => ∃ m : Nat, k = (m : Int) ∧ m ≤ 8 ∧ tp_fr [13] M M2 ∧ fa_snd n D G g (M2 13) ∧ ∀ v : Int, 0 ≤ v → v < n → fa_cpl n D G g (M2 13) v m) (fun k _ => (8 - k).toNat) ?_ tp_F 0 M1 ⟨0, rfl, by omega, i2, hs0, hc0⟩ (tp_F_pos (by omega))
    intro rec2 k M2 hI2 hrec2
    obtain ⟨m, rfl, m8, j1, j2, j3⟩ := hI2
    unfold fx_X11_laysFar_L34
    by_cases hm : (m : Int) < 8
    · rw [w32_id (by omega), if_pos hm]
      refine wp_lt ?_
      refine wp_lp1 (fun i M3 => (1 ≤ i ∧ i ≤ n) ∧ tp_fr [13] M M3 ∧ fa_snd n D G g (M3 13) ∧ (∀ v : Int, 0 ≤ v → v < n → fa_cpl n D G g (M3 13) v m) ∧ ∀ v : Int, 0 ≤ v → v < i → fa_cpl n D G g (M3 13) v (m + 1)) (fun i _ => (8 - i).toNat) ?_ tp_F 1 M2 ⟨by omega, j1, j2, j3, fun v v1 v2 d hd hin => ?_⟩ (tp_F_pos (by omega))
      · intro rec3 i M3 hI3 hrec3
        obtain ⟨l1, l2, l3, l4, l5⟩ := hI3
        have e0 : M3 0 = M 0 := l2 0 (by simp)
        unfold fx_X11_laysFar_L42
        rw [e0, hnn, w32_id (show -2147483648 ≤ i ∧ i < 2147483648 by omega), w32_id (show -2147483648 ≤ n ∧ n < 2147483648 by omega)]
        by_cases hi : i < n
        · rw [if_pos hi]
          have d4 := (hn.2 i l1.1 hi).1
          refine wp_lt ?_
          refine wp_lp1 (fun j M4 => ∃ q : Nat, j = (q : Int) ∧ (q : Int) ≤ D i ∧ tp_fr [13] M M4 ∧ fa_snd n D G g (M4 13) ∧ (∀ v : Int, 0 ≤ v → v < n → fa_cpl n D G g (M4 13) v m) ∧ (∀ v : Int, 0 ≤ v → v < i → fa_cpl n D G g (M4 13) v (m + 1)) ∧ ∀ w : Int, 0 ≤ w → w < (q : Int) → nt_in n D G g m (G (4 * i + w)) → M4 13 i ≤ (m : Int) + 1) (fun j _ => (D i - j).toNat) ?_ tp_F 0 M3 ⟨0, rfl, by omega, l2, l3, l4, l5, fun w w1 w2 => by omega⟩ (tp_F_pos (by omega))
          intro rec4 j M4 hI4 hrec4
          obtain ⟨q, rfl, q1, q2, q3, q4, q5, q6⟩ := hI4
          have f2 : M4 2 = D := by rw [q2 2 (by simp), hD]
          have f3 : M4 3 = G := by rw [q2 3 (by simp), hG]
          unfold fx_X11_laysFar_L53
          rw [w32_id (show -2147483648 ≤ i ∧ i < 2147483648 by omega)]
          refine wp_ck (by omega) ?_
          rw [f2, w32_id (show -2147483648 ≤ (q : Int) ∧ (q : Int) < 2147483648 by omega), w32_id (show -2147483648 ≤ D i ∧ D i < 2147483648 by omega)]
          by_cases hq : (q : Int) < D i
          · rw [if_pos hq]
            refine wp_ck (by omega) ?_
            have hG4 := (hn.2 i l1.1 hi).2 (q : Int) (by omega) hq
            rw [pm_goalOf (by omega), tp_bd_s, f3]
            generalize hgo : G (4 * i + (q : Int)) = go at *
            obtain ⟨⟨s1, s2⟩, s3⟩ := q3 i (by omega) hi
            obtain ⟨⟨t1, t2⟩, t3⟩ := q3 go hG4.1 hG4.2.1
            rw [w32_id (show -2147483648 ≤ go ∧ go < 2147483648 by omega), w32_id (show -2147483648 ≤ M4 13 i ∧ M4 13 i < 2147483648 by omega), w32_id (show -2147483648 ≤ M4 13 go + 1 ∧ M4 13 go + 1 < 2147483648 by omega)]
            refine wp_ck (by omega) ?_
            refine wp_ck (by omega) ?_
            refine wp_lm ?_
            refine wp_lt ?_
            have hle : ∀ v : Int, tp_up M4 13 i (min (M4 13 i) (M4 13 go + 1)) 13 v ≤ M4 13 v := fun v => by
              rw [up_c]
              by_cases hv : v = i
              · rw [if_pos hv, hv]; omega
              · rw [if_neg hv]; omega
            refine hrec4 _ _ ⟨q + 1, by omega, by omega, fr_up q2 (by simp), fun v v1 v2 => ?_, fun v v1 v2 d hd hin => ?_, fun v v1 v2 d hd hin => ?_, fun w w1 w2 hin => ?_⟩ (by omega)
            · rw [up_c]
              by_cases hv : v = i
              · rw [if_pos hv, hv]
                refine ⟨by omega, fun hlt => ?_⟩
                by_cases hmin : M4 13 i ≤ M4 13 go + 1
                · rw [show min (M4 13 i) (M4 13 go + 1) = M4 13 i by omega] at hlt ⊢
                  exact s3 hlt
                · rw [show min (M4 13 i) (M4 13 go + 1) = M4 13 go + 1 by omega] at hlt ⊢
                  rw [show (M4 13 go + 1).toNat = (M4 13 go).toNat + 1 by omega]
                  exact Or.inr ⟨l1.1, hi, (q : Int), by omega, hq, by rw [hgo]; exact t3 (by omega)⟩
              · rw [if_neg hv]
                exact q3 v v1 v2
            · have := q4 v v1 v2 d hd hin
              have := hle v
              omega
            · have := q5 v v1 v2 d hd hin
              have := hle v
              omega
            · rw [up_s]
              by_cases hw : w = (q : Int)
              · rw [hw, hgo] at hin
                have := q4 go hG4.1 hG4.2.1 m (Nat.le_refl m) hin
                omega
              · have := q6 w w1 (by omega) hin
                omega
          · rw [if_neg hq]
            refine wp_lt ?_
            refine hrec3 _ _ ⟨by omega, q2, q3, q4, fun v v1 v2 => ?_⟩ (by omega)
            by_cases hv : v = i
            · subst hv
              intro d hd hin
              by_cases hdm : d ≤ m
              · exact q4 v v1 (by omega) d hdm hin
              · rw [show d = m + 1 by omega] at hin ⊢
                rcases hin with hin | ⟨w1, w2, k, k1, k2, k3⟩
                · have := q4 v v1 (by omega) m (Nat.le_refl m) hin
                  omega
                · have := q6 k k1 (by omega) k3
                  omega
            · exact q5 v v1 (by omega)
        · rw [if_neg hi]
          refine wp_lt ?_
          exact hrec2 _ _ ⟨m + 1, by omega, by omega, l2, l3, fun v v1 v2 => l5 v v1 (by omega)⟩ (by omega)
      · have hv0 : v = 0 := by omega
        rw [hv0] at hin ⊢
        by_cases hdm : d ≤ m
        · exact j3 0 (by omega) (by omega) d hdm hin
        · rw [show d = m + 1 by omega] at hin ⊢
          rcases hin with hin | ⟨w1, w2, -⟩
          · have := j3 0 (by omega) (by omega) m (Nat.le_refl m) hin
            omega
          · omega
    · rw [w32_id (by omega), if_neg hm]
      refine wp_some (hQ _ _ ⟨j1, fa_end hn hg j2 (fun v v1 v2 => ?_)⟩)
      have := j3 v v1 v2
      rw [show m = 8 by omega] at this
      exact this
/-- both know how far the inn is -/
theorem fa_inn {c4 c5 : Int} {C6 C7 C8 C9 : Int → Int} {n : Int} {D G f : Int → Int} (hN : sm_net c4 c5 C6 C7 C8 C9 n D G) (h : fa_ok n D G 0 f) {v : Int} (hv : 0 ≤ v ∧ v < n) : f v = C9 v ∧ 0 ≤ C9 v ∧ C9 v < 8 := by
  obtain ⟨d, d1, d2, d3⟩ := hN.2.2.2.2.2 v hv.1 hv.2
  rcases h v hv.1 hv.2 with ⟨e, e1, e2, e3⟩ | ⟨e1, e2⟩
  · have := far_u d3 e3
    omega
  · exact absurd d3.1 (e2 d)
