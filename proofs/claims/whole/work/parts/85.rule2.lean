/-! RULE: things and ranks read -/
section STEP
variable {o w c : List Int} {d x : Int}
theorem step_neg : rs_step (o, w, c, d, true) 45 = some (o, 3000 :: w, c, d, true) := by
  unfold rs_step
  rw [if_pos rfl, if_pos rfl]
theorem step_par (h : c.length < 5) : rs_step (o, w, c, d, true) 40 = some (o, 3001 :: w, 0 :: c, d, true) := by
  unfold rs_step
  rw [if_pos rfl, if_neg (by decide), if_pos rfl, if_pos h]
theorem step_let (hl : rs_let x) : rs_step (o, w, c, d, true) x = some ((1000 + x) :: o, w, c, 0, false) := by
  have hl2 := hl
  unfold rs_let at hl2
  unfold rs_step
  rw [if_pos rfl, if_neg (by omega), if_neg (by omega), if_neg (by omega), if_pos hl]
theorem step_none (h1 : ¬ x = 45) (h2 : x = 40 → ¬ c.length < 5) (h3 : ¬ (48 ≤ x ∧ x ≤ 57)) (h4 : ¬ rs_let x) : rs_step (o, w, c, d, true) x = none := by
  unfold rs_step
  rw [if_pos rfl, if_neg h1]
  by_cases q : x = 40
  · rw [if_pos q, if_neg (h2 q)]
  · rw [if_neg q, if_neg h3, if_neg h4]
theorem step_close (h : ¬ c.length = 1) : rs_step (o, w, c, d, false) 41 = some ((rs_pops 1 o w).1, (rs_pops 1 o w).2.tail, c.tail, 0, false) := by
  unfold rs_step
  rw [if_neg (by simp), if_neg (by decide), if_pos rfl, if_neg h]
theorem step_op {r : Int} (hr : r = 1 ∨ r = 2) (hs : rs_str (2000 + x) = r + 1) (hd : ¬ (48 ≤ x ∧ x ≤ 57)) (h41 : ¬ x = 41) : rs_step (o, w, c, d, false) x = some ((rs_pops (r + 1) o w).1, (2000 + x) :: (rs_pops (r + 1) o w).2, c, 0, true) := by
  unfold rs_step
  rw [if_neg (by simp), if_neg hd, if_neg h41, hs, if_neg (by omega), if_neg (by omega)]
  rfl
theorem step_cmp (hs : rs_str (2000 + x) = 1) (hd : ¬ (48 ≤ x ∧ x ≤ 57)) (h41 : ¬ x = 41) (h0 : c.head? = some 0) : rs_step (o, w, c, d, false) x = some ((rs_pops 1 o w).1, (2000 + x) :: (rs_pops 1 o w).2, 1 :: c.tail, 0, true) := by
  unfold rs_step
  rw [if_neg (by simp), if_neg hd, if_neg h41, hs, if_neg (by omega), if_pos rfl]
  simp only
  rw [h0, if_neg (by simp)]
  rfl
theorem step_stuck (hx : 0 ≤ x ∧ x < 256) (h41 : x = 41 → c.length = 1) (hd : 48 ≤ x ∧ x ≤ 57 → ¬ (1 ≤ d ∧ d ≤ 2)) (h3 : ¬ rs_str (2000 + x) = 3) (h2 : ¬ rs_str (2000 + x) = 2) (h1 : rs_str (2000 + x) = 1 → c.head? = some 1) : rs_step (o, w, c, d, false) x = none := by
  have h4 : ¬ rs_str (2000 + x) = 4 := by
    unfold rs_str
    repeat' split
    all_goals omega
  have hin := rs_str_in (2000 + x)
  unfold rs_step
  rw [if_neg (by simp)]
  by_cases q1 : 48 ≤ x ∧ x ≤ 57
  · rw [if_pos q1]
    simp only
    rw [if_neg (hd q1)]
  · rw [if_neg q1]
    by_cases q2 : x = 41
    · rw [if_pos q2]
      simp only
      rw [if_pos (h41 q2)]
    · rw [if_neg q2]
      by_cases q3 : rs_str (2000 + x) = 0
      · rw [if_pos q3]
      · have q4 : rs_str (2000 + x) = 1 := by omega
        rw [if_neg q3, if_pos q4]
        simp only
        rw [if_pos (h1 q4)]
end STEP
/-- only the reader's cells change -/
def rs_fm (M M1 : tp_M) : Prop := tp_fr [0, 10] M M1 ∧ ∀ j : Int, ¬ j = 10 → ¬ j = 12 → ¬ j = 19 → M1 0 j = M 0 j
theorem fm_rf (M : tp_M) : rs_fm M M := ⟨fr_rf, fun _ _ _ _ => rfl⟩
theorem fm_tr {M M1 M2 : tp_M} (h : rs_fm M M1) (h2 : rs_fm M1 M2) : rs_fm M M2 := ⟨fr_tr h.1 h2.1, fun j a b c => (h2.2 j a b c).trans (h.2 j a b c)⟩
theorem fm_up {M M1 : tp_M} {j x : Int} (h : rs_fm M M1) (hj : j = 10 ∨ j = 12 ∨ j = 19) : rs_fm M (tp_up M1 0 j x) := ⟨fr_up h.1 (by simp), fun i a b c => by rw [up_j _ _ _ (by omega)]; exact h.2 i a b c⟩
theorem fm_uc {M M1 : tp_M} {j x : Int} (h : rs_fm M M1) : rs_fm M (tp_up M1 10 j x) := ⟨fr_up h.1 (by simp), fun i a b c => by rw [up_k _ _ _ (by decide)]; exact h.2 i a b c⟩
section RD
variable {T : Int → Int} {e : Int}
def rs_res (T : Int → Int) (e r p : Int) (S : RS) (M : tp_M) (x : Int) (M1 : tp_M) : Prop := rs_fm M M1 ∧ ((x = 1 ∧ ∃ (q : Int) (K1 : List Int), rs_dn T e (r + 1) r (1 ≤ r) p S q K1 ∧ rs_M M1 K1 ((S.2.2.1.length : Int) - 1) q) ∨ (x = 0 ∧ rs_fl T e p S (M1 0 10) ∧ 0 ≤ M1 0 19 ∧ M1 0 19 ≤ (S.1.length : Int) + (M1 0 10 - p)))
def rs_pre (T : Int → Int) (e p : Int) (S : RS) (M : tp_M) : Prop := M 6 = T ∧ M 0 11 = e ∧ S.2.2.2.2 = true ∧ rs_M M S.1 ((S.2.2.1.length : Int) - 1) p ∧ (0 ≤ p ∧ p ≤ e) ∧ (S.1.length : Int) ≤ p ∧ (1 ≤ S.2.2.1.length ∧ S.2.2.1.length ≤ 5)
def rs_PR (T : Int → Int) (e : Int) (n : Nat) : Prop := ∀ (r p : Int) (S : RS) (M : tp_M), (0 ≤ r ∧ r ≤ 3) → rs_pre T e p S M → (r ≤ 2 → ∀ x, S.2.1.head? = some x → rs_str x < r + 1) → (r = 0 → S.2.2.1.head? = some 0) → (e - p) + 5 * (5 - (S.2.2.1.length : Int)) + (4 - r) + 1 ≤ (n : Int) → wp ((fx_X11_rd n).1 r M) (rs_res T e r p S M)
def rs_PT (T : Int → Int) (e : Int) (n : Nat) : Prop := ∀ (p : Int) (S : RS) (M : tp_M), rs_pre T e p S M → (e - p) + 5 * (5 - (S.2.2.1.length : Int)) + 1 ≤ (n : Int) → wp ((fx_X11_rd n).2 M) (rs_res T e 3 p S M)
theorem rs_M_at {M : tp_M} {K : List Int} {d p q : Int} (h : rs_M M K d p) : rs_M (tp_up M 0 10 q) K d q := by
  obtain ⟨h1, h2, h3, h4⟩ := h
  exact ⟨by rw [up_j _ _ _ (by decide)]; exact h1, by rw [up_k _ _ _ (by decide)]; exact h2, by rw [up_j _ _ _ (by decide)]; exact h3, up_s _ _ _ _⟩
theorem rs_M_nest {M : tp_M} {K : List Int} {d d2 p : Int} (h : rs_M M K d p) : rs_M (tp_up M 0 12 d2) K d2 p := by
  obtain ⟨h1, h2, h3, h4⟩ := h
  exact ⟨by rw [up_j _ _ _ (by decide)]; exact h1, by rw [up_k _ _ _ (by decide)]; exact h2, up_s _ _ _ _, by rw [up_j _ _ _ (by decide)]; exact h4⟩
theorem rs_M_code {M : tp_M} {K : List Int} {d p x y : Int} (h : rs_M M K d p) (hx : y = rc_map x) : rs_M (tp_up (tp_up M 10 (K.length : Int) y) 0 19 ((K.length : Int) + 1)) (x :: K) d p := by
  obtain ⟨h1, h2, h3, h4⟩ := h
  refine ⟨by rw [up_s]; simp only [List.length_cons]; omega, ?_, by rw [up_j _ _ _ (by decide), up_k _ _ _ (by decide)]; exact h3, by rw [up_j _ _ _ (by decide), up_k _ _ _ (by decide)]; exact h4⟩
  rw [up_k _ _ _ (by decide)]
  show stk _ (rc_map x :: K.map rc_map)
  rw [← hx]
  exact stk_up h2 (by rw [List.length_map])
theorem rs_thing (hT : ∀ j : Int, 0 ≤ j → j < e → 0 ≤ T j ∧ T j < 256) (he : e ≤ 40) {n : Nat} (hR : rs_PR T e n) (hTh : rs_PT T e n) : rs_PT T e (n + 1) := by
  rintro p ⟨out, wait, cmp, digs, wants⟩ M ⟨g6, g11, gw, gM, gp, gl, gc⟩ hf
  simp only at gw gM gl gc hf
  subst gw
  show wp (fx_X11_readsThing_b (fx_X11_rd n).1 (fx_X11_rd n).2 M) _
  have hM := gM
  obtain ⟨m19, m10, m12, mp⟩ := gM
  have hTp : p < e → 0 ≤ T p ∧ T p < 256 := fun q => hT p gp.1 q
  have hTM : p < e → 0 ≤ M 6 p ∧ M 6 p < 256 := fun q => by rw [g6]; exact hTp q
  unfold fx_X11_readsThing_b
  rw [ps_takes mp g11 (by omega) 45 (by omega) hTM, g6]
  by_cases c45 : p < e ∧ T p = 45
  · rw [if_pos c45, tp_bd_s, if_neg (show ¬ w32 1 = 0 by decide)]
    have hst : rs_step (out, wait, cmp, digs, true) (T p) = some (out, 3000 :: wait, cmp, digs, true) := by rw [c45.2]; exact step_neg
    refine wp_call (hTh (p + 1) (out, 3000 :: wait, cmp, digs, true) (tp_up M 0 10 (p + 1)) ⟨by rw [up_k _ _ _ (by decide)]; exact g6, by rw [up_j _ _ _ (by decide)]; exact g11, rfl, rs_M_at hM, by omega, by (try simp only); omega, by (try simp only); omega⟩ (by (try simp only); omega)) (fun x M3 q => ?_)
    obtain ⟨q1, q2⟩ := q
    refine wp_lt ?_
    have fm : rs_fm M M3 := fm_tr (fm_up (fm_rf M) (Or.inl rfl)) q1
    rcases q2 with ⟨rfl, q, K1, d1, d2⟩ | ⟨rfl, d1, d2, d3⟩
    · obtain ⟨k, S1, V, k1, rfl, k3, k4, k5, k6, k7, rfl, k9, k10, k11, k12, k13, k14⟩ := d1
      simp only at k14 k13 k10 k9 k6
      have hlen := d2.1
      generalize hK : V.reverse ++ S1.1 = K1 at *
      rw [ps_codes 3000 hlen (by omega), tp_bd_s]
      refine wp_gd (by decide) (wp_some ⟨fm_up (fm_uc fm) (by omega), Or.inl ⟨rfl, p + 1 + (k : Int), 3000 :: K1, ⟨1 + k, S1, V ++ [3000], by omega, by omega, k3, rs_run_tr 1 k p _ _ _ (rs_run_1 hst) k4, k5, by rw [k6]; simp, fun y hy => ?_, by rw [← hK]; simp, k9, k10, k11, fun h => ⟨fun c => absurd c (by decide), fun c => absurd c (by decide), fun c => absurd c (by decide)⟩, fun h h0 hw => ?_, by (try simp only [List.length_cons]); omega⟩, rs_M_code d2 rfl⟩⟩)
      · rcases List.mem_append.mp hy with hy | hy
        · exact k7 y hy
        · rw [List.mem_singleton.mp hy]; decide
      · refine ⟨by unfold rc_ok; omega, ?_⟩
        rw [if_neg (by decide), if_pos rfl]
        exact ⟨by omega, k13 h h0 hw⟩
    · simp only at d3
      have hq := d1
      obtain ⟨k, S1, k1, k2, k3, k4⟩ := hq
      rw [ps_codes 3000 rfl (by omega), tp_bd_s]
      refine wp_gd (by decide) (wp_some ⟨fm_up (fm_uc fm) (by omega), Or.inr ⟨rfl, ?_, ?_, ?_⟩⟩)
      · rw [up_j _ _ _ (by decide), up_k _ _ _ (by decide)]
        refine rs_fl_tr (a := 1) (rs_run_1 hst) ?_
        exact d1
      · rw [up_s]; omega
      · rw [up_s, up_j _ _ _ (by decide), up_k _ _ _ (by decide)]; (try simp only); omega
  · rw [if_neg c45, tp_bd_s, if_pos (show w32 0 = 0 by decide), ps_isDigit mp g11 (by omega) hTM, g6]
    by_cases cd : p < e ∧ 48 ≤ T p ∧ T p ≤ 57
    · rw [if_pos cd, tp_bd_s, if_neg (show ¬ w32 1 = 0 by decide)]
      refine wp_call (ps_number (T := T) (e := e) (p := p) (S := (out, wait, cmp, digs, true)) g6 g11 mp (by omega) hT cd.2 rfl) (fun v M3 q => ?_)
      obtain ⟨q1, q2, k, k1, k2, k3, k4, k5, k6⟩ := q
      have h19 : M3 0 19 = (out.length : Int) := by rw [q2 19 (by decide)]; exact m19
      rw [ps_codes v h19 (by omega), tp_bd_s]
      have hM3 : rs_M M3 out ((cmp.length : Int) - 1) (p + (k : Int)) := ⟨h19, stk_k m10 (q1 10 (by simp)), by rw [q2 12 (by decide)]; exact m12, k2⟩
      refine wp_some ⟨fm_up (fm_uc ⟨fr_mono q1 (by simp), fun j a _ _ => q2 j a⟩) (by omega), Or.inl ⟨rfl, p + (k : Int), v :: out, ⟨k, _, [], by omega, rfl, k3, k5, rfl, rfl, fun y hy => (by cases hy), rfl, ⟨rfl, rfl⟩, fun _ => rfl, fun h1 h2 => by have := k6 h1 h2; (try simp only); omega, fun h => ⟨fun c => absurd c (by decide), fun c => absurd c (by decide), fun c => absurd c (by decide)⟩, fun h h0 hw => ?_, by (try simp only [List.length_cons]); omega⟩, rs_M_code hM3 (by unfold rc_map; rw [if_pos k4.2])⟩⟩
      refine ⟨Or.inl k4, ?_⟩
      rw [if_pos (by omega), show h + 1 - 1 = h by omega]
      exact hw
    · rw [if_neg cd, tp_bd_s, if_pos (show w32 0 = 0 by decide), ps_takesOf mp g11 (by omega) 1 (by decide) hTM, g6]
      have nope : ∀ (M5 : tp_M), rs_fm M M5 → M5 0 10 = p → M5 0 19 = (out.length : Int) → (p < e → rs_step (out, wait, cmp, digs, true) (T p) = none) → rs_res T e 3 p (out, wait, cmp, digs, true) M 0 M5 := fun M5 f1 f2 f3 f4 => by
        refine ⟨f1, Or.inr ⟨rfl, ⟨0, _, by rw [f2]; simp, by omega, rfl, ?_⟩, by omega, by rw [f3, f2]; (try simp only); omega⟩⟩
        rw [f2]
        by_cases q : p < e
        · exact Or.inl ⟨q, f4 q⟩
        · exact Or.inr ⟨by omega, Or.inl rfl⟩
      by_cases cl : p < e ∧ 0 ≤ tk 1 (T p)
      · obtain ⟨t1, t2, t3, t4⟩ := tk_let (hTp cl.1)
        have hl := t1.mp cl.2
        obtain ⟨u1, u2, u3, u4⟩ := t2 hl
        rw [if_pos cl, tp_bd_s]
        refine wp_lt ?_
        rw [w32_id (by omega), if_neg (by omega), ps_codes (M := tp_up M 0 10 (p + 1)) (t := (out.length : Int)) _ (by rw [up_j _ _ _ (by decide)]; exact m19) (by omega), tp_bd_s]
        refine wp_some ⟨fm_up (fm_uc (fm_up (fm_rf M) (by omega))) (by omega), Or.inl ⟨rfl, p + 1, (1000 + T p) :: out, ⟨1, ((1000 + T p) :: out, wait, cmp, 0, false), [], by omega, by omega, by omega, rs_run_1 (step_let hl), rfl, rfl, fun y hy => (by cases hy), rfl, ⟨rfl, rfl⟩, fun _ => rfl, fun h1 h2 => by (try simp only); omega, fun h => ⟨fun c => absurd c (by decide), fun c => absurd c (by decide), fun c => absurd c (by decide)⟩, fun h h0 hw => ?_, by (try simp only [List.length_cons]); omega⟩, rs_M_code (rs_M_at hM) u1.symm⟩⟩
        refine ⟨u2, ?_⟩
        rw [if_pos (by unfold rs_let at hl; omega), show h + 1 - 1 = h by omega]
        exact hw
      · rw [if_neg cl, tp_bd_s]
        refine wp_lt ?_
        rw [if_pos (show w32 (-1) < 0 by decide), m12, w32_id (show -2147483648 ≤ (cmp.length : Int) - 1 ∧ (cmp.length : Int) - 1 < 2147483648 by omega)]
        have hnl : p < e → ¬ rs_let (T p) := fun q c => cl ⟨q, (tk_let (hTp q)).1.mpr c⟩
        by_cases c4 : (cmp.length : Int) - 1 = 4
        · rw [if_pos c4]
          refine wp_some (nope M (fm_rf M) mp m19 (fun q => step_none (fun c => c45 ⟨q, c⟩) (fun _ => by omega) (fun c => cd ⟨q, c⟩) (hnl q)))
        · rw [if_neg c4, ps_takes mp g11 (by omega) 40 (by omega) hTM, g6]
          by_cases c40 : p < e ∧ T p = 40
          · rw [if_pos c40, tp_bd_s, if_neg (show ¬ w32 1 = 0 by decide)]
            refine wp_lm ?_
            have e12 : tp_up M 0 10 (p + 1) 0 12 = (cmp.length : Int) - 1 := by rw [up_j _ _ _ (by decide)]; exact m12
            rw [e12]
            have hst : rs_step (out, wait, cmp, digs, true) (T p) = some (out, 3001 :: wait, 0 :: cmp, digs, true) := by rw [c40.2]; exact step_par (by omega)
            have hM2 : rs_M (tp_up (tp_up M 0 10 (p + 1)) 0 12 ((cmp.length : Int) - 1 + 1)) out (((0 :: cmp : List Int).length : Int) - 1) (p + 1) := by
              have := rs_M_nest (d2 := (cmp.length : Int) - 1 + 1) (rs_M_at (q := p + 1) hM)
              simp only [List.length_cons]
              rw [show ((cmp.length + 1 : Nat) : Int) - 1 = (cmp.length : Int) - 1 + 1 by omega]
              exact this
            refine wp_call (hR 0 (p + 1) (out, 3001 :: wait, 0 :: cmp, digs, true) _ (by omega) ⟨by rw [up_k _ _ _ (by decide), up_k _ _ _ (by decide)]; exact g6, by rw [up_j _ _ _ (by decide), up_j _ _ _ (by decide)]; exact g11, rfl, hM2, by omega, by (try simp only); omega, by (try simp only [List.length_cons]); omega⟩ (fun _ x hx => by
              have : x = 3001 := by simpa using hx.symm
              rw [this]; decide) (fun _ => rfl) (by (try simp only [List.length_cons]); omega)) (fun x M3 q => ?_)
            obtain ⟨q1, q2⟩ := q
            have fm : rs_fm M M3 := fm_tr (fm_up (fm_up (fm_rf M) (Or.inl rfl)) (by omega)) q1
            rcases q2 with ⟨rfl, q, K1, d1, d2⟩ | ⟨rfl, d1, d2, d3⟩
            · rw [if_neg (show ¬ w32 1 = 0 by decide)]
              obtain ⟨k, S1, V, k1, rfl, k3, k4, k5, k6, k7, rfl, k9, k10, k11, k12, k13, k14⟩ := d1
              obtain ⟨so, sw, sc, sd, st⟩ := S1
              simp only at k14 k13 k10 k9 k6 k5 k11 k12 d2
              subst k5 k6
              have n19 := d2.1
              have n12 := d2.2.2.1
              have n10 := d2.2.2.2
              have n6 : M3 6 = T := by rw [fm.1 6 (by simp)]; exact g6
              have n11 : M3 0 11 = e := by rw [fm.2 11 (by decide) (by decide) (by decide)]; exact g11
              simp only [List.length_cons, List.tail_cons] at k9 n12
              rw [ps_takes n10 n11 (by omega) 41 (by omega) (fun q => by rw [n6]; exact hT _ (by omega) q), n6]
              by_cases c41 : p + 1 + (k : Int) < e ∧ T (p + 1 + (k : Int)) = 41
              · rw [if_pos c41, tp_bd_s, if_neg (show ¬ w32 1 = 0 by decide)]
                refine wp_lm ?_
                have e12 : tp_up M3 0 10 (p + 1 + (k : Int) + 1) 0 12 = (cmp.length : Int) := by rw [up_j _ _ _ (by decide), n12]; omega
                rw [e12]
                have hpp : rs_pops 1 so (V ++ 3001 :: wait) = (V.reverse ++ so, 3001 :: wait) := pops_V V so _ (fun y hy => k7 y hy) (fun x hx => by
                  have : x = 3001 := by simpa using hx.symm
                  rw [this]; decide)
                have hs2 : rs_step (so, V ++ 3001 :: wait, sc, sd, false) (T (p + 1 + (k : Int))) = some (V.reverse ++ so, wait, cmp, 0, false) := by
                  rw [c41.2, step_close (by omega), hpp, k9.1]
                  rfl
                refine wp_some ⟨fm_up (fm_up fm (by omega)) (by omega), Or.inl ⟨rfl, p + 1 + (k : Int) + 1, V.reverse ++ so, ⟨1 + k + 1, (V.reverse ++ so, wait, cmp, 0, false), [], by omega, by omega, by omega, rs_run_tr (1 + k) 1 p _ _ _ (rs_run_tr 1 k p _ _ _ (rs_run_1 hst) k4) (rs_run_1 (by rw [show p + ((1 + k : Nat) : Int) = p + 1 + (k : Int) by omega]; exact hs2)), rfl, rfl, fun y hy => (by cases hy), rfl, ⟨rfl, rfl⟩, fun _ => rfl, fun h1 h2 => by (try simp only); omega, fun h => ⟨fun c => absurd c (by decide), fun c => absurd c (by decide), fun c => absurd c (by decide)⟩, k13, by (try simp only); omega⟩, ?_⟩⟩
                have := rs_M_nest (d2 := (cmp.length : Int) - 1) (rs_M_at (q := p + 1 + (k : Int) + 1) d2)
                exact this
              · rw [if_neg c41, tp_bd_s, if_pos (show w32 0 = 0 by decide)]
                refine wp_some ⟨fm, Or.inr ⟨rfl, ?_, ?_, ?_⟩⟩
                · rw [n10]
                  refine rs_fl_tr (a := 1) (rs_run_1 hst) ⟨k, (so, V ++ 3001 :: wait, sc, sd, false), rfl, k3, k4, ?_⟩
                  by_cases q : p + 1 + (k : Int) < e
                  · obtain ⟨s1, s2, s3⟩ := k12 q
                    exact Or.inl ⟨q, step_stuck (hT _ (by omega) q) (fun c => absurd ⟨q, c⟩ c41) (k11 q) (s1 (by decide)) (s2 (by decide)) (s3 (by decide))⟩
                  · exact Or.inr ⟨by omega, Or.inr (by (try simp only); omega)⟩
                · rw [n19]; omega
                · rw [n19, n10]; (try simp only); omega
            · rw [if_pos (show w32 0 = 0 by decide)]
              simp only at d3
              refine wp_some ⟨fm, Or.inr ⟨rfl, rs_fl_tr (a := 1) (rs_run_1 hst) d1, d2, by (try simp only); omega⟩⟩
          · rw [if_neg c40, tp_bd_s, if_pos (show w32 0 = 0 by decide)]
            refine wp_some (nope M (fm_rf M) mp m19 (fun q => step_none (fun c => c45 ⟨q, c⟩) (fun c => absurd ⟨q, c⟩ c40) (fun c => cd ⟨q, c⟩) (hnl q)))
/-- the body of a rank's loop, of all ranks alike -/
theorem ps_L24 {fR : Int → tp_M → tp_O} {fT : tp_M → tp_O} {r : Int} (hr : r = 0 ∨ r = 1 ∨ r = 2) (rec : Int → tp_M → tp_O) (M5 : tp_M) : fx_X11_readsRank_L24 fR fT r rec 1 M5 = tp_bd (fx_X11_takesOf (2 + r.toNat) M5) (fun r30 M31 => if w32 r30 < 0 then some (1, M31) else tp_bd (fR (r + 1) M31) (fun r33 M34 => if w32 r33 = 0 then some (0, M34) else tp_bd (fx_X11_codes (2000 + r30 + (if r = 0 then 0 else if r = 1 then 3 else 5)) M34) (fun _ M38 => rec (if r ≤ 0 then 0 else 1) M38))) := by
  unfold fx_X11_readsRank_L24
  rcases hr with rfl | rfl | rfl
  · rw [if_neg (show ¬ w32 1 = 0 by decide), if_pos (show w32 0 = 0 by decide)]
    simp only [tp_lt_n, tp_jn1_n, if_pos (show w32 0 = 0 by decide), if_pos (show w32 0 ≤ 0 by decide), if_true, if_pos (show (0 : Int) ≤ 0 by decide)]
    rfl
  · rw [if_neg (show ¬ w32 1 = 0 by decide), if_neg (show ¬ w32 1 = 0 by decide), if_pos (show w32 1 = 1 by decide)]
    simp only [tp_lt_n, tp_jn1_n, if_neg (show ¬ w32 1 = 0 by decide), if_pos (show w32 1 = 1 by decide), if_neg (show ¬ w32 1 ≤ 0 by decide), if_neg (show ¬ (1 : Int) ≤ 0 by decide), if_neg (show ¬ (1 : Int) = 0 by decide), if_true]
    rfl
  · rw [if_neg (show ¬ w32 1 = 0 by decide), if_neg (show ¬ w32 2 = 0 by decide), if_neg (show ¬ w32 2 = 1 by decide)]
    simp only [tp_lt_n, tp_jn1_n, if_neg (show ¬ w32 2 = 0 by decide), if_neg (show ¬ w32 2 = 1 by decide), if_neg (show ¬ w32 2 ≤ 0 by decide), if_neg (show ¬ (2 : Int) ≤ 0 by decide), if_neg (show ¬ (2 : Int) = 0 by decide), if_neg (show ¬ (2 : Int) = 1 by decide)]
    rfl
theorem rs_rank (hT : ∀ j : Int, 0 ≤ j → j < e → 0 ≤ T j ∧ T j < 256) (he : e ≤ 40) {n : Nat} (hR : rs_PR T e n) (hTh : rs_PT T e n) : rs_PR T e (n + 1) := by
  rintro r p ⟨out, wait, cmp, digs, wants⟩ M hr ⟨g6, g11, gw, gM, gp, gl, gc⟩ hg h0 hf
  simp only at gw gM gl gc hf hg h0
  subst gw
  show wp (fx_X11_readsRank_b (fx_X11_rd n).1 (fx_X11_rd n).2 r M) _
  unfold fx_X11_readsRank_b
  rw [w32_id (show -2147483648 ≤ r ∧ r < 2147483648 by omega)]
  by_cases r3 : r = 3
  · subst r3
    rw [if_pos rfl]
    refine wp_call (hTh p (out, wait, cmp, digs, true) M ⟨g6, g11, rfl, gM, gp, gl, gc⟩ (by (try simp only); omega)) (fun x M3 q => ?_)
    refine wp_gd ?_ (wp_some q)
    rcases q.2 with ⟨rfl, -⟩ | ⟨rfl, -⟩
    · exact Or.inr rfl
    · exact Or.inl rfl
  · have hr2 : r = 0 ∨ r = 1 ∨ r = 2 := by omega
    rw [if_neg r3]
    refine wp_call (hR (r + 1) p (out, wait, cmp, digs, true) M (by omega) ⟨g6, g11, rfl, gM, gp, gl, gc⟩ (fun _ x hx => by have := hg (by omega) x hx; omega) (fun q => by omega) (by (try simp only); omega)) (fun x M3 q => ?_)
    obtain ⟨q1, q2⟩ := q
    rcases q2 with ⟨rfl, q, K1, d1, d2⟩ | ⟨rfl, d1, d2, d3⟩
    · rw [if_neg (show ¬ w32 1 = 0 by decide)]
      refine wp_lt ?_
      have d1' : rs_dn T e (r + 1) (r + 1) True p (out, wait, cmp, digs, true) q K1 := by
        obtain ⟨k, S1, V, k1, k2, k3, k4, k5, k6, k7, k8, k9, k10, k11, k12, k13, k14⟩ := d1
        exact ⟨k, S1, V, k1, k2, k3, k4, k5, k6, fun x hx => by have := k7 x hx; omega, k8, k9, fun _ => k10 (by omega), k11, k12, k13, k14⟩
      refine wp_lp1 (fun z M5 => rs_fm M M5 ∧ ∃ (q : Int) (K1 : List Int), rs_M M5 K1 ((cmp.length : Int) - 1) q ∧ q ≤ e ∧ p < q ∧ ((z = 1 ∧ rs_dn T e (r + 1) (r + 1) True p (out, wait, cmp, digs, true) q K1) ∨ (z = 0 ∧ rs_dn T e (r + 1) r (1 ≤ r) p (out, wait, cmp, digs, true) q K1))) (fun z M5 => (2 * (e - M5 0 10) + z).toNat) ?_ tp_F 1 M3 ⟨q1, q, K1, d2, ?_, ?_, Or.inl ⟨rfl, d1'⟩⟩ (tp_F_pos ?_)
      · rintro rec z M5 ⟨f1, q, K1, f2, f3, f4, f5⟩ hrec
        rcases f5 with ⟨rfl, f5⟩ | ⟨rfl, f5⟩
        · rw [ps_L24 hr2]
          have f22 := f2
          obtain ⟨n19, n10, n12, nq⟩ := f22
          have n6 : M5 6 = T := by rw [f1.1 6 (by simp)]; exact g6
          have n11 : M5 0 11 = e := by rw [f1.2 11 (by decide) (by decide) (by decide)]; exact g11
          rw [ps_takesOf nq n11 (by omega) _ (by omega) (fun q => by rw [n6]; exact hT _ (by omega) q), n6]
          obtain ⟨k, S1, V, k1, k2, k3, k4, k5, k6, k7, k8, k9, k10, k11, k12, k13, k14⟩ := f5
          obtain ⟨so, sw, sc, sd, st⟩ := S1
          simp only at k14 k13 k10 k9 k6 k5 k11 k12 k8
          have k10 := (k10 trivial).symm
          subst k5 k6 k10
          by_cases cop : q < e ∧ 0 ≤ tk (2 + r.toNat) (T q)
          · obtain ⟨t1, t2, t3, t4⟩ := tk_op (hT q (by omega) cop.1) hr2
            have hs := t1.mp cop.2
            obtain ⟨u1, u2, u3, u4⟩ := t2 hs
            rw [if_pos cop, tp_bd_s, w32_id (by omega), if_neg (by omega)]
            have hpp : rs_pops (r + 1) so (V ++ wait) = (V.reverse ++ so, wait) := pops_V V so _ k7 (fun x hx => hg (by omega) x hx)
            have hst : ∃ cmp2 : List Int, rs_step (so, V ++ wait, cmp, sd, false) (T q) = some (K1, (2000 + T q) :: wait, cmp2, 0, true) ∧ (cmp2.tail = cmp.tail ∧ cmp2.length = cmp.length) ∧ (1 ≤ r → cmp2 = cmp) ∧ (r = 0 → cmp2.head? = some 1) := by
              rcases hr2 with rfl | hr2
              · refine ⟨1 :: cmp.tail, ?_, ⟨rfl, ?_⟩, fun q => by omega, fun _ => rfl⟩
                · rw [step_cmp (by simpa using hs) u3 u4 (h0 rfl)]
                  have hpp : rs_pops 1 so (V ++ wait) = (V.reverse ++ so, wait) := hpp
                  rw [hpp, k8]
                · simp only [List.length_cons, List.length_tail]; omega
              · refine ⟨cmp, ?_, ⟨rfl, rfl⟩, fun _ => rfl, fun q => by omega⟩
                rw [step_op (r := r) (by omega) hs u3 u4, hpp, k8]
            obtain ⟨cmp2, hst, hc2, hc3, hc4⟩ := hst
            refine wp_call (hR (r + 1) (q + 1) (K1, (2000 + T q) :: wait, cmp2, 0, true) (tp_up M5 0 10 (q + 1)) (by omega) ⟨by rw [up_k _ _ _ (by decide)]; exact n6, by rw [up_j _ _ _ (by decide)]; exact n11, rfl, by rw [hc2.2]; exact rs_M_at f2, by omega, by (try simp only); omega, by (try simp only); omega⟩ (fun _ x hx => by
              have : x = 2000 + T q := by simpa using hx.symm
              rw [this, hs]; omega) (fun c => by omega) (by (try simp only); omega)) (fun x M7 w => ?_)
            obtain ⟨w1, w2⟩ := w
            have fm : rs_fm M M7 := fm_tr (fm_up f1 (Or.inl rfl)) w1
            have hrun : rs_run T (k + 1) p (out, wait, cmp, digs, true) (K1, (2000 + T q) :: wait, cmp2, 0, true) := rs_run_tr k 1 p _ _ _ k4 (rs_run_1 (by rw [← k2]; exact hst))
            rcases w2 with ⟨rfl, q2, K2, e1, e2⟩ | ⟨rfl, e1, e2, e3⟩
            · rw [if_neg (show ¬ w32 1 = 0 by decide)]
              obtain ⟨l, S2, U, l1, l2, l3, l4, l5, l6, l7, l8, l9, l10, l11, l12, l13, l14⟩ := e1
              obtain ⟨to, tw, tc, td, tt⟩ := S2
              simp only at l14 l13 l10 l9 l6 l5 l11 l12 l8 e2
              have l10 := l10 (by omega)
              subst l5 l6 l10
              rw [hc2.2] at e2
              rw [ps_codes _ e2.1 (by have := e2.1; omega), tp_bd_s]
              have hfin : ∀ (s : Int) (c : Prop), (q2 < e → (s ≤ 2 → ¬ rs_str (2000 + T q2) = 3) ∧ (s ≤ 1 → ¬ rs_str (2000 + T q2) = 2) ∧ (s ≤ 0 → rs_str (2000 + T q2) = 1 → tc.head? = some 1)) → (c → tc = cmp) → rs_dn T e (r + 1) s c p (out, wait, cmp, digs, true) q2 ((2000 + T q) :: K2) := fun s c hs2 hcc => by
                refine ⟨k + 1 + l, (to, U ++ (2000 + T q) :: wait, tc, td, false), U ++ [2000 + T q], by omega, by omega, l3, rs_run_tr (k + 1) l p _ _ _ hrun (by rw [show p + ((k + 1 : Nat) : Int) = q + 1 by omega]; exact l4), rfl, by simp, fun y hy => ?_, by rw [l8]; simp, hc2, hcc, l11, hs2, fun h h0 hw => ?_, by (try simp only [List.length_cons]); omega⟩
                · rcases List.mem_append.mp hy with hy | hy
                  · have := l7 y hy; omega
                  · rw [List.mem_singleton.mp hy, hs]; omega
                · refine ⟨u2, ?_⟩
                  have hTq := hT q (by omega) cop.1
                  rw [if_neg (by omega), if_neg (by omega)]
                  exact ⟨by omega, l13 (h + 1) (by omega) (k13 h h0 hw)⟩
              refine hrec _ _ ⟨fm_up (fm_uc fm) (by omega), q2, (2000 + T q) :: K2, rs_M_code e2 u1.symm, l3, by omega, ?_⟩ ?_
              · rcases hr2 with rfl | hr2
                · refine Or.inr ⟨rfl, hfin 0 _ (fun hq => ?_) (fun c => by omega)⟩
                  obtain ⟨s1, s2, s3⟩ := l12 hq
                  exact ⟨fun _ => s1 (by decide), fun _ => s2 (by decide), fun _ _ => hc4 rfl⟩
                · exact Or.inl ⟨if_neg (by omega), hfin (r + 1) True l12 (fun _ => hc3 (by omega))⟩
              · have e10 : tp_up (tp_up M7 10 (K2.length : Int) (2000 + tk (2 + r.toNat) (T q) + (if r = 0 then 0 else if r = 1 then 3 else 5))) 0 19 ((K2.length : Int) + 1) 0 10 = q2 := by
                  rw [up_j _ _ _ (by decide), up_k _ _ _ (by decide)]; exact e2.2.2.2
                rw [e10, nq]
                split <;> omega
            · rw [if_pos (show w32 0 = 0 by decide)]
              simp only at e3
              refine wp_some ⟨fm, Or.inr ⟨rfl, rs_fl_tr hrun (by rw [show p + ((k + 1 : Nat) : Int) = q + 1 by omega]; exact e1), e2, by (try simp only); omega⟩⟩
          · rw [if_neg cop, tp_bd_s, if_pos (show w32 (-1) < 0 by decide)]
            refine wp_some ⟨f1, Or.inl ⟨rfl, q, K1, ⟨k, (so, V ++ wait, cmp, sd, false), V, k1, k2, k3, k4, rfl, rfl, k7, k8, k9, fun _ => rfl, k11, fun hq => ?_, k13, k14⟩, f2⟩⟩
            obtain ⟨s1, s2, s3⟩ := k12 hq
            have t1 := (tk_op (hT q (by omega) hq) hr2).1
            have hns : ¬ rs_str (2000 + T q) = r + 1 := fun c => cop ⟨hq, t1.mpr c⟩
            refine ⟨fun _ c => ?_, fun _ c => ?_, fun _ c => by omega⟩
            · by_cases q2 : r + 1 ≤ 2
              · exact s1 q2 c
              · omega
            · by_cases q2 : r + 1 ≤ 1
              · exact s2 q2 c
              · omega
        · unfold fx_X11_readsRank_L24
          rw [if_pos (show w32 0 = 0 by decide)]
          exact wp_some ⟨f1, Or.inl ⟨rfl, q, K1, f5, f2⟩⟩
      · obtain ⟨k, S1, V, k1, k2, k3, -⟩ := d1
        exact k3
      · obtain ⟨k, S1, V, k1, k2, k3, -⟩ := d1
        omega
      · have := d2.2.2.2
        obtain ⟨k, S1, V, k1, k2, k3, -⟩ := d1
        omega
    · rw [if_pos (show w32 0 = 0 by decide)]
      exact wp_some ⟨q1, Or.inr ⟨rfl, d1, d2, d3⟩⟩
theorem rs_all (hT : ∀ j : Int, 0 ≤ j → j < e → 0 ≤ T j ∧ T j < 256) (he : e ≤ 40) : ∀ n : Nat, rs_PR T e n ∧ rs_PT T e n := by
  intro n
  induction n with
  | zero =>
    refine ⟨fun r p S M hr h _ _ hf => ?_, fun p S M h hf => ?_⟩
    · obtain ⟨-, -, -, -, g5, -, g7⟩ := h
      omega
    · obtain ⟨-, -, -, -, g5, -, g7⟩ := h
      omega
  | succ n ih => exact ⟨rs_rank hT he ih.1 ih.2, rs_thing hT he ih.1 ih.2⟩
end RD
