/-! THE 53 CALLS TOGETHER -/
theorem pa_A {o1 o2 : tp_O} {B B2 : Int} {K : tp_M → tp_M → Prop} (hB : B ≤ B2) (hK : ∀ C1 M1 : tp_M, Sim B2 C1 M1 → K C1 M1) (w : wp2 o1 o2 (Ans B)) : ∃ r1 r2 : Int × tp_M, o1 = some r1 ∧ o2 = some r2 ∧ w32 r1.1 = w32 r2.1 ∧ K r1.2 r2.2 := by
  obtain ⟨r1, r2, e1, e2, e3, e4⟩ := w
  exact ⟨r1, r2, e1, e2, e3, hK _ _ (Sim_same (SC := []) (SM := []) e4 hB fr_rf fr_rf (fun _ _ => by simp) (fun _ _ => by simp) (fun _ _ => rfl))⟩
theorem pa_T {W : Int → Int} {o1 o2 : tp_O} {B B2 : Int} {K : tp_M → tp_M → Prop} (hB : B ≤ B2) (hK : ∀ C1 M1 : tp_M, Sim B2 C1 M1 → K C1 M1) (w : wp2 o1 o2 (AnsT W B)) : ∃ r1 r2 r3 : Int × tp_M, o1 = some r1 ∧ o2 = some r2 ∧ fx_X11_thrown r2.2 = some r3 ∧ w32 r3.1 = (if r1.1 = tp_TH then 1 else 0) ∧ (r1.1 ≠ tp_TH → W r1.1 = W r2.1) ∧ K r1.2 r3.2 := by
  obtain ⟨r1, r2, e1, e2, e3, e4, e5⟩ := w
  exact ⟨r1, r2, (r2.2 0 0, r2.2), e1, e2, rfl, e3, e4, hK _ _ (Sim_same (SC := []) (SM := []) e5 hB fr_rf fr_rf (fun _ _ => by simp) (fun _ _ => by simp) (fun _ _ => rfl))⟩
theorem pa_one {B : Int} {C M : tp_M} {K : tp_M → tp_M → Prop} (hB : 1000 ≤ B ∧ B ≤ 600000) (h : Sim B C M) (hK : ∀ C1 M1 : tp_M, Sim (B + 1000) C1 M1 → K C1 M1) (k : Nat) (a1 a2 a3 a4 : Int) (h1 : pu_in a1) (h2 : pu_in a2) (h3 : pu_in a3) (h4 : pu_in a4) : pu_step k a1 a2 a3 a4 C M K := by
  have b1 : B ≤ B + 1000 := by omega
  have b2 : B + 1000 ≤ B + 1000 := Int.le_refl _
  exact match k with
    | 0 => pa_A (B := B) b1 hK (st_0 h1 h)
    | 1 => pa_A (B := B) b1 hK (st_1 h1 h)
    | 2 => pa_A (B := B) b1 hK (st_net (by omega) h)
    | 3 => pa_A (B := B) b1 hK (st_rule h)
    | 4 => pa_T (B := B) b1 hK (st_post h1 h2 hB h)
    | 5 => pa_T (B := B) b1 hK (st_way h1 h2 h)
    | 6 => pa_A (B := B) b1 hK (st_sheet h1 h2 hB h)
    | 7 => pa_A (B := B + 1000) b2 hK (st_comes h1 h2 hB h)
    | 8 => pa_A (B := B + 1000) b2 hK (st_goes h1 hB h)
    | 9 => pa_A (B := B + 1000) b2 hK (st_walks h1 hB h)
    | 10 => pa_A (B := B + 1000) b2 hK (st_bursts h1 hB h)
    | 11 => pa_A (B := B + 1000) b2 hK (st_calms hB h)
    | 12 => pa_A (B := B + 1000) b2 hK (st_points h1 h2 hB h)
    | 13 => pa_A (B := B + 1000) b2 hK (st_day hB h)
    | 14 => pa_A (B := B) b1 hK (st_undo h)
    | 15 => pa_A (B := B) b1 hK (st_later h1 h2 h)
    | 16 => pa_A (B := B) b1 hK (st_home h1 h)
    | 17 => pa_A (B := B) b1 hK (st_pass h1 h2 h3 h)
    | 18 => pa_A (B := B) b1 hK (st_round h1 h)
    | 19 => pa_A (B := B) b1 hK (st_follows h1 h)
    | 20 => pa_A (B := B) b1 hK (st_tree h)
    | 21 => pa_A (B := B) b1 hK (st_trees h)
    | 22 => pa_A (B := B) b1 hK (st_plants h1 h)
    | 23 => pa_A (B := B) b1 hK (st_grown h)
    | 24 => pa_A (B := B) b1 hK (st_mends h)
    | 25 => pa_A (B := B) b1 hK (st_route h1 h2 h)
    | 26 => pa_A (B := B) b1 hK (st_gates h1 h)
    | 27 => pa_A (B := B) b1 hK (st_parish h1 h)
    | 28 => pa_A (B := B) b1 hK (st_mean h1 h)
    | 29 => pa_A (B := B) b1 hK (st_meets h1 h2 h)
    | 30 => pa_A (B := B) b1 hK (st_odds h1 h2 h3 h)
    | 31 => pa_A (B := B) b1 hK (st_ready hB h)
    | 32 => pa_A (B := B) b1 hK (st_unit h)
    | 33 => pa_A (B := B) b1 hK (st_returns hB h)
    | 34 => pa_A (B := B) b1 hK (st_joins h1 hB h)
    | 35 => pa_A (B := B) b1 hK (st_recurs h1 hB h)
    | 36 => pa_A (B := B) b1 hK (st_trigger hB h)
    | 37 => pa_A (B := B) b1 hK (st_seen h1 h2 h3 h)
    | 38 => pa_A (B := B) b1 hK (st_forget h)
    | 39 => pa_A (B := B) b1 hK (st_guess h1 h)
    | 40 => pa_A (B := B) b1 hK (st_looks h1 h)
    | 41 => pa_A (B := B) b1 hK (st_heard h1 h2 h)
    | 42 => pa_A (B := B) b1 hK (st_denies h)
    | 43 => pa_A (B := B) b1 hK (st_fits hB h)
    | 44 => pa_A (B := B) b1 hK (st_asks hB h)
    | 45 => pa_A (B := B) b1 hK (st_crowds h1 h2 h)
    | 46 => pa_A (B := B) b1 hK (st_law h)
    | 47 => pa_A (B := B) b1 hK (st_waits h1 h)
    | 48 => pa_A (B := B) b1 hK (st_years h2 hB h)
    | 49 => pa_A (B := B) b1 hK (st_keep h1 h)
    | 50 => pa_A (B := B) b1 hK (st_again h1 h)
    | 51 => pa_A (B := B) b1 hK (st_count hB h1 h)
    | 52 => pa_T (B := B) b1 hK (st_row h1 h)
    | k + 53 => (hK _ _ (Sim_same (SC := []) (SM := []) h b1 fr_rf fr_rf (fun _ _ => by simp) (fun _ _ => by simp) (fun _ _ => rfl)) : K C M)
theorem pa_go : ∀ (n : Nat) (C M : tp_M), n ≤ 512 → Sim (sm_B n) C M → pu_go n C M := by
  intro n
  induction n with
  | zero => intro C M _ _; exact trivial
  | succ n ih =>
    intro C M hn h k a1 a2 a3 a4 h1 h2 h3 h4
    have e : sm_B (n + 1) + 1000 = sm_B n := by unfold sm_B; omega
    refine pa_one (B := sm_B (n + 1)) (by unfold sm_B; omega) h (fun C1 M1 q => ?_) k a1 a2 a3 a4 h1 h2 h3 h4
    rw [e] at q
    exact ih C1 M1 (by omega) q
theorem pu_all : ∃ r1 r2 : Int × tp_M, fx_X4_startAnew 5 (fun _ _ => 0) = some r1 ∧ fx_X10_fillColdPartners 63 31 r1.2 = some r2 ∧ pu_go 512 r2.2 (tp_up (tp_up (fun _ _ => 0) 0 3 2) 2 1 1) :=
  ⟨in_r1, in_r2, in_h1, in_h2, pa_go 512 in_C in_M (Nat.le_refl _) (Sim_same (SC := []) (SM := []) sm_start (show (0 : Int) ≤ sm_B 512 by unfold sm_B; omega) fr_rf fr_rf (fun _ _ => by simp) (fun _ _ => by simp) (fun _ _ => rfl))⟩
