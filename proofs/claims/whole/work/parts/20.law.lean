/-- one call: both sides come to an end, with one answer, and then K of what they leave -/
def pu_step (k : Nat) (a1 a2 a3 a4 : Int) (Mc Mm : tp_M) (K : tp_M → tp_M → Prop) : Prop := match k with
  | 0 => ∃ r1 r2 : Int × tp_M, fx_X10_sign a1 Mc = some r1 ∧ fx_X11_sign a1 Mm = some r2 ∧ w32 r1.1 = w32 r2.1 ∧ K r1.2 r2.2
  | 1 => ∃ r1 r2 : Int × tp_M, fx_X10_end a1 Mc = some r1 ∧ fx_X11_end a1 Mm = some r2 ∧ w32 r1.1 = w32 r2.1 ∧ K r1.2 r2.2
  | 2 => ∃ r1 r2 : Int × tp_M, fx_X10_net  Mc = some r1 ∧ fx_X11_net  Mm = some r2 ∧ w32 r1.1 = w32 r2.1 ∧ K r1.2 r2.2
  | 3 => ∃ r1 r2 : Int × tp_M, fx_X10_rule  Mc = some r1 ∧ fx_X11_rule  Mm = some r2 ∧ w32 r1.1 = w32 r2.1 ∧ K r1.2 r2.2
  | 4 => ∃ r1 r2 r3 : Int × tp_M, fx_X10_post a1 a2 Mc = some r1 ∧ fx_X11_post a1 a2 Mm = some r2 ∧ fx_X11_thrown  r2.2 = some r3 ∧ w32 r3.1 = (if r1.1 = tp_TH then 1 else 0) ∧ (r1.1 ≠ tp_TH → w32 r1.1 = w32 r2.1) ∧ K r1.2 r3.2
  | 5 => ∃ r1 r2 r3 : Int × tp_M, fx_X10_way a1 a2 Mc = some r1 ∧ fx_X11_way a1 a2 Mm = some r2 ∧ fx_X11_thrown  r2.2 = some r3 ∧ w32 r3.1 = (if r1.1 = tp_TH then 1 else 0) ∧ (r1.1 ≠ tp_TH → w32 r1.1 = w32 r2.1) ∧ K r1.2 r3.2
  | 6 => ∃ r1 r2 : Int × tp_M, fx_X10_sheet a1 a2 a3 a4 Mc = some r1 ∧ fx_X11_sheet a1 a2 a3 a4 Mm = some r2 ∧ w32 r1.1 = w32 r2.1 ∧ K r1.2 r2.2
  | 7 => ∃ r1 r2 : Int × tp_M, fx_X10_comes a1 a2 Mc = some r1 ∧ fx_X11_comes a1 a2 Mm = some r2 ∧ w32 r1.1 = w32 r2.1 ∧ K r1.2 r2.2
  | 8 => ∃ r1 r2 : Int × tp_M, fx_X10_goes a1 Mc = some r1 ∧ fx_X11_goes a1 Mm = some r2 ∧ w32 r1.1 = w32 r2.1 ∧ K r1.2 r2.2
  | 9 => ∃ r1 r2 : Int × tp_M, fx_X10_walks a1 Mc = some r1 ∧ fx_X11_walks a1 Mm = some r2 ∧ w32 r1.1 = w32 r2.1 ∧ K r1.2 r2.2
  | 10 => ∃ r1 r2 : Int × tp_M, fx_X10_bursts a1 Mc = some r1 ∧ fx_X11_bursts a1 Mm = some r2 ∧ w32 r1.1 = w32 r2.1 ∧ K r1.2 r2.2
  | 11 => ∃ r1 r2 : Int × tp_M, fx_X10_calms  Mc = some r1 ∧ fx_X11_calms  Mm = some r2 ∧ w32 r1.1 = w32 r2.1 ∧ K r1.2 r2.2
  | 12 => ∃ r1 r2 : Int × tp_M, fx_X10_points a1 a2 Mc = some r1 ∧ fx_X11_points a1 a2 Mm = some r2 ∧ w32 r1.1 = w32 r2.1 ∧ K r1.2 r2.2
  | 13 => ∃ r1 r2 : Int × tp_M, fx_X10_day  Mc = some r1 ∧ fx_X11_day  Mm = some r2 ∧ w32 r1.1 = w32 r2.1 ∧ K r1.2 r2.2
  | 14 => ∃ r1 r2 : Int × tp_M, fx_X10_undo  Mc = some r1 ∧ fx_X11_undo  Mm = some r2 ∧ w32 r1.1 = w32 r2.1 ∧ K r1.2 r2.2
  | 15 => ∃ r1 r2 : Int × tp_M, fx_X10_later a1 a2 Mc = some r1 ∧ fx_X11_later a1 a2 Mm = some r2 ∧ w32 r1.1 = w32 r2.1 ∧ K r1.2 r2.2
  | 16 => ∃ r1 r2 : Int × tp_M, fx_X10_home a1 Mc = some r1 ∧ fx_X11_home a1 Mm = some r2 ∧ w32 r1.1 = w32 r2.1 ∧ K r1.2 r2.2
  | 17 => ∃ r1 r2 : Int × tp_M, fx_X10_pass a1 a2 a3 Mc = some r1 ∧ fx_X11_pass a1 a2 a3 Mm = some r2 ∧ w32 r1.1 = w32 r2.1 ∧ K r1.2 r2.2
  | 18 => ∃ r1 r2 : Int × tp_M, fx_X10_round a1 Mc = some r1 ∧ fx_X11_round a1 Mm = some r2 ∧ w32 r1.1 = w32 r2.1 ∧ K r1.2 r2.2
  | 19 => ∃ r1 r2 : Int × tp_M, fx_X10_follows a1 Mc = some r1 ∧ fx_X11_follows a1 Mm = some r2 ∧ w32 r1.1 = w32 r2.1 ∧ K r1.2 r2.2
  | 20 => ∃ r1 r2 : Int × tp_M, fx_X10_tree  Mc = some r1 ∧ fx_X11_tree  Mm = some r2 ∧ w32 r1.1 = w32 r2.1 ∧ K r1.2 r2.2
  | 21 => ∃ r1 r2 : Int × tp_M, fx_X10_trees  Mc = some r1 ∧ fx_X11_trees  Mm = some r2 ∧ w32 r1.1 = w32 r2.1 ∧ K r1.2 r2.2
  | 22 => ∃ r1 r2 : Int × tp_M, fx_X10_plants a1 Mc = some r1 ∧ fx_X11_plants a1 Mm = some r2 ∧ w32 r1.1 = w32 r2.1 ∧ K r1.2 r2.2
  | 23 => ∃ r1 r2 : Int × tp_M, fx_X10_grown  Mc = some r1 ∧ fx_X11_grown  Mm = some r2 ∧ w32 r1.1 = w32 r2.1 ∧ K r1.2 r2.2
  | 24 => ∃ r1 r2 : Int × tp_M, fx_X10_mends  Mc = some r1 ∧ fx_X11_mends  Mm = some r2 ∧ w32 r1.1 = w32 r2.1 ∧ K r1.2 r2.2
  | 25 => ∃ r1 r2 : Int × tp_M, fx_X10_route a1 a2 Mc = some r1 ∧ fx_X11_route a1 a2 Mm = some r2 ∧ w32 r1.1 = w32 r2.1 ∧ K r1.2 r2.2
  | 26 => ∃ r1 r2 : Int × tp_M, fx_X10_gates a1 Mc = some r1 ∧ fx_X11_gates a1 Mm = some r2 ∧ w32 r1.1 = w32 r2.1 ∧ K r1.2 r2.2
  | 27 => ∃ r1 r2 : Int × tp_M, fx_X10_parish a1 Mc = some r1 ∧ fx_X11_parish a1 Mm = some r2 ∧ w32 r1.1 = w32 r2.1 ∧ K r1.2 r2.2
  | 28 => ∃ r1 r2 : Int × tp_M, fx_X10_mean a1 Mc = some r1 ∧ fx_X11_mean a1 Mm = some r2 ∧ w32 r1.1 = w32 r2.1 ∧ K r1.2 r2.2
  | 29 => ∃ r1 r2 : Int × tp_M, fx_X10_meets a1 a2 Mc = some r1 ∧ fx_X11_meets a1 a2 Mm = some r2 ∧ w32 r1.1 = w32 r2.1 ∧ K r1.2 r2.2
  | 30 => ∃ r1 r2 : Int × tp_M, fx_X10_odds a1 a2 a3 Mc = some r1 ∧ fx_X11_odds a1 a2 a3 Mm = some r2 ∧ w32 r1.1 = w32 r2.1 ∧ K r1.2 r2.2
  | 31 => ∃ r1 r2 : Int × tp_M, fx_X10_ready  Mc = some r1 ∧ fx_X11_ready  Mm = some r2 ∧ w32 r1.1 = w32 r2.1 ∧ K r1.2 r2.2
  | 32 => ∃ r1 r2 : Int × tp_M, fx_X10_unit  Mc = some r1 ∧ fx_X11_unit  Mm = some r2 ∧ w32 r1.1 = w32 r2.1 ∧ K r1.2 r2.2
  | 33 => ∃ r1 r2 : Int × tp_M, fx_X10_returns  Mc = some r1 ∧ fx_X11_returns  Mm = some r2 ∧ w32 r1.1 = w32 r2.1 ∧ K r1.2 r2.2
  | 34 => ∃ r1 r2 : Int × tp_M, fx_X10_joins a1 Mc = some r1 ∧ fx_X11_joins a1 Mm = some r2 ∧ w32 r1.1 = w32 r2.1 ∧ K r1.2 r2.2
  | 35 => ∃ r1 r2 : Int × tp_M, fx_X10_recurs a1 Mc = some r1 ∧ fx_X11_recurs a1 Mm = some r2 ∧ w32 r1.1 = w32 r2.1 ∧ K r1.2 r2.2
  | 36 => ∃ r1 r2 : Int × tp_M, fx_X10_trigger  Mc = some r1 ∧ fx_X11_trigger  Mm = some r2 ∧ w32 r1.1 = w32 r2.1 ∧ K r1.2 r2.2
  | 37 => ∃ r1 r2 : Int × tp_M, fx_X10_seen a1 a2 a3 Mc = some r1 ∧ fx_X11_seen a1 a2 a3 Mm = some r2 ∧ w32 r1.1 = w32 r2.1 ∧ K r1.2 r2.2
  | 38 => ∃ r1 r2 : Int × tp_M, fx_X10_forget  Mc = some r1 ∧ fx_X11_forget  Mm = some r2 ∧ w32 r1.1 = w32 r2.1 ∧ K r1.2 r2.2
  | 39 => ∃ r1 r2 : Int × tp_M, fx_X10_guess a1 Mc = some r1 ∧ fx_X11_guess a1 Mm = some r2 ∧ w32 r1.1 = w32 r2.1 ∧ K r1.2 r2.2
  | 40 => ∃ r1 r2 : Int × tp_M, fx_X10_looks a1 Mc = some r1 ∧ fx_X11_looks a1 Mm = some r2 ∧ w32 r1.1 = w32 r2.1 ∧ K r1.2 r2.2
  | 41 => ∃ r1 r2 : Int × tp_M, fx_X10_heard a1 a2 Mc = some r1 ∧ fx_X11_heard a1 a2 Mm = some r2 ∧ w32 r1.1 = w32 r2.1 ∧ K r1.2 r2.2
  | 42 => ∃ r1 r2 : Int × tp_M, fx_X10_denies  Mc = some r1 ∧ fx_X11_denies  Mm = some r2 ∧ w32 r1.1 = w32 r2.1 ∧ K r1.2 r2.2
  | 43 => ∃ r1 r2 : Int × tp_M, fx_X10_fits  Mc = some r1 ∧ fx_X11_fits  Mm = some r2 ∧ w32 r1.1 = w32 r2.1 ∧ K r1.2 r2.2
  | 44 => ∃ r1 r2 : Int × tp_M, fx_X10_asks  Mc = some r1 ∧ fx_X11_asks  Mm = some r2 ∧ w32 r1.1 = w32 r2.1 ∧ K r1.2 r2.2
  | 45 => ∃ r1 r2 : Int × tp_M, fx_X10_crowds a1 a2 Mc = some r1 ∧ fx_X11_crowds a1 a2 Mm = some r2 ∧ w32 r1.1 = w32 r2.1 ∧ K r1.2 r2.2
  | 46 => ∃ r1 r2 : Int × tp_M, fx_X10_law  Mc = some r1 ∧ fx_X11_law  Mm = some r2 ∧ w32 r1.1 = w32 r2.1 ∧ K r1.2 r2.2
  | 47 => ∃ r1 r2 : Int × tp_M, fx_X10_waits a1 Mc = some r1 ∧ fx_X11_waits a1 Mm = some r2 ∧ w32 r1.1 = w32 r2.1 ∧ K r1.2 r2.2
  | 48 => ∃ r1 r2 : Int × tp_M, fx_X10_years a1 a2 Mc = some r1 ∧ fx_X11_years a1 a2 Mm = some r2 ∧ w32 r1.1 = w32 r2.1 ∧ K r1.2 r2.2
  | 49 => ∃ r1 r2 : Int × tp_M, fx_X10_keep a1 Mc = some r1 ∧ fx_X11_keep a1 Mm = some r2 ∧ w32 r1.1 = w32 r2.1 ∧ K r1.2 r2.2
  | 50 => ∃ r1 r2 : Int × tp_M, fx_X10_again a1 Mc = some r1 ∧ fx_X11_again a1 Mm = some r2 ∧ w32 r1.1 = w32 r2.1 ∧ K r1.2 r2.2
  | 51 => ∃ r1 r2 : Int × tp_M, fx_X10_count a1 Mc = some r1 ∧ fx_X11_count a1 Mm = some r2 ∧ w32 r1.1 = w32 r2.1 ∧ K r1.2 r2.2
  | 52 => ∃ r1 r2 r3 : Int × tp_M, fx_X10_row a1 Mc = some r1 ∧ fx_X11_row a1 Mm = some r2 ∧ fx_X11_thrown  r2.2 = some r3 ∧ w32 r3.1 = (if r1.1 = tp_TH then 1 else 0) ∧ (r1.1 ≠ tp_TH → w64 r1.1 = w64 r2.1) ∧ K r1.2 r3.2
  | _ => K Mc Mm
def pu_in (a : Int) : Prop := -2147483648 ≤ a ∧ a < 2147483648
/-- n calls, whichever they are -/
def pu_go : Nat → tp_M → tp_M → Prop
  | 0, _, _ => True
  | n + 1, Mc, Mm => ∀ (k : Nat) (a1 a2 a3 a4 : Int), pu_in a1 → pu_in a2 → pu_in a3 → pu_in a4 → pu_step k a1 a2 a3 a4 Mc Mm (pu_go n)
theorem pu_canon (x : Int32) : pu_in x.toInt := by
  have h := w32_in x.toInt
  rw [← w32_eq, w32_of] at h
  exact h
theorem wi_and63 (a : Int) : Int32.ofInt a &&& Int32.ofInt 63 = Int32.ofInt (((a % 64).toNat : Nat) : Int) := by
  rw [← Int32.toBitVec_inj]
  simp only [Int32.toBitVec_and, Int32.toBitVec_ofInt]
  apply BitVec.eq_of_toNat_eq
  rw [BitVec.toNat_and, BitVec.toNat_ofInt, BitVec.toNat_ofInt, BitVec.toNat_ofInt]
  have h63 : ((63 : Int) % ((2 ^ 32 : Nat) : Int)).toNat = 63 := by decide
  rw [h63]
  have h64 : ∀ n : Nat, n &&& 63 = n % 64 := fun n => Nat.and_two_pow_sub_one_eq_mod n 6
  rw [h64]
  omega
set_option maxRecDepth 100000 in
set_option maxHeartbeats 4000000 in
theorem lw_switch {Y : lw_Yt} (G : lw_G Y) {i n : Nat} (hi : i + 5 ≤ yL Y) {Mc Mm : tp_M} {o : Int} {cells slots : Nat} (hc : cells + 1 + n ≤ 601024) (hs : slots + 6 + 6 * n ≤ 7293033) (nx : ∀ (Mc2 Mm2 : tp_M) (o2 : Int) (cells2 slots2 : Nat), cells2 ≤ cells + 1 → slots2 ≤ slots + 6 → pu_go n Mc2 Mm2 → tp_L Y Mc2 Mm2 o2 cells2 slots2 [(4, vI (i : Int)), (0, .ref (yb Y)), (1, vR (yX Y) 0), (2, vR (yZ Y) 0), (3, .ref (yo Y))] [] 1693) :
    ∀ k : Nat, k < 64 → pu_step k (yx Y (i + 1)).toInt (yx Y (i + 2)).toInt (yx Y (i + 3)).toInt (yx Y (i + 4)).toInt Mc Mm (pu_go n) → tp_L Y Mc Mm o cells slots [(4, vI (i : Int)), (0, .ref (yb Y)), (1, vR (yX Y) 0), (2, vR (yZ Y) 0), (3, .ref (yo Y))] [vI (k : Int)] 39 := by
  intro k hk64 hst
  exact match k, hk64, hst with
    | 0, _, hst => by
      obtain ⟨r1, r2, h1, h2, he, hK⟩ := hst
      refine la_tabIn (pc := 39) G (off := 225) (tgt := 264) dL_law_39 (v := 0) (by decide) (by decide) rfl (by decide) ?_
      exact lk_0 G hi (a1 := (yx Y (i + 1)).toInt) rfl h1 h2 he ⟨by omega, by omega⟩ (nx _ _ _ _ _ (by omega) (by omega) hK)
    | 1, _, hst => by
      obtain ⟨r1, r2, h1, h2, he, hK⟩ := hst
      refine la_tabIn (pc := 39) G (off := 250) (tgt := 289) dL_law_39 (v := 1) (by decide) (by decide) rfl (by decide) ?_
      exact lk_1 G hi (a1 := (yx Y (i + 1)).toInt) rfl h1 h2 he ⟨by omega, by omega⟩ (nx _ _ _ _ _ (by omega) (by omega) hK)
    | 2, _, hst => by
      obtain ⟨r1, r2, h1, h2, he, hK⟩ := hst
      refine la_tabIn (pc := 39) G (off := 275) (tgt := 314) dL_law_39 (v := 2) (by decide) (by decide) rfl (by decide) ?_
      exact lk_2 G hi  h1 h2 he ⟨by omega, by omega⟩ (nx _ _ _ _ _ (by omega) (by omega) hK)
    | 3, _, hst => by
      obtain ⟨r1, r2, h1, h2, he, hK⟩ := hst
      refine la_tabIn (pc := 39) G (off := 288) (tgt := 327) dL_law_39 (v := 3) (by decide) (by decide) rfl (by decide) ?_
      exact lk_3 G hi  h1 h2 he ⟨by omega, by omega⟩ (nx _ _ _ _ _ (by omega) (by omega) hK)
    | 4, _, hst => by
      obtain ⟨r1, r2, r3, h1, h2, h3, he, hv, hK⟩ := hst
      refine la_tabIn (pc := 39) G (off := 301) (tgt := 340) dL_law_39 (v := 4) (by decide) (by decide) rfl (by decide) ?_
      exact lk_4 G hi (a1 := (yx Y (i + 1)).toInt) rfl (a2 := (yx Y (i + 2)).toInt) rfl h1 h2 h3 he hv ⟨by omega, by omega⟩ (fun o2 => nx _ _ _ _ _ (by omega) (by omega) hK)
    | 5, _, hst => by
      obtain ⟨r1, r2, r3, h1, h2, h3, he, hv, hK⟩ := hst
      refine la_tabIn (pc := 39) G (off := 369) (tgt := 408) dL_law_39 (v := 5) (by decide) (by decide) rfl (by decide) ?_
      exact lk_5 G hi (a1 := (yx Y (i + 1)).toInt) rfl (a2 := (yx Y (i + 2)).toInt) rfl h1 h2 h3 he hv ⟨by omega, by omega⟩ (fun o2 => nx _ _ _ _ _ (by omega) (by omega) hK)
    | 6, _, hst => by
      obtain ⟨r1, r2, h1, h2, he, hK⟩ := hst
      refine la_tabIn (pc := 39) G (off := 437) (tgt := 476) dL_law_39 (v := 6) (by decide) (by decide) rfl (by decide) ?_
      exact lk_6 G hi (a1 := (yx Y (i + 1)).toInt) rfl (a2 := (yx Y (i + 2)).toInt) rfl (a3 := (yx Y (i + 3)).toInt) rfl (a4 := (yx Y (i + 4)).toInt) rfl h1 h2 he ⟨by omega, by omega⟩ (nx _ _ _ _ _ (by omega) (by omega) hK)
    | 7, _, hst => by
      obtain ⟨r1, r2, h1, h2, he, hK⟩ := hst
      refine la_tabIn (pc := 39) G (off := 498) (tgt := 537) dL_law_39 (v := 7) (by decide) (by decide) rfl (by decide) ?_
      exact lk_7 G hi (a1 := (yx Y (i + 1)).toInt) rfl (a2 := (yx Y (i + 2)).toInt) rfl h1 h2 he ⟨by omega, by omega⟩ (nx _ _ _ _ _ (by omega) (by omega) hK)
    | 8, _, hst => by
      obtain ⟨r1, r2, h1, h2, he, hK⟩ := hst
      refine la_tabIn (pc := 39) G (off := 535) (tgt := 574) dL_law_39 (v := 8) (by decide) (by decide) rfl (by decide) ?_
      exact lk_8 G hi (a1 := (yx Y (i + 1)).toInt) rfl h1 h2 he ⟨by omega, by omega⟩ (nx _ _ _ _ _ (by omega) (by omega) hK)
    | 9, _, hst => by
      obtain ⟨r1, r2, h1, h2, he, hK⟩ := hst
      refine la_tabIn (pc := 39) G (off := 560) (tgt := 599) dL_law_39 (v := 9) (by decide) (by decide) rfl (by decide) ?_
      exact lk_9 G hi (a1 := (yx Y (i + 1)).toInt) rfl h1 h2 he ⟨by omega, by omega⟩ (nx _ _ _ _ _ (by omega) (by omega) hK)
    | 10, _, hst => by
      obtain ⟨r1, r2, h1, h2, he, hK⟩ := hst
      refine la_tabIn (pc := 39) G (off := 585) (tgt := 624) dL_law_39 (v := 10) (by decide) (by decide) rfl (by decide) ?_
      exact lk_10 G hi (a1 := (yx Y (i + 1)).toInt) rfl h1 h2 he ⟨by omega, by omega⟩ (nx _ _ _ _ _ (by omega) (by omega) hK)
    | 11, _, hst => by
      obtain ⟨r1, r2, h1, h2, he, hK⟩ := hst
      refine la_tabIn (pc := 39) G (off := 610) (tgt := 649) dL_law_39 (v := 11) (by decide) (by decide) rfl (by decide) ?_
      exact lk_11 G hi  h1 h2 he ⟨by omega, by omega⟩ (nx _ _ _ _ _ (by omega) (by omega) hK)
    | 12, _, hst => by
      obtain ⟨r1, r2, h1, h2, he, hK⟩ := hst
      refine la_tabIn (pc := 39) G (off := 623) (tgt := 662) dL_law_39 (v := 12) (by decide) (by decide) rfl (by decide) ?_
      exact lk_12 G hi (a1 := (yx Y (i + 1)).toInt) rfl (a2 := (yx Y (i + 2)).toInt) rfl h1 h2 he ⟨by omega, by omega⟩ (nx _ _ _ _ _ (by omega) (by omega) hK)
    | 13, _, hst => by
      obtain ⟨r1, r2, h1, h2, he, hK⟩ := hst
      refine la_tabIn (pc := 39) G (off := 660) (tgt := 699) dL_law_39 (v := 13) (by decide) (by decide) rfl (by decide) ?_
      exact lk_13 G hi  h1 h2 he ⟨by omega, by omega⟩ (nx _ _ _ _ _ (by omega) (by omega) hK)
    | 14, _, hst => by
      obtain ⟨r1, r2, h1, h2, he, hK⟩ := hst
      refine la_tabIn (pc := 39) G (off := 673) (tgt := 712) dL_law_39 (v := 14) (by decide) (by decide) rfl (by decide) ?_
      exact lk_14 G hi  h1 h2 he ⟨by omega, by omega⟩ (nx _ _ _ _ _ (by omega) (by omega) hK)
    | 15, _, hst => by
      obtain ⟨r1, r2, h1, h2, he, hK⟩ := hst
      refine la_tabIn (pc := 39) G (off := 686) (tgt := 725) dL_law_39 (v := 15) (by decide) (by decide) rfl (by decide) ?_
      exact lk_15 G hi (a1 := (yx Y (i + 1)).toInt) rfl (a2 := (yx Y (i + 2)).toInt) rfl h1 h2 he ⟨by omega, by omega⟩ (nx _ _ _ _ _ (by omega) (by omega) hK)
    | 16, _, hst => by
      obtain ⟨r1, r2, h1, h2, he, hK⟩ := hst
      refine la_tabIn (pc := 39) G (off := 723) (tgt := 762) dL_law_39 (v := 16) (by decide) (by decide) rfl (by decide) ?_
      exact lk_16 G hi (a1 := (yx Y (i + 1)).toInt) rfl h1 h2 he ⟨by omega, by omega⟩ (nx _ _ _ _ _ (by omega) (by omega) hK)
    | 17, _, hst => by
      obtain ⟨r1, r2, h1, h2, he, hK⟩ := hst
      refine la_tabIn (pc := 39) G (off := 748) (tgt := 787) dL_law_39 (v := 17) (by decide) (by decide) rfl (by decide) ?_
      exact lk_17 G hi (a1 := (yx Y (i + 1)).toInt) rfl (a2 := (yx Y (i + 2)).toInt) rfl (a3 := (yx Y (i + 3)).toInt) rfl h1 h2 he ⟨by omega, by omega⟩ (nx _ _ _ _ _ (by omega) (by omega) hK)
    | 18, _, hst => by
      obtain ⟨r1, r2, h1, h2, he, hK⟩ := hst
      refine la_tabIn (pc := 39) G (off := 797) (tgt := 836) dL_law_39 (v := 18) (by decide) (by decide) rfl (by decide) ?_
      exact lk_18 G hi (a1 := (yx Y (i + 1)).toInt) rfl h1 h2 he ⟨by omega, by omega⟩ (nx _ _ _ _ _ (by omega) (by omega) hK)
    | 19, _, hst => by
      obtain ⟨r1, r2, h1, h2, he, hK⟩ := hst
      refine la_tabIn (pc := 39) G (off := 822) (tgt := 861) dL_law_39 (v := 19) (by decide) (by decide) rfl (by decide) ?_
      exact lk_19 G hi (a1 := (yx Y (i + 1)).toInt) rfl h1 h2 he ⟨by omega, by omega⟩ (nx _ _ _ _ _ (by omega) (by omega) hK)
    | 20, _, hst => by
      obtain ⟨r1, r2, h1, h2, he, hK⟩ := hst
      refine la_tabIn (pc := 39) G (off := 847) (tgt := 886) dL_law_39 (v := 20) (by decide) (by decide) rfl (by decide) ?_
      exact lk_20 G hi  h1 h2 he ⟨by omega, by omega⟩ (nx _ _ _ _ _ (by omega) (by omega) hK)
    | 21, _, hst => by
      obtain ⟨r1, r2, h1, h2, he, hK⟩ := hst
      refine la_tabIn (pc := 39) G (off := 860) (tgt := 899) dL_law_39 (v := 21) (by decide) (by decide) rfl (by decide) ?_
      exact lk_21 G hi  h1 h2 he ⟨by omega, by omega⟩ (nx _ _ _ _ _ (by omega) (by omega) hK)
    | 22, _, hst => by
      obtain ⟨r1, r2, h1, h2, he, hK⟩ := hst
      refine la_tabIn (pc := 39) G (off := 873) (tgt := 912) dL_law_39 (v := 22) (by decide) (by decide) rfl (by decide) ?_
      exact lk_22 G hi (a1 := (yx Y (i + 1)).toInt) rfl h1 h2 he ⟨by omega, by omega⟩ (nx _ _ _ _ _ (by omega) (by omega) hK)
    | 23, _, hst => by
      obtain ⟨r1, r2, h1, h2, he, hK⟩ := hst
      refine la_tabIn (pc := 39) G (off := 898) (tgt := 937) dL_law_39 (v := 23) (by decide) (by decide) rfl (by decide) ?_
      exact lk_23 G hi  h1 h2 he ⟨by omega, by omega⟩ (nx _ _ _ _ _ (by omega) (by omega) hK)
    | 24, _, hst => by
      obtain ⟨r1, r2, h1, h2, he, hK⟩ := hst
      refine la_tabIn (pc := 39) G (off := 911) (tgt := 950) dL_law_39 (v := 24) (by decide) (by decide) rfl (by decide) ?_
      exact lk_24 G hi  h1 h2 he ⟨by omega, by omega⟩ (nx _ _ _ _ _ (by omega) (by omega) hK)
    | 25, _, hst => by
      obtain ⟨r1, r2, h1, h2, he, hK⟩ := hst
      refine la_tabIn (pc := 39) G (off := 924) (tgt := 963) dL_law_39 (v := 25) (by decide) (by decide) rfl (by decide) ?_
      exact lk_25 G hi (a1 := (yx Y (i + 1)).toInt) rfl (a2 := (yx Y (i + 2)).toInt) rfl h1 h2 he ⟨by omega, by omega⟩ (nx _ _ _ _ _ (by omega) (by omega) hK)
    | 26, _, hst => by
      obtain ⟨r1, r2, h1, h2, he, hK⟩ := hst
      refine la_tabIn (pc := 39) G (off := 961) (tgt := 1000) dL_law_39 (v := 26) (by decide) (by decide) rfl (by decide) ?_
      exact lk_26 G hi (a1 := (yx Y (i + 1)).toInt) rfl h1 h2 he ⟨by omega, by omega⟩ (nx _ _ _ _ _ (by omega) (by omega) hK)
    | 27, _, hst => by
      obtain ⟨r1, r2, h1, h2, he, hK⟩ := hst
      refine la_tabIn (pc := 39) G (off := 986) (tgt := 1025) dL_law_39 (v := 27) (by decide) (by decide) rfl (by decide) ?_
      exact lk_27 G hi (a1 := (yx Y (i + 1)).toInt) rfl h1 h2 he ⟨by omega, by omega⟩ (nx _ _ _ _ _ (by omega) (by omega) hK)
    | 28, _, hst => by
      obtain ⟨r1, r2, h1, h2, he, hK⟩ := hst
      refine la_tabIn (pc := 39) G (off := 1011) (tgt := 1050) dL_law_39 (v := 28) (by decide) (by decide) rfl (by decide) ?_
      exact lk_28 G hi (a1 := (yx Y (i + 1)).toInt) rfl h1 h2 he ⟨by omega, by omega⟩ (nx _ _ _ _ _ (by omega) (by omega) hK)
    | 29, _, hst => by
      obtain ⟨r1, r2, h1, h2, he, hK⟩ := hst
      refine la_tabIn (pc := 39) G (off := 1036) (tgt := 1075) dL_law_39 (v := 29) (by decide) (by decide) rfl (by decide) ?_
      exact lk_29 G hi (a1 := (yx Y (i + 1)).toInt) rfl (a2 := (yx Y (i + 2)).toInt) rfl h1 h2 he ⟨by omega, by omega⟩ (nx _ _ _ _ _ (by omega) (by omega) hK)
    | 30, _, hst => by
      obtain ⟨r1, r2, h1, h2, he, hK⟩ := hst
      refine la_tabIn (pc := 39) G (off := 1073) (tgt := 1112) dL_law_39 (v := 30) (by decide) (by decide) rfl (by decide) ?_
      exact lk_30 G hi (a1 := (yx Y (i + 1)).toInt) rfl (a2 := (yx Y (i + 2)).toInt) rfl (a3 := (yx Y (i + 3)).toInt) rfl h1 h2 he ⟨by omega, by omega⟩ (nx _ _ _ _ _ (by omega) (by omega) hK)
    | 31, _, hst => by
      obtain ⟨r1, r2, h1, h2, he, hK⟩ := hst
      refine la_tabIn (pc := 39) G (off := 1122) (tgt := 1161) dL_law_39 (v := 31) (by decide) (by decide) rfl (by decide) ?_
      exact lk_31 G hi  h1 h2 he ⟨by omega, by omega⟩ (nx _ _ _ _ _ (by omega) (by omega) hK)
    | 32, _, hst => by
      obtain ⟨r1, r2, h1, h2, he, hK⟩ := hst
      refine la_tabIn (pc := 39) G (off := 1135) (tgt := 1174) dL_law_39 (v := 32) (by decide) (by decide) rfl (by decide) ?_
      exact lk_32 G hi  h1 h2 he ⟨by omega, by omega⟩ (nx _ _ _ _ _ (by omega) (by omega) hK)
    | 33, _, hst => by
      obtain ⟨r1, r2, h1, h2, he, hK⟩ := hst
      refine la_tabIn (pc := 39) G (off := 1148) (tgt := 1187) dL_law_39 (v := 33) (by decide) (by decide) rfl (by decide) ?_
      exact lk_33 G hi  h1 h2 he ⟨by omega, by omega⟩ (nx _ _ _ _ _ (by omega) (by omega) hK)
    | 34, _, hst => by
      obtain ⟨r1, r2, h1, h2, he, hK⟩ := hst
      refine la_tabIn (pc := 39) G (off := 1161) (tgt := 1200) dL_law_39 (v := 34) (by decide) (by decide) rfl (by decide) ?_
      exact lk_34 G hi (a1 := (yx Y (i + 1)).toInt) rfl h1 h2 he ⟨by omega, by omega⟩ (nx _ _ _ _ _ (by omega) (by omega) hK)
    | 35, _, hst => by
      obtain ⟨r1, r2, h1, h2, he, hK⟩ := hst
      refine la_tabIn (pc := 39) G (off := 1186) (tgt := 1225) dL_law_39 (v := 35) (by decide) (by decide) rfl (by decide) ?_
      exact lk_35 G hi (a1 := (yx Y (i + 1)).toInt) rfl h1 h2 he ⟨by omega, by omega⟩ (nx _ _ _ _ _ (by omega) (by omega) hK)
    | 36, _, hst => by
      obtain ⟨r1, r2, h1, h2, he, hK⟩ := hst
      refine la_tabIn (pc := 39) G (off := 1211) (tgt := 1250) dL_law_39 (v := 36) (by decide) (by decide) rfl (by decide) ?_
      exact lk_36 G hi  h1 h2 he ⟨by omega, by omega⟩ (nx _ _ _ _ _ (by omega) (by omega) hK)
    | 37, _, hst => by
      obtain ⟨r1, r2, h1, h2, he, hK⟩ := hst
      refine la_tabIn (pc := 39) G (off := 1224) (tgt := 1263) dL_law_39 (v := 37) (by decide) (by decide) rfl (by decide) ?_
      exact lk_37 G hi (a1 := (yx Y (i + 1)).toInt) rfl (a2 := (yx Y (i + 2)).toInt) rfl (a3 := (yx Y (i + 3)).toInt) rfl h1 h2 he ⟨by omega, by omega⟩ (nx _ _ _ _ _ (by omega) (by omega) hK)
    | 38, _, hst => by
      obtain ⟨r1, r2, h1, h2, he, hK⟩ := hst
      refine la_tabIn (pc := 39) G (off := 1273) (tgt := 1312) dL_law_39 (v := 38) (by decide) (by decide) rfl (by decide) ?_
      exact lk_38 G hi  h1 h2 he ⟨by omega, by omega⟩ (nx _ _ _ _ _ (by omega) (by omega) hK)
    | 39, _, hst => by
      obtain ⟨r1, r2, h1, h2, he, hK⟩ := hst
      refine la_tabIn (pc := 39) G (off := 1286) (tgt := 1325) dL_law_39 (v := 39) (by decide) (by decide) rfl (by decide) ?_
      exact lk_39 G hi (a1 := (yx Y (i + 1)).toInt) rfl h1 h2 he ⟨by omega, by omega⟩ (nx _ _ _ _ _ (by omega) (by omega) hK)
    | 40, _, hst => by
      obtain ⟨r1, r2, h1, h2, he, hK⟩ := hst
      refine la_tabIn (pc := 39) G (off := 1311) (tgt := 1350) dL_law_39 (v := 40) (by decide) (by decide) rfl (by decide) ?_
      exact lk_40 G hi (a1 := (yx Y (i + 1)).toInt) rfl h1 h2 he ⟨by omega, by omega⟩ (nx _ _ _ _ _ (by omega) (by omega) hK)
    | 41, _, hst => by
      obtain ⟨r1, r2, h1, h2, he, hK⟩ := hst
      refine la_tabIn (pc := 39) G (off := 1336) (tgt := 1375) dL_law_39 (v := 41) (by decide) (by decide) rfl (by decide) ?_
      exact lk_41 G hi (a1 := (yx Y (i + 1)).toInt) rfl (a2 := (yx Y (i + 2)).toInt) rfl h1 h2 he ⟨by omega, by omega⟩ (nx _ _ _ _ _ (by omega) (by omega) hK)
    | 42, _, hst => by
      obtain ⟨r1, r2, h1, h2, he, hK⟩ := hst
      refine la_tabIn (pc := 39) G (off := 1373) (tgt := 1412) dL_law_39 (v := 42) (by decide) (by decide) rfl (by decide) ?_
      exact lk_42 G hi  h1 h2 he ⟨by omega, by omega⟩ (nx _ _ _ _ _ (by omega) (by omega) hK)
    | 43, _, hst => by
      obtain ⟨r1, r2, h1, h2, he, hK⟩ := hst
      refine la_tabIn (pc := 39) G (off := 1386) (tgt := 1425) dL_law_39 (v := 43) (by decide) (by decide) rfl (by decide) ?_
      exact lk_43 G hi  h1 h2 he ⟨by omega, by omega⟩ (nx _ _ _ _ _ (by omega) (by omega) hK)
    | 44, _, hst => by
      obtain ⟨r1, r2, h1, h2, he, hK⟩ := hst
      refine la_tabIn (pc := 39) G (off := 1399) (tgt := 1438) dL_law_39 (v := 44) (by decide) (by decide) rfl (by decide) ?_
      exact lk_44 G hi  h1 h2 he ⟨by omega, by omega⟩ (nx _ _ _ _ _ (by omega) (by omega) hK)
    | 45, _, hst => by
      obtain ⟨r1, r2, h1, h2, he, hK⟩ := hst
      refine la_tabIn (pc := 39) G (off := 1412) (tgt := 1451) dL_law_39 (v := 45) (by decide) (by decide) rfl (by decide) ?_
      exact lk_45 G hi (a1 := (yx Y (i + 1)).toInt) rfl (a2 := (yx Y (i + 2)).toInt) rfl h1 h2 he ⟨by omega, by omega⟩ (nx _ _ _ _ _ (by omega) (by omega) hK)
    | 46, _, hst => by
      obtain ⟨r1, r2, h1, h2, he, hK⟩ := hst
      refine la_tabIn (pc := 39) G (off := 1449) (tgt := 1488) dL_law_39 (v := 46) (by decide) (by decide) rfl (by decide) ?_
      exact lk_46 G hi  h1 h2 he ⟨by omega, by omega⟩ (nx _ _ _ _ _ (by omega) (by omega) hK)
    | 47, _, hst => by
      obtain ⟨r1, r2, h1, h2, he, hK⟩ := hst
      refine la_tabIn (pc := 39) G (off := 1462) (tgt := 1501) dL_law_39 (v := 47) (by decide) (by decide) rfl (by decide) ?_
      exact lk_47 G hi (a1 := (yx Y (i + 1)).toInt) rfl h1 h2 he ⟨by omega, by omega⟩ (nx _ _ _ _ _ (by omega) (by omega) hK)
    | 48, _, hst => by
      obtain ⟨r1, r2, h1, h2, he, hK⟩ := hst
      refine la_tabIn (pc := 39) G (off := 1487) (tgt := 1526) dL_law_39 (v := 48) (by decide) (by decide) rfl (by decide) ?_
      exact lk_48 G hi (a1 := (yx Y (i + 1)).toInt) rfl (a2 := (yx Y (i + 2)).toInt) rfl h1 h2 he ⟨by omega, by omega⟩ (nx _ _ _ _ _ (by omega) (by omega) hK)
    | 49, _, hst => by
      obtain ⟨r1, r2, h1, h2, he, hK⟩ := hst
      refine la_tabIn (pc := 39) G (off := 1524) (tgt := 1563) dL_law_39 (v := 49) (by decide) (by decide) rfl (by decide) ?_
      exact lk_49 G hi (a1 := (yx Y (i + 1)).toInt) rfl h1 h2 he ⟨by omega, by omega⟩ (nx _ _ _ _ _ (by omega) (by omega) hK)
    | 50, _, hst => by
      obtain ⟨r1, r2, h1, h2, he, hK⟩ := hst
      refine la_tabIn (pc := 39) G (off := 1549) (tgt := 1588) dL_law_39 (v := 50) (by decide) (by decide) rfl (by decide) ?_
      exact lk_50 G hi (a1 := (yx Y (i + 1)).toInt) rfl h1 h2 he ⟨by omega, by omega⟩ (nx _ _ _ _ _ (by omega) (by omega) hK)
    | 51, _, hst => by
      obtain ⟨r1, r2, h1, h2, he, hK⟩ := hst
      refine la_tabIn (pc := 39) G (off := 1574) (tgt := 1613) dL_law_39 (v := 51) (by decide) (by decide) rfl (by decide) ?_
      exact lk_51 G hi (a1 := (yx Y (i + 1)).toInt) rfl h1 h2 he ⟨by omega, by omega⟩ (nx _ _ _ _ _ (by omega) (by omega) hK)
    | 52, _, hst => by
      obtain ⟨r1, r2, r3, h1, h2, h3, he, hv, hK⟩ := hst
      refine la_tabIn (pc := 39) G (off := 1599) (tgt := 1638) dL_law_39 (v := 52) (by decide) (by decide) rfl (by decide) ?_
      exact lk_52 G hi (a1 := (yx Y (i + 1)).toInt) rfl h1 h2 h3 he hv ⟨by omega, by omega⟩ (fun o2 => nx _ _ _ _ _ (by omega) (by omega) hK)
    | k + 53, hk64, hst => by
      have hK : pu_go n Mc Mm := hst
      refine la_tabOut (pc := 39) G (tgt := 1693) dL_law_39 (Or.inr (by rw [w32_id (by omega)]; omega)) (by decide) ?_
      exact nx _ _ _ _ _ (by omega) (by omega) hK
theorem lw_loop {Y : lw_Yt} (G : lw_G Y) : ∀ (n i : Nat) (Mc Mm : tp_M) (o : Int) (cells slots : Nat), i ≤ 2560 → yL Y < i + 5 * (n + 1) → cells + n ≤ 601024 → slots + 6 * n ≤ 7293033 → pu_go n Mc Mm → tp_L Y Mc Mm o cells slots [(4, vI (i : Int)), (0, .ref (yb Y)), (1, vR (yX Y) 0), (2, vR (yZ Y) 0), (3, .ref (yo Y))] [] 23 := by
  intro n
  have hL := lw_G_L G
  induction n with
  | zero =>
    intro i Mc Mm o cells slots hi hn hc hs hg
    refine la_iload (pc := 23) G 0 dL_law_23 rfl ?_
    refine la_aload (pc := 25) G 1 dL_law_25 rfl rfl ?_
    refine la_len (pc := 26) G rfl dL_law_26 ?_
    refine la_iconst (pc := 27) G dL_law_27 ?_
    refine la_isub (pc := 28) G dL_law_28 ?_
    refine la_icmp_gt (pc := 29) G (tgt := 1699) dL_law_29 (by decide) (fun _ => ?_) (fun h => ?_)
    · refine la_iconst (pc := 1699) G dL_law_1699 ?_
      exact la_ret (pc := 1700) G (by omega) (by omega) dL_law_1700
    · rw [w32_id (by omega), w32_id (by omega)] at h
      exfalso
      omega
  | succ n ih =>
    intro i Mc Mm o cells slots hi hn hc hs hg
    refine la_iload (pc := 23) G 0 dL_law_23 rfl ?_
    refine la_aload (pc := 25) G 1 dL_law_25 rfl rfl ?_
    refine la_len (pc := 26) G rfl dL_law_26 ?_
    refine la_iconst (pc := 27) G dL_law_27 ?_
    refine la_isub (pc := 28) G dL_law_28 ?_
    refine la_icmp_gt (pc := 29) G (tgt := 1699) dL_law_29 (by decide) (fun _ => ?_) (fun h => ?_)
    · refine la_iconst (pc := 1699) G dL_law_1699 ?_
      exact la_ret (pc := 1700) G (by omega) (by omega) dL_law_1700
    · rw [w32_id (by omega), w32_id (by omega)] at h
      have hi5 : i + 5 ≤ yL Y := by omega
      refine la_aload (pc := 32) G 1 dL_law_32 rfl rfl ?_
      refine la_iload (pc := 33) G 0 dL_law_33 rfl ?_
      refine la_sld (pc := 35) G (j := i) (by rw [w32_id (by omega)]) (by omega) rfl dL_law_35 ?_
      refine la_bipush (pc := 36) G dL_law_36 rfl ?_
      refine la_iand (pc := 38) G dL_law_38 (wi_and63 _) ?_
      refine lw_switch G (n := n) hi5 (by omega) (by omega) (fun Mc2 Mm2 o2 cells2 slots2 g1 g2 hK => ?_) _ (by omega) (hg _ _ _ _ _ (pu_canon _) (pu_canon _) (pu_canon _) (pu_canon _))
      refine la_iinc (pc := 1693) G 0 (a2 := ((i + 5 : Nat) : Int)) dL_law_1693 rfl (by decide) (by omega) rfl ?_
      refine la_goto (pc := 1696) G (tgt := 23) dL_law_1696 (by decide) ?_
      exact ih (i + 5) Mc2 Mm2 o2 cells2 slots2 (by omega) (by omega) (by omega) (by omega) hK
