set_option maxRecDepth 100000 in
set_option maxHeartbeats 4000000 in
theorem lk_2 {Y : lw_Yt} (G : lw_G Y) {i : Nat} (hi : i + 5 ≤ yL Y)  {Mc Mm : tp_M} {o : Int} {cells slots : Nat} {r1 r2 : Int × tp_M} (h1 : fx_X10_net  Mc = some r1) (h2 : fx_X11_net  Mm = some r2) (he : w32 r1.1 = w32 r2.1) (hcs : cells ≤ 601024 ∧ slots ≤ 7293033) (kk : tp_L Y r1.2 r2.2 o cells slots [(4, vI (i : Int)), (0, .ref (yb Y)), (1, vR (yX Y) 0), (2, vR (yZ Y) 0), (3, .ref (yo Y))] [] 1693) : tp_L Y Mc Mm o cells slots [(4, vI (i : Int)), (0, .ref (yb Y)), (1, vR (yX Y) 0), (2, vR (yZ Y) 0), (3, .ref (yo Y))] [] 314 := by
  have hL := lw_G_L G
  obtain ⟨hc1, hs1⟩ := hcs
  refine la_aload (pc := 314) G 2 dL_law_314 rfl rfl ?_
  refine la_callC (pc := 315) G [] mf_X10_net rfl ml_L_36 (by decide) rfl rfl (Nat.le_of_ble_eq_true rfl) (ok_X10_net (yX Y) h1) (by omega) (by omega) dL_law_315 ?_
  refine la_aload (pc := 318) G 3 dL_law_318 rfl rfl ?_
  refine la_callM (pc := 319) G [] mf_X11_net rfl ml_L_40 (by decide) rfl rfl (Nat.le_of_ble_eq_true rfl) (ok_X11_net (yZ Y) h2) (by omega) (by omega) dL_law_319 ?_
  refine la_icmp_eq (pc := 322) G (tgt := 1693) dL_law_322 (by decide) he ?_
  exact kk
set_option maxRecDepth 100000 in
set_option maxHeartbeats 4000000 in
theorem lk_5 {Y : lw_Yt} (G : lw_G Y) {i : Nat} (hi : i + 5 ≤ yL Y) {a1 : Int} (ha1 : (yx Y (i + 1)).toInt = a1) {a2 : Int} (ha2 : (yx Y (i + 2)).toInt = a2) {Mc Mm : tp_M} {o : Int} {cells slots : Nat} {r1 r2 r3 : Int × tp_M} (h1 : fx_X10_way a1 a2 Mc = some r1) (h2 : fx_X11_way a1 a2 Mm = some r2) (h3 : fx_X11_thrown  r2.2 = some r3) (he9 : w32 r3.1 = if r1.1 = tp_TH then 1 else 0) (hv : r1.1 ≠ tp_TH → w32 r1.1 = w32 r2.1) (hcs : cells + 1 ≤ 601024 ∧ slots + 6 ≤ 7293033) (kk : ∀ o2 : Int, tp_L Y r1.2 r3.2 o2 (cells + 1) (slots + 6) [(4, vI (i : Int)), (0, .ref (yb Y)), (1, vR (yX Y) 0), (2, vR (yZ Y) 0), (3, .ref (yo Y))] [] 1693) : tp_L Y Mc Mm o cells slots [(4, vI (i : Int)), (0, .ref (yb Y)), (1, vR (yX Y) 0), (2, vR (yZ Y) 0), (3, .ref (yo Y))] [] 408 := by
  have hL := lw_G_L G
  obtain ⟨hc1, hs1⟩ := hcs
  have he : w32 r3.1 = w32 (if r1.1 = tp_TH then 1 else 0) := by
    rw [he9]
    split <;> rfl
  refine la_aload (pc := 408) G 2 dL_law_408 rfl rfl ?_
  refine la_aload (pc := 409) G 1 dL_law_409 rfl rfl ?_
  refine la_iload (pc := 410) G 0 dL_law_410 rfl ?_
  refine la_iconst (pc := 412) G dL_law_412 ?_
  refine la_iadd (pc := 413) G dL_law_413 ?_
  refine la_sld (pc := 414) G (j := i + 1) (by rw [w32_id (by omega)]; omega) (by omega) ha1 dL_law_414 ?_
  refine la_aload (pc := 415) G 1 dL_law_415 rfl rfl ?_
  refine la_iload (pc := 416) G 0 dL_law_416 rfl ?_
  refine la_iconst (pc := 418) G dL_law_418 ?_
  refine la_iadd (pc := 419) G dL_law_419 ?_
  refine la_sld (pc := 420) G (j := i + 2) (by rw [w32_id (by omega)]; omega) (by omega) ha2 dL_law_420 ?_
  refine la_aload (pc := 421) G 4 dL_law_421 rfl rfl ?_
  refine la_callH (pc := 422) G (n := 4) [vR (yX Y) 0, vI a1, vI a2, .ref (yo Y)] mc_L_way ms_L_way mi_L (by decide +kernel) (by decide) ml_L_54 (by decide) rfl rfl (Nat.le_of_ble_eq_true rfl) (help_way (yX Y) (lw_G_T G) (lw_G_o G) h1) (by omega) (by omega) dL_law_422 ?_
  refine la_istore (pc := 425) G dL_law_425 (by decide) rfl ?_
  refine la_aload (pc := 427) G 4 dL_law_427 rfl rfl ?_
  refine la_aload (pc := 428) G 2 dL_law_428 rfl rfl ?_
  refine la_iload (pc := 429) G 1 dL_law_429 rfl ?_
  refine la_iconst (pc := 431) G dL_law_431 ?_
  refine la_iadd (pc := 432) G dL_law_432 ?_
  refine la_sld (pc := 433) G (j := i + 1) (by rw [w32_id (by omega)]; omega) (by omega) ha1 dL_law_433 ?_
  refine la_aload (pc := 434) G 2 dL_law_434 rfl rfl ?_
  refine la_iload (pc := 435) G 1 dL_law_435 rfl ?_
  refine la_iconst (pc := 437) G dL_law_437 ?_
  refine la_iadd (pc := 438) G dL_law_438 ?_
  refine la_sld (pc := 439) G (j := i + 2) (by rw [w32_id (by omega)]; omega) (by omega) ha2 dL_law_439 ?_
  refine la_callM (pc := 440) G [vI a1, vI a2] mf_X11_way rfl ml_L_56 (by decide) rfl rfl (Nat.le_of_ble_eq_true rfl) (ok_X11_way (yZ Y) h2) (by omega) (by omega) dL_law_440 ?_
  refine la_istore (pc := 443) G dL_law_443 (by decide) rfl ?_
  refine la_aload (pc := 445) G 5 dL_law_445 rfl rfl ?_
  refine la_callM (pc := 446) G [] mf_X11_thrown rfl ml_L_51 (by decide) rfl rfl (Nat.le_of_ble_eq_true rfl) (ok_X11_thrown (yZ Y) h3) (by omega) (by omega) dL_law_446 ?_
  refine la_iload (pc := 449) G 1 dL_law_449 rfl ?_
  refine la_icmp_eq (pc := 451) G (tgt := 456) dL_law_451 (by decide) he ?_
  refine la_iload (pc := 456) G 1 dL_law_456 rfl ?_
  by_cases hth : r1.1 = tp_TH
  · refine la_ifne_t (pc := 458) G (tgt := 473) dL_law_458 (by decide) (by rw [if_pos hth]; decide) ?_
    refine la_goto (pc := 473) G (tgt := 1693) dL_law_473 (by decide) ?_
    refine la_lv G [2, 3, 4, 5, 6] rfl ?_
    exact kk _
  · have hw : w64 (if r1.1 = tp_TH then o else w32 r1.1) = w64 (w32 r2.1) := by
      rw [if_neg hth, hv hth]
    refine la_ifne_f (pc := 458) G (tgt := 473) dL_law_458 (by decide) (by rw [if_neg hth]; rfl) ?_
    refine la_aload (pc := 461) G 6 dL_law_461 rfl rfl ?_
    refine la_iconst (pc := 462) G dL_law_462 ?_
    refine la_out (pc := 463) G dL_law_463 ?_
    refine la_iload (pc := 464) G 0 dL_law_464 rfl ?_
    refine la_i2l (pc := 466) G dL_law_466 ?_
    refine la_lcmp (pc := 467) G hw dL_law_467 ?_
    refine la_ifeq (pc := 468) G (tgt := 473) dL_law_468 (by decide) rfl ?_
    refine la_goto (pc := 473) G (tgt := 1693) dL_law_473 (by decide) ?_
    refine la_lv G [2, 3, 4, 5, 6] rfl ?_
    exact kk _
set_option maxRecDepth 100000 in
set_option maxHeartbeats 4000000 in
theorem lk_8 {Y : lw_Yt} (G : lw_G Y) {i : Nat} (hi : i + 5 ≤ yL Y) {a1 : Int} (ha1 : (yx Y (i + 1)).toInt = a1) {Mc Mm : tp_M} {o : Int} {cells slots : Nat} {r1 r2 : Int × tp_M} (h1 : fx_X10_goes a1 Mc = some r1) (h2 : fx_X11_goes a1 Mm = some r2) (he : w32 r1.1 = w32 r2.1) (hcs : cells ≤ 601024 ∧ slots ≤ 7293033) (kk : tp_L Y r1.2 r2.2 o cells slots [(4, vI (i : Int)), (0, .ref (yb Y)), (1, vR (yX Y) 0), (2, vR (yZ Y) 0), (3, .ref (yo Y))] [] 1693) : tp_L Y Mc Mm o cells slots [(4, vI (i : Int)), (0, .ref (yb Y)), (1, vR (yX Y) 0), (2, vR (yZ Y) 0), (3, .ref (yo Y))] [] 574 := by
  have hL := lw_G_L G
  obtain ⟨hc1, hs1⟩ := hcs
  refine la_aload (pc := 574) G 2 dL_law_574 rfl rfl ?_
  refine la_aload (pc := 575) G 1 dL_law_575 rfl rfl ?_
  refine la_iload (pc := 576) G 0 dL_law_576 rfl ?_
  refine la_iconst (pc := 578) G dL_law_578 ?_
  refine la_iadd (pc := 579) G dL_law_579 ?_
  refine la_sld (pc := 580) G (j := i + 1) (by rw [w32_id (by omega)]; omega) (by omega) ha1 dL_law_580 ?_
  refine la_callC (pc := 581) G [vI a1] mf_X10_goes rfl ml_L_66 (by decide) rfl rfl (Nat.le_of_ble_eq_true rfl) (ok_X10_goes (yX Y) h1) (by omega) (by omega) dL_law_581 ?_
  refine la_aload (pc := 584) G 3 dL_law_584 rfl rfl ?_
  refine la_aload (pc := 585) G 1 dL_law_585 rfl rfl ?_
  refine la_iload (pc := 586) G 0 dL_law_586 rfl ?_
  refine la_iconst (pc := 588) G dL_law_588 ?_
  refine la_iadd (pc := 589) G dL_law_589 ?_
  refine la_sld (pc := 590) G (j := i + 1) (by rw [w32_id (by omega)]; omega) (by omega) ha1 dL_law_590 ?_
  refine la_callM (pc := 591) G [vI a1] mf_X11_goes rfl ml_L_69 (by decide) rfl rfl (Nat.le_of_ble_eq_true rfl) (ok_X11_goes (yZ Y) h2) (by omega) (by omega) dL_law_591 ?_
  refine la_icmp_eq (pc := 594) G (tgt := 1693) dL_law_594 (by decide) he ?_
  exact kk
set_option maxRecDepth 100000 in
set_option maxHeartbeats 4000000 in
theorem lk_11 {Y : lw_Yt} (G : lw_G Y) {i : Nat} (hi : i + 5 ≤ yL Y)  {Mc Mm : tp_M} {o : Int} {cells slots : Nat} {r1 r2 : Int × tp_M} (h1 : fx_X10_calms  Mc = some r1) (h2 : fx_X11_calms  Mm = some r2) (he : w32 r1.1 = w32 r2.1) (hcs : cells ≤ 601024 ∧ slots ≤ 7293033) (kk : tp_L Y r1.2 r2.2 o cells slots [(4, vI (i : Int)), (0, .ref (yb Y)), (1, vR (yX Y) 0), (2, vR (yZ Y) 0), (3, .ref (yo Y))] [] 1693) : tp_L Y Mc Mm o cells slots [(4, vI (i : Int)), (0, .ref (yb Y)), (1, vR (yX Y) 0), (2, vR (yZ Y) 0), (3, .ref (yo Y))] [] 649 := by
  have hL := lw_G_L G
  obtain ⟨hc1, hs1⟩ := hcs
  refine la_aload (pc := 649) G 2 dL_law_649 rfl rfl ?_
  refine la_callC (pc := 650) G [] mf_X10_calms rfl ml_L_78 (by decide) rfl rfl (Nat.le_of_ble_eq_true rfl) (ok_X10_calms (yX Y) h1) (by omega) (by omega) dL_law_650 ?_
  refine la_aload (pc := 653) G 3 dL_law_653 rfl rfl ?_
  refine la_callM (pc := 654) G [] mf_X11_calms rfl ml_L_81 (by decide) rfl rfl (Nat.le_of_ble_eq_true rfl) (ok_X11_calms (yZ Y) h2) (by omega) (by omega) dL_law_654 ?_
  refine la_icmp_eq (pc := 657) G (tgt := 1693) dL_law_657 (by decide) he ?_
  exact kk
set_option maxRecDepth 100000 in
set_option maxHeartbeats 4000000 in
theorem lk_14 {Y : lw_Yt} (G : lw_G Y) {i : Nat} (hi : i + 5 ≤ yL Y)  {Mc Mm : tp_M} {o : Int} {cells slots : Nat} {r1 r2 : Int × tp_M} (h1 : fx_X10_undo  Mc = some r1) (h2 : fx_X11_undo  Mm = some r2) (he : w32 r1.1 = w32 r2.1) (hcs : cells ≤ 601024 ∧ slots ≤ 7293033) (kk : tp_L Y r1.2 r2.2 o cells slots [(4, vI (i : Int)), (0, .ref (yb Y)), (1, vR (yX Y) 0), (2, vR (yZ Y) 0), (3, .ref (yo Y))] [] 1693) : tp_L Y Mc Mm o cells slots [(4, vI (i : Int)), (0, .ref (yb Y)), (1, vR (yX Y) 0), (2, vR (yZ Y) 0), (3, .ref (yo Y))] [] 712 := by
  have hL := lw_G_L G
  obtain ⟨hc1, hs1⟩ := hcs
  refine la_aload (pc := 712) G 2 dL_law_712 rfl rfl ?_
  refine la_callC (pc := 713) G [] mf_X10_undo rfl ml_L_90 (by decide) rfl rfl (Nat.le_of_ble_eq_true rfl) (ok_X10_undo (yX Y) h1) (by omega) (by omega) dL_law_713 ?_
  refine la_aload (pc := 716) G 3 dL_law_716 rfl rfl ?_
  refine la_callM (pc := 717) G [] mf_X11_undo rfl ml_L_93 (by decide) rfl rfl (Nat.le_of_ble_eq_true rfl) (ok_X11_undo (yZ Y) h2) (by omega) (by omega) dL_law_717 ?_
  refine la_icmp_eq (pc := 720) G (tgt := 1693) dL_law_720 (by decide) he ?_
  exact kk
set_option maxRecDepth 100000 in
set_option maxHeartbeats 4000000 in
theorem lk_17 {Y : lw_Yt} (G : lw_G Y) {i : Nat} (hi : i + 5 ≤ yL Y) {a1 : Int} (ha1 : (yx Y (i + 1)).toInt = a1) {a2 : Int} (ha2 : (yx Y (i + 2)).toInt = a2) {a3 : Int} (ha3 : (yx Y (i + 3)).toInt = a3) {Mc Mm : tp_M} {o : Int} {cells slots : Nat} {r1 r2 : Int × tp_M} (h1 : fx_X10_pass a1 a2 a3 Mc = some r1) (h2 : fx_X11_pass a1 a2 a3 Mm = some r2) (he : w32 r1.1 = w32 r2.1) (hcs : cells ≤ 601024 ∧ slots ≤ 7293033) (kk : tp_L Y r1.2 r2.2 o cells slots [(4, vI (i : Int)), (0, .ref (yb Y)), (1, vR (yX Y) 0), (2, vR (yZ Y) 0), (3, .ref (yo Y))] [] 1693) : tp_L Y Mc Mm o cells slots [(4, vI (i : Int)), (0, .ref (yb Y)), (1, vR (yX Y) 0), (2, vR (yZ Y) 0), (3, .ref (yo Y))] [] 787 := by
  have hL := lw_G_L G
  obtain ⟨hc1, hs1⟩ := hcs
  refine la_aload (pc := 787) G 2 dL_law_787 rfl rfl ?_
  refine la_aload (pc := 788) G 1 dL_law_788 rfl rfl ?_
  refine la_iload (pc := 789) G 0 dL_law_789 rfl ?_
  refine la_iconst (pc := 791) G dL_law_791 ?_
  refine la_iadd (pc := 792) G dL_law_792 ?_
  refine la_sld (pc := 793) G (j := i + 1) (by rw [w32_id (by omega)]; omega) (by omega) ha1 dL_law_793 ?_
  refine la_aload (pc := 794) G 1 dL_law_794 rfl rfl ?_
  refine la_iload (pc := 795) G 0 dL_law_795 rfl ?_
  refine la_iconst (pc := 797) G dL_law_797 ?_
  refine la_iadd (pc := 798) G dL_law_798 ?_
  refine la_sld (pc := 799) G (j := i + 2) (by rw [w32_id (by omega)]; omega) (by omega) ha2 dL_law_799 ?_
  refine la_aload (pc := 800) G 1 dL_law_800 rfl rfl ?_
  refine la_iload (pc := 801) G 0 dL_law_801 rfl ?_
  refine la_iconst (pc := 803) G dL_law_803 ?_
  refine la_iadd (pc := 804) G dL_law_804 ?_
  refine la_sld (pc := 805) G (j := i + 3) (by rw [w32_id (by omega)]; omega) (by omega) ha3 dL_law_805 ?_
  refine la_callC (pc := 806) G [vI a1, vI a2, vI a3] mf_X10_pass rfl ml_L_102 (by decide) rfl rfl (Nat.le_of_ble_eq_true rfl) (ok_X10_pass (yX Y) h1) (by omega) (by omega) dL_law_806 ?_
  refine la_aload (pc := 809) G 3 dL_law_809 rfl rfl ?_
  refine la_aload (pc := 810) G 1 dL_law_810 rfl rfl ?_
  refine la_iload (pc := 811) G 0 dL_law_811 rfl ?_
  refine la_iconst (pc := 813) G dL_law_813 ?_
  refine la_iadd (pc := 814) G dL_law_814 ?_
  refine la_sld (pc := 815) G (j := i + 1) (by rw [w32_id (by omega)]; omega) (by omega) ha1 dL_law_815 ?_
  refine la_aload (pc := 816) G 1 dL_law_816 rfl rfl ?_
  refine la_iload (pc := 817) G 0 dL_law_817 rfl ?_
  refine la_iconst (pc := 819) G dL_law_819 ?_
  refine la_iadd (pc := 820) G dL_law_820 ?_
  refine la_sld (pc := 821) G (j := i + 2) (by rw [w32_id (by omega)]; omega) (by omega) ha2 dL_law_821 ?_
  refine la_aload (pc := 822) G 1 dL_law_822 rfl rfl ?_
  refine la_iload (pc := 823) G 0 dL_law_823 rfl ?_
  refine la_iconst (pc := 825) G dL_law_825 ?_
  refine la_iadd (pc := 826) G dL_law_826 ?_
  refine la_sld (pc := 827) G (j := i + 3) (by rw [w32_id (by omega)]; omega) (by omega) ha3 dL_law_827 ?_
  refine la_callM (pc := 828) G [vI a1, vI a2, vI a3] mf_X11_pass rfl ml_L_106 (by decide) rfl rfl (Nat.le_of_ble_eq_true rfl) (ok_X11_pass (yZ Y) h2) (by omega) (by omega) dL_law_828 ?_
  refine la_icmp_eq (pc := 831) G (tgt := 1693) dL_law_831 (by decide) he ?_
  exact kk
set_option maxRecDepth 100000 in
set_option maxHeartbeats 4000000 in
theorem lk_20 {Y : lw_Yt} (G : lw_G Y) {i : Nat} (hi : i + 5 ≤ yL Y)  {Mc Mm : tp_M} {o : Int} {cells slots : Nat} {r1 r2 : Int × tp_M} (h1 : fx_X10_tree  Mc = some r1) (h2 : fx_X11_tree  Mm = some r2) (he : w32 r1.1 = w32 r2.1) (hcs : cells ≤ 601024 ∧ slots ≤ 7293033) (kk : tp_L Y r1.2 r2.2 o cells slots [(4, vI (i : Int)), (0, .ref (yb Y)), (1, vR (yX Y) 0), (2, vR (yZ Y) 0), (3, .ref (yo Y))] [] 1693) : tp_L Y Mc Mm o cells slots [(4, vI (i : Int)), (0, .ref (yb Y)), (1, vR (yX Y) 0), (2, vR (yZ Y) 0), (3, .ref (yo Y))] [] 886 := by
  have hL := lw_G_L G
  obtain ⟨hc1, hs1⟩ := hcs
  refine la_aload (pc := 886) G 2 dL_law_886 rfl rfl ?_
  refine la_callC (pc := 887) G [] mf_X10_tree rfl ml_L_115 (by decide) rfl rfl (Nat.le_of_ble_eq_true rfl) (ok_X10_tree (yX Y) h1) (by omega) (by omega) dL_law_887 ?_
  refine la_aload (pc := 890) G 3 dL_law_890 rfl rfl ?_
  refine la_callM (pc := 891) G [] mf_X11_tree rfl ml_L_118 (by decide) rfl rfl (Nat.le_of_ble_eq_true rfl) (ok_X11_tree (yZ Y) h2) (by omega) (by omega) dL_law_891 ?_
  refine la_icmp_eq (pc := 894) G (tgt := 1693) dL_law_894 (by decide) he ?_
  exact kk
set_option maxRecDepth 100000 in
set_option maxHeartbeats 4000000 in
theorem lk_23 {Y : lw_Yt} (G : lw_G Y) {i : Nat} (hi : i + 5 ≤ yL Y)  {Mc Mm : tp_M} {o : Int} {cells slots : Nat} {r1 r2 : Int × tp_M} (h1 : fx_X10_grown  Mc = some r1) (h2 : fx_X11_grown  Mm = some r2) (he : w32 r1.1 = w32 r2.1) (hcs : cells ≤ 601024 ∧ slots ≤ 7293033) (kk : tp_L Y r1.2 r2.2 o cells slots [(4, vI (i : Int)), (0, .ref (yb Y)), (1, vR (yX Y) 0), (2, vR (yZ Y) 0), (3, .ref (yo Y))] [] 1693) : tp_L Y Mc Mm o cells slots [(4, vI (i : Int)), (0, .ref (yb Y)), (1, vR (yX Y) 0), (2, vR (yZ Y) 0), (3, .ref (yo Y))] [] 937 := by
  have hL := lw_G_L G
  obtain ⟨hc1, hs1⟩ := hcs
  refine la_aload (pc := 937) G 2 dL_law_937 rfl rfl ?_
  refine la_callC (pc := 938) G [] mf_X10_grown rfl ml_L_127 (by decide) rfl rfl (Nat.le_of_ble_eq_true rfl) (ok_X10_grown (yX Y) h1) (by omega) (by omega) dL_law_938 ?_
  refine la_aload (pc := 941) G 3 dL_law_941 rfl rfl ?_
  refine la_callM (pc := 942) G [] mf_X11_grown rfl ml_L_130 (by decide) rfl rfl (Nat.le_of_ble_eq_true rfl) (ok_X11_grown (yZ Y) h2) (by omega) (by omega) dL_law_942 ?_
  refine la_icmp_eq (pc := 945) G (tgt := 1693) dL_law_945 (by decide) he ?_
  exact kk
set_option maxRecDepth 100000 in
set_option maxHeartbeats 4000000 in
theorem lk_26 {Y : lw_Yt} (G : lw_G Y) {i : Nat} (hi : i + 5 ≤ yL Y) {a1 : Int} (ha1 : (yx Y (i + 1)).toInt = a1) {Mc Mm : tp_M} {o : Int} {cells slots : Nat} {r1 r2 : Int × tp_M} (h1 : fx_X10_gates a1 Mc = some r1) (h2 : fx_X11_gates a1 Mm = some r2) (he : w32 r1.1 = w32 r2.1) (hcs : cells ≤ 601024 ∧ slots ≤ 7293033) (kk : tp_L Y r1.2 r2.2 o cells slots [(4, vI (i : Int)), (0, .ref (yb Y)), (1, vR (yX Y) 0), (2, vR (yZ Y) 0), (3, .ref (yo Y))] [] 1693) : tp_L Y Mc Mm o cells slots [(4, vI (i : Int)), (0, .ref (yb Y)), (1, vR (yX Y) 0), (2, vR (yZ Y) 0), (3, .ref (yo Y))] [] 1000 := by
  have hL := lw_G_L G
  obtain ⟨hc1, hs1⟩ := hcs
  refine la_aload (pc := 1000) G 2 dL_law_1000 rfl rfl ?_
  refine la_aload (pc := 1001) G 1 dL_law_1001 rfl rfl ?_
  refine la_iload (pc := 1002) G 0 dL_law_1002 rfl ?_
  refine la_iconst (pc := 1004) G dL_law_1004 ?_
  refine la_iadd (pc := 1005) G dL_law_1005 ?_
  refine la_sld (pc := 1006) G (j := i + 1) (by rw [w32_id (by omega)]; omega) (by omega) ha1 dL_law_1006 ?_
  refine la_callC (pc := 1007) G [vI a1] mf_X10_gates rfl ml_L_139 (by decide) rfl rfl (Nat.le_of_ble_eq_true rfl) (ok_X10_gates (yX Y) h1) (by omega) (by omega) dL_law_1007 ?_
  refine la_aload (pc := 1010) G 3 dL_law_1010 rfl rfl ?_
  refine la_aload (pc := 1011) G 1 dL_law_1011 rfl rfl ?_
  refine la_iload (pc := 1012) G 0 dL_law_1012 rfl ?_
  refine la_iconst (pc := 1014) G dL_law_1014 ?_
  refine la_iadd (pc := 1015) G dL_law_1015 ?_
  refine la_sld (pc := 1016) G (j := i + 1) (by rw [w32_id (by omega)]; omega) (by omega) ha1 dL_law_1016 ?_
  refine la_callM (pc := 1017) G [vI a1] mf_X11_gates rfl ml_L_142 (by decide) rfl rfl (Nat.le_of_ble_eq_true rfl) (ok_X11_gates (yZ Y) h2) (by omega) (by omega) dL_law_1017 ?_
  refine la_icmp_eq (pc := 1020) G (tgt := 1693) dL_law_1020 (by decide) he ?_
  exact kk
set_option maxRecDepth 100000 in
set_option maxHeartbeats 4000000 in
theorem lk_29 {Y : lw_Yt} (G : lw_G Y) {i : Nat} (hi : i + 5 ≤ yL Y) {a1 : Int} (ha1 : (yx Y (i + 1)).toInt = a1) {a2 : Int} (ha2 : (yx Y (i + 2)).toInt = a2) {Mc Mm : tp_M} {o : Int} {cells slots : Nat} {r1 r2 : Int × tp_M} (h1 : fx_X10_meets a1 a2 Mc = some r1) (h2 : fx_X11_meets a1 a2 Mm = some r2) (he : w32 r1.1 = w32 r2.1) (hcs : cells ≤ 601024 ∧ slots ≤ 7293033) (kk : tp_L Y r1.2 r2.2 o cells slots [(4, vI (i : Int)), (0, .ref (yb Y)), (1, vR (yX Y) 0), (2, vR (yZ Y) 0), (3, .ref (yo Y))] [] 1693) : tp_L Y Mc Mm o cells slots [(4, vI (i : Int)), (0, .ref (yb Y)), (1, vR (yX Y) 0), (2, vR (yZ Y) 0), (3, .ref (yo Y))] [] 1075 := by
  have hL := lw_G_L G
  obtain ⟨hc1, hs1⟩ := hcs
  refine la_aload (pc := 1075) G 2 dL_law_1075 rfl rfl ?_
  refine la_aload (pc := 1076) G 1 dL_law_1076 rfl rfl ?_
  refine la_iload (pc := 1077) G 0 dL_law_1077 rfl ?_
  refine la_iconst (pc := 1079) G dL_law_1079 ?_
  refine la_iadd (pc := 1080) G dL_law_1080 ?_
  refine la_sld (pc := 1081) G (j := i + 1) (by rw [w32_id (by omega)]; omega) (by omega) ha1 dL_law_1081 ?_
  refine la_aload (pc := 1082) G 1 dL_law_1082 rfl rfl ?_
  refine la_iload (pc := 1083) G 0 dL_law_1083 rfl ?_
  refine la_iconst (pc := 1085) G dL_law_1085 ?_
  refine la_iadd (pc := 1086) G dL_law_1086 ?_
  refine la_sld (pc := 1087) G (j := i + 2) (by rw [w32_id (by omega)]; omega) (by omega) ha2 dL_law_1087 ?_
  refine la_callC (pc := 1088) G [vI a1, vI a2] mf_X10_meets rfl ml_L_151 (by decide) rfl rfl (Nat.le_of_ble_eq_true rfl) (ok_X10_meets (yX Y) h1) (by omega) (by omega) dL_law_1088 ?_
  refine la_aload (pc := 1091) G 3 dL_law_1091 rfl rfl ?_
  refine la_aload (pc := 1092) G 1 dL_law_1092 rfl rfl ?_
  refine la_iload (pc := 1093) G 0 dL_law_1093 rfl ?_
  refine la_iconst (pc := 1095) G dL_law_1095 ?_
  refine la_iadd (pc := 1096) G dL_law_1096 ?_
  refine la_sld (pc := 1097) G (j := i + 1) (by rw [w32_id (by omega)]; omega) (by omega) ha1 dL_law_1097 ?_
  refine la_aload (pc := 1098) G 1 dL_law_1098 rfl rfl ?_
  refine la_iload (pc := 1099) G 0 dL_law_1099 rfl ?_
  refine la_iconst (pc := 1101) G dL_law_1101 ?_
  refine la_iadd (pc := 1102) G dL_law_1102 ?_
  refine la_sld (pc := 1103) G (j := i + 2) (by rw [w32_id (by omega)]; omega) (by omega) ha2 dL_law_1103 ?_
  refine la_callM (pc := 1104) G [vI a1, vI a2] mf_X11_meets rfl ml_L_154 (by decide) rfl rfl (Nat.le_of_ble_eq_true rfl) (ok_X11_meets (yZ Y) h2) (by omega) (by omega) dL_law_1104 ?_
  refine la_icmp_eq (pc := 1107) G (tgt := 1693) dL_law_1107 (by decide) he ?_
  exact kk
set_option maxRecDepth 100000 in
set_option maxHeartbeats 4000000 in
theorem lk_32 {Y : lw_Yt} (G : lw_G Y) {i : Nat} (hi : i + 5 ≤ yL Y)  {Mc Mm : tp_M} {o : Int} {cells slots : Nat} {r1 r2 : Int × tp_M} (h1 : fx_X10_unit  Mc = some r1) (h2 : fx_X11_unit  Mm = some r2) (he : w32 r1.1 = w32 r2.1) (hcs : cells ≤ 601024 ∧ slots ≤ 7293033) (kk : tp_L Y r1.2 r2.2 o cells slots [(4, vI (i : Int)), (0, .ref (yb Y)), (1, vR (yX Y) 0), (2, vR (yZ Y) 0), (3, .ref (yo Y))] [] 1693) : tp_L Y Mc Mm o cells slots [(4, vI (i : Int)), (0, .ref (yb Y)), (1, vR (yX Y) 0), (2, vR (yZ Y) 0), (3, .ref (yo Y))] [] 1174 := by
  have hL := lw_G_L G
  obtain ⟨hc1, hs1⟩ := hcs
  refine la_aload (pc := 1174) G 2 dL_law_1174 rfl rfl ?_
  refine la_callC (pc := 1175) G [] mf_X10_unit rfl ml_L_163 (by decide) rfl rfl (Nat.le_of_ble_eq_true rfl) (ok_X10_unit (yX Y) h1) (by omega) (by omega) dL_law_1175 ?_
  refine la_aload (pc := 1178) G 3 dL_law_1178 rfl rfl ?_
  refine la_callM (pc := 1179) G [] mf_X11_unit rfl ml_L_166 (by decide) rfl rfl (Nat.le_of_ble_eq_true rfl) (ok_X11_unit (yZ Y) h2) (by omega) (by omega) dL_law_1179 ?_
  refine la_icmp_eq (pc := 1182) G (tgt := 1693) dL_law_1182 (by decide) he ?_
  exact kk
set_option maxRecDepth 100000 in
set_option maxHeartbeats 4000000 in
theorem lk_35 {Y : lw_Yt} (G : lw_G Y) {i : Nat} (hi : i + 5 ≤ yL Y) {a1 : Int} (ha1 : (yx Y (i + 1)).toInt = a1) {Mc Mm : tp_M} {o : Int} {cells slots : Nat} {r1 r2 : Int × tp_M} (h1 : fx_X10_recurs a1 Mc = some r1) (h2 : fx_X11_recurs a1 Mm = some r2) (he : w32 r1.1 = w32 r2.1) (hcs : cells ≤ 601024 ∧ slots ≤ 7293033) (kk : tp_L Y r1.2 r2.2 o cells slots [(4, vI (i : Int)), (0, .ref (yb Y)), (1, vR (yX Y) 0), (2, vR (yZ Y) 0), (3, .ref (yo Y))] [] 1693) : tp_L Y Mc Mm o cells slots [(4, vI (i : Int)), (0, .ref (yb Y)), (1, vR (yX Y) 0), (2, vR (yZ Y) 0), (3, .ref (yo Y))] [] 1225 := by
  have hL := lw_G_L G
  obtain ⟨hc1, hs1⟩ := hcs
  refine la_aload (pc := 1225) G 2 dL_law_1225 rfl rfl ?_
  refine la_aload (pc := 1226) G 1 dL_law_1226 rfl rfl ?_
  refine la_iload (pc := 1227) G 0 dL_law_1227 rfl ?_
  refine la_iconst (pc := 1229) G dL_law_1229 ?_
  refine la_iadd (pc := 1230) G dL_law_1230 ?_
  refine la_sld (pc := 1231) G (j := i + 1) (by rw [w32_id (by omega)]; omega) (by omega) ha1 dL_law_1231 ?_
  refine la_callC (pc := 1232) G [vI a1] mf_X10_recurs rfl ml_L_175 (by decide) rfl rfl (Nat.le_of_ble_eq_true rfl) (ok_X10_recurs (yX Y) h1) (by omega) (by omega) dL_law_1232 ?_
  refine la_aload (pc := 1235) G 3 dL_law_1235 rfl rfl ?_
  refine la_aload (pc := 1236) G 1 dL_law_1236 rfl rfl ?_
  refine la_iload (pc := 1237) G 0 dL_law_1237 rfl ?_
  refine la_iconst (pc := 1239) G dL_law_1239 ?_
  refine la_iadd (pc := 1240) G dL_law_1240 ?_
  refine la_sld (pc := 1241) G (j := i + 1) (by rw [w32_id (by omega)]; omega) (by omega) ha1 dL_law_1241 ?_
  refine la_callM (pc := 1242) G [vI a1] mf_X11_recurs rfl ml_L_178 (by decide) rfl rfl (Nat.le_of_ble_eq_true rfl) (ok_X11_recurs (yZ Y) h2) (by omega) (by omega) dL_law_1242 ?_
  refine la_icmp_eq (pc := 1245) G (tgt := 1693) dL_law_1245 (by decide) he ?_
  exact kk
set_option maxRecDepth 100000 in
set_option maxHeartbeats 4000000 in
theorem lk_38 {Y : lw_Yt} (G : lw_G Y) {i : Nat} (hi : i + 5 ≤ yL Y)  {Mc Mm : tp_M} {o : Int} {cells slots : Nat} {r1 r2 : Int × tp_M} (h1 : fx_X10_forget  Mc = some r1) (h2 : fx_X11_forget  Mm = some r2) (he : w32 r1.1 = w32 r2.1) (hcs : cells ≤ 601024 ∧ slots ≤ 7293033) (kk : tp_L Y r1.2 r2.2 o cells slots [(4, vI (i : Int)), (0, .ref (yb Y)), (1, vR (yX Y) 0), (2, vR (yZ Y) 0), (3, .ref (yo Y))] [] 1693) : tp_L Y Mc Mm o cells slots [(4, vI (i : Int)), (0, .ref (yb Y)), (1, vR (yX Y) 0), (2, vR (yZ Y) 0), (3, .ref (yo Y))] [] 1312 := by
  have hL := lw_G_L G
  obtain ⟨hc1, hs1⟩ := hcs
  refine la_aload (pc := 1312) G 2 dL_law_1312 rfl rfl ?_
  refine la_callC (pc := 1313) G [] mf_X10_forget rfl ml_L_187 (by decide) rfl rfl (Nat.le_of_ble_eq_true rfl) (ok_X10_forget (yX Y) h1) (by omega) (by omega) dL_law_1313 ?_
  refine la_aload (pc := 1316) G 3 dL_law_1316 rfl rfl ?_
  refine la_callM (pc := 1317) G [] mf_X11_forget rfl ml_L_190 (by decide) rfl rfl (Nat.le_of_ble_eq_true rfl) (ok_X11_forget (yZ Y) h2) (by omega) (by omega) dL_law_1317 ?_
  refine la_icmp_eq (pc := 1320) G (tgt := 1693) dL_law_1320 (by decide) he ?_
  exact kk
set_option maxRecDepth 100000 in
set_option maxHeartbeats 4000000 in
theorem lk_41 {Y : lw_Yt} (G : lw_G Y) {i : Nat} (hi : i + 5 ≤ yL Y) {a1 : Int} (ha1 : (yx Y (i + 1)).toInt = a1) {a2 : Int} (ha2 : (yx Y (i + 2)).toInt = a2) {Mc Mm : tp_M} {o : Int} {cells slots : Nat} {r1 r2 : Int × tp_M} (h1 : fx_X10_heard a1 a2 Mc = some r1) (h2 : fx_X11_heard a1 a2 Mm = some r2) (he : w32 r1.1 = w32 r2.1) (hcs : cells ≤ 601024 ∧ slots ≤ 7293033) (kk : tp_L Y r1.2 r2.2 o cells slots [(4, vI (i : Int)), (0, .ref (yb Y)), (1, vR (yX Y) 0), (2, vR (yZ Y) 0), (3, .ref (yo Y))] [] 1693) : tp_L Y Mc Mm o cells slots [(4, vI (i : Int)), (0, .ref (yb Y)), (1, vR (yX Y) 0), (2, vR (yZ Y) 0), (3, .ref (yo Y))] [] 1375 := by
  have hL := lw_G_L G
  obtain ⟨hc1, hs1⟩ := hcs
  refine la_aload (pc := 1375) G 2 dL_law_1375 rfl rfl ?_
  refine la_aload (pc := 1376) G 1 dL_law_1376 rfl rfl ?_
  refine la_iload (pc := 1377) G 0 dL_law_1377 rfl ?_
  refine la_iconst (pc := 1379) G dL_law_1379 ?_
  refine la_iadd (pc := 1380) G dL_law_1380 ?_
  refine la_sld (pc := 1381) G (j := i + 1) (by rw [w32_id (by omega)]; omega) (by omega) ha1 dL_law_1381 ?_
  refine la_aload (pc := 1382) G 1 dL_law_1382 rfl rfl ?_
  refine la_iload (pc := 1383) G 0 dL_law_1383 rfl ?_
  refine la_iconst (pc := 1385) G dL_law_1385 ?_
  refine la_iadd (pc := 1386) G dL_law_1386 ?_
  refine la_sld (pc := 1387) G (j := i + 2) (by rw [w32_id (by omega)]; omega) (by omega) ha2 dL_law_1387 ?_
  refine la_callC (pc := 1388) G [vI a1, vI a2] mf_X10_heard rfl ml_L_199 (by decide) rfl rfl (Nat.le_of_ble_eq_true rfl) (ok_X10_heard (yX Y) h1) (by omega) (by omega) dL_law_1388 ?_
  refine la_aload (pc := 1391) G 3 dL_law_1391 rfl rfl ?_
  refine la_aload (pc := 1392) G 1 dL_law_1392 rfl rfl ?_
  refine la_iload (pc := 1393) G 0 dL_law_1393 rfl ?_
  refine la_iconst (pc := 1395) G dL_law_1395 ?_
  refine la_iadd (pc := 1396) G dL_law_1396 ?_
  refine la_sld (pc := 1397) G (j := i + 1) (by rw [w32_id (by omega)]; omega) (by omega) ha1 dL_law_1397 ?_
  refine la_aload (pc := 1398) G 1 dL_law_1398 rfl rfl ?_
  refine la_iload (pc := 1399) G 0 dL_law_1399 rfl ?_
  refine la_iconst (pc := 1401) G dL_law_1401 ?_
  refine la_iadd (pc := 1402) G dL_law_1402 ?_
  refine la_sld (pc := 1403) G (j := i + 2) (by rw [w32_id (by omega)]; omega) (by omega) ha2 dL_law_1403 ?_
  refine la_callM (pc := 1404) G [vI a1, vI a2] mf_X11_heard rfl ml_L_202 (by decide) rfl rfl (Nat.le_of_ble_eq_true rfl) (ok_X11_heard (yZ Y) h2) (by omega) (by omega) dL_law_1404 ?_
  refine la_icmp_eq (pc := 1407) G (tgt := 1693) dL_law_1407 (by decide) he ?_
  exact kk
set_option maxRecDepth 100000 in
set_option maxHeartbeats 4000000 in
theorem lk_44 {Y : lw_Yt} (G : lw_G Y) {i : Nat} (hi : i + 5 ≤ yL Y)  {Mc Mm : tp_M} {o : Int} {cells slots : Nat} {r1 r2 : Int × tp_M} (h1 : fx_X10_asks  Mc = some r1) (h2 : fx_X11_asks  Mm = some r2) (he : w32 r1.1 = w32 r2.1) (hcs : cells ≤ 601024 ∧ slots ≤ 7293033) (kk : tp_L Y r1.2 r2.2 o cells slots [(4, vI (i : Int)), (0, .ref (yb Y)), (1, vR (yX Y) 0), (2, vR (yZ Y) 0), (3, .ref (yo Y))] [] 1693) : tp_L Y Mc Mm o cells slots [(4, vI (i : Int)), (0, .ref (yb Y)), (1, vR (yX Y) 0), (2, vR (yZ Y) 0), (3, .ref (yo Y))] [] 1438 := by
  have hL := lw_G_L G
  obtain ⟨hc1, hs1⟩ := hcs
  refine la_aload (pc := 1438) G 2 dL_law_1438 rfl rfl ?_
  refine la_callC (pc := 1439) G [] mf_X10_asks rfl ml_L_211 (by decide) rfl rfl (Nat.le_of_ble_eq_true rfl) (ok_X10_asks (yX Y) h1) (by omega) (by omega) dL_law_1439 ?_
  refine la_aload (pc := 1442) G 3 dL_law_1442 rfl rfl ?_
  refine la_callM (pc := 1443) G [] mf_X11_asks rfl ml_L_214 (by decide) rfl rfl (Nat.le_of_ble_eq_true rfl) (ok_X11_asks (yZ Y) h2) (by omega) (by omega) dL_law_1443 ?_
  refine la_icmp_eq (pc := 1446) G (tgt := 1693) dL_law_1446 (by decide) he ?_
  exact kk
set_option maxRecDepth 100000 in
set_option maxHeartbeats 4000000 in
theorem lk_47 {Y : lw_Yt} (G : lw_G Y) {i : Nat} (hi : i + 5 ≤ yL Y) {a1 : Int} (ha1 : (yx Y (i + 1)).toInt = a1) {Mc Mm : tp_M} {o : Int} {cells slots : Nat} {r1 r2 : Int × tp_M} (h1 : fx_X10_waits a1 Mc = some r1) (h2 : fx_X11_waits a1 Mm = some r2) (he : w32 r1.1 = w32 r2.1) (hcs : cells ≤ 601024 ∧ slots ≤ 7293033) (kk : tp_L Y r1.2 r2.2 o cells slots [(4, vI (i : Int)), (0, .ref (yb Y)), (1, vR (yX Y) 0), (2, vR (yZ Y) 0), (3, .ref (yo Y))] [] 1693) : tp_L Y Mc Mm o cells slots [(4, vI (i : Int)), (0, .ref (yb Y)), (1, vR (yX Y) 0), (2, vR (yZ Y) 0), (3, .ref (yo Y))] [] 1501 := by
  have hL := lw_G_L G
  obtain ⟨hc1, hs1⟩ := hcs
  refine la_aload (pc := 1501) G 2 dL_law_1501 rfl rfl ?_
  refine la_aload (pc := 1502) G 1 dL_law_1502 rfl rfl ?_
  refine la_iload (pc := 1503) G 0 dL_law_1503 rfl ?_
  refine la_iconst (pc := 1505) G dL_law_1505 ?_
  refine la_iadd (pc := 1506) G dL_law_1506 ?_
  refine la_sld (pc := 1507) G (j := i + 1) (by rw [w32_id (by omega)]; omega) (by omega) ha1 dL_law_1507 ?_
  refine la_callC (pc := 1508) G [vI a1] mf_X10_waits rfl ml_L_223 (by decide) rfl rfl (Nat.le_of_ble_eq_true rfl) (ok_X10_waits (yX Y) h1) (by omega) (by omega) dL_law_1508 ?_
  refine la_aload (pc := 1511) G 3 dL_law_1511 rfl rfl ?_
  refine la_aload (pc := 1512) G 1 dL_law_1512 rfl rfl ?_
  refine la_iload (pc := 1513) G 0 dL_law_1513 rfl ?_
  refine la_iconst (pc := 1515) G dL_law_1515 ?_
  refine la_iadd (pc := 1516) G dL_law_1516 ?_
  refine la_sld (pc := 1517) G (j := i + 1) (by rw [w32_id (by omega)]; omega) (by omega) ha1 dL_law_1517 ?_
  refine la_callM (pc := 1518) G [vI a1] mf_X11_waits rfl ml_L_226 (by decide) rfl rfl (Nat.le_of_ble_eq_true rfl) (ok_X11_waits (yZ Y) h2) (by omega) (by omega) dL_law_1518 ?_
  refine la_icmp_eq (pc := 1521) G (tgt := 1693) dL_law_1521 (by decide) he ?_
  exact kk
set_option maxRecDepth 100000 in
set_option maxHeartbeats 4000000 in
theorem lk_50 {Y : lw_Yt} (G : lw_G Y) {i : Nat} (hi : i + 5 ≤ yL Y) {a1 : Int} (ha1 : (yx Y (i + 1)).toInt = a1) {Mc Mm : tp_M} {o : Int} {cells slots : Nat} {r1 r2 : Int × tp_M} (h1 : fx_X10_again a1 Mc = some r1) (h2 : fx_X11_again a1 Mm = some r2) (he : w32 r1.1 = w32 r2.1) (hcs : cells ≤ 601024 ∧ slots ≤ 7293033) (kk : tp_L Y r1.2 r2.2 o cells slots [(4, vI (i : Int)), (0, .ref (yb Y)), (1, vR (yX Y) 0), (2, vR (yZ Y) 0), (3, .ref (yo Y))] [] 1693) : tp_L Y Mc Mm o cells slots [(4, vI (i : Int)), (0, .ref (yb Y)), (1, vR (yX Y) 0), (2, vR (yZ Y) 0), (3, .ref (yo Y))] [] 1588 := by
  have hL := lw_G_L G
  obtain ⟨hc1, hs1⟩ := hcs
  refine la_aload (pc := 1588) G 2 dL_law_1588 rfl rfl ?_
  refine la_aload (pc := 1589) G 1 dL_law_1589 rfl rfl ?_
  refine la_iload (pc := 1590) G 0 dL_law_1590 rfl ?_
  refine la_iconst (pc := 1592) G dL_law_1592 ?_
  refine la_iadd (pc := 1593) G dL_law_1593 ?_
  refine la_sld (pc := 1594) G (j := i + 1) (by rw [w32_id (by omega)]; omega) (by omega) ha1 dL_law_1594 ?_
  refine la_callC (pc := 1595) G [vI a1] mf_X10_again rfl ml_L_235 (by decide) rfl rfl (Nat.le_of_ble_eq_true rfl) (ok_X10_again (yX Y) h1) (by omega) (by omega) dL_law_1595 ?_
  refine la_aload (pc := 1598) G 3 dL_law_1598 rfl rfl ?_
  refine la_aload (pc := 1599) G 1 dL_law_1599 rfl rfl ?_
  refine la_iload (pc := 1600) G 0 dL_law_1600 rfl ?_
  refine la_iconst (pc := 1602) G dL_law_1602 ?_
  refine la_iadd (pc := 1603) G dL_law_1603 ?_
  refine la_sld (pc := 1604) G (j := i + 1) (by rw [w32_id (by omega)]; omega) (by omega) ha1 dL_law_1604 ?_
  refine la_callM (pc := 1605) G [vI a1] mf_X11_again rfl ml_L_238 (by decide) rfl rfl (Nat.le_of_ble_eq_true rfl) (ok_X11_again (yZ Y) h2) (by omega) (by omega) dL_law_1605 ?_
  refine la_icmp_eq (pc := 1608) G (tgt := 1693) dL_law_1608 (by decide) he ?_
  exact kk
