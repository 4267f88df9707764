set_option maxRecDepth 100000 in
set_option maxHeartbeats 4000000 in
theorem lk_0 {Y : lw_Yt} (G : lw_G Y) {i : Nat} (hi : i + 5 ≤ yL Y) {a1 : Int} (ha1 : (yx Y (i + 1)).toInt = a1) {Mc Mm : tp_M} {o : Int} {cells slots : Nat} {r1 r2 : Int × tp_M} (h1 : fx_X10_sign a1 Mc = some r1) (h2 : fx_X11_sign a1 Mm = some r2) (he : w32 r1.1 = w32 r2.1) (hcs : cells ≤ 601024 ∧ slots ≤ 7293033) (kk : tp_L Y r1.2 r2.2 o cells slots [(4, vI (i : Int)), (0, .ref (yb Y)), (1, vR (yX Y) 0), (2, vR (yZ Y) 0), (3, .ref (yo Y))] [] 1693) : tp_L Y Mc Mm o cells slots [(4, vI (i : Int)), (0, .ref (yb Y)), (1, vR (yX Y) 0), (2, vR (yZ Y) 0), (3, .ref (yo Y))] [] 264 := by
  have hL := lw_G_L G
  obtain ⟨hc1, hs1⟩ := hcs
  refine la_aload (pc := 264) G 2 dL_law_264 rfl rfl ?_
  refine la_aload (pc := 265) G 1 dL_law_265 rfl rfl ?_
  refine la_iload (pc := 266) G 0 dL_law_266 rfl ?_
  refine la_iconst (pc := 268) G dL_law_268 ?_
  refine la_iadd (pc := 269) G dL_law_269 ?_
  refine la_sld (pc := 270) G (j := i + 1) (by rw [w32_id (by omega)]; omega) (by omega) ha1 dL_law_270 ?_
  refine la_callC (pc := 271) G [vI a1] mf_X10_sign rfl ml_L_26 (by decide) rfl rfl (Nat.le_of_ble_eq_true rfl) (ok_X10_sign (yX Y) h1) (by omega) (by omega) dL_law_271 ?_
  refine la_aload (pc := 274) G 3 dL_law_274 rfl rfl ?_
  refine la_aload (pc := 275) G 1 dL_law_275 rfl rfl ?_
  refine la_iload (pc := 276) G 0 dL_law_276 rfl ?_
  refine la_iconst (pc := 278) G dL_law_278 ?_
  refine la_iadd (pc := 279) G dL_law_279 ?_
  refine la_sld (pc := 280) G (j := i + 1) (by rw [w32_id (by omega)]; omega) (by omega) ha1 dL_law_280 ?_
  refine la_callM (pc := 281) G [vI a1] mf_X11_sign rfl ml_L_30 (by decide) rfl rfl (Nat.le_of_ble_eq_true rfl) (ok_X11_sign (yZ Y) h2) (by omega) (by omega) dL_law_281 ?_
  refine la_icmp_eq (pc := 284) G (tgt := 1693) dL_law_284 (by decide) he ?_
  exact kk
set_option maxRecDepth 100000 in
set_option maxHeartbeats 4000000 in
theorem lk_3 {Y : lw_Yt} (G : lw_G Y) {i : Nat} (hi : i + 5 ≤ yL Y)  {Mc Mm : tp_M} {o : Int} {cells slots : Nat} {r1 r2 : Int × tp_M} (h1 : fx_X10_rule  Mc = some r1) (h2 : fx_X11_rule  Mm = some r2) (he : w32 r1.1 = w32 r2.1) (hcs : cells ≤ 601024 ∧ slots ≤ 7293033) (kk : tp_L Y r1.2 r2.2 o cells slots [(4, vI (i : Int)), (0, .ref (yb Y)), (1, vR (yX Y) 0), (2, vR (yZ Y) 0), (3, .ref (yo Y))] [] 1693) : tp_L Y Mc Mm o cells slots [(4, vI (i : Int)), (0, .ref (yb Y)), (1, vR (yX Y) 0), (2, vR (yZ Y) 0), (3, .ref (yo Y))] [] 327 := by
  have hL := lw_G_L G
  obtain ⟨hc1, hs1⟩ := hcs
  refine la_aload (pc := 327) G 2 dL_law_327 rfl rfl ?_
  refine la_callC (pc := 328) G [] mf_X10_rule rfl ml_L_41 (by decide) rfl rfl (Nat.le_of_ble_eq_true rfl) (ok_X10_rule (yX Y) h1) (by omega) (by omega) dL_law_328 ?_
  refine la_aload (pc := 331) G 3 dL_law_331 rfl rfl ?_
  refine la_callM (pc := 332) G [] mf_X11_rule rfl ml_L_44 (by decide) rfl rfl (Nat.le_of_ble_eq_true rfl) (ok_X11_rule (yZ Y) (lw_G_S G) h2) (by omega) (by omega) dL_law_332 ?_
  refine la_icmp_eq (pc := 335) G (tgt := 1693) dL_law_335 (by decide) he ?_
  exact kk
set_option maxRecDepth 100000 in
set_option maxHeartbeats 4000000 in
theorem lk_6 {Y : lw_Yt} (G : lw_G Y) {i : Nat} (hi : i + 5 ≤ yL Y) {a1 : Int} (ha1 : (yx Y (i + 1)).toInt = a1) {a2 : Int} (ha2 : (yx Y (i + 2)).toInt = a2) {a3 : Int} (ha3 : (yx Y (i + 3)).toInt = a3) {a4 : Int} (ha4 : (yx Y (i + 4)).toInt = a4) {Mc Mm : tp_M} {o : Int} {cells slots : Nat} {r1 r2 : Int × tp_M} (h1 : fx_X10_sheet a1 a2 a3 a4 Mc = some r1) (h2 : fx_X11_sheet a1 a2 a3 a4 Mm = some r2) (he : w32 r1.1 = w32 r2.1) (hcs : cells ≤ 601024 ∧ slots ≤ 7293033) (kk : tp_L Y r1.2 r2.2 o cells slots [(4, vI (i : Int)), (0, .ref (yb Y)), (1, vR (yX Y) 0), (2, vR (yZ Y) 0), (3, .ref (yo Y))] [] 1693) : tp_L Y Mc Mm o cells slots [(4, vI (i : Int)), (0, .ref (yb Y)), (1, vR (yX Y) 0), (2, vR (yZ Y) 0), (3, .ref (yo Y))] [] 476 := by
  have hL := lw_G_L G
  obtain ⟨hc1, hs1⟩ := hcs
  refine la_aload (pc := 476) G 2 dL_law_476 rfl rfl ?_
  refine la_aload (pc := 477) G 1 dL_law_477 rfl rfl ?_
  refine la_iload (pc := 478) G 0 dL_law_478 rfl ?_
  refine la_iconst (pc := 480) G dL_law_480 ?_
  refine la_iadd (pc := 481) G dL_law_481 ?_
  refine la_sld (pc := 482) G (j := i + 1) (by rw [w32_id (by omega)]; omega) (by omega) ha1 dL_law_482 ?_
  refine la_aload (pc := 483) G 1 dL_law_483 rfl rfl ?_
  refine la_iload (pc := 484) G 0 dL_law_484 rfl ?_
  refine la_iconst (pc := 486) G dL_law_486 ?_
  refine la_iadd (pc := 487) G dL_law_487 ?_
  refine la_sld (pc := 488) G (j := i + 2) (by rw [w32_id (by omega)]; omega) (by omega) ha2 dL_law_488 ?_
  refine la_aload (pc := 489) G 1 dL_law_489 rfl rfl ?_
  refine la_iload (pc := 490) G 0 dL_law_490 rfl ?_
  refine la_iconst (pc := 492) G dL_law_492 ?_
  refine la_iadd (pc := 493) G dL_law_493 ?_
  refine la_sld (pc := 494) G (j := i + 3) (by rw [w32_id (by omega)]; omega) (by omega) ha3 dL_law_494 ?_
  refine la_aload (pc := 495) G 1 dL_law_495 rfl rfl ?_
  refine la_iload (pc := 496) G 0 dL_law_496 rfl ?_
  refine la_iconst (pc := 498) G dL_law_498 ?_
  refine la_iadd (pc := 499) G dL_law_499 ?_
  refine la_sld (pc := 500) G (j := i + 4) (by rw [w32_id (by omega)]; omega) (by omega) ha4 dL_law_500 ?_
  refine la_callC (pc := 501) G [vI a1, vI a2, vI a3, vI a4] mf_X10_sheet rfl ml_L_57 (by decide) rfl rfl (Nat.le_of_ble_eq_true rfl) (ok_X10_sheet (yX Y) h1) (by omega) (by omega) dL_law_501 ?_
  refine la_aload (pc := 504) G 3 dL_law_504 rfl rfl ?_
  refine la_aload (pc := 505) G 1 dL_law_505 rfl rfl ?_
  refine la_iload (pc := 506) G 0 dL_law_506 rfl ?_
  refine la_iconst (pc := 508) G dL_law_508 ?_
  refine la_iadd (pc := 509) G dL_law_509 ?_
  refine la_sld (pc := 510) G (j := i + 1) (by rw [w32_id (by omega)]; omega) (by omega) ha1 dL_law_510 ?_
  refine la_aload (pc := 511) G 1 dL_law_511 rfl rfl ?_
  refine la_iload (pc := 512) G 0 dL_law_512 rfl ?_
  refine la_iconst (pc := 514) G dL_law_514 ?_
  refine la_iadd (pc := 515) G dL_law_515 ?_
  refine la_sld (pc := 516) G (j := i + 2) (by rw [w32_id (by omega)]; omega) (by omega) ha2 dL_law_516 ?_
  refine la_aload (pc := 517) G 1 dL_law_517 rfl rfl ?_
  refine la_iload (pc := 518) G 0 dL_law_518 rfl ?_
  refine la_iconst (pc := 520) G dL_law_520 ?_
  refine la_iadd (pc := 521) G dL_law_521 ?_
  refine la_sld (pc := 522) G (j := i + 3) (by rw [w32_id (by omega)]; omega) (by omega) ha3 dL_law_522 ?_
  refine la_aload (pc := 523) G 1 dL_law_523 rfl rfl ?_
  refine la_iload (pc := 524) G 0 dL_law_524 rfl ?_
  refine la_iconst (pc := 526) G dL_law_526 ?_
  refine la_iadd (pc := 527) G dL_law_527 ?_
  refine la_sld (pc := 528) G (j := i + 4) (by rw [w32_id (by omega)]; omega) (by omega) ha4 dL_law_528 ?_
  refine la_callM (pc := 529) G [vI a1, vI a2, vI a3, vI a4] mf_X11_sheet rfl ml_L_61 (by decide) rfl rfl (Nat.le_of_ble_eq_true rfl) (ok_X11_sheet (yZ Y) h2) (by omega) (by omega) dL_law_529 ?_
  refine la_icmp_eq (pc := 532) G (tgt := 1693) dL_law_532 (by decide) he ?_
  exact kk
set_option maxRecDepth 100000 in
set_option maxHeartbeats 4000000 in
theorem lk_9 {Y : lw_Yt} (G : lw_G Y) {i : Nat} (hi : i + 5 ≤ yL Y) {a1 : Int} (ha1 : (yx Y (i + 1)).toInt = a1) {Mc Mm : tp_M} {o : Int} {cells slots : Nat} {r1 r2 : Int × tp_M} (h1 : fx_X10_walks a1 Mc = some r1) (h2 : fx_X11_walks a1 Mm = some r2) (he : w32 r1.1 = w32 r2.1) (hcs : cells ≤ 601024 ∧ slots ≤ 7293033) (kk : tp_L Y r1.2 r2.2 o cells slots [(4, vI (i : Int)), (0, .ref (yb Y)), (1, vR (yX Y) 0), (2, vR (yZ Y) 0), (3, .ref (yo Y))] [] 1693) : tp_L Y Mc Mm o cells slots [(4, vI (i : Int)), (0, .ref (yb Y)), (1, vR (yX Y) 0), (2, vR (yZ Y) 0), (3, .ref (yo Y))] [] 599 := by
  have hL := lw_G_L G
  obtain ⟨hc1, hs1⟩ := hcs
  refine la_aload (pc := 599) G 2 dL_law_599 rfl rfl ?_
  refine la_aload (pc := 600) G 1 dL_law_600 rfl rfl ?_
  refine la_iload (pc := 601) G 0 dL_law_601 rfl ?_
  refine la_iconst (pc := 603) G dL_law_603 ?_
  refine la_iadd (pc := 604) G dL_law_604 ?_
  refine la_sld (pc := 605) G (j := i + 1) (by rw [w32_id (by omega)]; omega) (by omega) ha1 dL_law_605 ?_
  refine la_callC (pc := 606) G [vI a1] mf_X10_walks rfl ml_L_70 (by decide) rfl rfl (Nat.le_of_ble_eq_true rfl) (ok_X10_walks (yX Y) h1) (by omega) (by omega) dL_law_606 ?_
  refine la_aload (pc := 609) G 3 dL_law_609 rfl rfl ?_
  refine la_aload (pc := 610) G 1 dL_law_610 rfl rfl ?_
  refine la_iload (pc := 611) G 0 dL_law_611 rfl ?_
  refine la_iconst (pc := 613) G dL_law_613 ?_
  refine la_iadd (pc := 614) G dL_law_614 ?_
  refine la_sld (pc := 615) G (j := i + 1) (by rw [w32_id (by omega)]; omega) (by omega) ha1 dL_law_615 ?_
  refine la_callM (pc := 616) G [vI a1] mf_X11_walks rfl ml_L_73 (by decide) rfl rfl (Nat.le_of_ble_eq_true rfl) (ok_X11_walks (yZ Y) h2) (by omega) (by omega) dL_law_616 ?_
  refine la_icmp_eq (pc := 619) G (tgt := 1693) dL_law_619 (by decide) he ?_
  exact kk
set_option maxRecDepth 100000 in
set_option maxHeartbeats 4000000 in
theorem lk_12 {Y : lw_Yt} (G : lw_G Y) {i : Nat} (hi : i + 5 ≤ yL Y) {a1 : Int} (ha1 : (yx Y (i + 1)).toInt = a1) {a2 : Int} (ha2 : (yx Y (i + 2)).toInt = a2) {Mc Mm : tp_M} {o : Int} {cells slots : Nat} {r1 r2 : Int × tp_M} (h1 : fx_X10_points a1 a2 Mc = some r1) (h2 : fx_X11_points a1 a2 Mm = some r2) (he : w32 r1.1 = w32 r2.1) (hcs : cells ≤ 601024 ∧ slots ≤ 7293033) (kk : tp_L Y r1.2 r2.2 o cells slots [(4, vI (i : Int)), (0, .ref (yb Y)), (1, vR (yX Y) 0), (2, vR (yZ Y) 0), (3, .ref (yo Y))] [] 1693) : tp_L Y Mc Mm o cells slots [(4, vI (i : Int)), (0, .ref (yb Y)), (1, vR (yX Y) 0), (2, vR (yZ Y) 0), (3, .ref (yo Y))] [] 662 := by
  have hL := lw_G_L G
  obtain ⟨hc1, hs1⟩ := hcs
  refine la_aload (pc := 662) G 2 dL_law_662 rfl rfl ?_
  refine la_aload (pc := 663) G 1 dL_law_663 rfl rfl ?_
  refine la_iload (pc := 664) G 0 dL_law_664 rfl ?_
  refine la_iconst (pc := 666) G dL_law_666 ?_
  refine la_iadd (pc := 667) G dL_law_667 ?_
  refine la_sld (pc := 668) G (j := i + 1) (by rw [w32_id (by omega)]; omega) (by omega) ha1 dL_law_668 ?_
  refine la_aload (pc := 669) G 1 dL_law_669 rfl rfl ?_
  refine la_iload (pc := 670) G 0 dL_law_670 rfl ?_
  refine la_iconst (pc := 672) G dL_law_672 ?_
  refine la_iadd (pc := 673) G dL_law_673 ?_
  refine la_sld (pc := 674) G (j := i + 2) (by rw [w32_id (by omega)]; omega) (by omega) ha2 dL_law_674 ?_
  refine la_callC (pc := 675) G [vI a1, vI a2] mf_X10_points rfl ml_L_82 (by decide) rfl rfl (Nat.le_of_ble_eq_true rfl) (ok_X10_points (yX Y) h1) (by omega) (by omega) dL_law_675 ?_
  refine la_aload (pc := 678) G 3 dL_law_678 rfl rfl ?_
  refine la_aload (pc := 679) G 1 dL_law_679 rfl rfl ?_
  refine la_iload (pc := 680) G 0 dL_law_680 rfl ?_
  refine la_iconst (pc := 682) G dL_law_682 ?_
  refine la_iadd (pc := 683) G dL_law_683 ?_
  refine la_sld (pc := 684) G (j := i + 1) (by rw [w32_id (by omega)]; omega) (by omega) ha1 dL_law_684 ?_
  refine la_aload (pc := 685) G 1 dL_law_685 rfl rfl ?_
  refine la_iload (pc := 686) G 0 dL_law_686 rfl ?_
  refine la_iconst (pc := 688) G dL_law_688 ?_
  refine la_iadd (pc := 689) G dL_law_689 ?_
  refine la_sld (pc := 690) G (j := i + 2) (by rw [w32_id (by omega)]; omega) (by omega) ha2 dL_law_690 ?_
  refine la_callM (pc := 691) G [vI a1, vI a2] mf_X11_points rfl ml_L_85 (by decide) rfl rfl (Nat.le_of_ble_eq_true rfl) (ok_X11_points (yZ Y) h2) (by omega) (by omega) dL_law_691 ?_
  refine la_icmp_eq (pc := 694) G (tgt := 1693) dL_law_694 (by decide) he ?_
  exact kk
set_option maxRecDepth 100000 in
set_option maxHeartbeats 4000000 in
theorem lk_15 {Y : lw_Yt} (G : lw_G Y) {i : Nat} (hi : i + 5 ≤ yL Y) {a1 : Int} (ha1 : (yx Y (i + 1)).toInt = a1) {a2 : Int} (ha2 : (yx Y (i + 2)).toInt = a2) {Mc Mm : tp_M} {o : Int} {cells slots : Nat} {r1 r2 : Int × tp_M} (h1 : fx_X10_later a1 a2 Mc = some r1) (h2 : fx_X11_later a1 a2 Mm = some r2) (he : w32 r1.1 = w32 r2.1) (hcs : cells ≤ 601024 ∧ slots ≤ 7293033) (kk : tp_L Y r1.2 r2.2 o cells slots [(4, vI (i : Int)), (0, .ref (yb Y)), (1, vR (yX Y) 0), (2, vR (yZ Y) 0), (3, .ref (yo Y))] [] 1693) : tp_L Y Mc Mm o cells slots [(4, vI (i : Int)), (0, .ref (yb Y)), (1, vR (yX Y) 0), (2, vR (yZ Y) 0), (3, .ref (yo Y))] [] 725 := by
  have hL := lw_G_L G
  obtain ⟨hc1, hs1⟩ := hcs
  refine la_aload (pc := 725) G 2 dL_law_725 rfl rfl ?_
  refine la_aload (pc := 726) G 1 dL_law_726 rfl rfl ?_
  refine la_iload (pc := 727) G 0 dL_law_727 rfl ?_
  refine la_iconst (pc := 729) G dL_law_729 ?_
  refine la_iadd (pc := 730) G dL_law_730 ?_
  refine la_sld (pc := 731) G (j := i + 1) (by rw [w32_id (by omega)]; omega) (by omega) ha1 dL_law_731 ?_
  refine la_aload (pc := 732) G 1 dL_law_732 rfl rfl ?_
  refine la_iload (pc := 733) G 0 dL_law_733 rfl ?_
  refine la_iconst (pc := 735) G dL_law_735 ?_
  refine la_iadd (pc := 736) G dL_law_736 ?_
  refine la_sld (pc := 737) G (j := i + 2) (by rw [w32_id (by omega)]; omega) (by omega) ha2 dL_law_737 ?_
  refine la_callC (pc := 738) G [vI a1, vI a2] mf_X10_later rfl ml_L_94 (by decide) rfl rfl (Nat.le_of_ble_eq_true rfl) (ok_X10_later (yX Y) h1) (by omega) (by omega) dL_law_738 ?_
  refine la_aload (pc := 741) G 3 dL_law_741 rfl rfl ?_
  refine la_aload (pc := 742) G 1 dL_law_742 rfl rfl ?_
  refine la_iload (pc := 743) G 0 dL_law_743 rfl ?_
  refine la_iconst (pc := 745) G dL_law_745 ?_
  refine la_iadd (pc := 746) G dL_law_746 ?_
  refine la_sld (pc := 747) G (j := i + 1) (by rw [w32_id (by omega)]; omega) (by omega) ha1 dL_law_747 ?_
  refine la_aload (pc := 748) G 1 dL_law_748 rfl rfl ?_
  refine la_iload (pc := 749) G 0 dL_law_749 rfl ?_
  refine la_iconst (pc := 751) G dL_law_751 ?_
  refine la_iadd (pc := 752) G dL_law_752 ?_
  refine la_sld (pc := 753) G (j := i + 2) (by rw [w32_id (by omega)]; omega) (by omega) ha2 dL_law_753 ?_
  refine la_callM (pc := 754) G [vI a1, vI a2] mf_X11_later rfl ml_L_97 (by decide) rfl rfl (Nat.le_of_ble_eq_true rfl) (ok_X11_later (yZ Y) h2) (by omega) (by omega) dL_law_754 ?_
  refine la_icmp_eq (pc := 757) G (tgt := 1693) dL_law_757 (by decide) he ?_
  exact kk
set_option maxRecDepth 100000 in
set_option maxHeartbeats 4000000 in
theorem lk_18 {Y : lw_Yt} (G : lw_G Y) {i : Nat} (hi : i + 5 ≤ yL Y) {a1 : Int} (ha1 : (yx Y (i + 1)).toInt = a1) {Mc Mm : tp_M} {o : Int} {cells slots : Nat} {r1 r2 : Int × tp_M} (h1 : fx_X10_round a1 Mc = some r1) (h2 : fx_X11_round a1 Mm = some r2) (he : w32 r1.1 = w32 r2.1) (hcs : cells ≤ 601024 ∧ slots ≤ 7293033) (kk : tp_L Y r1.2 r2.2 o cells slots [(4, vI (i : Int)), (0, .ref (yb Y)), (1, vR (yX Y) 0), (2, vR (yZ Y) 0), (3, .ref (yo Y))] [] 1693) : tp_L Y Mc Mm o cells slots [(4, vI (i : Int)), (0, .ref (yb Y)), (1, vR (yX Y) 0), (2, vR (yZ Y) 0), (3, .ref (yo Y))] [] 836 := by
  have hL := lw_G_L G
  obtain ⟨hc1, hs1⟩ := hcs
  refine la_aload (pc := 836) G 2 dL_law_836 rfl rfl ?_
  refine la_aload (pc := 837) G 1 dL_law_837 rfl rfl ?_
  refine la_iload (pc := 838) G 0 dL_law_838 rfl ?_
  refine la_iconst (pc := 840) G dL_law_840 ?_
  refine la_iadd (pc := 841) G dL_law_841 ?_
  refine la_sld (pc := 842) G (j := i + 1) (by rw [w32_id (by omega)]; omega) (by omega) ha1 dL_law_842 ?_
  refine la_callC (pc := 843) G [vI a1] mf_X10_round rfl ml_L_107 (by decide) rfl rfl (Nat.le_of_ble_eq_true rfl) (ok_X10_round (yX Y) h1) (by omega) (by omega) dL_law_843 ?_
  refine la_aload (pc := 846) G 3 dL_law_846 rfl rfl ?_
  refine la_aload (pc := 847) G 1 dL_law_847 rfl rfl ?_
  refine la_iload (pc := 848) G 0 dL_law_848 rfl ?_
  refine la_iconst (pc := 850) G dL_law_850 ?_
  refine la_iadd (pc := 851) G dL_law_851 ?_
  refine la_sld (pc := 852) G (j := i + 1) (by rw [w32_id (by omega)]; omega) (by omega) ha1 dL_law_852 ?_
  refine la_callM (pc := 853) G [vI a1] mf_X11_round rfl ml_L_110 (by decide) rfl rfl (Nat.le_of_ble_eq_true rfl) (ok_X11_round (yZ Y) h2) (by omega) (by omega) dL_law_853 ?_
  refine la_icmp_eq (pc := 856) G (tgt := 1693) dL_law_856 (by decide) he ?_
  exact kk
set_option maxRecDepth 100000 in
set_option maxHeartbeats 4000000 in
theorem lk_21 {Y : lw_Yt} (G : lw_G Y) {i : Nat} (hi : i + 5 ≤ yL Y)  {Mc Mm : tp_M} {o : Int} {cells slots : Nat} {r1 r2 : Int × tp_M} (h1 : fx_X10_trees  Mc = some r1) (h2 : fx_X11_trees  Mm = some r2) (he : w32 r1.1 = w32 r2.1) (hcs : cells ≤ 601024 ∧ slots ≤ 7293033) (kk : tp_L Y r1.2 r2.2 o cells slots [(4, vI (i : Int)), (0, .ref (yb Y)), (1, vR (yX Y) 0), (2, vR (yZ Y) 0), (3, .ref (yo Y))] [] 1693) : tp_L Y Mc Mm o cells slots [(4, vI (i : Int)), (0, .ref (yb Y)), (1, vR (yX Y) 0), (2, vR (yZ Y) 0), (3, .ref (yo Y))] [] 899 := by
  have hL := lw_G_L G
  obtain ⟨hc1, hs1⟩ := hcs
  refine la_aload (pc := 899) G 2 dL_law_899 rfl rfl ?_
  refine la_callC (pc := 900) G [] mf_X10_trees rfl ml_L_119 (by decide) rfl rfl (Nat.le_of_ble_eq_true rfl) (ok_X10_trees (yX Y) h1) (by omega) (by omega) dL_law_900 ?_
  refine la_aload (pc := 903) G 3 dL_law_903 rfl rfl ?_
  refine la_callM (pc := 904) G [] mf_X11_trees rfl ml_L_122 (by decide) rfl rfl (Nat.le_of_ble_eq_true rfl) (ok_X11_trees (yZ Y) h2) (by omega) (by omega) dL_law_904 ?_
  refine la_icmp_eq (pc := 907) G (tgt := 1693) dL_law_907 (by decide) he ?_
  exact kk
set_option maxRecDepth 100000 in
set_option maxHeartbeats 4000000 in
theorem lk_24 {Y : lw_Yt} (G : lw_G Y) {i : Nat} (hi : i + 5 ≤ yL Y)  {Mc Mm : tp_M} {o : Int} {cells slots : Nat} {r1 r2 : Int × tp_M} (h1 : fx_X10_mends  Mc = some r1) (h2 : fx_X11_mends  Mm = some r2) (he : w32 r1.1 = w32 r2.1) (hcs : cells ≤ 601024 ∧ slots ≤ 7293033) (kk : tp_L Y r1.2 r2.2 o cells slots [(4, vI (i : Int)), (0, .ref (yb Y)), (1, vR (yX Y) 0), (2, vR (yZ Y) 0), (3, .ref (yo Y))] [] 1693) : tp_L Y Mc Mm o cells slots [(4, vI (i : Int)), (0, .ref (yb Y)), (1, vR (yX Y) 0), (2, vR (yZ Y) 0), (3, .ref (yo Y))] [] 950 := by
  have hL := lw_G_L G
  obtain ⟨hc1, hs1⟩ := hcs
  refine la_aload (pc := 950) G 2 dL_law_950 rfl rfl ?_
  refine la_callC (pc := 951) G [] mf_X10_mends rfl ml_L_131 (by decide) rfl rfl (Nat.le_of_ble_eq_true rfl) (ok_X10_mends (yX Y) h1) (by omega) (by omega) dL_law_951 ?_
  refine la_aload (pc := 954) G 3 dL_law_954 rfl rfl ?_
  refine la_callM (pc := 955) G [] mf_X11_mends rfl ml_L_134 (by decide) rfl rfl (Nat.le_of_ble_eq_true rfl) (ok_X11_mends (yZ Y) h2) (by omega) (by omega) dL_law_955 ?_
  refine la_icmp_eq (pc := 958) G (tgt := 1693) dL_law_958 (by decide) he ?_
  exact kk
set_option maxRecDepth 100000 in
set_option maxHeartbeats 4000000 in
theorem lk_27 {Y : lw_Yt} (G : lw_G Y) {i : Nat} (hi : i + 5 ≤ yL Y) {a1 : Int} (ha1 : (yx Y (i + 1)).toInt = a1) {Mc Mm : tp_M} {o : Int} {cells slots : Nat} {r1 r2 : Int × tp_M} (h1 : fx_X10_parish a1 Mc = some r1) (h2 : fx_X11_parish a1 Mm = some r2) (he : w32 r1.1 = w32 r2.1) (hcs : cells ≤ 601024 ∧ slots ≤ 7293033) (kk : tp_L Y r1.2 r2.2 o cells slots [(4, vI (i : Int)), (0, .ref (yb Y)), (1, vR (yX Y) 0), (2, vR (yZ Y) 0), (3, .ref (yo Y))] [] 1693) : tp_L Y Mc Mm o cells slots [(4, vI (i : Int)), (0, .ref (yb Y)), (1, vR (yX Y) 0), (2, vR (yZ Y) 0), (3, .ref (yo Y))] [] 1025 := by
  have hL := lw_G_L G
  obtain ⟨hc1, hs1⟩ := hcs
  refine la_aload (pc := 1025) G 2 dL_law_1025 rfl rfl ?_
  refine la_aload (pc := 1026) G 1 dL_law_1026 rfl rfl ?_
  refine la_iload (pc := 1027) G 0 dL_law_1027 rfl ?_
  refine la_iconst (pc := 1029) G dL_law_1029 ?_
  refine la_iadd (pc := 1030) G dL_law_1030 ?_
  refine la_sld (pc := 1031) G (j := i + 1) (by rw [w32_id (by omega)]; omega) (by omega) ha1 dL_law_1031 ?_
  refine la_callC (pc := 1032) G [vI a1] mf_X10_parish rfl ml_L_143 (by decide) rfl rfl (Nat.le_of_ble_eq_true rfl) (ok_X10_parish (yX Y) h1) (by omega) (by omega) dL_law_1032 ?_
  refine la_aload (pc := 1035) G 3 dL_law_1035 rfl rfl ?_
  refine la_aload (pc := 1036) G 1 dL_law_1036 rfl rfl ?_
  refine la_iload (pc := 1037) G 0 dL_law_1037 rfl ?_
  refine la_iconst (pc := 1039) G dL_law_1039 ?_
  refine la_iadd (pc := 1040) G dL_law_1040 ?_
  refine la_sld (pc := 1041) G (j := i + 1) (by rw [w32_id (by omega)]; omega) (by omega) ha1 dL_law_1041 ?_
  refine la_callM (pc := 1042) G [vI a1] mf_X11_parish rfl ml_L_146 (by decide) rfl rfl (Nat.le_of_ble_eq_true rfl) (ok_X11_parish (yZ Y) h2) (by omega) (by omega) dL_law_1042 ?_
  refine la_icmp_eq (pc := 1045) G (tgt := 1693) dL_law_1045 (by decide) he ?_
  exact kk
set_option maxRecDepth 100000 in
set_option maxHeartbeats 4000000 in
theorem lk_30 {Y : lw_Yt} (G : lw_G Y) {i : Nat} (hi : i + 5 ≤ yL Y) {a1 : Int} (ha1 : (yx Y (i + 1)).toInt = a1) {a2 : Int} (ha2 : (yx Y (i + 2)).toInt = a2) {a3 : Int} (ha3 : (yx Y (i + 3)).toInt = a3) {Mc Mm : tp_M} {o : Int} {cells slots : Nat} {r1 r2 : Int × tp_M} (h1 : fx_X10_odds a1 a2 a3 Mc = some r1) (h2 : fx_X11_odds a1 a2 a3 Mm = some r2) (he : w32 r1.1 = w32 r2.1) (hcs : cells ≤ 601024 ∧ slots ≤ 7293033) (kk : tp_L Y r1.2 r2.2 o cells slots [(4, vI (i : Int)), (0, .ref (yb Y)), (1, vR (yX Y) 0), (2, vR (yZ Y) 0), (3, .ref (yo Y))] [] 1693) : tp_L Y Mc Mm o cells slots [(4, vI (i : Int)), (0, .ref (yb Y)), (1, vR (yX Y) 0), (2, vR (yZ Y) 0), (3, .ref (yo Y))] [] 1112 := by
  have hL := lw_G_L G
  obtain ⟨hc1, hs1⟩ := hcs
  refine la_aload (pc := 1112) G 2 dL_law_1112 rfl rfl ?_
  refine la_aload (pc := 1113) G 1 dL_law_1113 rfl rfl ?_
  refine la_iload (pc := 1114) G 0 dL_law_1114 rfl ?_
  refine la_iconst (pc := 1116) G dL_law_1116 ?_
  refine la_iadd (pc := 1117) G dL_law_1117 ?_
  refine la_sld (pc := 1118) G (j := i + 1) (by rw [w32_id (by omega)]; omega) (by omega) ha1 dL_law_1118 ?_
  refine la_aload (pc := 1119) G 1 dL_law_1119 rfl rfl ?_
  refine la_iload (pc := 1120) G 0 dL_law_1120 rfl ?_
  refine la_iconst (pc := 1122) G dL_law_1122 ?_
  refine la_iadd (pc := 1123) G dL_law_1123 ?_
  refine la_sld (pc := 1124) G (j := i + 2) (by rw [w32_id (by omega)]; omega) (by omega) ha2 dL_law_1124 ?_
  refine la_aload (pc := 1125) G 1 dL_law_1125 rfl rfl ?_
  refine la_iload (pc := 1126) G 0 dL_law_1126 rfl ?_
  refine la_iconst (pc := 1128) G dL_law_1128 ?_
  refine la_iadd (pc := 1129) G dL_law_1129 ?_
  refine la_sld (pc := 1130) G (j := i + 3) (by rw [w32_id (by omega)]; omega) (by omega) ha3 dL_law_1130 ?_
  refine la_callC (pc := 1131) G [vI a1, vI a2, vI a3] mf_X10_odds rfl ml_L_155 (by decide) rfl rfl (Nat.le_of_ble_eq_true rfl) (ok_X10_odds (yX Y) h1) (by omega) (by omega) dL_law_1131 ?_
  refine la_aload (pc := 1134) G 3 dL_law_1134 rfl rfl ?_
  refine la_aload (pc := 1135) G 1 dL_law_1135 rfl rfl ?_
  refine la_iload (pc := 1136) G 0 dL_law_1136 rfl ?_
  refine la_iconst (pc := 1138) G dL_law_1138 ?_
  refine la_iadd (pc := 1139) G dL_law_1139 ?_
  refine la_sld (pc := 1140) G (j := i + 1) (by rw [w32_id (by omega)]; omega) (by omega) ha1 dL_law_1140 ?_
  refine la_aload (pc := 1141) G 1 dL_law_1141 rfl rfl ?_
  refine la_iload (pc := 1142) G 0 dL_law_1142 rfl ?_
  refine la_iconst (pc := 1144) G dL_law_1144 ?_
  refine la_iadd (pc := 1145) G dL_law_1145 ?_
  refine la_sld (pc := 1146) G (j := i + 2) (by rw [w32_id (by omega)]; omega) (by omega) ha2 dL_law_1146 ?_
  refine la_aload (pc := 1147) G 1 dL_law_1147 rfl rfl ?_
  refine la_iload (pc := 1148) G 0 dL_law_1148 rfl ?_
  refine la_iconst (pc := 1150) G dL_law_1150 ?_
  refine la_iadd (pc := 1151) G dL_law_1151 ?_
  refine la_sld (pc := 1152) G (j := i + 3) (by rw [w32_id (by omega)]; omega) (by omega) ha3 dL_law_1152 ?_
  refine la_callM (pc := 1153) G [vI a1, vI a2, vI a3] mf_X11_odds rfl ml_L_158 (by decide) rfl rfl (Nat.le_of_ble_eq_true rfl) (ok_X11_odds (yZ Y) h2) (by omega) (by omega) dL_law_1153 ?_
  refine la_icmp_eq (pc := 1156) G (tgt := 1693) dL_law_1156 (by decide) he ?_
  exact kk
set_option maxRecDepth 100000 in
set_option maxHeartbeats 4000000 in
theorem lk_33 {Y : lw_Yt} (G : lw_G Y) {i : Nat} (hi : i + 5 ≤ yL Y)  {Mc Mm : tp_M} {o : Int} {cells slots : Nat} {r1 r2 : Int × tp_M} (h1 : fx_X10_returns  Mc = some r1) (h2 : fx_X11_returns  Mm = some r2) (he : w32 r1.1 = w32 r2.1) (hcs : cells ≤ 601024 ∧ slots ≤ 7293033) (kk : tp_L Y r1.2 r2.2 o cells slots [(4, vI (i : Int)), (0, .ref (yb Y)), (1, vR (yX Y) 0), (2, vR (yZ Y) 0), (3, .ref (yo Y))] [] 1693) : tp_L Y Mc Mm o cells slots [(4, vI (i : Int)), (0, .ref (yb Y)), (1, vR (yX Y) 0), (2, vR (yZ Y) 0), (3, .ref (yo Y))] [] 1187 := by
  have hL := lw_G_L G
  obtain ⟨hc1, hs1⟩ := hcs
  refine la_aload (pc := 1187) G 2 dL_law_1187 rfl rfl ?_
  refine la_callC (pc := 1188) G [] mf_X10_returns rfl ml_L_167 (by decide) rfl rfl (Nat.le_of_ble_eq_true rfl) (ok_X10_returns (yX Y) h1) (by omega) (by omega) dL_law_1188 ?_
  refine la_aload (pc := 1191) G 3 dL_law_1191 rfl rfl ?_
  refine la_callM (pc := 1192) G [] mf_X11_returns rfl ml_L_170 (by decide) rfl rfl (Nat.le_of_ble_eq_true rfl) (ok_X11_returns (yZ Y) h2) (by omega) (by omega) dL_law_1192 ?_
  refine la_icmp_eq (pc := 1195) G (tgt := 1693) dL_law_1195 (by decide) he ?_
  exact kk
set_option maxRecDepth 100000 in
set_option maxHeartbeats 4000000 in
theorem lk_36 {Y : lw_Yt} (G : lw_G Y) {i : Nat} (hi : i + 5 ≤ yL Y)  {Mc Mm : tp_M} {o : Int} {cells slots : Nat} {r1 r2 : Int × tp_M} (h1 : fx_X10_trigger  Mc = some r1) (h2 : fx_X11_trigger  Mm = some r2) (he : w32 r1.1 = w32 r2.1) (hcs : cells ≤ 601024 ∧ slots ≤ 7293033) (kk : tp_L Y r1.2 r2.2 o cells slots [(4, vI (i : Int)), (0, .ref (yb Y)), (1, vR (yX Y) 0), (2, vR (yZ Y) 0), (3, .ref (yo Y))] [] 1693) : tp_L Y Mc Mm o cells slots [(4, vI (i : Int)), (0, .ref (yb Y)), (1, vR (yX Y) 0), (2, vR (yZ Y) 0), (3, .ref (yo Y))] [] 1250 := by
  have hL := lw_G_L G
  obtain ⟨hc1, hs1⟩ := hcs
  refine la_aload (pc := 1250) G 2 dL_law_1250 rfl rfl ?_
  refine la_callC (pc := 1251) G [] mf_X10_trigger rfl ml_L_179 (by decide) rfl rfl (Nat.le_of_ble_eq_true rfl) (ok_X10_trigger (yX Y) h1) (by omega) (by omega) dL_law_1251 ?_
  refine la_aload (pc := 1254) G 3 dL_law_1254 rfl rfl ?_
  refine la_callM (pc := 1255) G [] mf_X11_trigger rfl ml_L_182 (by decide) rfl rfl (Nat.le_of_ble_eq_true rfl) (ok_X11_trigger (yZ Y) h2) (by omega) (by omega) dL_law_1255 ?_
  refine la_icmp_eq (pc := 1258) G (tgt := 1693) dL_law_1258 (by decide) he ?_
  exact kk
set_option maxRecDepth 100000 in
set_option maxHeartbeats 4000000 in
theorem lk_39 {Y : lw_Yt} (G : lw_G Y) {i : Nat} (hi : i + 5 ≤ yL Y) {a1 : Int} (ha1 : (yx Y (i + 1)).toInt = a1) {Mc Mm : tp_M} {o : Int} {cells slots : Nat} {r1 r2 : Int × tp_M} (h1 : fx_X10_guess a1 Mc = some r1) (h2 : fx_X11_guess a1 Mm = some r2) (he : w32 r1.1 = w32 r2.1) (hcs : cells ≤ 601024 ∧ slots ≤ 7293033) (kk : tp_L Y r1.2 r2.2 o cells slots [(4, vI (i : Int)), (0, .ref (yb Y)), (1, vR (yX Y) 0), (2, vR (yZ Y) 0), (3, .ref (yo Y))] [] 1693) : tp_L Y Mc Mm o cells slots [(4, vI (i : Int)), (0, .ref (yb Y)), (1, vR (yX Y) 0), (2, vR (yZ Y) 0), (3, .ref (yo Y))] [] 1325 := by
  have hL := lw_G_L G
  obtain ⟨hc1, hs1⟩ := hcs
  refine la_aload (pc := 1325) G 2 dL_law_1325 rfl rfl ?_
  refine la_aload (pc := 1326) G 1 dL_law_1326 rfl rfl ?_
  refine la_iload (pc := 1327) G 0 dL_law_1327 rfl ?_
  refine la_iconst (pc := 1329) G dL_law_1329 ?_
  refine la_iadd (pc := 1330) G dL_law_1330 ?_
  refine la_sld (pc := 1331) G (j := i + 1) (by rw [w32_id (by omega)]; omega) (by omega) ha1 dL_law_1331 ?_
  refine la_callC (pc := 1332) G [vI a1] mf_X10_guess rfl ml_L_191 (by decide) rfl rfl (Nat.le_of_ble_eq_true rfl) (ok_X10_guess (yX Y) h1) (by omega) (by omega) dL_law_1332 ?_
  refine la_aload (pc := 1335) G 3 dL_law_1335 rfl rfl ?_
  refine la_aload (pc := 1336) G 1 dL_law_1336 rfl rfl ?_
  refine la_iload (pc := 1337) G 0 dL_law_1337 rfl ?_
  refine la_iconst (pc := 1339) G dL_law_1339 ?_
  refine la_iadd (pc := 1340) G dL_law_1340 ?_
  refine la_sld (pc := 1341) G (j := i + 1) (by rw [w32_id (by omega)]; omega) (by omega) ha1 dL_law_1341 ?_
  refine la_callM (pc := 1342) G [vI a1] mf_X11_guess rfl ml_L_194 (by decide) rfl rfl (Nat.le_of_ble_eq_true rfl) (ok_X11_guess (yZ Y) h2) (by omega) (by omega) dL_law_1342 ?_
  refine la_icmp_eq (pc := 1345) G (tgt := 1693) dL_law_1345 (by decide) he ?_
  exact kk
set_option maxRecDepth 100000 in
set_option maxHeartbeats 4000000 in
theorem lk_42 {Y : lw_Yt} (G : lw_G Y) {i : Nat} (hi : i + 5 ≤ yL Y)  {Mc Mm : tp_M} {o : Int} {cells slots : Nat} {r1 r2 : Int × tp_M} (h1 : fx_X10_denies  Mc = some r1) (h2 : fx_X11_denies  Mm = some r2) (he : w32 r1.1 = w32 r2.1) (hcs : cells ≤ 601024 ∧ slots ≤ 7293033) (kk : tp_L Y r1.2 r2.2 o cells slots [(4, vI (i : Int)), (0, .ref (yb Y)), (1, vR (yX Y) 0), (2, vR (yZ Y) 0), (3, .ref (yo Y))] [] 1693) : tp_L Y Mc Mm o cells slots [(4, vI (i : Int)), (0, .ref (yb Y)), (1, vR (yX Y) 0), (2, vR (yZ Y) 0), (3, .ref (yo Y))] [] 1412 := by
  have hL := lw_G_L G
  obtain ⟨hc1, hs1⟩ := hcs
  refine la_aload (pc := 1412) G 2 dL_law_1412 rfl rfl ?_
  refine la_callC (pc := 1413) G [] mf_X10_denies rfl ml_L_203 (by decide) rfl rfl (Nat.le_of_ble_eq_true rfl) (ok_X10_denies (yX Y) h1) (by omega) (by omega) dL_law_1413 ?_
  refine la_aload (pc := 1416) G 3 dL_law_1416 rfl rfl ?_
  refine la_callM (pc := 1417) G [] mf_X11_denies rfl ml_L_206 (by decide) rfl rfl (Nat.le_of_ble_eq_true rfl) (ok_X11_denies (yZ Y) h2) (by omega) (by omega) dL_law_1417 ?_
  refine la_icmp_eq (pc := 1420) G (tgt := 1693) dL_law_1420 (by decide) he ?_
  exact kk
set_option maxRecDepth 100000 in
set_option maxHeartbeats 4000000 in
theorem lk_45 {Y : lw_Yt} (G : lw_G Y) {i : Nat} (hi : i + 5 ≤ yL Y) {a1 : Int} (ha1 : (yx Y (i + 1)).toInt = a1) {a2 : Int} (ha2 : (yx Y (i + 2)).toInt = a2) {Mc Mm : tp_M} {o : Int} {cells slots : Nat} {r1 r2 : Int × tp_M} (h1 : fx_X10_crowds a1 a2 Mc = some r1) (h2 : fx_X11_crowds a1 a2 Mm = some r2) (he : w32 r1.1 = w32 r2.1) (hcs : cells ≤ 601024 ∧ slots ≤ 7293033) (kk : tp_L Y r1.2 r2.2 o cells slots [(4, vI (i : Int)), (0, .ref (yb Y)), (1, vR (yX Y) 0), (2, vR (yZ Y) 0), (3, .ref (yo Y))] [] 1693) : tp_L Y Mc Mm o cells slots [(4, vI (i : Int)), (0, .ref (yb Y)), (1, vR (yX Y) 0), (2, vR (yZ Y) 0), (3, .ref (yo Y))] [] 1451 := by
  have hL := lw_G_L G
  obtain ⟨hc1, hs1⟩ := hcs
  refine la_aload (pc := 1451) G 2 dL_law_1451 rfl rfl ?_
  refine la_aload (pc := 1452) G 1 dL_law_1452 rfl rfl ?_
  refine la_iload (pc := 1453) G 0 dL_law_1453 rfl ?_
  refine la_iconst (pc := 1455) G dL_law_1455 ?_
  refine la_iadd (pc := 1456) G dL_law_1456 ?_
  refine la_sld (pc := 1457) G (j := i + 1) (by rw [w32_id (by omega)]; omega) (by omega) ha1 dL_law_1457 ?_
  refine la_aload (pc := 1458) G 1 dL_law_1458 rfl rfl ?_
  refine la_iload (pc := 1459) G 0 dL_law_1459 rfl ?_
  refine la_iconst (pc := 1461) G dL_law_1461 ?_
  refine la_iadd (pc := 1462) G dL_law_1462 ?_
  refine la_sld (pc := 1463) G (j := i + 2) (by rw [w32_id (by omega)]; omega) (by omega) ha2 dL_law_1463 ?_
  refine la_callC (pc := 1464) G [vI a1, vI a2] mf_X10_crowds rfl ml_L_215 (by decide) rfl rfl (Nat.le_of_ble_eq_true rfl) (ok_X10_crowds (yX Y) h1) (by omega) (by omega) dL_law_1464 ?_
  refine la_aload (pc := 1467) G 3 dL_law_1467 rfl rfl ?_
  refine la_aload (pc := 1468) G 1 dL_law_1468 rfl rfl ?_
  refine la_iload (pc := 1469) G 0 dL_law_1469 rfl ?_
  refine la_iconst (pc := 1471) G dL_law_1471 ?_
  refine la_iadd (pc := 1472) G dL_law_1472 ?_
  refine la_sld (pc := 1473) G (j := i + 1) (by rw [w32_id (by omega)]; omega) (by omega) ha1 dL_law_1473 ?_
  refine la_aload (pc := 1474) G 1 dL_law_1474 rfl rfl ?_
  refine la_iload (pc := 1475) G 0 dL_law_1475 rfl ?_
  refine la_iconst (pc := 1477) G dL_law_1477 ?_
  refine la_iadd (pc := 1478) G dL_law_1478 ?_
  refine la_sld (pc := 1479) G (j := i + 2) (by rw [w32_id (by omega)]; omega) (by omega) ha2 dL_law_1479 ?_
  refine la_callM (pc := 1480) G [vI a1, vI a2] mf_X11_crowds rfl ml_L_218 (by decide) rfl rfl (Nat.le_of_ble_eq_true rfl) (ok_X11_crowds (yZ Y) h2) (by omega) (by omega) dL_law_1480 ?_
  refine la_icmp_eq (pc := 1483) G (tgt := 1693) dL_law_1483 (by decide) he ?_
  exact kk
set_option maxRecDepth 100000 in
set_option maxHeartbeats 4000000 in
theorem lk_48 {Y : lw_Yt} (G : lw_G Y) {i : Nat} (hi : i + 5 ≤ yL Y) {a1 : Int} (ha1 : (yx Y (i + 1)).toInt = a1) {a2 : Int} (ha2 : (yx Y (i + 2)).toInt = a2) {Mc Mm : tp_M} {o : Int} {cells slots : Nat} {r1 r2 : Int × tp_M} (h1 : fx_X10_years a1 a2 Mc = some r1) (h2 : fx_X11_years a1 a2 Mm = some r2) (he : w32 r1.1 = w32 r2.1) (hcs : cells ≤ 601024 ∧ slots ≤ 7293033) (kk : tp_L Y r1.2 r2.2 o cells slots [(4, vI (i : Int)), (0, .ref (yb Y)), (1, vR (yX Y) 0), (2, vR (yZ Y) 0), (3, .ref (yo Y))] [] 1693) : tp_L Y Mc Mm o cells slots [(4, vI (i : Int)), (0, .ref (yb Y)), (1, vR (yX Y) 0), (2, vR (yZ Y) 0), (3, .ref (yo Y))] [] 1526 := by
  have hL := lw_G_L G
  obtain ⟨hc1, hs1⟩ := hcs
  refine la_aload (pc := 1526) G 2 dL_law_1526 rfl rfl ?_
  refine la_aload (pc := 1527) G 1 dL_law_1527 rfl rfl ?_
  refine la_iload (pc := 1528) G 0 dL_law_1528 rfl ?_
  refine la_iconst (pc := 1530) G dL_law_1530 ?_
  refine la_iadd (pc := 1531) G dL_law_1531 ?_
  refine la_sld (pc := 1532) G (j := i + 1) (by rw [w32_id (by omega)]; omega) (by omega) ha1 dL_law_1532 ?_
  refine la_aload (pc := 1533) G 1 dL_law_1533 rfl rfl ?_
  refine la_iload (pc := 1534) G 0 dL_law_1534 rfl ?_
  refine la_iconst (pc := 1536) G dL_law_1536 ?_
  refine la_iadd (pc := 1537) G dL_law_1537 ?_
  refine la_sld (pc := 1538) G (j := i + 2) (by rw [w32_id (by omega)]; omega) (by omega) ha2 dL_law_1538 ?_
  refine la_callC (pc := 1539) G [vI a1, vI a2] mf_X10_years rfl ml_L_227 (by decide) rfl rfl (Nat.le_of_ble_eq_true rfl) (ok_X10_years (yX Y) h1) (by omega) (by omega) dL_law_1539 ?_
  refine la_aload (pc := 1542) G 3 dL_law_1542 rfl rfl ?_
  refine la_aload (pc := 1543) G 1 dL_law_1543 rfl rfl ?_
  refine la_iload (pc := 1544) G 0 dL_law_1544 rfl ?_
  refine la_iconst (pc := 1546) G dL_law_1546 ?_
  refine la_iadd (pc := 1547) G dL_law_1547 ?_
  refine la_sld (pc := 1548) G (j := i + 1) (by rw [w32_id (by omega)]; omega) (by omega) ha1 dL_law_1548 ?_
  refine la_aload (pc := 1549) G 1 dL_law_1549 rfl rfl ?_
  refine la_iload (pc := 1550) G 0 dL_law_1550 rfl ?_
  refine la_iconst (pc := 1552) G dL_law_1552 ?_
  refine la_iadd (pc := 1553) G dL_law_1553 ?_
  refine la_sld (pc := 1554) G (j := i + 2) (by rw [w32_id (by omega)]; omega) (by omega) ha2 dL_law_1554 ?_
  refine la_callM (pc := 1555) G [vI a1, vI a2] mf_X11_years rfl ml_L_230 (by decide) rfl rfl (Nat.le_of_ble_eq_true rfl) (ok_X11_years (yZ Y) h2) (by omega) (by omega) dL_law_1555 ?_
  refine la_icmp_eq (pc := 1558) G (tgt := 1693) dL_law_1558 (by decide) he ?_
  exact kk
set_option maxRecDepth 100000 in
set_option maxHeartbeats 4000000 in
theorem lk_51 {Y : lw_Yt} (G : lw_G Y) {i : Nat} (hi : i + 5 ≤ yL Y) {a1 : Int} (ha1 : (yx Y (i + 1)).toInt = a1) {Mc Mm : tp_M} {o : Int} {cells slots : Nat} {r1 r2 : Int × tp_M} (h1 : fx_X10_count a1 Mc = some r1) (h2 : fx_X11_count a1 Mm = some r2) (he : w32 r1.1 = w32 r2.1) (hcs : cells ≤ 601024 ∧ slots ≤ 7293033) (kk : tp_L Y r1.2 r2.2 o cells slots [(4, vI (i : Int)), (0, .ref (yb Y)), (1, vR (yX Y) 0), (2, vR (yZ Y) 0), (3, .ref (yo Y))] [] 1693) : tp_L Y Mc Mm o cells slots [(4, vI (i : Int)), (0, .ref (yb Y)), (1, vR (yX Y) 0), (2, vR (yZ Y) 0), (3, .ref (yo Y))] [] 1613 := by
  have hL := lw_G_L G
  obtain ⟨hc1, hs1⟩ := hcs
  refine la_aload (pc := 1613) G 2 dL_law_1613 rfl rfl ?_
  refine la_aload (pc := 1614) G 1 dL_law_1614 rfl rfl ?_
  refine la_iload (pc := 1615) G 0 dL_law_1615 rfl ?_
  refine la_iconst (pc := 1617) G dL_law_1617 ?_
  refine la_iadd (pc := 1618) G dL_law_1618 ?_
  refine la_sld (pc := 1619) G (j := i + 1) (by rw [w32_id (by omega)]; omega) (by omega) ha1 dL_law_1619 ?_
  refine la_callC (pc := 1620) G [vI a1] mf_X10_count rfl ml_L_239 (by decide) rfl rfl (Nat.le_of_ble_eq_true rfl) (ok_X10_count (yX Y) h1) (by omega) (by omega) dL_law_1620 ?_
  refine la_aload (pc := 1623) G 3 dL_law_1623 rfl rfl ?_
  refine la_aload (pc := 1624) G 1 dL_law_1624 rfl rfl ?_
  refine la_iload (pc := 1625) G 0 dL_law_1625 rfl ?_
  refine la_iconst (pc := 1627) G dL_law_1627 ?_
  refine la_iadd (pc := 1628) G dL_law_1628 ?_
  refine la_sld (pc := 1629) G (j := i + 1) (by rw [w32_id (by omega)]; omega) (by omega) ha1 dL_law_1629 ?_
  refine la_callM (pc := 1630) G [vI a1] mf_X11_count rfl ml_L_242 (by decide) rfl rfl (Nat.le_of_ble_eq_true rfl) (ok_X11_count (yZ Y) h2) (by omega) (by omega) dL_law_1630 ?_
  refine la_icmp_eq (pc := 1633) G (tgt := 1693) dL_law_1633 (by decide) he ?_
  exact kk
