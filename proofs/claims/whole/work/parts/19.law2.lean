set_option maxRecDepth 100000 in
set_option maxHeartbeats 4000000 in
theorem lk_1 {Y : lw_Yt} (G : lw_G Y) {i : Nat} (hi : i + 5 ≤ yL Y) {a1 : Int} (ha1 : (yx Y (i + 1)).toInt = a1) {Mc Mm : tp_M} {o : Int} {cells slots : Nat} {r1 r2 : Int × tp_M} (h1 : fx_X10_end a1 Mc = some r1) (h2 : fx_X11_end a1 Mm = some r2) (he : w32 r1.1 = w32 r2.1) (hcs : cells ≤ 601024 ∧ slots ≤ 7293033) (kk : tp_L Y r1.2 r2.2 o cells slots [(4, vI (i : Int)), (0, .ref (yb Y)), (1, vR (yX Y) 0), (2, vR (yZ Y) 0), (3, .ref (yo Y))] [] 1693) : tp_L Y Mc Mm o cells slots [(4, vI (i : Int)), (0, .ref (yb Y)), (1, vR (yX Y) 0), (2, vR (yZ Y) 0), (3, .ref (yo Y))] [] 289 := by
  have hL := lw_G_L G
  obtain ⟨hc1, hs1⟩ := hcs
  refine la_aload (pc := 289) G 2 dL_law_289 rfl rfl ?_
  refine la_aload (pc := 290) G 1 dL_law_290 rfl rfl ?_
  refine la_iload (pc := 291) G 0 dL_law_291 rfl ?_
  refine la_iconst (pc := 293) G dL_law_293 ?_
  refine la_iadd (pc := 294) G dL_law_294 ?_
  refine la_sld (pc := 295) G (j := i + 1) (by rw [w32_id (by omega)]; omega) (by omega) ha1 dL_law_295 ?_
  refine la_callC (pc := 296) G [vI a1] mf_X10_end rfl ml_L_31 (by decide) rfl rfl (Nat.le_of_ble_eq_true rfl) (ok_X10_end (yX Y) h1) (by omega) (by omega) dL_law_296 ?_
  refine la_aload (pc := 299) G 3 dL_law_299 rfl rfl ?_
  refine la_aload (pc := 300) G 1 dL_law_300 rfl rfl ?_
  refine la_iload (pc := 301) G 0 dL_law_301 rfl ?_
  refine la_iconst (pc := 303) G dL_law_303 ?_
  refine la_iadd (pc := 304) G dL_law_304 ?_
  refine la_sld (pc := 305) G (j := i + 1) (by rw [w32_id (by omega)]; omega) (by omega) ha1 dL_law_305 ?_
  refine la_callM (pc := 306) G [vI a1] mf_X11_end rfl ml_L_35 (by decide) rfl rfl (Nat.le_of_ble_eq_true rfl) (ok_X11_end (yZ Y) h2) (by omega) (by omega) dL_law_306 ?_
  refine la_icmp_eq (pc := 309) G (tgt := 1693) dL_law_309 (by decide) he ?_
  exact kk
set_option maxRecDepth 100000 in
set_option maxHeartbeats 4000000 in
theorem lk_4 {Y : lw_Yt} (G : lw_G Y) {i : Nat} (hi : i + 5 ≤ yL Y) {a1 : Int} (ha1 : (yx Y (i + 1)).toInt = a1) {a2 : Int} (ha2 : (yx Y (i + 2)).toInt = a2) {Mc Mm : tp_M} {o : Int} {cells slots : Nat} {r1 r2 r3 : Int × tp_M} (h1 : fx_X10_post a1 a2 Mc = some r1) (h2 : fx_X11_post a1 a2 Mm = some r2) (h3 : fx_X11_thrown  r2.2 = some r3) (he9 : w32 r3.1 = if r1.1 = tp_TH then 1 else 0) (hv : r1.1 ≠ tp_TH → w32 r1.1 = w32 r2.1) (hcs : cells + 1 ≤ 601024 ∧ slots + 6 ≤ 7293033) (kk : ∀ o2 : Int, tp_L Y r1.2 r3.2 o2 (cells + 1) (slots + 6) [(4, vI (i : Int)), (0, .ref (yb Y)), (1, vR (yX Y) 0), (2, vR (yZ Y) 0), (3, .ref (yo Y))] [] 1693) : tp_L Y Mc Mm o cells slots [(4, vI (i : Int)), (0, .ref (yb Y)), (1, vR (yX Y) 0), (2, vR (yZ Y) 0), (3, .ref (yo Y))] [] 340 := by
  have hL := lw_G_L G
  obtain ⟨hc1, hs1⟩ := hcs
  have he : w32 r3.1 = w32 (if r1.1 = tp_TH then 1 else 0) := by
    rw [he9]
    split <;> rfl
  refine la_aload (pc := 340) G 2 dL_law_340 rfl rfl ?_
  refine la_aload (pc := 341) G 1 dL_law_341 rfl rfl ?_
  refine la_iload (pc := 342) G 0 dL_law_342 rfl ?_
  refine la_iconst (pc := 344) G dL_law_344 ?_
  refine la_iadd (pc := 345) G dL_law_345 ?_
  refine la_sld (pc := 346) G (j := i + 1) (by rw [w32_id (by omega)]; omega) (by omega) ha1 dL_law_346 ?_
  refine la_aload (pc := 347) G 1 dL_law_347 rfl rfl ?_
  refine la_iload (pc := 348) G 0 dL_law_348 rfl ?_
  refine la_iconst (pc := 350) G dL_law_350 ?_
  refine la_iadd (pc := 351) G dL_law_351 ?_
  refine la_sld (pc := 352) G (j := i + 2) (by rw [w32_id (by omega)]; omega) (by omega) ha2 dL_law_352 ?_
  refine la_aload (pc := 353) G 4 dL_law_353 rfl rfl ?_
  refine la_callH (pc := 354) G (n := 4) [vR (yX Y) 0, vI a1, vI a2, .ref (yo Y)] mc_L_post ms_L_post mi_L (by decide +kernel) (by decide) ml_L_45 (by decide) rfl rfl (Nat.le_of_ble_eq_true rfl) (help_post (yX Y) (lw_G_T G) (lw_G_o G) h1) (by omega) (by omega) dL_law_354 ?_
  refine la_istore (pc := 357) G dL_law_357 (by decide) rfl ?_
  refine la_aload (pc := 359) G 4 dL_law_359 rfl rfl ?_
  refine la_aload (pc := 360) G 2 dL_law_360 rfl rfl ?_
  refine la_iload (pc := 361) G 1 dL_law_361 rfl ?_
  refine la_iconst (pc := 363) G dL_law_363 ?_
  refine la_iadd (pc := 364) G dL_law_364 ?_
  refine la_sld (pc := 365) G (j := i + 1) (by rw [w32_id (by omega)]; omega) (by omega) ha1 dL_law_365 ?_
  refine la_aload (pc := 366) G 2 dL_law_366 rfl rfl ?_
  refine la_iload (pc := 367) G 1 dL_law_367 rfl ?_
  refine la_iconst (pc := 369) G dL_law_369 ?_
  refine la_iadd (pc := 370) G dL_law_370 ?_
  refine la_sld (pc := 371) G (j := i + 2) (by rw [w32_id (by omega)]; omega) (by omega) ha2 dL_law_371 ?_
  refine la_callM (pc := 372) G [vI a1, vI a2] mf_X11_post rfl ml_L_50 (by decide) rfl rfl (Nat.le_of_ble_eq_true rfl) (ok_X11_post (yZ Y) h2) (by omega) (by omega) dL_law_372 ?_
  refine la_istore (pc := 375) G dL_law_375 (by decide) rfl ?_
  refine la_aload (pc := 377) G 5 dL_law_377 rfl rfl ?_
  refine la_callM (pc := 378) G [] mf_X11_thrown rfl ml_L_51 (by decide) rfl rfl (Nat.le_of_ble_eq_true rfl) (ok_X11_thrown (yZ Y) h3) (by omega) (by omega) dL_law_378 ?_
  refine la_iload (pc := 381) G 1 dL_law_381 rfl ?_
  refine la_icmp_eq (pc := 383) G (tgt := 388) dL_law_383 (by decide) he ?_
  refine la_iload (pc := 388) G 1 dL_law_388 rfl ?_
  by_cases hth : r1.1 = tp_TH
  · refine la_ifne_t (pc := 390) G (tgt := 405) dL_law_390 (by decide) (by rw [if_pos hth]; decide) ?_
    refine la_goto (pc := 405) G (tgt := 1693) dL_law_405 (by decide) ?_
    refine la_lv G [2, 3, 4, 5, 6] rfl ?_
    exact kk _
  · have hw : w64 (if r1.1 = tp_TH then o else w32 r1.1) = w64 (w32 r2.1) := by
      rw [if_neg hth, hv hth]
    refine la_ifne_f (pc := 390) G (tgt := 405) dL_law_390 (by decide) (by rw [if_neg hth]; rfl) ?_
    refine la_aload (pc := 393) G 6 dL_law_393 rfl rfl ?_
    refine la_iconst (pc := 394) G dL_law_394 ?_
    refine la_out (pc := 395) G dL_law_395 ?_
    refine la_iload (pc := 396) G 0 dL_law_396 rfl ?_
    refine la_i2l (pc := 398) G dL_law_398 ?_
    refine la_lcmp (pc := 399) G hw dL_law_399 ?_
    refine la_ifeq (pc := 400) G (tgt := 405) dL_law_400 (by decide) rfl ?_
    refine la_goto (pc := 405) G (tgt := 1693) dL_law_405 (by decide) ?_
    refine la_lv G [2, 3, 4, 5, 6] rfl ?_
    exact kk _
set_option maxRecDepth 100000 in
set_option maxHeartbeats 4000000 in
theorem lk_7 {Y : lw_Yt} (G : lw_G Y) {i : Nat} (hi : i + 5 ≤ yL Y) {a1 : Int} (ha1 : (yx Y (i + 1)).toInt = a1) {a2 : Int} (ha2 : (yx Y (i + 2)).toInt = a2) {Mc Mm : tp_M} {o : Int} {cells slots : Nat} {r1 r2 : Int × tp_M} (h1 : fx_X10_comes a1 a2 Mc = some r1) (h2 : fx_X11_comes a1 a2 Mm = some r2) (he : w32 r1.1 = w32 r2.1) (hcs : cells ≤ 601024 ∧ slots ≤ 7293033) (kk : tp_L Y r1.2 r2.2 o cells slots [(4, vI (i : Int)), (0, .ref (yb Y)), (1, vR (yX Y) 0), (2, vR (yZ Y) 0), (3, .ref (yo Y))] [] 1693) : tp_L Y Mc Mm o cells slots [(4, vI (i : Int)), (0, .ref (yb Y)), (1, vR (yX Y) 0), (2, vR (yZ Y) 0), (3, .ref (yo Y))] [] 537 := by
  have hL := lw_G_L G
  obtain ⟨hc1, hs1⟩ := hcs
  refine la_aload (pc := 537) G 2 dL_law_537 rfl rfl ?_
  refine la_aload (pc := 538) G 1 dL_law_538 rfl rfl ?_
  refine la_iload (pc := 539) G 0 dL_law_539 rfl ?_
  refine la_iconst (pc := 541) G dL_law_541 ?_
  refine la_iadd (pc := 542) G dL_law_542 ?_
  refine la_sld (pc := 543) G (j := i + 1) (by rw [w32_id (by omega)]; omega) (by omega) ha1 dL_law_543 ?_
  refine la_aload (pc := 544) G 1 dL_law_544 rfl rfl ?_
  refine la_iload (pc := 545) G 0 dL_law_545 rfl ?_
  refine la_iconst (pc := 547) G dL_law_547 ?_
  refine la_iadd (pc := 548) G dL_law_548 ?_
  refine la_sld (pc := 549) G (j := i + 2) (by rw [w32_id (by omega)]; omega) (by omega) ha2 dL_law_549 ?_
  refine la_callC (pc := 550) G [vI a1, vI a2] mf_X10_comes rfl ml_L_62 (by decide) rfl rfl (Nat.le_of_ble_eq_true rfl) (ok_X10_comes (yX Y) h1) (by omega) (by omega) dL_law_550 ?_
  refine la_aload (pc := 553) G 3 dL_law_553 rfl rfl ?_
  refine la_aload (pc := 554) G 1 dL_law_554 rfl rfl ?_
  refine la_iload (pc := 555) G 0 dL_law_555 rfl ?_
  refine la_iconst (pc := 557) G dL_law_557 ?_
  refine la_iadd (pc := 558) G dL_law_558 ?_
  refine la_sld (pc := 559) G (j := i + 1) (by rw [w32_id (by omega)]; omega) (by omega) ha1 dL_law_559 ?_
  refine la_aload (pc := 560) G 1 dL_law_560 rfl rfl ?_
  refine la_iload (pc := 561) G 0 dL_law_561 rfl ?_
  refine la_iconst (pc := 563) G dL_law_563 ?_
  refine la_iadd (pc := 564) G dL_law_564 ?_
  refine la_sld (pc := 565) G (j := i + 2) (by rw [w32_id (by omega)]; omega) (by omega) ha2 dL_law_565 ?_
  refine la_callM (pc := 566) G [vI a1, vI a2] mf_X11_comes rfl ml_L_65 (by decide) rfl rfl (Nat.le_of_ble_eq_true rfl) (ok_X11_comes (yZ Y) h2) (by omega) (by omega) dL_law_566 ?_
  refine la_icmp_eq (pc := 569) G (tgt := 1693) dL_law_569 (by decide) he ?_
  exact kk
set_option maxRecDepth 100000 in
set_option maxHeartbeats 4000000 in
theorem lk_10 {Y : lw_Yt} (G : lw_G Y) {i : Nat} (hi : i + 5 ≤ yL Y) {a1 : Int} (ha1 : (yx Y (i + 1)).toInt = a1) {Mc Mm : tp_M} {o : Int} {cells slots : Nat} {r1 r2 : Int × tp_M} (h1 : fx_X10_bursts a1 Mc = some r1) (h2 : fx_X11_bursts a1 Mm = some r2) (he : w32 r1.1 = w32 r2.1) (hcs : cells ≤ 601024 ∧ slots ≤ 7293033) (kk : tp_L Y r1.2 r2.2 o cells slots [(4, vI (i : Int)), (0, .ref (yb Y)), (1, vR (yX Y) 0), (2, vR (yZ Y) 0), (3, .ref (yo Y))] [] 1693) : tp_L Y Mc Mm o cells slots [(4, vI (i : Int)), (0, .ref (yb Y)), (1, vR (yX Y) 0), (2, vR (yZ Y) 0), (3, .ref (yo Y))] [] 624 := by
  have hL := lw_G_L G
  obtain ⟨hc1, hs1⟩ := hcs
  refine la_aload (pc := 624) G 2 dL_law_624 rfl rfl ?_
  refine la_aload (pc := 625) G 1 dL_law_625 rfl rfl ?_
  refine la_iload (pc := 626) G 0 dL_law_626 rfl ?_
  refine la_iconst (pc := 628) G dL_law_628 ?_
  refine la_iadd (pc := 629) G dL_law_629 ?_
  refine la_sld (pc := 630) G (j := i + 1) (by rw [w32_id (by omega)]; omega) (by omega) ha1 dL_law_630 ?_
  refine la_callC (pc := 631) G [vI a1] mf_X10_bursts rfl ml_L_74 (by decide) rfl rfl (Nat.le_of_ble_eq_true rfl) (ok_X10_bursts (yX Y) h1) (by omega) (by omega) dL_law_631 ?_
  refine la_aload (pc := 634) G 3 dL_law_634 rfl rfl ?_
  refine la_aload (pc := 635) G 1 dL_law_635 rfl rfl ?_
  refine la_iload (pc := 636) G 0 dL_law_636 rfl ?_
  refine la_iconst (pc := 638) G dL_law_638 ?_
  refine la_iadd (pc := 639) G dL_law_639 ?_
  refine la_sld (pc := 640) G (j := i + 1) (by rw [w32_id (by omega)]; omega) (by omega) ha1 dL_law_640 ?_
  refine la_callM (pc := 641) G [vI a1] mf_X11_bursts rfl ml_L_77 (by decide) rfl rfl (Nat.le_of_ble_eq_true rfl) (ok_X11_bursts (yZ Y) h2) (by omega) (by omega) dL_law_641 ?_
  refine la_icmp_eq (pc := 644) G (tgt := 1693) dL_law_644 (by decide) he ?_
  exact kk
set_option maxRecDepth 100000 in
set_option maxHeartbeats 4000000 in
theorem lk_13 {Y : lw_Yt} (G : lw_G Y) {i : Nat} (hi : i + 5 ≤ yL Y)  {Mc Mm : tp_M} {o : Int} {cells slots : Nat} {r1 r2 : Int × tp_M} (h1 : fx_X10_day  Mc = some r1) (h2 : fx_X11_day  Mm = some r2) (he : w32 r1.1 = w32 r2.1) (hcs : cells ≤ 601024 ∧ slots ≤ 7293033) (kk : tp_L Y r1.2 r2.2 o cells slots [(4, vI (i : Int)), (0, .ref (yb Y)), (1, vR (yX Y) 0), (2, vR (yZ Y) 0), (3, .ref (yo Y))] [] 1693) : tp_L Y Mc Mm o cells slots [(4, vI (i : Int)), (0, .ref (yb Y)), (1, vR (yX Y) 0), (2, vR (yZ Y) 0), (3, .ref (yo Y))] [] 699 := by
  have hL := lw_G_L G
  obtain ⟨hc1, hs1⟩ := hcs
  refine la_aload (pc := 699) G 2 dL_law_699 rfl rfl ?_
  refine la_callC (pc := 700) G [] mf_X10_day rfl ml_L_86 (by decide) rfl rfl (Nat.le_of_ble_eq_true rfl) (ok_X10_day (yX Y) h1) (by omega) (by omega) dL_law_700 ?_
  refine la_aload (pc := 703) G 3 dL_law_703 rfl rfl ?_
  refine la_callM (pc := 704) G [] mf_X11_day rfl ml_L_89 (by decide) rfl rfl (Nat.le_of_ble_eq_true rfl) (ok_X11_day (yZ Y) (lw_G_S G) h2) (by omega) (by omega) dL_law_704 ?_
  refine la_icmp_eq (pc := 707) G (tgt := 1693) dL_law_707 (by decide) he ?_
  exact kk
set_option maxRecDepth 100000 in
set_option maxHeartbeats 4000000 in
theorem lk_16 {Y : lw_Yt} (G : lw_G Y) {i : Nat} (hi : i + 5 ≤ yL Y) {a1 : Int} (ha1 : (yx Y (i + 1)).toInt = a1) {Mc Mm : tp_M} {o : Int} {cells slots : Nat} {r1 r2 : Int × tp_M} (h1 : fx_X10_home a1 Mc = some r1) (h2 : fx_X11_home a1 Mm = some r2) (he : w32 r1.1 = w32 r2.1) (hcs : cells ≤ 601024 ∧ slots ≤ 7293033) (kk : tp_L Y r1.2 r2.2 o cells slots [(4, vI (i : Int)), (0, .ref (yb Y)), (1, vR (yX Y) 0), (2, vR (yZ Y) 0), (3, .ref (yo Y))] [] 1693) : tp_L Y Mc Mm o cells slots [(4, vI (i : Int)), (0, .ref (yb Y)), (1, vR (yX Y) 0), (2, vR (yZ Y) 0), (3, .ref (yo Y))] [] 762 := by
  have hL := lw_G_L G
  obtain ⟨hc1, hs1⟩ := hcs
  refine la_aload (pc := 762) G 2 dL_law_762 rfl rfl ?_
  refine la_aload (pc := 763) G 1 dL_law_763 rfl rfl ?_
  refine la_iload (pc := 764) G 0 dL_law_764 rfl ?_
  refine la_iconst (pc := 766) G dL_law_766 ?_
  refine la_iadd (pc := 767) G dL_law_767 ?_
  refine la_sld (pc := 768) G (j := i + 1) (by rw [w32_id (by omega)]; omega) (by omega) ha1 dL_law_768 ?_
  refine la_callC (pc := 769) G [vI a1] mf_X10_home rfl ml_L_98 (by decide) rfl rfl (Nat.le_of_ble_eq_true rfl) (ok_X10_home (yX Y) h1) (by omega) (by omega) dL_law_769 ?_
  refine la_aload (pc := 772) G 3 dL_law_772 rfl rfl ?_
  refine la_aload (pc := 773) G 1 dL_law_773 rfl rfl ?_
  refine la_iload (pc := 774) G 0 dL_law_774 rfl ?_
  refine la_iconst (pc := 776) G dL_law_776 ?_
  refine la_iadd (pc := 777) G dL_law_777 ?_
  refine la_sld (pc := 778) G (j := i + 1) (by rw [w32_id (by omega)]; omega) (by omega) ha1 dL_law_778 ?_
  refine la_callM (pc := 779) G [vI a1] mf_X11_home rfl ml_L_101 (by decide) rfl rfl (Nat.le_of_ble_eq_true rfl) (ok_X11_home (yZ Y) h2) (by omega) (by omega) dL_law_779 ?_
  refine la_icmp_eq (pc := 782) G (tgt := 1693) dL_law_782 (by decide) he ?_
  exact kk
set_option maxRecDepth 100000 in
set_option maxHeartbeats 4000000 in
theorem lk_19 {Y : lw_Yt} (G : lw_G Y) {i : Nat} (hi : i + 5 ≤ yL Y) {a1 : Int} (ha1 : (yx Y (i + 1)).toInt = a1) {Mc Mm : tp_M} {o : Int} {cells slots : Nat} {r1 r2 : Int × tp_M} (h1 : fx_X10_follows a1 Mc = some r1) (h2 : fx_X11_follows a1 Mm = some r2) (he : w32 r1.1 = w32 r2.1) (hcs : cells ≤ 601024 ∧ slots ≤ 7293033) (kk : tp_L Y r1.2 r2.2 o cells slots [(4, vI (i : Int)), (0, .ref (yb Y)), (1, vR (yX Y) 0), (2, vR (yZ Y) 0), (3, .ref (yo Y))] [] 1693) : tp_L Y Mc Mm o cells slots [(4, vI (i : Int)), (0, .ref (yb Y)), (1, vR (yX Y) 0), (2, vR (yZ Y) 0), (3, .ref (yo Y))] [] 861 := by
  have hL := lw_G_L G
  obtain ⟨hc1, hs1⟩ := hcs
  refine la_aload (pc := 861) G 2 dL_law_861 rfl rfl ?_
  refine la_aload (pc := 862) G 1 dL_law_862 rfl rfl ?_
  refine la_iload (pc := 863) G 0 dL_law_863 rfl ?_
  refine la_iconst (pc := 865) G dL_law_865 ?_
  refine la_iadd (pc := 866) G dL_law_866 ?_
  refine la_sld (pc := 867) G (j := i + 1) (by rw [w32_id (by omega)]; omega) (by omega) ha1 dL_law_867 ?_
  refine la_callC (pc := 868) G [vI a1] mf_X10_follows rfl ml_L_111 (by decide) rfl rfl (Nat.le_of_ble_eq_true rfl) (ok_X10_follows (yX Y) h1) (by omega) (by omega) dL_law_868 ?_
  refine la_aload (pc := 871) G 3 dL_law_871 rfl rfl ?_
  refine la_aload (pc := 872) G 1 dL_law_872 rfl rfl ?_
  refine la_iload (pc := 873) G 0 dL_law_873 rfl ?_
  refine la_iconst (pc := 875) G dL_law_875 ?_
  refine la_iadd (pc := 876) G dL_law_876 ?_
  refine la_sld (pc := 877) G (j := i + 1) (by rw [w32_id (by omega)]; omega) (by omega) ha1 dL_law_877 ?_
  refine la_callM (pc := 878) G [vI a1] mf_X11_follows rfl ml_L_114 (by decide) rfl rfl (Nat.le_of_ble_eq_true rfl) (ok_X11_follows (yZ Y) h2) (by omega) (by omega) dL_law_878 ?_
  refine la_icmp_eq (pc := 881) G (tgt := 1693) dL_law_881 (by decide) he ?_
  exact kk
set_option maxRecDepth 100000 in
set_option maxHeartbeats 4000000 in
theorem lk_22 {Y : lw_Yt} (G : lw_G Y) {i : Nat} (hi : i + 5 ≤ yL Y) {a1 : Int} (ha1 : (yx Y (i + 1)).toInt = a1) {Mc Mm : tp_M} {o : Int} {cells slots : Nat} {r1 r2 : Int × tp_M} (h1 : fx_X10_plants a1 Mc = some r1) (h2 : fx_X11_plants a1 Mm = some r2) (he : w32 r1.1 = w32 r2.1) (hcs : cells ≤ 601024 ∧ slots ≤ 7293033) (kk : tp_L Y r1.2 r2.2 o cells slots [(4, vI (i : Int)), (0, .ref (yb Y)), (1, vR (yX Y) 0), (2, vR (yZ Y) 0), (3, .ref (yo Y))] [] 1693) : tp_L Y Mc Mm o cells slots [(4, vI (i : Int)), (0, .ref (yb Y)), (1, vR (yX Y) 0), (2, vR (yZ Y) 0), (3, .ref (yo Y))] [] 912 := by
  have hL := lw_G_L G
  obtain ⟨hc1, hs1⟩ := hcs
  refine la_aload (pc := 912) G 2 dL_law_912 rfl rfl ?_
  refine la_aload (pc := 913) G 1 dL_law_913 rfl rfl ?_
  refine la_iload (pc := 914) G 0 dL_law_914 rfl ?_
  refine la_iconst (pc := 916) G dL_law_916 ?_
  refine la_iadd (pc := 917) G dL_law_917 ?_
  refine la_sld (pc := 918) G (j := i + 1) (by rw [w32_id (by omega)]; omega) (by omega) ha1 dL_law_918 ?_
  refine la_callC (pc := 919) G [vI a1] mf_X10_plants rfl ml_L_123 (by decide) rfl rfl (Nat.le_of_ble_eq_true rfl) (ok_X10_plants (yX Y) h1) (by omega) (by omega) dL_law_919 ?_
  refine la_aload (pc := 922) G 3 dL_law_922 rfl rfl ?_
  refine la_aload (pc := 923) G 1 dL_law_923 rfl rfl ?_
  refine la_iload (pc := 924) G 0 dL_law_924 rfl ?_
  refine la_iconst (pc := 926) G dL_law_926 ?_
  refine la_iadd (pc := 927) G dL_law_927 ?_
  refine la_sld (pc := 928) G (j := i + 1) (by rw [w32_id (by omega)]; omega) (by omega) ha1 dL_law_928 ?_
  refine la_callM (pc := 929) G [vI a1] mf_X11_plants rfl ml_L_126 (by decide) rfl rfl (Nat.le_of_ble_eq_true rfl) (ok_X11_plants (yZ Y) h2) (by omega) (by omega) dL_law_929 ?_
  refine la_icmp_eq (pc := 932) G (tgt := 1693) dL_law_932 (by decide) he ?_
  exact kk
set_option maxRecDepth 100000 in
set_option maxHeartbeats 4000000 in
theorem lk_25 {Y : lw_Yt} (G : lw_G Y) {i : Nat} (hi : i + 5 ≤ yL Y) {a1 : Int} (ha1 : (yx Y (i + 1)).toInt = a1) {a2 : Int} (ha2 : (yx Y (i + 2)).toInt = a2) {Mc Mm : tp_M} {o : Int} {cells slots : Nat} {r1 r2 : Int × tp_M} (h1 : fx_X10_route a1 a2 Mc = some r1) (h2 : fx_X11_route a1 a2 Mm = some r2) (he : w32 r1.1 = w32 r2.1) (hcs : cells ≤ 601024 ∧ slots ≤ 7293033) (kk : tp_L Y r1.2 r2.2 o cells slots [(4, vI (i : Int)), (0, .ref (yb Y)), (1, vR (yX Y) 0), (2, vR (yZ Y) 0), (3, .ref (yo Y))] [] 1693) : tp_L Y Mc Mm o cells slots [(4, vI (i : Int)), (0, .ref (yb Y)), (1, vR (yX Y) 0), (2, vR (yZ Y) 0), (3, .ref (yo Y))] [] 963 := by
  have hL := lw_G_L G
  obtain ⟨hc1, hs1⟩ := hcs
  refine la_aload (pc := 963) G 2 dL_law_963 rfl rfl ?_
  refine la_aload (pc := 964) G 1 dL_law_964 rfl rfl ?_
  refine la_iload (pc := 965) G 0 dL_law_965 rfl ?_
  refine la_iconst (pc := 967) G dL_law_967 ?_
  refine la_iadd (pc := 968) G dL_law_968 ?_
  refine la_sld (pc := 969) G (j := i + 1) (by rw [w32_id (by omega)]; omega) (by omega) ha1 dL_law_969 ?_
  refine la_aload (pc := 970) G 1 dL_law_970 rfl rfl ?_
  refine la_iload (pc := 971) G 0 dL_law_971 rfl ?_
  refine la_iconst (pc := 973) G dL_law_973 ?_
  refine la_iadd (pc := 974) G dL_law_974 ?_
  refine la_sld (pc := 975) G (j := i + 2) (by rw [w32_id (by omega)]; omega) (by omega) ha2 dL_law_975 ?_
  refine la_callC (pc := 976) G [vI a1, vI a2] mf_X10_route rfl ml_L_135 (by decide) rfl rfl (Nat.le_of_ble_eq_true rfl) (ok_X10_route (yX Y) h1) (by omega) (by omega) dL_law_976 ?_
  refine la_aload (pc := 979) G 3 dL_law_979 rfl rfl ?_
  refine la_aload (pc := 980) G 1 dL_law_980 rfl rfl ?_
  refine la_iload (pc := 981) G 0 dL_law_981 rfl ?_
  refine la_iconst (pc := 983) G dL_law_983 ?_
  refine la_iadd (pc := 984) G dL_law_984 ?_
  refine la_sld (pc := 985) G (j := i + 1) (by rw [w32_id (by omega)]; omega) (by omega) ha1 dL_law_985 ?_
  refine la_aload (pc := 986) G 1 dL_law_986 rfl rfl ?_
  refine la_iload (pc := 987) G 0 dL_law_987 rfl ?_
  refine la_iconst (pc := 989) G dL_law_989 ?_
  refine la_iadd (pc := 990) G dL_law_990 ?_
  refine la_sld (pc := 991) G (j := i + 2) (by rw [w32_id (by omega)]; omega) (by omega) ha2 dL_law_991 ?_
  refine la_callM (pc := 992) G [vI a1, vI a2] mf_X11_route rfl ml_L_138 (by decide) rfl rfl (Nat.le_of_ble_eq_true rfl) (ok_X11_route (yZ Y) h2) (by omega) (by omega) dL_law_992 ?_
  refine la_icmp_eq (pc := 995) G (tgt := 1693) dL_law_995 (by decide) he ?_
  exact kk
set_option maxRecDepth 100000 in
set_option maxHeartbeats 4000000 in
theorem lk_28 {Y : lw_Yt} (G : lw_G Y) {i : Nat} (hi : i + 5 ≤ yL Y) {a1 : Int} (ha1 : (yx Y (i + 1)).toInt = a1) {Mc Mm : tp_M} {o : Int} {cells slots : Nat} {r1 r2 : Int × tp_M} (h1 : fx_X10_mean a1 Mc = some r1) (h2 : fx_X11_mean a1 Mm = some r2) (he : w32 r1.1 = w32 r2.1) (hcs : cells ≤ 601024 ∧ slots ≤ 7293033) (kk : tp_L Y r1.2 r2.2 o cells slots [(4, vI (i : Int)), (0, .ref (yb Y)), (1, vR (yX Y) 0), (2, vR (yZ Y) 0), (3, .ref (yo Y))] [] 1693) : tp_L Y Mc Mm o cells slots [(4, vI (i : Int)), (0, .ref (yb Y)), (1, vR (yX Y) 0), (2, vR (yZ Y) 0), (3, .ref (yo Y))] [] 1050 := by
  have hL := lw_G_L G
  obtain ⟨hc1, hs1⟩ := hcs
  refine la_aload (pc := 1050) G 2 dL_law_1050 rfl rfl ?_
  refine la_aload (pc := 1051) G 1 dL_law_1051 rfl rfl ?_
  refine la_iload (pc := 1052) G 0 dL_law_1052 rfl ?_
  refine la_iconst (pc := 1054) G dL_law_1054 ?_
  refine la_iadd (pc := 1055) G dL_law_1055 ?_
  refine la_sld (pc := 1056) G (j := i + 1) (by rw [w32_id (by omega)]; omega) (by omega) ha1 dL_law_1056 ?_
  refine la_callC (pc := 1057) G [vI a1] mf_X10_mean rfl ml_L_147 (by decide) rfl rfl (Nat.le_of_ble_eq_true rfl) (ok_X10_mean (yX Y) h1) (by omega) (by omega) dL_law_1057 ?_
  refine la_aload (pc := 1060) G 3 dL_law_1060 rfl rfl ?_
  refine la_aload (pc := 1061) G 1 dL_law_1061 rfl rfl ?_
  refine la_iload (pc := 1062) G 0 dL_law_1062 rfl ?_
  refine la_iconst (pc := 1064) G dL_law_1064 ?_
  refine la_iadd (pc := 1065) G dL_law_1065 ?_
  refine la_sld (pc := 1066) G (j := i + 1) (by rw [w32_id (by omega)]; omega) (by omega) ha1 dL_law_1066 ?_
  refine la_callM (pc := 1067) G [vI a1] mf_X11_mean rfl ml_L_150 (by decide) rfl rfl (Nat.le_of_ble_eq_true rfl) (ok_X11_mean (yZ Y) h2) (by omega) (by omega) dL_law_1067 ?_
  refine la_icmp_eq (pc := 1070) G (tgt := 1693) dL_law_1070 (by decide) he ?_
  exact kk
set_option maxRecDepth 100000 in
set_option maxHeartbeats 4000000 in
theorem lk_31 {Y : lw_Yt} (G : lw_G Y) {i : Nat} (hi : i + 5 ≤ yL Y)  {Mc Mm : tp_M} {o : Int} {cells slots : Nat} {r1 r2 : Int × tp_M} (h1 : fx_X10_ready  Mc = some r1) (h2 : fx_X11_ready  Mm = some r2) (he : w32 r1.1 = w32 r2.1) (hcs : cells ≤ 601024 ∧ slots ≤ 7293033) (kk : tp_L Y r1.2 r2.2 o cells slots [(4, vI (i : Int)), (0, .ref (yb Y)), (1, vR (yX Y) 0), (2, vR (yZ Y) 0), (3, .ref (yo Y))] [] 1693) : tp_L Y Mc Mm o cells slots [(4, vI (i : Int)), (0, .ref (yb Y)), (1, vR (yX Y) 0), (2, vR (yZ Y) 0), (3, .ref (yo Y))] [] 1161 := by
  have hL := lw_G_L G
  obtain ⟨hc1, hs1⟩ := hcs
  refine la_aload (pc := 1161) G 2 dL_law_1161 rfl rfl ?_
  refine la_callC (pc := 1162) G [] mf_X10_ready rfl ml_L_159 (by decide) rfl rfl (Nat.le_of_ble_eq_true rfl) (ok_X10_ready (yX Y) h1) (by omega) (by omega) dL_law_1162 ?_
  refine la_aload (pc := 1165) G 3 dL_law_1165 rfl rfl ?_
  refine la_callM (pc := 1166) G [] mf_X11_ready rfl ml_L_162 (by decide) rfl rfl (Nat.le_of_ble_eq_true rfl) (ok_X11_ready (yZ Y) h2) (by omega) (by omega) dL_law_1166 ?_
  refine la_icmp_eq (pc := 1169) G (tgt := 1693) dL_law_1169 (by decide) he ?_
  exact kk
set_option maxRecDepth 100000 in
set_option maxHeartbeats 4000000 in
theorem lk_34 {Y : lw_Yt} (G : lw_G Y) {i : Nat} (hi : i + 5 ≤ yL Y) {a1 : Int} (ha1 : (yx Y (i + 1)).toInt = a1) {Mc Mm : tp_M} {o : Int} {cells slots : Nat} {r1 r2 : Int × tp_M} (h1 : fx_X10_joins a1 Mc = some r1) (h2 : fx_X11_joins a1 Mm = some r2) (he : w32 r1.1 = w32 r2.1) (hcs : cells ≤ 601024 ∧ slots ≤ 7293033) (kk : tp_L Y r1.2 r2.2 o cells slots [(4, vI (i : Int)), (0, .ref (yb Y)), (1, vR (yX Y) 0), (2, vR (yZ Y) 0), (3, .ref (yo Y))] [] 1693) : tp_L Y Mc Mm o cells slots [(4, vI (i : Int)), (0, .ref (yb Y)), (1, vR (yX Y) 0), (2, vR (yZ Y) 0), (3, .ref (yo Y))] [] 1200 := by
  have hL := lw_G_L G
  obtain ⟨hc1, hs1⟩ := hcs
  refine la_aload (pc := 1200) G 2 dL_law_1200 rfl rfl ?_
  refine la_aload (pc := 1201) G 1 dL_law_1201 rfl rfl ?_
  refine la_iload (pc := 1202) G 0 dL_law_1202 rfl ?_
  refine la_iconst (pc := 1204) G dL_law_1204 ?_
  refine la_iadd (pc := 1205) G dL_law_1205 ?_
  refine la_sld (pc := 1206) G (j := i + 1) (by rw [w32_id (by omega)]; omega) (by omega) ha1 dL_law_1206 ?_
  refine la_callC (pc := 1207) G [vI a1] mf_X10_joins rfl ml_L_171 (by decide) rfl rfl (Nat.le_of_ble_eq_true rfl) (ok_X10_joins (yX Y) h1) (by omega) (by omega) dL_law_1207 ?_
  refine la_aload (pc := 1210) G 3 dL_law_1210 rfl rfl ?_
  refine la_aload (pc := 1211) G 1 dL_law_1211 rfl rfl ?_
  refine la_iload (pc := 1212) G 0 dL_law_1212 rfl ?_
  refine la_iconst (pc := 1214) G dL_law_1214 ?_
  refine la_iadd (pc := 1215) G dL_law_1215 ?_
  refine la_sld (pc := 1216) G (j := i + 1) (by rw [w32_id (by omega)]; omega) (by omega) ha1 dL_law_1216 ?_
  refine la_callM (pc := 1217) G [vI a1] mf_X11_joins rfl ml_L_174 (by decide) rfl rfl (Nat.le_of_ble_eq_true rfl) (ok_X11_joins (yZ Y) h2) (by omega) (by omega) dL_law_1217 ?_
  refine la_icmp_eq (pc := 1220) G (tgt := 1693) dL_law_1220 (by decide) he ?_
  exact kk
set_option maxRecDepth 100000 in
set_option maxHeartbeats 4000000 in
theorem lk_37 {Y : lw_Yt} (G : lw_G Y) {i : Nat} (hi : i + 5 ≤ yL Y) {a1 : Int} (ha1 : (yx Y (i + 1)).toInt = a1) {a2 : Int} (ha2 : (yx Y (i + 2)).toInt = a2) {a3 : Int} (ha3 : (yx Y (i + 3)).toInt = a3) {Mc Mm : tp_M} {o : Int} {cells slots : Nat} {r1 r2 : Int × tp_M} (h1 : fx_X10_seen a1 a2 a3 Mc = some r1) (h2 : fx_X11_seen a1 a2 a3 Mm = some r2) (he : w32 r1.1 = w32 r2.1) (hcs : cells ≤ 601024 ∧ slots ≤ 7293033) (kk : tp_L Y r1.2 r2.2 o cells slots [(4, vI (i : Int)), (0, .ref (yb Y)), (1, vR (yX Y) 0), (2, vR (yZ Y) 0), (3, .ref (yo Y))] [] 1693) : tp_L Y Mc Mm o cells slots [(4, vI (i : Int)), (0, .ref (yb Y)), (1, vR (yX Y) 0), (2, vR (yZ Y) 0), (3, .ref (yo Y))] [] 1263 := by
  have hL := lw_G_L G
  obtain ⟨hc1, hs1⟩ := hcs
  refine la_aload (pc := 1263) G 2 dL_law_1263 rfl rfl ?_
  refine la_aload (pc := 1264) G 1 dL_law_1264 rfl rfl ?_
  refine la_iload (pc := 1265) G 0 dL_law_1265 rfl ?_
  refine la_iconst (pc := 1267) G dL_law_1267 ?_
  refine la_iadd (pc := 1268) G dL_law_1268 ?_
  refine la_sld (pc := 1269) G (j := i + 1) (by rw [w32_id (by omega)]; omega) (by omega) ha1 dL_law_1269 ?_
  refine la_aload (pc := 1270) G 1 dL_law_1270 rfl rfl ?_
  refine la_iload (pc := 1271) G 0 dL_law_1271 rfl ?_
  refine la_iconst (pc := 1273) G dL_law_1273 ?_
  refine la_iadd (pc := 1274) G dL_law_1274 ?_
  refine la_sld (pc := 1275) G (j := i + 2) (by rw [w32_id (by omega)]; omega) (by omega) ha2 dL_law_1275 ?_
  refine la_aload (pc := 1276) G 1 dL_law_1276 rfl rfl ?_
  refine la_iload (pc := 1277) G 0 dL_law_1277 rfl ?_
  refine la_iconst (pc := 1279) G dL_law_1279 ?_
  refine la_iadd (pc := 1280) G dL_law_1280 ?_
  refine la_sld (pc := 1281) G (j := i + 3) (by rw [w32_id (by omega)]; omega) (by omega) ha3 dL_law_1281 ?_
  refine la_callC (pc := 1282) G [vI a1, vI a2, vI a3] mf_X10_seen rfl ml_L_183 (by decide) rfl rfl (Nat.le_of_ble_eq_true rfl) (ok_X10_seen (yX Y) h1) (by omega) (by omega) dL_law_1282 ?_
  refine la_aload (pc := 1285) G 3 dL_law_1285 rfl rfl ?_
  refine la_aload (pc := 1286) G 1 dL_law_1286 rfl rfl ?_
  refine la_iload (pc := 1287) G 0 dL_law_1287 rfl ?_
  refine la_iconst (pc := 1289) G dL_law_1289 ?_
  refine la_iadd (pc := 1290) G dL_law_1290 ?_
  refine la_sld (pc := 1291) G (j := i + 1) (by rw [w32_id (by omega)]; omega) (by omega) ha1 dL_law_1291 ?_
  refine la_aload (pc := 1292) G 1 dL_law_1292 rfl rfl ?_
  refine la_iload (pc := 1293) G 0 dL_law_1293 rfl ?_
  refine la_iconst (pc := 1295) G dL_law_1295 ?_
  refine la_iadd (pc := 1296) G dL_law_1296 ?_
  refine la_sld (pc := 1297) G (j := i + 2) (by rw [w32_id (by omega)]; omega) (by omega) ha2 dL_law_1297 ?_
  refine la_aload (pc := 1298) G 1 dL_law_1298 rfl rfl ?_
  refine la_iload (pc := 1299) G 0 dL_law_1299 rfl ?_
  refine la_iconst (pc := 1301) G dL_law_1301 ?_
  refine la_iadd (pc := 1302) G dL_law_1302 ?_
  refine la_sld (pc := 1303) G (j := i + 3) (by rw [w32_id (by omega)]; omega) (by omega) ha3 dL_law_1303 ?_
  refine la_callM (pc := 1304) G [vI a1, vI a2, vI a3] mf_X11_seen rfl ml_L_186 (by decide) rfl rfl (Nat.le_of_ble_eq_true rfl) (ok_X11_seen (yZ Y) h2) (by omega) (by omega) dL_law_1304 ?_
  refine la_icmp_eq (pc := 1307) G (tgt := 1693) dL_law_1307 (by decide) he ?_
  exact kk
set_option maxRecDepth 100000 in
set_option maxHeartbeats 4000000 in
theorem lk_40 {Y : lw_Yt} (G : lw_G Y) {i : Nat} (hi : i + 5 ≤ yL Y) {a1 : Int} (ha1 : (yx Y (i + 1)).toInt = a1) {Mc Mm : tp_M} {o : Int} {cells slots : Nat} {r1 r2 : Int × tp_M} (h1 : fx_X10_looks a1 Mc = some r1) (h2 : fx_X11_looks a1 Mm = some r2) (he : w32 r1.1 = w32 r2.1) (hcs : cells ≤ 601024 ∧ slots ≤ 7293033) (kk : tp_L Y r1.2 r2.2 o cells slots [(4, vI (i : Int)), (0, .ref (yb Y)), (1, vR (yX Y) 0), (2, vR (yZ Y) 0), (3, .ref (yo Y))] [] 1693) : tp_L Y Mc Mm o cells slots [(4, vI (i : Int)), (0, .ref (yb Y)), (1, vR (yX Y) 0), (2, vR (yZ Y) 0), (3, .ref (yo Y))] [] 1350 := by
  have hL := lw_G_L G
  obtain ⟨hc1, hs1⟩ := hcs
  refine la_aload (pc := 1350) G 2 dL_law_1350 rfl rfl ?_
  refine la_aload (pc := 1351) G 1 dL_law_1351 rfl rfl ?_
  refine la_iload (pc := 1352) G 0 dL_law_1352 rfl ?_
  refine la_iconst (pc := 1354) G dL_law_1354 ?_
  refine la_iadd (pc := 1355) G dL_law_1355 ?_
  refine la_sld (pc := 1356) G (j := i + 1) (by rw [w32_id (by omega)]; omega) (by omega) ha1 dL_law_1356 ?_
  refine la_callC (pc := 1357) G [vI a1] mf_X10_looks rfl ml_L_195 (by decide) rfl rfl (Nat.le_of_ble_eq_true rfl) (ok_X10_looks (yX Y) h1) (by omega) (by omega) dL_law_1357 ?_
  refine la_aload (pc := 1360) G 3 dL_law_1360 rfl rfl ?_
  refine la_aload (pc := 1361) G 1 dL_law_1361 rfl rfl ?_
  refine la_iload (pc := 1362) G 0 dL_law_1362 rfl ?_
  refine la_iconst (pc := 1364) G dL_law_1364 ?_
  refine la_iadd (pc := 1365) G dL_law_1365 ?_
  refine la_sld (pc := 1366) G (j := i + 1) (by rw [w32_id (by omega)]; omega) (by omega) ha1 dL_law_1366 ?_
  refine la_callM (pc := 1367) G [vI a1] mf_X11_looks rfl ml_L_198 (by decide) rfl rfl (Nat.le_of_ble_eq_true rfl) (ok_X11_looks (yZ Y) h2) (by omega) (by omega) dL_law_1367 ?_
  refine la_icmp_eq (pc := 1370) G (tgt := 1693) dL_law_1370 (by decide) he ?_
  exact kk
set_option maxRecDepth 100000 in
set_option maxHeartbeats 4000000 in
theorem lk_43 {Y : lw_Yt} (G : lw_G Y) {i : Nat} (hi : i + 5 ≤ yL Y)  {Mc Mm : tp_M} {o : Int} {cells slots : Nat} {r1 r2 : Int × tp_M} (h1 : fx_X10_fits  Mc = some r1) (h2 : fx_X11_fits  Mm = some r2) (he : w32 r1.1 = w32 r2.1) (hcs : cells ≤ 601024 ∧ slots ≤ 7293033) (kk : tp_L Y r1.2 r2.2 o cells slots [(4, vI (i : Int)), (0, .ref (yb Y)), (1, vR (yX Y) 0), (2, vR (yZ Y) 0), (3, .ref (yo Y))] [] 1693) : tp_L Y Mc Mm o cells slots [(4, vI (i : Int)), (0, .ref (yb Y)), (1, vR (yX Y) 0), (2, vR (yZ Y) 0), (3, .ref (yo Y))] [] 1425 := by
  have hL := lw_G_L G
  obtain ⟨hc1, hs1⟩ := hcs
  refine la_aload (pc := 1425) G 2 dL_law_1425 rfl rfl ?_
  refine la_callC (pc := 1426) G [] mf_X10_fits rfl ml_L_207 (by decide) rfl rfl (Nat.le_of_ble_eq_true rfl) (ok_X10_fits (yX Y) h1) (by omega) (by omega) dL_law_1426 ?_
  refine la_aload (pc := 1429) G 3 dL_law_1429 rfl rfl ?_
  refine la_callM (pc := 1430) G [] mf_X11_fits rfl ml_L_210 (by decide) rfl rfl (Nat.le_of_ble_eq_true rfl) (ok_X11_fits (yZ Y) h2) (by omega) (by omega) dL_law_1430 ?_
  refine la_icmp_eq (pc := 1433) G (tgt := 1693) dL_law_1433 (by decide) he ?_
  exact kk
set_option maxRecDepth 100000 in
set_option maxHeartbeats 4000000 in
theorem lk_46 {Y : lw_Yt} (G : lw_G Y) {i : Nat} (hi : i + 5 ≤ yL Y)  {Mc Mm : tp_M} {o : Int} {cells slots : Nat} {r1 r2 : Int × tp_M} (h1 : fx_X10_law  Mc = some r1) (h2 : fx_X11_law  Mm = some r2) (he : w32 r1.1 = w32 r2.1) (hcs : cells ≤ 601024 ∧ slots ≤ 7293033) (kk : tp_L Y r1.2 r2.2 o cells slots [(4, vI (i : Int)), (0, .ref (yb Y)), (1, vR (yX Y) 0), (2, vR (yZ Y) 0), (3, .ref (yo Y))] [] 1693) : tp_L Y Mc Mm o cells slots [(4, vI (i : Int)), (0, .ref (yb Y)), (1, vR (yX Y) 0), (2, vR (yZ Y) 0), (3, .ref (yo Y))] [] 1488 := by
  have hL := lw_G_L G
  obtain ⟨hc1, hs1⟩ := hcs
  refine la_aload (pc := 1488) G 2 dL_law_1488 rfl rfl ?_
  refine la_callC (pc := 1489) G [] mf_X10_law rfl ml_L_219 (by decide) rfl rfl (Nat.le_of_ble_eq_true rfl) (ok_X10_law (yX Y) h1) (by omega) (by omega) dL_law_1489 ?_
  refine la_aload (pc := 1492) G 3 dL_law_1492 rfl rfl ?_
  refine la_callM (pc := 1493) G [] mf_X11_law rfl ml_L_222 (by decide) rfl rfl (Nat.le_of_ble_eq_true rfl) (ok_X11_law (yZ Y) (lw_G_S G) h2) (by omega) (by omega) dL_law_1493 ?_
  refine la_icmp_eq (pc := 1496) G (tgt := 1693) dL_law_1496 (by decide) he ?_
  exact kk
set_option maxRecDepth 100000 in
set_option maxHeartbeats 4000000 in
theorem lk_49 {Y : lw_Yt} (G : lw_G Y) {i : Nat} (hi : i + 5 ≤ yL Y) {a1 : Int} (ha1 : (yx Y (i + 1)).toInt = a1) {Mc Mm : tp_M} {o : Int} {cells slots : Nat} {r1 r2 : Int × tp_M} (h1 : fx_X10_keep a1 Mc = some r1) (h2 : fx_X11_keep a1 Mm = some r2) (he : w32 r1.1 = w32 r2.1) (hcs : cells ≤ 601024 ∧ slots ≤ 7293033) (kk : tp_L Y r1.2 r2.2 o cells slots [(4, vI (i : Int)), (0, .ref (yb Y)), (1, vR (yX Y) 0), (2, vR (yZ Y) 0), (3, .ref (yo Y))] [] 1693) : tp_L Y Mc Mm o cells slots [(4, vI (i : Int)), (0, .ref (yb Y)), (1, vR (yX Y) 0), (2, vR (yZ Y) 0), (3, .ref (yo Y))] [] 1563 := by
  have hL := lw_G_L G
  obtain ⟨hc1, hs1⟩ := hcs
  refine la_aload (pc := 1563) G 2 dL_law_1563 rfl rfl ?_
  refine la_aload (pc := 1564) G 1 dL_law_1564 rfl rfl ?_
  refine la_iload (pc := 1565) G 0 dL_law_1565 rfl ?_
  refine la_iconst (pc := 1567) G dL_law_1567 ?_
  refine la_iadd (pc := 1568) G dL_law_1568 ?_
  refine la_sld (pc := 1569) G (j := i + 1) (by rw [w32_id (by omega)]; omega) (by omega) ha1 dL_law_1569 ?_
  refine la_callC (pc := 1570) G [vI a1] mf_X10_keep rfl ml_L_231 (by decide) rfl rfl (Nat.le_of_ble_eq_true rfl) (ok_X10_keep (yX Y) h1) (by omega) (by omega) dL_law_1570 ?_
  refine la_aload (pc := 1573) G 3 dL_law_1573 rfl rfl ?_
  refine la_aload (pc := 1574) G 1 dL_law_1574 rfl rfl ?_
  refine la_iload (pc := 1575) G 0 dL_law_1575 rfl ?_
  refine la_iconst (pc := 1577) G dL_law_1577 ?_
  refine la_iadd (pc := 1578) G dL_law_1578 ?_
  refine la_sld (pc := 1579) G (j := i + 1) (by rw [w32_id (by omega)]; omega) (by omega) ha1 dL_law_1579 ?_
  refine la_callM (pc := 1580) G [vI a1] mf_X11_keep rfl ml_L_234 (by decide) rfl rfl (Nat.le_of_ble_eq_true rfl) (ok_X11_keep (yZ Y) h2) (by omega) (by omega) dL_law_1580 ?_
  refine la_icmp_eq (pc := 1583) G (tgt := 1693) dL_law_1583 (by decide) he ?_
  exact kk
set_option maxRecDepth 100000 in
set_option maxHeartbeats 4000000 in
theorem lk_52 {Y : lw_Yt} (G : lw_G Y) {i : Nat} (hi : i + 5 ≤ yL Y) {a1 : Int} (ha1 : (yx Y (i + 1)).toInt = a1) {Mc Mm : tp_M} {o : Int} {cells slots : Nat} {r1 r2 r3 : Int × tp_M} (h1 : fx_X10_row a1 Mc = some r1) (h2 : fx_X11_row a1 Mm = some r2) (h3 : fx_X11_thrown  r2.2 = some r3) (he9 : w32 r3.1 = if r1.1 = tp_TH then 1 else 0) (hv : r1.1 ≠ tp_TH → w64 r1.1 = w64 r2.1) (hcs : cells + 1 ≤ 601024 ∧ slots + 6 ≤ 7293033) (kk : ∀ o2 : Int, tp_L Y r1.2 r3.2 o2 (cells + 1) (slots + 6) [(4, vI (i : Int)), (0, .ref (yb Y)), (1, vR (yX Y) 0), (2, vR (yZ Y) 0), (3, .ref (yo Y))] [] 1693) : tp_L Y Mc Mm o cells slots [(4, vI (i : Int)), (0, .ref (yb Y)), (1, vR (yX Y) 0), (2, vR (yZ Y) 0), (3, .ref (yo Y))] [] 1638 := by
  have hL := lw_G_L G
  obtain ⟨hc1, hs1⟩ := hcs
  have he : w32 r3.1 = w32 (if r1.1 = tp_TH then 1 else 0) := by
    rw [he9]
    split <;> rfl
  refine la_aload (pc := 1638) G 2 dL_law_1638 rfl rfl ?_
  refine la_aload (pc := 1639) G 1 dL_law_1639 rfl rfl ?_
  refine la_iload (pc := 1640) G 0 dL_law_1640 rfl ?_
  refine la_iconst (pc := 1642) G dL_law_1642 ?_
  refine la_iadd (pc := 1643) G dL_law_1643 ?_
  refine la_sld (pc := 1644) G (j := i + 1) (by rw [w32_id (by omega)]; omega) (by omega) ha1 dL_law_1644 ?_
  refine la_aload (pc := 1645) G 4 dL_law_1645 rfl rfl ?_
  refine la_callH (pc := 1646) G (n := 3) [vR (yX Y) 0, vI a1, .ref (yo Y)] mc_L_row ms_L_row mi_L (by decide +kernel) (by decide) ml_L_243 (by decide) rfl rfl (Nat.le_of_ble_eq_true rfl) (help_row (yX Y) (lw_G_T G) (lw_G_o G) h1) (by omega) (by omega) dL_law_1646 ?_
  refine la_istore (pc := 1649) G dL_law_1649 (by decide) rfl ?_
  refine la_aload (pc := 1651) G 4 dL_law_1651 rfl rfl ?_
  refine la_aload (pc := 1652) G 2 dL_law_1652 rfl rfl ?_
  refine la_iload (pc := 1653) G 1 dL_law_1653 rfl ?_
  refine la_iconst (pc := 1655) G dL_law_1655 ?_
  refine la_iadd (pc := 1656) G dL_law_1656 ?_
  refine la_sld (pc := 1657) G (j := i + 1) (by rw [w32_id (by omega)]; omega) (by omega) ha1 dL_law_1657 ?_
  refine la_callMl (pc := 1658) G [vI a1] mf_X11_row rfl ml_L_246 (by decide) rfl rfl (Nat.le_of_ble_eq_true rfl) (ok_X11_row (yZ Y) h2) (by omega) (by omega) dL_law_1658 ?_
  refine la_lstore (pc := 1661) G dL_law_1661 (by decide) rfl ?_
  refine la_aload (pc := 1663) G 5 dL_law_1663 rfl rfl ?_
  refine la_callM (pc := 1664) G [] mf_X11_thrown rfl ml_L_51 (by decide) rfl rfl (Nat.le_of_ble_eq_true rfl) (ok_X11_thrown (yZ Y) h3) (by omega) (by omega) dL_law_1664 ?_
  refine la_iload (pc := 1667) G 1 dL_law_1667 rfl ?_
  refine la_icmp_eq (pc := 1669) G (tgt := 1674) dL_law_1669 (by decide) he ?_
  refine la_iload (pc := 1674) G 1 dL_law_1674 rfl ?_
  by_cases hth : r1.1 = tp_TH
  · refine la_ifne_t (pc := 1676) G (tgt := 1690) dL_law_1676 (by decide) (by rw [if_pos hth]; decide) ?_
    refine la_goto (pc := 1690) G (tgt := 1693) dL_law_1690 (by decide) ?_
    refine la_lv G [2, 3, 4, 5, 6] rfl ?_
    exact kk _
  · have hw : w64 (if r1.1 = tp_TH then o else r1.1) = w64 r2.1 := by
      rw [if_neg hth, hv hth]
    refine la_ifne_f (pc := 1676) G (tgt := 1690) dL_law_1676 (by decide) (by rw [if_neg hth]; rfl) ?_
    refine la_aload (pc := 1679) G 6 dL_law_1679 rfl rfl ?_
    refine la_iconst (pc := 1680) G dL_law_1680 ?_
    refine la_out (pc := 1681) G dL_law_1681 ?_
    refine la_lload (pc := 1682) G 0 dL_law_1682 rfl ?_
    refine la_lcmp (pc := 1684) G hw dL_law_1684 ?_
    refine la_ifeq (pc := 1685) G (tgt := 1690) dL_law_1685 (by decide) rfl ?_
    refine la_goto (pc := 1690) G (tgt := 1693) dL_law_1690 (by decide) ?_
    refine la_lv G [2, 3, 4, 5, 6] rfl ?_
    exact kk _
