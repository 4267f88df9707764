def fx_X11_fits   (M : tp_M) : tp_O :=
(tp_lm (tp_up M 0 0 0) (fun M1 =>
(tp_bd (fx_X11_fitting  M1) (fun r2 M3 =>
(tp_lt r2 (fun x4 =>
(tp_lm (tp_up M3 0 1 0) (fun M5 =>
(tp_bd (fx_J6_bitCount_0f7a4 x4 M5) (fun r6 M7 =>
(tp_bd (fx_X11_enters (w32 r6) M7) (fun r8 M9 =>
(some (x4, M9))))))))))))))
set_option maxRecDepth 100000 in
set_option maxHeartbeats 4000000 in
theorem ok_X11_fits (X : tp_X)    {M : tp_M} {res : Int × tp_M} (h : fx_X11_fits   M = some res) : tp_Ret X LM 34 1 yX11_fits (Cond.code yX11_fits cX11_fits 2 (some .int)) 4 [vR X 0] M res := by
  refine tp_ofW (by decide +kernel) rfl rfl (by show _ ≤ 2; exact Nat.le_of_ble_eq_true rfl) h (fun Y G => ?_)
  show tp_J X Y LM 34 2 4 1 (fx_X11_fits   M) M [(0, vR X 0)] [] 0
  unfold fx_X11_fits
  refine tj_aload_n (pc := 0) G 0 dX11_fits_0 rfl rfl ?_
  refine tj_iconst (pc := 1) G dX11_fits_1 ?_
  refine tj_putI (pc := 2) G (k := 0) (j := 0) (j2 := 0) tk_X11 (by decide) lm_0 rfl (by decide) rfl fl_X11_3 rfl rfl dX11_fits_2 (fun M1 => ?_)
  refine tj_aload_n (pc := 5) G 0 dX11_fits_5 rfl rfl ?_
  refine tj_callVi (pc := 6) G [] mf_X11_fitting (k := 0) (by decide) lm_0 rfl rfl ml_X11_467 (by decide) rfl rfl (Nat.le_of_ble_eq_true rfl) (fun _ h9 => ok_X11_fitting X  h9) dX11_fits_6 (fun r2 M3 => ?_)
  refine tj_istore_n (pc := 9) G (fun x4 => [(1, vI x4), (0, vR X 0)]) dX11_fits_9 rfl (by decide) (fun _ => rfl) (fun x4 => ?_)
  refine tj_aload_n (pc := 10) G 1 dX11_fits_10 rfl rfl ?_
  refine tj_iconst (pc := 11) G dX11_fits_11 ?_
  refine tj_putI (pc := 12) G (k := 0) (j := 1) (j2 := 1) tk_X11 (by decide) lm_0 rfl (by decide) rfl fl_X11_15 rfl rfl dX11_fits_12 (fun M5 => ?_)
  refine tj_aload_n (pc := 15) G 1 dX11_fits_15 rfl rfl ?_
  refine tj_iload_n (pc := 16) G 0 dX11_fits_16 rfl rfl ?_
  refine tj_callSi (pc := 17) G [vI x4] mf_J6_bitCount_0f7a4 ml_X11_397 (by decide) rfl rfl (Nat.le_of_ble_eq_true rfl) (fun _ h9 => ok_J6_bitCount_0f7a4 X  h9) dX11_fits_17 (fun r6 M7 => ?_)
  refine tj_i2l (pc := 20) G (b := w32 r6) dX11_fits_20 rfl ?_
  refine tj_callVv (pc := 21) G [vL (w32 r6)] mf_X11_enters (k := 0) (by decide) lm_0 rfl rfl ml_X11_18 (by decide) rfl rfl (Nat.le_of_ble_eq_true rfl) (fun _ h9 => ok_X11_enters X  h9) dX11_fits_21 (fun r8 M9 => ?_)
  refine tj_iload_n (pc := 24) G 0 dX11_fits_24 rfl rfl ?_
  exact tj_iret (pc := 25) G dX11_fits_25

def fx_X11_asks_L55 (c1 : Int) (c2 : Int) (c3 : Int) (c4 : Int) (c5 : Int) (K105 : Int → tp_M → tp_O) (rec : Int → Int → tp_M → tp_O) (z27 z28 : Int) (M29 : tp_M) : tp_O :=
(if w32 z28 < w32 (M29 0 3) then
(tp_bd (fx_X11_has c1 z28 M29) (fun r31 M32 =>
(tp_jn1 (fun y33 M34 => 
(tp_bd (fx_X11_flag y33 M34) (fun r35 M36 =>
(tp_lt (z27 + r35) (fun x37 =>
(tp_lt (z28 + 1) (fun x38 =>
(rec x37 x38 M36)))))))) (fun jk93 =>
(tp_jn0 (fun M39 => 
(jk93 0 M39)) (fun jk92 =>
(if w32 r31 = 0 then
(jk92 M32)
else
(tp_bd (fx_X11_isSo z28 c4 c5 M32) (fun r40 M41 =>
(if w32 r40 = 0 then
(jk92 M41)
else
(jk93 1 M41)))))))))))
else
(K105 z27 M29))
def fx_X11_asks_L39 (c1 : Int) (c4 : Int) (K151 : Int → Int → tp_M → tp_O) (rec : Int → Int → Int → tp_M → tp_O) (z17 z18 z19 : Int) (M20 : tp_M) : tp_O :=
(tp_bd (fx_X11_highest c4 M20) (fun r23 M24 =>
(if w32 z19 ≤ w32 r23 then
(tp_lt 0 (fun x25 =>
(tp_lt 1 (fun x26 =>
(tp_lp2 (fx_X11_asks_L55 c1 z17 z18 c4 z19 (fun y30 M42 =>
(tp_bd (fx_J6_bitCount_0f7a4 c1 M42) (fun r43 M44 =>
(tp_lt (max (w32 y30) (w32 (r43 - y30))) (fun x45 =>
(tp_jn1 (fun y46 M47 => 
(tp_lt y46 (fun x48 =>
(tp_lt (min (w32 z18) (w32 x45)) (fun x49 =>
(tp_lt (z19 + 1) (fun x50 =>
(rec x48 x49 x50 M47)))))))) (fun jk137 =>
(if w32 x45 < w32 z18 then
(jk137 ((10 * c4) + z19) M44)
else
(jk137 z17 M44)))))))))) tp_F x25 x26 M24)))))
else
(K151 z17 z18 M24))))
def fx_X11_asks_L26 (c1 : Int) (K157 : Int → Int → tp_M → tp_O) (rec : Int → Int → Int → tp_M → tp_O) (z8 z9 z10 : Int) (M11 : tp_M) : tp_O :=
(if w32 z10 < 4 then
(tp_bd (fx_X11_lowest z10 M11) (fun r14 M15 =>
(tp_lt r14 (fun x16 =>
(tp_lp3 (fx_X11_asks_L39 c1 z10 (fun y21 y22 M51 =>
(tp_lt (z10 + 1) (fun x52 =>
(rec y21 y22 x52 M51))))) tp_F z8 z9 x16 M15)))))
else
(K157 z8 z9 M11))
def fx_X11_asks   (M : tp_M) : tp_O :=
(tp_lm (tp_up M 0 0 0) (fun M1 =>
(tp_bd (fx_X11_fitting  M1) (fun r2 M3 =>
(tp_lt r2 (fun x4 =>
(if w32 x4 = 0 then
(some ((-2), M3))
else
(tp_lt (-1) (fun x5 =>
(tp_lt 1000000 (fun x6 =>
(tp_lt 0 (fun x7 =>
(tp_lp3 (fx_X11_asks_L26 x4 (fun y12 y13 M53 =>
(tp_lm (tp_up M53 0 1 0) (fun M54 =>
(tp_bd (fx_X11_enters (w32 y13) M54) (fun r55 M56 =>
(some (y12, M56)))))))) tp_F x5 x6 x7 M3))))))))))))))
set_option maxRecDepth 100000 in
set_option maxHeartbeats 4000000 in
theorem fx_X11_asks_L55_ok {X : tp_X} {Y : tp_Y} (G : tp_Ok X Y 34 cX11_asks 8 RX11 (some .int))  {c1 : Int} {c2 : Int} {c3 : Int} {c4 : Int} {c5 : Int} {K105 : Int → tp_M → tp_O}   (hK105 : ∀ (y30 : Int) (M9 : tp_M), tp_J X Y LM 34 8 4 1 (K105 y30 M9) M9 [(0, vR X 0), (1, vI c1), (2, vI c2), (3, vI c3), (4, vI c4), (5, vI c5), (6, vI y30)] [] 105) (n : Nat) : ∀ (z27 z28 : Int) (M29 : tp_M), tp_J X Y LM 34 8 4 1 (tp_lp2 (fx_X11_asks_L55  c1 c2 c3 c4 c5 K105) n z27 z28 M29) M29 [(0, vR X 0), (1, vI c1), (2, vI c2), (3, vI c3), (4, vI c4), (5, vI c5), (6, vI z27), (7, vI z28)] [] 55 := by
  refine tp_lp2_ok (P := fun o z27 z28 M29 => tp_J X Y LM 34 8 4 1 (o) M29 [(0, vR X 0), (1, vI c1), (2, vI c2), (3, vI c3), (4, vI c4), (5, vI c5), (6, vI z27), (7, vI z28)] [] 55) (fun z27 z28 M29 => tj_none) (fun rec hrec z27 z28 M29 => ?_) n
  unfold fx_X11_asks_L55
  refine tj_iload (pc := 55) G 7 dX11_asks_55 rfl ?_
  refine tj_aload_n (pc := 57) G 0 dX11_asks_57 rfl rfl ?_
  refine tj_getI (pc := 58) G (k := 0) (j := 3) (j2 := 3) tk_X11 (by decide) lm_0 rfl (by decide) rfl fl_X11_28 dX11_asks_58 ?_
  refine tj_icmp_ge (pc := 61) G (tgt := 105) (a2 := w32 z28) (b2 := w32 (M29 0 3)) dX11_asks_61 (by decide) rfl rfl ?_ ?_
  · exact tj_sub [0, 1, 2, 3, 4, 5, 6] rfl (hK105 z27 M29)
  refine tj_iload (pc := 64) G 6 dX11_asks_64 rfl ?_
  refine tj_iload_n (pc := 66) G 1 dX11_asks_66 rfl rfl ?_
  refine tj_iload (pc := 67) G 7 dX11_asks_67 rfl ?_
  refine tj_callSi (pc := 69) G [vI c1, vI z28] mf_X11_has ml_X11_183 (by decide) rfl rfl (Nat.le_of_ble_eq_true rfl) (fun _ h9 => ok_X11_has X  h9) dX11_asks_69 (fun r31 M32 => ?_)
  refine tj_jn1 (fun y33 => [(0, vR X 0), (1, vI c1), (2, vI c2), (3, vI c3), (4, vI c4), (5, vI c5), (7, vI z28)]) (fun y33 => [vI y33, vI z27]) 93 (fun y33 M34 => ?_) (fun jk93 hj93 => ?_)
  · refine tj_callSi (pc := 93) G [vI y33] mf_X11_flag ml_X11_151 (by decide) rfl rfl (Nat.le_of_ble_eq_true rfl) (fun _ h9 => ok_X11_flag X  h9) dX11_asks_93 (fun r35 M36 => ?_)
    refine tj_iadd (pc := 96) G dX11_asks_96 ?_
    refine tj_istore (pc := 97) G (fun x37 => [(6, vI x37), (0, vR X 0), (1, vI c1), (2, vI c2), (3, vI c3), (4, vI c4), (5, vI c5), (7, vI z28)]) dX11_asks_97 (by decide) (fun _ => rfl) (fun x37 => ?_)
    refine tj_iinc (pc := 99) G 7 (fun x38 => [(7, vI x38), (6, vI x37), (0, vR X 0), (1, vI c1), (2, vI c2), (3, vI c3), (4, vI c4), (5, vI c5)]) dX11_asks_99 rfl (by decide) (fun _ => rfl) (fun x38 => ?_)
    refine tj_goto (pc := 102) G (tgt := 55) dX11_asks_102 (by decide) ?_
    exact tj_sub [2, 3, 4, 5, 6, 7, 1, 0] rfl (hrec x37 x38 M36)
  refine tj_jn0 [(0, vR X 0), (1, vI c1), (2, vI c2), (3, vI c3), (4, vI c4), (5, vI c5), (7, vI z28)] [vI z27] 92 (fun M39 => ?_) (fun jk92 hj92 => ?_)
  · refine tj_iconst (pc := 92) G dX11_asks_92 ?_
    exact tj_sub [0, 1, 2, 3, 4, 5, 6] rfl (hj93 0 M39)
  refine tj_if_eq (pc := 72) G (tgt := 92) (a2 := w32 r31) dX11_asks_72 (by decide) rfl ?_ ?_
  · exact tj_sub [0, 1, 2, 3, 4, 5, 7] rfl (hj92  M32)
  refine tj_aload_n (pc := 75) G 0 dX11_asks_75 rfl rfl ?_
  refine tj_iload (pc := 76) G 7 dX11_asks_76 rfl ?_
  refine tj_iload (pc := 78) G 4 dX11_asks_78 rfl ?_
  refine tj_iload (pc := 80) G 5 dX11_asks_80 rfl ?_
  refine tj_callVi (pc := 82) G [vI z28, vI c4, vI c5] mf_X11_isSo (k := 0) (by decide) lm_0 rfl rfl ml_X11_463 (by decide) rfl rfl (Nat.le_of_ble_eq_true rfl) (fun _ h9 => ok_X11_isSo X  h9) dX11_asks_82 (fun r40 M41 => ?_)
  refine tj_if_eq (pc := 85) G (tgt := 92) (a2 := w32 r40) dX11_asks_85 (by decide) rfl ?_ ?_
  · exact tj_sub [0, 1, 2, 3, 4, 5, 7] rfl (hj92  M41)
  refine tj_iconst (pc := 88) G dX11_asks_88 ?_
  refine tj_goto (pc := 89) G (tgt := 93) dX11_asks_89 (by decide) ?_
  exact tj_sub [0, 1, 2, 3, 4, 5, 7] rfl (hj93 1 M41)
set_option maxRecDepth 100000 in
set_option maxHeartbeats 4000000 in
theorem fx_X11_asks_L39_ok {X : tp_X} {Y : tp_Y} (G : tp_Ok X Y 34 cX11_asks 8 RX11 (some .int))  {c1 : Int} {c4 : Int} {K151 : Int → Int → tp_M → tp_O}   (hK151 : ∀ (y21 y22 : Int) (M9 : tp_M), tp_J X Y LM 34 8 4 1 (K151 y21 y22 M9) M9 [(0, vR X 0), (1, vI c1), (2, vI y21), (3, vI y22), (4, vI c4)] [] 151) (n : Nat) : ∀ (z17 z18 z19 : Int) (M20 : tp_M), tp_J X Y LM 34 8 4 1 (tp_lp3 (fx_X11_asks_L39  c1 c4 K151) n z17 z18 z19 M20) M20 [(0, vR X 0), (1, vI c1), (2, vI z17), (3, vI z18), (4, vI c4), (5, vI z19)] [] 39 := by
  refine tp_lp3_ok (P := fun o z17 z18 z19 M20 => tp_J X Y LM 34 8 4 1 (o) M20 [(0, vR X 0), (1, vI c1), (2, vI z17), (3, vI z18), (4, vI c4), (5, vI z19)] [] 39) (fun z17 z18 z19 M20 => tj_none) (fun rec hrec z17 z18 z19 M20 => ?_) n
  unfold fx_X11_asks_L39
  refine tj_iload (pc := 39) G 5 dX11_asks_39 rfl ?_
  refine tj_iload (pc := 41) G 4 dX11_asks_41 rfl ?_
  refine tj_callSi (pc := 43) G [vI c4] mf_X11_highest ml_X11_460 (by decide) rfl rfl (Nat.le_of_ble_eq_true rfl) (fun _ h9 => ok_X11_highest X  h9) dX11_asks_43 (fun r23 M24 => ?_)
  refine tj_icmp_gt (pc := 46) G (tgt := 151) (a2 := w32 z19) (b2 := w32 r23) dX11_asks_46 (by decide) rfl rfl ?_ ?_
  · exact tj_sub [0, 1, 2, 3, 4] rfl (hK151 z17 z18 M24)
  refine tj_iconst (pc := 49) G dX11_asks_49 ?_
  refine tj_istore (pc := 50) G (fun x25 => [(6, vI x25), (0, vR X 0), (1, vI c1), (2, vI z17), (3, vI z18), (4, vI c4), (5, vI z19)]) dX11_asks_50 (by decide) (fun _ => rfl) (fun x25 => ?_)
  refine tj_iconst (pc := 52) G dX11_asks_52 ?_
  refine tj_istore (pc := 53) G (fun x26 => [(7, vI x26), (6, vI x25), (0, vR X 0), (1, vI c1), (2, vI z17), (3, vI z18), (4, vI c4), (5, vI z19)]) dX11_asks_53 (by decide) (fun _ => rfl) (fun x26 => ?_)
  refine tj_sub [2, 3, 4, 5, 6, 7, 1, 0] rfl (fx_X11_asks_L55_ok G    (fun y30 M42 => ?_) tp_F x25 x26 M24)
  refine tj_iload (pc := 105) G 6 dX11_asks_105 rfl ?_
  refine tj_iload_n (pc := 107) G 1 dX11_asks_107 rfl rfl ?_
  refine tj_callSi (pc := 108) G [vI c1] mf_J6_bitCount_0f7a4 ml_X11_397 (by decide) rfl rfl (Nat.le_of_ble_eq_true rfl) (fun _ h9 => ok_J6_bitCount_0f7a4 X  h9) dX11_asks_108 (fun r43 M44 => ?_)
  refine tj_iload (pc := 111) G 6 dX11_asks_111 rfl ?_
  refine tj_isub (pc := 113) G dX11_asks_113 ?_
  refine tj_max (pc := 114) G (a2 := w32 y30) (b2 := w32 (r43 - y30)) rfl rfl ml_X11_261 mw_max (by decide) (Nat.le_of_ble_eq_true rfl) dX11_asks_114 ?_
  refine tj_istore (pc := 117) G (fun x45 => [(7, vI x45), (0, vR X 0), (1, vI c1), (2, vI z17), (3, vI z18), (4, vI c4), (5, vI z19), (6, vI y30)]) dX11_asks_117 (by decide) (fun _ => rfl) (fun x45 => ?_)
  refine tj_iload (pc := 119) G 0 dX11_asks_119 rfl ?_
  refine tj_iload_n (pc := 121) G 4 dX11_asks_121 rfl rfl ?_
  refine tj_jn1 (fun y46 => [(0, vR X 0), (1, vI c1), (3, vI z18), (4, vI c4), (5, vI z19), (7, vI x45)]) (fun y46 => [vI y46]) 137 (fun y46 M47 => ?_) (fun jk137 hj137 => ?_)
  · refine tj_istore_n (pc := 137) G (fun x48 => [(2, vI x48), (0, vR X 0), (1, vI c1), (3, vI z18), (4, vI c4), (5, vI z19), (7, vI x45)]) dX11_asks_137 rfl (by decide) (fun _ => rfl) (fun x48 => ?_)
    refine tj_iload_n (pc := 138) G 3 dX11_asks_138 rfl rfl ?_
    refine tj_iload (pc := 139) G 6 dX11_asks_139 rfl ?_
    refine tj_min (pc := 141) G (a2 := w32 z18) (b2 := w32 x45) rfl rfl ml_X11_142 mw_min (by decide) (Nat.le_of_ble_eq_true rfl) dX11_asks_141 ?_
    refine tj_istore_n (pc := 144) G (fun x49 => [(3, vI x49), (2, vI x48), (0, vR X 0), (1, vI c1), (4, vI c4), (5, vI z19), (7, vI x45)]) dX11_asks_144 rfl (by decide) (fun _ => rfl) (fun x49 => ?_)
    refine tj_iinc (pc := 145) G 5 (fun x50 => [(5, vI x50), (3, vI x49), (2, vI x48), (0, vR X 0), (1, vI c1), (4, vI c4), (7, vI x45)]) dX11_asks_145 rfl (by decide) (fun _ => rfl) (fun x50 => ?_)
    refine tj_goto (pc := 148) G (tgt := 39) dX11_asks_148 (by decide) ?_
    exact tj_sub [3, 4, 2, 1, 5, 0] rfl (hrec x48 x49 x50 M47)
  refine tj_icmp_ge (pc := 122) G (tgt := 136) (a2 := w32 x45) (b2 := w32 z18) dX11_asks_122 (by decide) rfl rfl ?_ ?_
  · refine tj_iload_n (pc := 136) G 3 dX11_asks_136 rfl rfl ?_
    exact tj_sub [1, 2, 4, 5, 6, 0] rfl (hj137 z17 M44)
  refine tj_bipush (pc := 125) G dX11_asks_125 rfl ?_
  refine tj_iload (pc := 127) G 5 dX11_asks_127 rfl ?_
  refine tj_imul (pc := 129) G dX11_asks_129 ?_
  refine tj_iload (pc := 130) G 6 dX11_asks_130 rfl ?_
  refine tj_iadd (pc := 132) G dX11_asks_132 ?_
  refine tj_goto (pc := 133) G (tgt := 137) dX11_asks_133 (by decide) ?_
  exact tj_sub [1, 2, 4, 5, 6, 0] rfl (hj137 ((10 * c4) + z19) M44)
set_option maxRecDepth 100000 in
set_option maxHeartbeats 4000000 in
theorem fx_X11_asks_L26_ok {X : tp_X} {Y : tp_Y} (G : tp_Ok X Y 34 cX11_asks 8 RX11 (some .int))  {c1 : Int} {K157 : Int → Int → tp_M → tp_O}   (hK157 : ∀ (y12 y13 : Int) (M9 : tp_M), tp_J X Y LM 34 8 4 1 (K157 y12 y13 M9) M9 [(0, vR X 0), (2, vI y12), (3, vI y13)] [] 157) (n : Nat) : ∀ (z8 z9 z10 : Int) (M11 : tp_M), tp_J X Y LM 34 8 4 1 (tp_lp3 (fx_X11_asks_L26  c1 K157) n z8 z9 z10 M11) M11 [(0, vR X 0), (1, vI c1), (2, vI z8), (3, vI z9), (4, vI z10)] [] 26 := by
  refine tp_lp3_ok (P := fun o z8 z9 z10 M11 => tp_J X Y LM 34 8 4 1 (o) M11 [(0, vR X 0), (1, vI c1), (2, vI z8), (3, vI z9), (4, vI z10)] [] 26) (fun z8 z9 z10 M11 => tj_none) (fun rec hrec z8 z9 z10 M11 => ?_) n
  unfold fx_X11_asks_L26
  refine tj_iload (pc := 26) G 4 dX11_asks_26 rfl ?_
  refine tj_iconst (pc := 28) G dX11_asks_28 ?_
  refine tj_icmp_ge (pc := 29) G (tgt := 157) (a2 := w32 z10) (b2 := 4) dX11_asks_29 (by decide) rfl rfl ?_ ?_
  · exact tj_sub [0, 2, 3] rfl (hK157 z8 z9 M11)
  refine tj_iload (pc := 32) G 4 dX11_asks_32 rfl ?_
  refine tj_callSi (pc := 34) G [vI z10] mf_X11_lowest ml_X11_457 (by decide) rfl rfl (Nat.le_of_ble_eq_true rfl) (fun _ h9 => ok_X11_lowest X  h9) dX11_asks_34 (fun r14 M15 => ?_)
  refine tj_istore (pc := 37) G (fun x16 => [(5, vI x16), (0, vR X 0), (1, vI c1), (2, vI z8), (3, vI z9), (4, vI z10)]) dX11_asks_37 (by decide) (fun _ => rfl) (fun x16 => ?_)
  refine tj_sub [1, 2, 3, 4, 5, 0] rfl (fx_X11_asks_L39_ok G    (fun y21 y22 M51 => ?_) tp_F z8 z9 x16 M15)
  refine tj_iinc (pc := 151) G 4 (fun x52 => [(4, vI x52), (0, vR X 0), (1, vI c1), (2, vI y21), (3, vI y22)]) dX11_asks_151 rfl (by decide) (fun _ => rfl) (fun x52 => ?_)
  refine tj_goto (pc := 154) G (tgt := 26) dX11_asks_154 (by decide) ?_
  exact tj_sub [1, 2, 3, 4, 0] rfl (hrec y21 y22 x52 M51)
set_option maxRecDepth 100000 in
set_option maxHeartbeats 4000000 in
theorem ok_X11_asks (X : tp_X)    {M : tp_M} {res : Int × tp_M} (h : fx_X11_asks   M = some res) : tp_Ret X LM 34 1 yX11_asks (Cond.code yX11_asks cX11_asks 8 (some .int)) 4 [vR X 0] M res := by
  refine tp_ofW (by decide +kernel) rfl rfl (by show _ ≤ 8; exact Nat.le_of_ble_eq_true rfl) h (fun Y G => ?_)
  show tp_J X Y LM 34 8 4 1 (fx_X11_asks   M) M [(0, vR X 0)] [] 0
  unfold fx_X11_asks
  refine tj_aload_n (pc := 0) G 0 dX11_asks_0 rfl rfl ?_
  refine tj_iconst (pc := 1) G dX11_asks_1 ?_
  refine tj_putI (pc := 2) G (k := 0) (j := 0) (j2 := 0) tk_X11 (by decide) lm_0 rfl (by decide) rfl fl_X11_3 rfl rfl dX11_asks_2 (fun M1 => ?_)
  refine tj_aload_n (pc := 5) G 0 dX11_asks_5 rfl rfl ?_
  refine tj_callVi (pc := 6) G [] mf_X11_fitting (k := 0) (by decide) lm_0 rfl rfl ml_X11_467 (by decide) rfl rfl (Nat.le_of_ble_eq_true rfl) (fun _ h9 => ok_X11_fitting X  h9) dX11_asks_6 (fun r2 M3 => ?_)
  refine tj_istore_n (pc := 9) G (fun x4 => [(1, vI x4), (0, vR X 0)]) dX11_asks_9 rfl (by decide) (fun _ => rfl) (fun x4 => ?_)
  refine tj_iload_n (pc := 10) G 0 dX11_asks_10 rfl rfl ?_
  refine tj_if_ne (pc := 11) G (tgt := 17) (a2 := w32 x4) dX11_asks_11 (by decide) rfl ?_ ?_
  · refine tj_iconst (pc := 17) G dX11_asks_17 ?_
    refine tj_istore_n (pc := 18) G (fun x5 => [(2, vI x5), (1, vI x4), (0, vR X 0)]) dX11_asks_18 rfl (by decide) (fun _ => rfl) (fun x5 => ?_)
    refine tj_ldcw (pc := 19) G (v := 1000000) dX11_asks_19 ct_X11_264 rfl ?_
    refine tj_istore_n (pc := 22) G (fun x6 => [(3, vI x6), (2, vI x5), (1, vI x4), (0, vR X 0)]) dX11_asks_22 rfl (by decide) (fun _ => rfl) (fun x6 => ?_)
    refine tj_iconst (pc := 23) G dX11_asks_23 ?_
    refine tj_istore (pc := 24) G (fun x7 => [(4, vI x7), (3, vI x6), (2, vI x5), (1, vI x4), (0, vR X 0)]) dX11_asks_24 (by decide) (fun _ => rfl) (fun x7 => ?_)
    refine tj_sub [4, 3, 2, 1, 0] rfl (fx_X11_asks_L26_ok G    (fun y12 y13 M53 => ?_) tp_F x5 x6 x7 M3)
    refine tj_aload_n (pc := 157) G 0 dX11_asks_157 rfl rfl ?_
    refine tj_iconst (pc := 158) G dX11_asks_158 ?_
    refine tj_putI (pc := 159) G (k := 0) (j := 1) (j2 := 1) tk_X11 (by decide) lm_0 rfl (by decide) rfl fl_X11_15 rfl rfl dX11_asks_159 (fun M54 => ?_)
    refine tj_aload_n (pc := 162) G 0 dX11_asks_162 rfl rfl ?_
    refine tj_iload_n (pc := 163) G 2 dX11_asks_163 rfl rfl ?_
    refine tj_i2l (pc := 164) G (b := w32 y13) dX11_asks_164 rfl ?_
    refine tj_callVv (pc := 165) G [vL (w32 y13)] mf_X11_enters (k := 0) (by decide) lm_0 rfl rfl ml_X11_18 (by decide) rfl rfl (Nat.le_of_ble_eq_true rfl) (fun _ h9 => ok_X11_enters X  h9) dX11_asks_165 (fun r55 M56 => ?_)
    refine tj_iload_n (pc := 168) G 1 dX11_asks_168 rfl rfl ?_
    exact tj_iret (pc := 169) G dX11_asks_169
  refine tj_bipush (pc := 14) G dX11_asks_14 rfl ?_
  exact tj_iret (pc := 16) G dX11_asks_16

def fx_X11_isGood  (a1 : Int) (a2 : Int) (a3 : Int) (a4 : Int) (M : tp_M) : tp_O :=
(tp_jn1 (fun y1 M2 => 
(tp_lt y1 (fun x3 =>
(if w32 x3 = 0 then
(some (0, M2))
else
(tp_ck (w32 (((31 * (a1 - a3)) + a2) - a4)) 961 (if w32 (M2 30 (w32 (((31 * (a1 - a3)) + a2) - a4))) = 0 then
(some (1, M2))
else
(some (0, M2)))))))) (fun jk38 =>
(tp_jn0 (fun M4 => 
(jk38 0 M4)) (fun jk37 =>
(if w32 (a3 + a4) ≤ 0 then
(jk37 M)
else
(tp_jn0 (fun M5 => 
(if w32 a3 ≤ w32 a1 then
(if w32 a4 ≤ w32 a2 then
(jk38 1 M5)
else
(jk37 M5))
else
(jk37 M5))) (fun jk22 =>
(if w32 a3 = 0 then
(jk22 M)
else
(if w32 a4 = 0 then
(jk22 M)
else
(if w32 a3 = w32 a4 then
(jk22 M)
else
(jk37 M)))))))))))
set_option maxRecDepth 100000 in
set_option maxHeartbeats 4000000 in
theorem ok_X11_isGood (X : tp_X)  {a1 : Int} {a2 : Int} {a3 : Int} {a4 : Int}  {M : tp_M} {res : Int × tp_M} (h : fx_X11_isGood  a1 a2 a3 a4 M = some res) : tp_Ret X LM 34 1 yX11_isGood (Cond.code yX11_isGood cX11_isGood 6 (some .boolean)) 1 [vR X 0, vI a1, vI a2, vI a3, vI a4] M res := by
  refine tp_ofW (by decide +kernel) rfl rfl (by show _ ≤ 6; exact Nat.le_of_ble_eq_true rfl) h (fun Y G => ?_)
  show tp_J X Y LM 34 6 1 1 (fx_X11_isGood  a1 a2 a3 a4 M) M [(0, vR X 0), (1, vI a1), (2, vI a2), (3, vI a3), (4, vI a4)] [] 0
  unfold fx_X11_isGood
  refine tj_iload_n (pc := 0) G 3 dX11_isGood_0 rfl rfl ?_
  refine tj_iload (pc := 1) G 4 dX11_isGood_1 rfl ?_
  refine tj_iadd (pc := 3) G dX11_isGood_3 ?_
  refine tj_jn1 (fun y1 => [(0, vR X 0), (1, vI a1), (2, vI a2), (3, vI a3), (4, vI a4)]) (fun y1 => [vI y1]) 38 (fun y1 M2 => ?_) (fun jk38 hj38 => ?_)
  · refine tj_istore (pc := 38) G (fun x3 => [(5, vI x3), (0, vR X 0), (1, vI a1), (2, vI a2), (3, vI a3), (4, vI a4)]) dX11_isGood_38 (by decide) (fun _ => rfl) (fun x3 => ?_)
    refine tj_iload (pc := 40) G 0 dX11_isGood_40 rfl ?_
    refine tj_if_eq (pc := 42) G (tgt := 68) (a2 := w32 x3) dX11_isGood_42 (by decide) rfl ?_ ?_
    · refine tj_iconst (pc := 68) G dX11_isGood_68 ?_
      exact tj_zret (pc := 69) G (by decide) dX11_isGood_69
    refine tj_aload_n (pc := 45) G 1 dX11_isGood_45 rfl rfl ?_
    refine tj_getR (pc := 46) G (k := 0) (j := 47) (j2 := 47) tk_X11 (by decide) lm_0 rfl (by decide) rfl fl_X11_116 dX11_isGood_46 ?_
    refine tj_bipush (pc := 49) G dX11_isGood_49 rfl ?_
    refine tj_iload_n (pc := 51) G 2 dX11_isGood_51 rfl rfl ?_
    refine tj_iload_n (pc := 52) G 4 dX11_isGood_52 rfl rfl ?_
    refine tj_isub (pc := 53) G dX11_isGood_53 ?_
    refine tj_imul (pc := 54) G dX11_isGood_54 ?_
    refine tj_iload_n (pc := 55) G 3 dX11_isGood_55 rfl rfl ?_
    refine tj_iadd (pc := 56) G dX11_isGood_56 ?_
    refine tj_iload (pc := 57) G 5 dX11_isGood_57 rfl ?_
    refine tj_isub (pc := 59) G dX11_isGood_59 ?_
    refine tj_zald (pc := 60) G (k := 30) (i2 := w32 (((31 * (a1 - a3)) + a2) - a4)) (n2 := 961) (by decide) lm_30 rfl rfl dX11_isGood_60 ?_
    refine tj_if_ne (pc := 61) G (tgt := 68) (a2 := w32 (M2 30 (w32 (((31 * (a1 - a3)) + a2) - a4)))) dX11_isGood_61 (by decide) rfl ?_ ?_
    · refine tj_iconst (pc := 68) G dX11_isGood_68 ?_
      exact tj_zret (pc := 69) G (by decide) dX11_isGood_69
    refine tj_iconst (pc := 64) G dX11_isGood_64 ?_
    refine tj_goto (pc := 65) G (tgt := 69) dX11_isGood_65 (by decide) ?_
    exact tj_zret (pc := 69) G (by decide) dX11_isGood_69
  refine tj_jn0 [(0, vR X 0), (1, vI a1), (2, vI a2), (3, vI a3), (4, vI a4)] [] 37 (fun M4 => ?_) (fun jk37 hj37 => ?_)
  · refine tj_iconst (pc := 37) G dX11_isGood_37 ?_
    exact tj_sub [0, 1, 2, 3, 4] rfl (hj38 0 M4)
  refine tj_if_le (pc := 4) G (tgt := 37) (a2 := w32 (a3 + a4)) dX11_isGood_4 (by decide) rfl ?_ ?_
  · exact tj_sub [0, 1, 2, 3, 4] rfl (hj37  M)
  refine tj_iload_n (pc := 7) G 3 dX11_isGood_7 rfl rfl ?_
  refine tj_jn0 [(0, vR X 0), (1, vI a1), (2, vI a2), (3, vI a3), (4, vI a4)] [] 22 (fun M5 => ?_) (fun jk22 hj22 => ?_)
  · refine tj_iload_n (pc := 22) G 3 dX11_isGood_22 rfl rfl ?_
    refine tj_iload_n (pc := 23) G 1 dX11_isGood_23 rfl rfl ?_
    refine tj_icmp_gt (pc := 24) G (tgt := 37) (a2 := w32 a3) (b2 := w32 a1) dX11_isGood_24 (by decide) rfl rfl ?_ ?_
    · exact tj_sub [0, 1, 2, 3, 4] rfl (hj37  M5)
    refine tj_iload (pc := 27) G 4 dX11_isGood_27 rfl ?_
    refine tj_iload_n (pc := 29) G 2 dX11_isGood_29 rfl rfl ?_
    refine tj_icmp_gt (pc := 30) G (tgt := 37) (a2 := w32 a4) (b2 := w32 a2) dX11_isGood_30 (by decide) rfl rfl ?_ ?_
    · exact tj_sub [0, 1, 2, 3, 4] rfl (hj37  M5)
    refine tj_iconst (pc := 33) G dX11_isGood_33 ?_
    refine tj_goto (pc := 34) G (tgt := 38) dX11_isGood_34 (by decide) ?_
    exact tj_sub [0, 1, 2, 3, 4] rfl (hj38 1 M5)
  refine tj_if_eq (pc := 8) G (tgt := 22) (a2 := w32 a3) dX11_isGood_8 (by decide) rfl ?_ ?_
  · exact tj_sub [0, 1, 2, 3, 4] rfl (hj22  M)
  refine tj_iload (pc := 11) G 4 dX11_isGood_11 rfl ?_
  refine tj_if_eq (pc := 13) G (tgt := 22) (a2 := w32 a4) dX11_isGood_13 (by decide) rfl ?_ ?_
  · exact tj_sub [0, 1, 2, 3, 4] rfl (hj22  M)
  refine tj_iload_n (pc := 16) G 3 dX11_isGood_16 rfl rfl ?_
  refine tj_iload (pc := 17) G 4 dX11_isGood_17 rfl ?_
  refine tj_icmp_ne (pc := 19) G (tgt := 37) (a2 := w32 a3) (b2 := w32 a4) dX11_isGood_19 (by decide) rfl rfl ?_ ?_
  · exact tj_sub [0, 1, 2, 3, 4] rfl (hj37  M)
  exact tj_sub [0, 1, 2, 3, 4] rfl (hj22  M)

def fx_X11_goodMove_L10 (c1 : Int) (c2 : Int) (c3 : Int) (K42 : tp_M → tp_O) (rec : Int → tp_M → tp_O) (z5 : Int) (M6 : tp_M) : tp_O :=
(if w32 z5 ≤ w32 c2 then
(tp_bd (fx_X11_isGood c1 c2 c3 z5 M6) (fun r7 M8 =>
(if w32 r7 = 0 then
(tp_lt (z5 + 1) (fun x9 =>
(rec x9 M8)))
else
(some ((31 * c3) + z5, M8)))))
else
(K42 M6))
def fx_X11_goodMove_L2 (c1 : Int) (c2 : Int) (rec : Int → tp_M → tp_O) (z2 : Int) (M3 : tp_M) : tp_O :=
(if w32 z2 ≤ w32 c1 then
(tp_lt 0 (fun x4 =>
(tp_lp1 (fx_X11_goodMove_L10 c1 c2 z2 (fun M10 =>
(tp_lt (z2 + 1) (fun x11 =>
(rec x11 M10))))) tp_F x4 M3)))
else
(some ((-1), M3)))
def fx_X11_goodMove  (a1 : Int) (a2 : Int) (M : tp_M) : tp_O :=
(tp_lt 0 (fun x1 =>
(tp_lp1 (fx_X11_goodMove_L2 a1 a2 ) tp_F x1 M)))
set_option maxRecDepth 100000 in
set_option maxHeartbeats 4000000 in
theorem fx_X11_goodMove_L10_ok {X : tp_X} {Y : tp_Y} (G : tp_Ok X Y 34 cX11_goodMove 5 RX11 (some .int))  {c1 : Int} {c2 : Int} {c3 : Int} {K42 : tp_M → tp_O}   (hK42 : ∀ (M9 : tp_M), tp_J X Y LM 34 5 2 1 (K42  M9) M9 [(0, vR X 0), (1, vI c1), (2, vI c2), (3, vI c3)] [] 42) (n : Nat) : ∀ (z5 : Int) (M6 : tp_M), tp_J X Y LM 34 5 2 1 (tp_lp1 (fx_X11_goodMove_L10  c1 c2 c3 K42) n z5 M6) M6 [(0, vR X 0), (1, vI c1), (2, vI c2), (3, vI c3), (4, vI z5)] [] 10 := by
  refine tp_lp1_ok (P := fun o z5 M6 => tp_J X Y LM 34 5 2 1 (o) M6 [(0, vR X 0), (1, vI c1), (2, vI c2), (3, vI c3), (4, vI z5)] [] 10) (fun z5 M6 => tj_none) (fun rec hrec z5 M6 => ?_) n
  unfold fx_X11_goodMove_L10
  refine tj_iload (pc := 10) G 4 dX11_goodMove_10 rfl ?_
  refine tj_iload_n (pc := 12) G 2 dX11_goodMove_12 rfl rfl ?_
  refine tj_icmp_gt (pc := 13) G (tgt := 42) (a2 := w32 z5) (b2 := w32 c2) dX11_goodMove_13 (by decide) rfl rfl ?_ ?_
  · exact tj_sub [0, 1, 2, 3] rfl (hK42  M6)
  refine tj_aload_n (pc := 16) G 0 dX11_goodMove_16 rfl rfl ?_
  refine tj_iload_n (pc := 17) G 1 dX11_goodMove_17 rfl rfl ?_
  refine tj_iload_n (pc := 18) G 2 dX11_goodMove_18 rfl rfl ?_
  refine tj_iload_n (pc := 19) G 3 dX11_goodMove_19 rfl rfl ?_
  refine tj_iload (pc := 20) G 4 dX11_goodMove_20 rfl ?_
  refine tj_callVi (pc := 22) G [vI c1, vI c2, vI c3, vI z5] mf_X11_isGood (k := 0) (by decide) lm_0 rfl rfl ml_X11_470 (by decide) rfl rfl (Nat.le_of_ble_eq_true rfl) (fun _ h9 => ok_X11_isGood X  h9) dX11_goodMove_22 (fun r7 M8 => ?_)
  refine tj_if_eq (pc := 25) G (tgt := 36) (a2 := w32 r7) dX11_goodMove_25 (by decide) rfl ?_ ?_
  · refine tj_iinc (pc := 36) G 4 (fun x9 => [(4, vI x9), (0, vR X 0), (1, vI c1), (2, vI c2), (3, vI c3)]) dX11_goodMove_36 rfl (by decide) (fun _ => rfl) (fun x9 => ?_)
    refine tj_goto (pc := 39) G (tgt := 10) dX11_goodMove_39 (by decide) ?_
    exact tj_sub [1, 2, 3, 4, 0] rfl (hrec x9 M8)
  refine tj_bipush (pc := 28) G dX11_goodMove_28 rfl ?_
  refine tj_iload_n (pc := 30) G 3 dX11_goodMove_30 rfl rfl ?_
  refine tj_imul (pc := 31) G dX11_goodMove_31 ?_
  refine tj_iload (pc := 32) G 4 dX11_goodMove_32 rfl ?_
  refine tj_iadd (pc := 34) G dX11_goodMove_34 ?_
  exact tj_iret (pc := 35) G dX11_goodMove_35
set_option maxRecDepth 100000 in
set_option maxHeartbeats 4000000 in
theorem fx_X11_goodMove_L2_ok {X : tp_X} {Y : tp_Y} (G : tp_Ok X Y 34 cX11_goodMove 5 RX11 (some .int))  {c1 : Int} {c2 : Int}    (n : Nat) : ∀ (z2 : Int) (M3 : tp_M), tp_J X Y LM 34 5 2 1 (tp_lp1 (fx_X11_goodMove_L2  c1 c2 ) n z2 M3) M3 [(0, vR X 0), (1, vI c1), (2, vI c2), (3, vI z2)] [] 2 := by
  refine tp_lp1_ok (P := fun o z2 M3 => tp_J X Y LM 34 5 2 1 (o) M3 [(0, vR X 0), (1, vI c1), (2, vI c2), (3, vI z2)] [] 2) (fun z2 M3 => tj_none) (fun rec hrec z2 M3 => ?_) n
  unfold fx_X11_goodMove_L2
  refine tj_iload_n (pc := 2) G 3 dX11_goodMove_2 rfl rfl ?_
  refine tj_iload_n (pc := 3) G 1 dX11_goodMove_3 rfl rfl ?_
  refine tj_icmp_gt (pc := 4) G (tgt := 48) (a2 := w32 z2) (b2 := w32 c1) dX11_goodMove_4 (by decide) rfl rfl ?_ ?_
  · refine tj_iconst (pc := 48) G dX11_goodMove_48 ?_
    exact tj_iret (pc := 49) G dX11_goodMove_49
  refine tj_iconst (pc := 7) G dX11_goodMove_7 ?_
  refine tj_istore (pc := 8) G (fun x4 => [(4, vI x4), (0, vR X 0), (1, vI c1), (2, vI c2), (3, vI z2)]) dX11_goodMove_8 (by decide) (fun _ => rfl) (fun x4 => ?_)
  refine tj_sub [1, 2, 3, 4, 0] rfl (fx_X11_goodMove_L10_ok G    (fun M10 => ?_) tp_F x4 M3)
  refine tj_iinc (pc := 42) G 3 (fun x11 => [(3, vI x11), (0, vR X 0), (1, vI c1), (2, vI c2)]) dX11_goodMove_42 rfl (by decide) (fun _ => rfl) (fun x11 => ?_)
  refine tj_goto (pc := 45) G (tgt := 2) dX11_goodMove_45 (by decide) ?_
  exact tj_sub [1, 2, 3, 0] rfl (hrec x11 M10)
set_option maxRecDepth 100000 in
set_option maxHeartbeats 4000000 in
theorem ok_X11_goodMove (X : tp_X)  {a1 : Int} {a2 : Int}  {M : tp_M} {res : Int × tp_M} (h : fx_X11_goodMove  a1 a2 M = some res) : tp_Ret X LM 34 1 yX11_goodMove (Cond.code yX11_goodMove cX11_goodMove 5 (some .int)) 2 [vR X 0, vI a1, vI a2] M res := by
  refine tp_ofW (by decide +kernel) rfl rfl (by show _ ≤ 5; exact Nat.le_of_ble_eq_true rfl) h (fun Y G => ?_)
  show tp_J X Y LM 34 5 2 1 (fx_X11_goodMove  a1 a2 M) M [(0, vR X 0), (1, vI a1), (2, vI a2)] [] 0
  unfold fx_X11_goodMove
  refine tj_iconst (pc := 0) G dX11_goodMove_0 ?_
  refine tj_istore_n (pc := 1) G (fun x1 => [(3, vI x1), (0, vR X 0), (1, vI a1), (2, vI a2)]) dX11_goodMove_1 rfl (by decide) (fun _ => rfl) (fun x1 => ?_)
  refine tj_sub [1, 2, 3, 0] rfl (fx_X11_goodMove_L2_ok G     tp_F x1 M)

def fx_X11_crowds_L41 (c1 : Int) (c2 : Int) (c3 : Int) (K80 : tp_M → tp_O) (rec : Int → tp_M → tp_O) (z10 : Int) (M11 : tp_M) : tp_O :=
(if w32 z10 ≤ w32 c2 then
(tp_bd (fx_X11_goodMove c3 z10 M11) (fun r12 M13 =>
(tp_jn1 (fun y14 M15 => 
(tp_gd (w32 y14 = 0 ∨ w32 y14 = 1) inferInstance (tp_ck (w32 ((31 * c3) + z10)) 961 (tp_lm (tp_up M15 30 (w32 ((31 * c3) + z10)) y14) (fun M16 =>
(tp_lt (z10 + 1) (fun x17 =>
(rec x17 M16)))))))) (fun jk73 =>
(if w32 r12 ≤ 0 then
(jk73 0 M13)
else
(jk73 1 M13))))))
else
(K80 M11))
def fx_X11_crowds_L33 (c1 : Int) (c2 : Int) (K86 : tp_M → tp_O) (rec : Int → tp_M → tp_O) (z7 : Int) (M8 : tp_M) : tp_O :=
(if w32 z7 ≤ w32 c1 then
(tp_lt 0 (fun x9 =>
(tp_lp1 (fx_X11_crowds_L41 c1 c2 z7 (fun M18 =>
(tp_lt (z7 + 1) (fun x19 =>
(rec x19 M18))))) tp_F x9 M8)))
else
(K86 M8))
def fx_X11_crowds  (a1 : Int) (a2 : Int) (M : tp_M) : tp_O :=
(tp_lm (tp_up M 0 0 0) (fun M1 =>
(tp_bd (fx_X11_in (w32 a1) 0 30 M1) (fun r2 M3 =>
(if w32 r2 = 0 then
(some ((-1), M3))
else
(tp_bd (fx_X11_in (w32 a2) 0 30 M3) (fun r4 M5 =>
(if w32 r4 = 0 then
(some ((-1), M5))
else
(tp_lt 0 (fun x6 =>
(tp_lp1 (fx_X11_crowds_L33 a1 a2 (fun M20 =>
(tp_bd (fx_X11_goodMove a1 a2 M20) (fun r21 M22 =>
(tp_lt r21 (fun x23 =>
(tp_lm (tp_up M22 0 1 0) (fun M24 =>
(tp_jn0 (fun M25 => 
(tp_jn1 (fun y26 M27 => 
(tp_bd (fx_X11_flag y26 M27) (fun r28 M29 =>
(some (r28, M29))))) (fun jk129 =>
(if w32 x23 ≤ 0 then
(jk129 0 M25)
else
(jk129 1 M25))))) (fun jk120 =>
(if w32 x23 ≤ 0 then
(jk120 M24)
else
(tp_nz 31 (tp_bd (fx_X11_enters (w32 (x_div x23 31)) M24) (fun r30 M31 =>
(tp_nz 31 (tp_bd (fx_X11_enters (w32 (x_rem x23 31)) M31) (fun r32 M33 =>
(jk120 M33)))))))))))))))))) tp_F x6 M5)))))))))))
set_option maxRecDepth 100000 in
set_option maxHeartbeats 4000000 in
theorem fx_X11_crowds_L41_ok {X : tp_X} {Y : tp_Y} (G : tp_Ok X Y 34 cX11_crowds 5 RX11 (some .int))  {c1 : Int} {c2 : Int} {c3 : Int} {K80 : tp_M → tp_O}   (hK80 : ∀ (M9 : tp_M), tp_J X Y LM 34 5 3 1 (K80  M9) M9 [(0, vR X 0), (1, vI c1), (2, vI c2), (3, vI c3)] [] 80) (n : Nat) : ∀ (z10 : Int) (M11 : tp_M), tp_J X Y LM 34 5 3 1 (tp_lp1 (fx_X11_crowds_L41  c1 c2 c3 K80) n z10 M11) M11 [(0, vR X 0), (1, vI c1), (2, vI c2), (3, vI c3), (4, vI z10)] [] 41 := by
  refine tp_lp1_ok (P := fun o z10 M11 => tp_J X Y LM 34 5 3 1 (o) M11 [(0, vR X 0), (1, vI c1), (2, vI c2), (3, vI c3), (4, vI z10)] [] 41) (fun z10 M11 => tj_none) (fun rec hrec z10 M11 => ?_) n
  unfold fx_X11_crowds_L41
  refine tj_iload (pc := 41) G 4 dX11_crowds_41 rfl ?_
  refine tj_iload_n (pc := 43) G 2 dX11_crowds_43 rfl rfl ?_
  refine tj_icmp_gt (pc := 44) G (tgt := 80) (a2 := w32 z10) (b2 := w32 c2) dX11_crowds_44 (by decide) rfl rfl ?_ ?_
  · exact tj_sub [0, 1, 2, 3] rfl (hK80  M11)
  refine tj_aload_n (pc := 47) G 0 dX11_crowds_47 rfl rfl ?_
  refine tj_getR (pc := 48) G (k := 0) (j := 47) (j2 := 47) tk_X11 (by decide) lm_0 rfl (by decide) rfl fl_X11_116 dX11_crowds_48 ?_
  refine tj_bipush (pc := 51) G dX11_crowds_51 rfl ?_
  refine tj_iload_n (pc := 53) G 3 dX11_crowds_53 rfl rfl ?_
  refine tj_imul (pc := 54) G dX11_crowds_54 ?_
  refine tj_iload (pc := 55) G 4 dX11_crowds_55 rfl ?_
  refine tj_iadd (pc := 57) G dX11_crowds_57 ?_
  refine tj_aload_n (pc := 58) G 0 dX11_crowds_58 rfl rfl ?_
  refine tj_iload_n (pc := 59) G 3 dX11_crowds_59 rfl rfl ?_
  refine tj_iload (pc := 60) G 4 dX11_crowds_60 rfl ?_
  refine tj_callVi (pc := 62) G [vI c3, vI z10] mf_X11_goodMove (k := 0) (by decide) lm_0 rfl rfl ml_X11_476 (by decide) rfl rfl (Nat.le_of_ble_eq_true rfl) (fun _ h9 => ok_X11_goodMove X  h9) dX11_crowds_62 (fun r12 M13 => ?_)
  refine tj_jn1 (fun y14 => [(0, vR X 0), (1, vI c1), (2, vI c2), (3, vI c3), (4, vI z10)]) (fun y14 => [vI y14, vI ((31 * c3) + z10), vR X 30]) 73 (fun y14 M15 => ?_) (fun jk73 hj73 => ?_)
  · refine tj_gd (fun hz => ?_)
    refine tj_zast (pc := 73) G (k := 30) (i2 := w32 ((31 * c3) + z10)) (n2 := 961) (by decide) lm_30 rfl rfl hz dX11_crowds_73 (fun M16 => ?_)
    refine tj_iinc (pc := 74) G 4 (fun x17 => [(4, vI x17), (0, vR X 0), (1, vI c1), (2, vI c2), (3, vI c3)]) dX11_crowds_74 rfl (by decide) (fun _ => rfl) (fun x17 => ?_)
    refine tj_goto (pc := 77) G (tgt := 41) dX11_crowds_77 (by decide) ?_
    exact tj_sub [1, 2, 3, 4, 0] rfl (hrec x17 M16)
  refine tj_if_le (pc := 65) G (tgt := 72) (a2 := w32 r12) dX11_crowds_65 (by decide) rfl ?_ ?_
  · refine tj_iconst (pc := 72) G dX11_crowds_72 ?_
    exact tj_sub [0, 1, 2, 3, 4] rfl (hj73 0 M13)
  refine tj_iconst (pc := 68) G dX11_crowds_68 ?_
  refine tj_goto (pc := 69) G (tgt := 73) dX11_crowds_69 (by decide) ?_
  exact tj_sub [0, 1, 2, 3, 4] rfl (hj73 1 M13)
set_option maxRecDepth 100000 in
set_option maxHeartbeats 4000000 in
theorem fx_X11_crowds_L33_ok {X : tp_X} {Y : tp_Y} (G : tp_Ok X Y 34 cX11_crowds 5 RX11 (some .int))  {c1 : Int} {c2 : Int} {K86 : tp_M → tp_O}   (hK86 : ∀ (M9 : tp_M), tp_J X Y LM 34 5 3 1 (K86  M9) M9 [(0, vR X 0), (1, vI c1), (2, vI c2)] [] 86) (n : Nat) : ∀ (z7 : Int) (M8 : tp_M), tp_J X Y LM 34 5 3 1 (tp_lp1 (fx_X11_crowds_L33  c1 c2 K86) n z7 M8) M8 [(0, vR X 0), (1, vI c1), (2, vI c2), (3, vI z7)] [] 33 := by
  refine tp_lp1_ok (P := fun o z7 M8 => tp_J X Y LM 34 5 3 1 (o) M8 [(0, vR X 0), (1, vI c1), (2, vI c2), (3, vI z7)] [] 33) (fun z7 M8 => tj_none) (fun rec hrec z7 M8 => ?_) n
  unfold fx_X11_crowds_L33
  refine tj_iload_n (pc := 33) G 3 dX11_crowds_33 rfl rfl ?_
  refine tj_iload_n (pc := 34) G 1 dX11_crowds_34 rfl rfl ?_
  refine tj_icmp_gt (pc := 35) G (tgt := 86) (a2 := w32 z7) (b2 := w32 c1) dX11_crowds_35 (by decide) rfl rfl ?_ ?_
  · exact tj_sub [0, 1, 2] rfl (hK86  M8)
  refine tj_iconst (pc := 38) G dX11_crowds_38 ?_
  refine tj_istore (pc := 39) G (fun x9 => [(4, vI x9), (0, vR X 0), (1, vI c1), (2, vI c2), (3, vI z7)]) dX11_crowds_39 (by decide) (fun _ => rfl) (fun x9 => ?_)
  refine tj_sub [1, 2, 3, 4, 0] rfl (fx_X11_crowds_L41_ok G    (fun M18 => ?_) tp_F x9 M8)
  refine tj_iinc (pc := 80) G 3 (fun x19 => [(3, vI x19), (0, vR X 0), (1, vI c1), (2, vI c2)]) dX11_crowds_80 rfl (by decide) (fun _ => rfl) (fun x19 => ?_)
  refine tj_goto (pc := 83) G (tgt := 33) dX11_crowds_83 (by decide) ?_
  exact tj_sub [1, 2, 3, 0] rfl (hrec x19 M18)
set_option maxRecDepth 100000 in
set_option maxHeartbeats 4000000 in
theorem ok_X11_crowds (X : tp_X)  {a1 : Int} {a2 : Int}  {M : tp_M} {res : Int × tp_M} (h : fx_X11_crowds  a1 a2 M = some res) : tp_Ret X LM 34 1 yX11_crowds (Cond.code yX11_crowds cX11_crowds 5 (some .int)) 3 [vR X 0, vI a1, vI a2] M res := by
  refine tp_ofW (by decide +kernel) rfl rfl (by show _ ≤ 5; exact Nat.le_of_ble_eq_true rfl) h (fun Y G => ?_)
  show tp_J X Y LM 34 5 3 1 (fx_X11_crowds  a1 a2 M) M [(0, vR X 0), (1, vI a1), (2, vI a2)] [] 0
  unfold fx_X11_crowds
  refine tj_aload_n (pc := 0) G 0 dX11_crowds_0 rfl rfl ?_
  refine tj_iconst (pc := 1) G dX11_crowds_1 ?_
  refine tj_putI (pc := 2) G (k := 0) (j := 0) (j2 := 0) tk_X11 (by decide) lm_0 rfl (by decide) rfl fl_X11_3 rfl rfl dX11_crowds_2 (fun M1 => ?_)
  refine tj_iload_n (pc := 5) G 1 dX11_crowds_5 rfl rfl ?_
  refine tj_i2l (pc := 6) G (b := w32 a1) dX11_crowds_6 rfl ?_
  refine tj_lconst (pc := 7) G (v := 0) dX11_crowds_7 rfl ?_
  refine tj_ldc2 (pc := 8) G (v := 30) dX11_crowds_8 ct_X11_474 rfl ?_
  refine tj_callSi (pc := 11) G [vL (w32 a1), vL 0, vL 30] mf_X11_in ml_X11_129 (by decide) rfl rfl (Nat.le_of_ble_eq_true rfl) (fun _ h9 => ok_X11_in X  h9) dX11_crowds_11 (fun r2 M3 => ?_)
  refine tj_if_eq (pc := 14) G (tgt := 29) (a2 := w32 r2) dX11_crowds_14 (by decide) rfl ?_ ?_
  · refine tj_iconst (pc := 29) G dX11_crowds_29 ?_
    exact tj_iret (pc := 30) G dX11_crowds_30
  refine tj_iload_n (pc := 17) G 2 dX11_crowds_17 rfl rfl ?_
  refine tj_i2l (pc := 18) G (b := w32 a2) dX11_crowds_18 rfl ?_
  refine tj_lconst (pc := 19) G (v := 0) dX11_crowds_19 rfl ?_
  refine tj_ldc2 (pc := 20) G (v := 30) dX11_crowds_20 ct_X11_474 rfl ?_
  refine tj_callSi (pc := 23) G [vL (w32 a2), vL 0, vL 30] mf_X11_in ml_X11_129 (by decide) rfl rfl (Nat.le_of_ble_eq_true rfl) (fun _ h9 => ok_X11_in X  h9) dX11_crowds_23 (fun r4 M5 => ?_)
  refine tj_if_ne (pc := 26) G (tgt := 31) (a2 := w32 r4) dX11_crowds_26 (by decide) rfl ?_ ?_
  · refine tj_iconst (pc := 31) G dX11_crowds_31 ?_
    refine tj_istore_n (pc := 32) G (fun x6 => [(3, vI x6), (0, vR X 0), (1, vI a1), (2, vI a2)]) dX11_crowds_32 rfl (by decide) (fun _ => rfl) (fun x6 => ?_)
    refine tj_sub [1, 2, 3, 0] rfl (fx_X11_crowds_L33_ok G    (fun M20 => ?_) tp_F x6 M5)
    refine tj_aload_n (pc := 86) G 0 dX11_crowds_86 rfl rfl ?_
    refine tj_iload_n (pc := 87) G 1 dX11_crowds_87 rfl rfl ?_
    refine tj_iload_n (pc := 88) G 2 dX11_crowds_88 rfl rfl ?_
    refine tj_callVi (pc := 89) G [vI a1, vI a2] mf_X11_goodMove (k := 0) (by decide) lm_0 rfl rfl ml_X11_476 (by decide) rfl rfl (Nat.le_of_ble_eq_true rfl) (fun _ h9 => ok_X11_goodMove X  h9) dX11_crowds_89 (fun r21 M22 => ?_)
    refine tj_istore_n (pc := 92) G (fun x23 => [(3, vI x23), (0, vR X 0), (1, vI a1), (2, vI a2)]) dX11_crowds_92 rfl (by decide) (fun _ => rfl) (fun x23 => ?_)
    refine tj_aload_n (pc := 93) G 1 dX11_crowds_93 rfl rfl ?_
    refine tj_iconst (pc := 94) G dX11_crowds_94 ?_
    refine tj_putI (pc := 95) G (k := 0) (j := 1) (j2 := 1) tk_X11 (by decide) lm_0 rfl (by decide) rfl fl_X11_15 rfl rfl dX11_crowds_95 (fun M24 => ?_)
    refine tj_iload_n (pc := 98) G 0 dX11_crowds_98 rfl rfl ?_
    refine tj_jn0 [(3, vI x23)] [] 120 (fun M25 => ?_) (fun jk120 hj120 => ?_)
    · refine tj_iload_n (pc := 120) G 0 dX11_crowds_120 rfl rfl ?_
      refine tj_jn1 (fun y26 => []) (fun y26 => [vI y26]) 129 (fun y26 M27 => ?_) (fun jk129 hj129 => ?_)
      · refine tj_callSi (pc := 129) G [vI y26] mf_X11_flag ml_X11_151 (by decide) rfl rfl (Nat.le_of_ble_eq_true rfl) (fun _ h9 => ok_X11_flag X  h9) dX11_crowds_129 (fun r28 M29 => ?_)
        exact tj_iret (pc := 132) G dX11_crowds_132
      refine tj_if_le (pc := 121) G (tgt := 128) (a2 := w32 x23) dX11_crowds_121 (by decide) rfl ?_ ?_
      · refine tj_iconst (pc := 128) G dX11_crowds_128 ?_
        exact tj_sub [] rfl (hj129 0 M25)
      refine tj_iconst (pc := 124) G dX11_crowds_124 ?_
      refine tj_goto (pc := 125) G (tgt := 129) dX11_crowds_125 (by decide) ?_
      exact tj_sub [] rfl (hj129 1 M25)
    refine tj_if_le (pc := 99) G (tgt := 120) (a2 := w32 x23) dX11_crowds_99 (by decide) rfl ?_ ?_
    · exact tj_sub [0] rfl (hj120  M24)
    refine tj_aload_n (pc := 102) G 1 dX11_crowds_102 rfl rfl ?_
    refine tj_iload_n (pc := 103) G 0 dX11_crowds_103 rfl rfl ?_
    refine tj_bipush (pc := 104) G dX11_crowds_104 rfl ?_
    refine tj_idiv (pc := 106) G (b2 := 31) dX11_crowds_106 rfl ?_
    refine tj_i2l (pc := 107) G (b := w32 (x_div x23 31)) dX11_crowds_107 rfl ?_
    refine tj_callVv (pc := 108) G [vL (w32 (x_div x23 31))] mf_X11_enters (k := 0) (by decide) lm_0 rfl rfl ml_X11_18 (by decide) rfl rfl (Nat.le_of_ble_eq_true rfl) (fun _ h9 => ok_X11_enters X  h9) dX11_crowds_108 (fun r30 M31 => ?_)
    refine tj_aload_n (pc := 111) G 1 dX11_crowds_111 rfl rfl ?_
    refine tj_iload_n (pc := 112) G 0 dX11_crowds_112 rfl rfl ?_
    refine tj_bipush (pc := 113) G dX11_crowds_113 rfl ?_
    refine tj_irem (pc := 115) G (b2 := 31) dX11_crowds_115 rfl ?_
    refine tj_i2l (pc := 116) G (b := w32 (x_rem x23 31)) dX11_crowds_116 rfl ?_
    refine tj_callVv (pc := 117) G [vL (w32 (x_rem x23 31))] mf_X11_enters (k := 0) (by decide) lm_0 rfl rfl ml_X11_18 (by decide) rfl rfl (Nat.le_of_ble_eq_true rfl) (fun _ h9 => ok_X11_enters X  h9) dX11_crowds_117 (fun r32 M33 => ?_)
    exact tj_sub [0] rfl (hj120  M33)
  refine tj_iconst (pc := 29) G dX11_crowds_29 ?_
  exact tj_iret (pc := 30) G dX11_crowds_30

def fx_X11_homeOfLast   (M : tp_M) : tp_O :=
(tp_bd (fx_X11_copies 5 17 4 17 M) (fun r1 M2 =>
(tp_bd (fx_X11_walkOf ((M2 0 3) - 1) M2) (fun r3 M4 =>
(tp_lt r3 (fun x5 =>
(if w32 x5 < 0 then
(some (1000, M4))
else
(some (x5, M4)))))))))
set_option maxRecDepth 100000 in
set_option maxHeartbeats 4000000 in
theorem ok_X11_homeOfLast (X : tp_X)    {M : tp_M} {res : Int × tp_M} (h : fx_X11_homeOfLast   M = some res) : tp_Ret X LM 34 1 yX11_homeOfLast (Cond.code yX11_homeOfLast cX11_homeOfLast 2 (some .int)) 8 [vR X 0] M res := by
  refine tp_ofW (by decide +kernel) rfl rfl (by show _ ≤ 2; exact Nat.le_of_ble_eq_true rfl) h (fun Y G => ?_)
  show tp_J X Y LM 34 2 8 1 (fx_X11_homeOfLast   M) M [(0, vR X 0)] [] 0
  unfold fx_X11_homeOfLast
  refine tj_aload_n (pc := 0) G 0 dX11_homeOfLast_0 rfl rfl ?_
  refine tj_getR (pc := 1) G (k := 0) (j := 7) (j2 := 7) tk_X11 (by decide) lm_0 rfl (by decide) rfl fl_X11_41 dX11_homeOfLast_1 ?_
  refine tj_aload_n (pc := 4) G 0 dX11_homeOfLast_4 rfl rfl ?_
  refine tj_getR (pc := 5) G (k := 0) (j := 6) (j2 := 6) tk_X11 (by decide) lm_0 rfl (by decide) rfl fl_X11_38 dX11_homeOfLast_5 ?_
  refine tj_callSv (pc := 8) G [vR X 5, vR X 4] mf_X11_copies ml_X11_307 (by decide) rfl rfl (Nat.le_of_ble_eq_true rfl) (fun _ h9 => ok_X11_copies X ⟨by decide, lm_5⟩ ⟨by decide, lm_4⟩ h9) dX11_homeOfLast_8 (fun r1 M2 => ?_)
  refine tj_aload_n (pc := 11) G 0 dX11_homeOfLast_11 rfl rfl ?_
  refine tj_aload_n (pc := 12) G 0 dX11_homeOfLast_12 rfl rfl ?_
  refine tj_getI (pc := 13) G (k := 0) (j := 3) (j2 := 3) tk_X11 (by decide) lm_0 rfl (by decide) rfl fl_X11_28 dX11_homeOfLast_13 ?_
  refine tj_iconst (pc := 16) G dX11_homeOfLast_16 ?_
  refine tj_isub (pc := 17) G dX11_homeOfLast_17 ?_
  refine tj_callVi (pc := 18) G [vI ((M2 0 3) - 1)] mf_X11_walkOf (k := 0) (by decide) lm_0 rfl rfl ml_X11_368 (by decide) rfl rfl (Nat.le_of_ble_eq_true rfl) (fun _ h9 => ok_X11_walkOf X  h9) dX11_homeOfLast_18 (fun r3 M4 => ?_)
  refine tj_istore_n (pc := 21) G (fun x5 => [(1, vI x5), (0, vR X 0)]) dX11_homeOfLast_21 rfl (by decide) (fun _ => rfl) (fun x5 => ?_)
  refine tj_iload_n (pc := 22) G 0 dX11_homeOfLast_22 rfl rfl ?_
  refine tj_if_ge (pc := 23) G (tgt := 32) (a2 := w32 x5) dX11_homeOfLast_23 (by decide) rfl ?_ ?_
  · refine tj_iload_n (pc := 32) G 0 dX11_homeOfLast_32 rfl rfl ?_
    exact tj_iret (pc := 33) G dX11_homeOfLast_33
  refine tj_sipush (pc := 26) G dX11_homeOfLast_26 rfl ?_
  refine tj_goto (pc := 29) G (tgt := 33) dX11_homeOfLast_29 (by decide) ?_
  exact tj_iret (pc := 33) G dX11_homeOfLast_33

def fx_X11_costs  (a1 : Int) (a2 : Int) (a3 : Int) (M : tp_M) : tp_O :=
(tp_jn1 (fun y1 M2 => 
(if w32 a1 ≤ w32 a2 then
(some ((a1 + y1) + 0, M2))
else
(some ((a1 + y1) + 2, M2)))) (fun jk12 =>
(if w32 a1 < w32 a3 then
(jk12 6 M)
else
(jk12 0 M))))
set_option maxRecDepth 100000 in
set_option maxHeartbeats 4000000 in
theorem ok_X11_costs (X : tp_X)  {a1 : Int} {a2 : Int} {a3 : Int}  {M : tp_M} {res : Int × tp_M} (h : fx_X11_costs  a1 a2 a3 M = some res) : tp_Ret X LM 34 1 yX11_costs (Cond.code yX11_costs cX11_costs 3 (some .int)) 1 [vI a1, vI a2, vI a3] M res := by
  refine tp_ofW (by decide +kernel) rfl rfl (by show _ ≤ 3; exact Nat.le_of_ble_eq_true rfl) h (fun Y G => ?_)
  show tp_J X Y LM 34 3 1 1 (fx_X11_costs  a1 a2 a3 M) M [(0, vI a1), (1, vI a2), (2, vI a3)] [] 0
  unfold fx_X11_costs
  refine tj_iload_n (pc := 0) G 0 dX11_costs_0 rfl rfl ?_
  refine tj_iload_n (pc := 1) G 0 dX11_costs_1 rfl rfl ?_
  refine tj_iload_n (pc := 2) G 2 dX11_costs_2 rfl rfl ?_
  refine tj_jn1 (fun y1 => [(0, vI a1), (1, vI a2)]) (fun y1 => [vI y1, vI a1]) 12 (fun y1 M2 => ?_) (fun jk12 hj12 => ?_)
  · refine tj_iadd (pc := 12) G dX11_costs_12 ?_
    refine tj_iload_n (pc := 13) G 0 dX11_costs_13 rfl rfl ?_
    refine tj_iload_n (pc := 14) G 1 dX11_costs_14 rfl rfl ?_
    refine tj_icmp_le (pc := 15) G (tgt := 22) (a2 := w32 a1) (b2 := w32 a2) dX11_costs_15 (by decide) rfl rfl ?_ ?_
    · refine tj_iconst (pc := 22) G dX11_costs_22 ?_
      refine tj_iadd (pc := 23) G dX11_costs_23 ?_
      exact tj_iret (pc := 24) G dX11_costs_24
    refine tj_iconst (pc := 18) G dX11_costs_18 ?_
    refine tj_goto (pc := 19) G (tgt := 23) dX11_costs_19 (by decide) ?_
    refine tj_iadd (pc := 23) G dX11_costs_23 ?_
    exact tj_iret (pc := 24) G dX11_costs_24
  refine tj_icmp_ge (pc := 3) G (tgt := 11) (a2 := w32 a1) (b2 := w32 a3) dX11_costs_3 (by decide) rfl rfl ?_ ?_
  · refine tj_iconst (pc := 11) G dX11_costs_11 ?_
    exact tj_sub [0, 1] rfl (hj12 0 M)
  refine tj_bipush (pc := 6) G dX11_costs_6 rfl ?_
  refine tj_goto (pc := 8) G (tgt := 12) dX11_costs_8 (by decide) ?_
  exact tj_sub [0, 1] rfl (hj12 6 M)

def fx_X11_isRest_L5 (c0 : Int) (c1 : Int) (c2 : Int) (rec : Int → Int → tp_M → tp_O) (z3 z4 : Int) (M5 : tp_M) : tp_O :=
(if w32 z4 ≤ 9 then
(tp_jn1 (fun y6 M7 => 
(tp_lt y6 (fun x8 =>
(tp_lt (z4 + 1) (fun x9 =>
(rec x8 x9 M7)))))) (fun jk37 =>
(tp_jn0 (fun M10 => 
(jk37 0 M10)) (fun jk36 =>
(if w32 z3 = 0 then
(jk36 M5)
else
(tp_bd (fx_X11_costs z4 c1 c2 M5) (fun r11 M12 =>
(tp_bd (fx_X11_costs c0 c1 c2 M12) (fun r13 M14 =>
(if w32 r11 < w32 r13 then
(jk36 M14)
else
(jk37 1 M14)))))))))))
else
(tp_gd (w32 z3 = 0 ∨ w32 z3 = 1) inferInstance (some (z3, M5))))
def fx_X11_isRest  (a1 : Int) (a2 : Int) (a3 : Int) (M : tp_M) : tp_O :=
(tp_lt 1 (fun x1 =>
(tp_lt 0 (fun x2 =>
(tp_lp2 (fx_X11_isRest_L5 a1 a2 a3 ) tp_F x1 x2 M)))))
set_option maxRecDepth 100000 in
set_option maxHeartbeats 4000000 in
theorem fx_X11_isRest_L5_ok {X : tp_X} {Y : tp_Y} (G : tp_Ok X Y 34 cX11_isRest 5 RX11 (some .boolean))  {c0 : Int} {c1 : Int} {c2 : Int}    (n : Nat) : ∀ (z3 z4 : Int) (M5 : tp_M), tp_J X Y LM 34 5 2 1 (tp_lp2 (fx_X11_isRest_L5  c0 c1 c2 ) n z3 z4 M5) M5 [(0, vI c0), (1, vI c1), (2, vI c2), (3, vI z3), (4, vI z4)] [] 5 := by
  refine tp_lp2_ok (P := fun o z3 z4 M5 => tp_J X Y LM 34 5 2 1 (o) M5 [(0, vI c0), (1, vI c1), (2, vI c2), (3, vI z3), (4, vI z4)] [] 5) (fun z3 z4 M5 => tj_none) (fun rec hrec z3 z4 M5 => ?_) n
  unfold fx_X11_isRest_L5
  refine tj_iload (pc := 5) G 4 dX11_isRest_5 rfl ?_
  refine tj_bipush (pc := 7) G dX11_isRest_7 rfl ?_
  refine tj_icmp_gt (pc := 9) G (tgt := 44) (a2 := w32 z4) (b2 := 9) dX11_isRest_9 (by decide) rfl rfl ?_ ?_
  · refine tj_iload_n (pc := 44) G 3 dX11_isRest_44 rfl rfl ?_
    exact tj_gd (fun hz => tj_zret (pc := 45) G hz dX11_isRest_45)
  refine tj_iload_n (pc := 12) G 3 dX11_isRest_12 rfl rfl ?_
  refine tj_jn1 (fun y6 => [(0, vI c0), (1, vI c1), (2, vI c2), (4, vI z4)]) (fun y6 => [vI y6]) 37 (fun y6 M7 => ?_) (fun jk37 hj37 => ?_)
  · refine tj_istore_n (pc := 37) G (fun x8 => [(3, vI x8), (0, vI c0), (1, vI c1), (2, vI c2), (4, vI z4)]) dX11_isRest_37 rfl (by decide) (fun _ => rfl) (fun x8 => ?_)
    refine tj_iinc (pc := 38) G 4 (fun x9 => [(4, vI x9), (3, vI x8), (0, vI c0), (1, vI c1), (2, vI c2)]) dX11_isRest_38 rfl (by decide) (fun _ => rfl) (fun x9 => ?_)
    refine tj_goto (pc := 41) G (tgt := 5) dX11_isRest_41 (by decide) ?_
    exact tj_sub [2, 3, 4, 1, 0] rfl (hrec x8 x9 M7)
  refine tj_jn0 [(0, vI c0), (1, vI c1), (2, vI c2), (4, vI z4)] [] 36 (fun M10 => ?_) (fun jk36 hj36 => ?_)
  · refine tj_iconst (pc := 36) G dX11_isRest_36 ?_
    exact tj_sub [0, 1, 2, 3] rfl (hj37 0 M10)
  refine tj_if_eq (pc := 13) G (tgt := 36) (a2 := w32 z3) dX11_isRest_13 (by decide) rfl ?_ ?_
  · exact tj_sub [0, 1, 2, 4] rfl (hj36  M5)
  refine tj_iload (pc := 16) G 4 dX11_isRest_16 rfl ?_
  refine tj_iload_n (pc := 18) G 1 dX11_isRest_18 rfl rfl ?_
  refine tj_iload_n (pc := 19) G 2 dX11_isRest_19 rfl rfl ?_
  refine tj_callSi (pc := 20) G [vI z4, vI c1, vI c2] mf_X11_costs ml_X11_482 (by decide) rfl rfl (Nat.le_of_ble_eq_true rfl) (fun _ h9 => ok_X11_costs X  h9) dX11_isRest_20 (fun r11 M12 => ?_)
  refine tj_iload_n (pc := 23) G 0 dX11_isRest_23 rfl rfl ?_
  refine tj_iload_n (pc := 24) G 1 dX11_isRest_24 rfl rfl ?_
  refine tj_iload_n (pc := 25) G 2 dX11_isRest_25 rfl rfl ?_
  refine tj_callSi (pc := 26) G [vI c0, vI c1, vI c2] mf_X11_costs ml_X11_482 (by decide) rfl rfl (Nat.le_of_ble_eq_true rfl) (fun _ h9 => ok_X11_costs X  h9) dX11_isRest_26 (fun r13 M14 => ?_)
  refine tj_icmp_lt (pc := 29) G (tgt := 36) (a2 := w32 r11) (b2 := w32 r13) dX11_isRest_29 (by decide) rfl rfl ?_ ?_
  · exact tj_sub [0, 1, 2, 4] rfl (hj36  M14)
  refine tj_iconst (pc := 32) G dX11_isRest_32 ?_
  refine tj_goto (pc := 33) G (tgt := 37) dX11_isRest_33 (by decide) ?_
  exact tj_sub [0, 1, 2, 4] rfl (hj37 1 M14)
set_option maxRecDepth 100000 in
set_option maxHeartbeats 4000000 in
theorem ok_X11_isRest (X : tp_X)  {a1 : Int} {a2 : Int} {a3 : Int}  {M : tp_M} {res : Int × tp_M} (h : fx_X11_isRest  a1 a2 a3 M = some res) : tp_Ret X LM 34 1 yX11_isRest (Cond.code yX11_isRest cX11_isRest 5 (some .boolean)) 2 [vI a1, vI a2, vI a3] M res := by
  refine tp_ofW (by decide +kernel) rfl rfl (by show _ ≤ 5; exact Nat.le_of_ble_eq_true rfl) h (fun Y G => ?_)
  show tp_J X Y LM 34 5 2 1 (fx_X11_isRest  a1 a2 a3 M) M [(0, vI a1), (1, vI a2), (2, vI a3)] [] 0
  unfold fx_X11_isRest
  refine tj_iconst (pc := 0) G dX11_isRest_0 ?_
  refine tj_istore_n (pc := 1) G (fun x1 => [(3, vI x1), (0, vI a1), (1, vI a2), (2, vI a3)]) dX11_isRest_1 rfl (by decide) (fun _ => rfl) (fun x1 => ?_)
  refine tj_iconst (pc := 2) G dX11_isRest_2 ?_
  refine tj_istore (pc := 3) G (fun x2 => [(4, vI x2), (3, vI x1), (0, vI a1), (1, vI a2), (2, vI a3)]) dX11_isRest_3 (by decide) (fun _ => rfl) (fun x2 => ?_)
  refine tj_sub [2, 3, 4, 1, 0] rfl (fx_X11_isRest_L5_ok G     tp_F x1 x2 M)

def fx_X11_waits_L37 (c1 : Int) (c3 : Int) (K90 : Int → tp_M → tp_O) (rec : Int → Int → tp_M → tp_O) (z11 z12 : Int) (M13 : tp_M) : tp_O :=
(if w32 z12 ≤ 9 then
(tp_bd (fx_X11_isRest c3 z12 c1 M13) (fun r15 M16 =>
(tp_jn1 (fun y17 M18 => 
(tp_lt (z12 + 1) (fun x19 =>
(rec y17 x19 M18)))) (fun jk84 =>
(if w32 r15 = 0 then
(jk84 z11 M16)
else
(tp_bd (fx_X11_isRest z12 c3 c1 M16) (fun r20 M21 =>
(if w32 r20 = 0 then
(jk84 z11 M21)
else
(tp_jn0 (fun M22 => 
(tp_lt (z11 + 1) (fun x23 =>
(jk84 x23 M22)))) (fun jk81 =>
(if w32 z11 = 0 then
(tp_bd (fx_X11_enters (w32 c3) M21) (fun r24 M25 =>
(tp_bd (fx_X11_enters (w32 z12) M25) (fun r26 M27 =>
(jk81 M27)))))
else
(jk81 M21))))))))))))
else
(K90 z11 M13))
def fx_X11_waits_L28 (c1 : Int) (rec : Int → Int → tp_M → tp_O) (z7 z8 : Int) (M9 : tp_M) : tp_O :=
(if w32 z8 ≤ 9 then
(tp_lt 0 (fun x10 =>
(tp_lp2 (fx_X11_waits_L37 c1 z8 (fun y14 M28 =>
(tp_lt (z8 + 1) (fun x29 =>
(rec y14 x29 M28))))) tp_F z7 x10 M9)))
else
(some (z7, M9)))
def fx_X11_waits  (a1 : Int) (M : tp_M) : tp_O :=
(tp_lm (tp_up M 0 0 0) (fun M1 =>
(tp_bd (fx_X11_in (w32 a1) 0 9 M1) (fun r2 M3 =>
(if w32 r2 = 0 then
(some ((-1), M3))
else
(tp_lt 0 (fun x4 =>
(tp_lm (tp_up M3 0 1 0) (fun M5 =>
(tp_lt 0 (fun x6 =>
(tp_lp2 (fx_X11_waits_L28 a1 ) tp_F x4 x6 M5))))))))))))
set_option maxRecDepth 100000 in
set_option maxHeartbeats 4000000 in
theorem fx_X11_waits_L37_ok {X : tp_X} {Y : tp_Y} (G : tp_Ok X Y 34 cX11_waits 5 RX11 (some .int))  {c1 : Int} {c3 : Int} {K90 : Int → tp_M → tp_O}   (hK90 : ∀ (y14 : Int) (M9 : tp_M), tp_J X Y LM 34 5 3 1 (K90 y14 M9) M9 [(0, vR X 0), (1, vI c1), (2, vI y14), (3, vI c3)] [] 90) (n : Nat) : ∀ (z11 z12 : Int) (M13 : tp_M), tp_J X Y LM 34 5 3 1 (tp_lp2 (fx_X11_waits_L37  c1 c3 K90) n z11 z12 M13) M13 [(0, vR X 0), (1, vI c1), (2, vI z11), (3, vI c3), (4, vI z12)] [] 37 := by
  refine tp_lp2_ok (P := fun o z11 z12 M13 => tp_J X Y LM 34 5 3 1 (o) M13 [(0, vR X 0), (1, vI c1), (2, vI z11), (3, vI c3), (4, vI z12)] [] 37) (fun z11 z12 M13 => tj_none) (fun rec hrec z11 z12 M13 => ?_) n
  unfold fx_X11_waits_L37
  refine tj_iload (pc := 37) G 4 dX11_waits_37 rfl ?_
  refine tj_bipush (pc := 39) G dX11_waits_39 rfl ?_
  refine tj_icmp_gt (pc := 41) G (tgt := 90) (a2 := w32 z12) (b2 := 9) dX11_waits_41 (by decide) rfl rfl ?_ ?_
  · exact tj_sub [0, 1, 2, 3] rfl (hK90 z11 M13)
  refine tj_iload_n (pc := 44) G 3 dX11_waits_44 rfl rfl ?_
  refine tj_iload (pc := 45) G 4 dX11_waits_45 rfl ?_
  refine tj_iload_n (pc := 47) G 1 dX11_waits_47 rfl rfl ?_
  refine tj_callSi (pc := 48) G [vI c3, vI z12, vI c1] mf_X11_isRest ml_X11_487 (by decide) rfl rfl (Nat.le_of_ble_eq_true rfl) (fun _ h9 => ok_X11_isRest X  h9) dX11_waits_48 (fun r15 M16 => ?_)
  refine tj_jn1 (fun y17 => [(0, vR X 0), (1, vI c1), (2, vI y17), (3, vI c3), (4, vI z12)]) (fun y17 => []) 84 (fun y17 M18 => ?_) (fun jk84 hj84 => ?_)
  · refine tj_iinc (pc := 84) G 4 (fun x19 => [(4, vI x19), (0, vR X 0), (1, vI c1), (2, vI y17), (3, vI c3)]) dX11_waits_84 rfl (by decide) (fun _ => rfl) (fun x19 => ?_)
    refine tj_goto (pc := 87) G (tgt := 37) dX11_waits_87 (by decide) ?_
    exact tj_sub [1, 2, 3, 4, 0] rfl (hrec y17 x19 M18)
  refine tj_if_eq (pc := 51) G (tgt := 84) (a2 := w32 r15) dX11_waits_51 (by decide) rfl ?_ ?_
  · exact tj_sub [0, 1, 2, 3, 4] rfl (hj84 z11 M16)
  refine tj_iload (pc := 54) G 4 dX11_waits_54 rfl ?_
  refine tj_iload_n (pc := 56) G 3 dX11_waits_56 rfl rfl ?_
  refine tj_iload_n (pc := 57) G 1 dX11_waits_57 rfl rfl ?_
  refine tj_callSi (pc := 58) G [vI z12, vI c3, vI c1] mf_X11_isRest ml_X11_487 (by decide) rfl rfl (Nat.le_of_ble_eq_true rfl) (fun _ h9 => ok_X11_isRest X  h9) dX11_waits_58 (fun r20 M21 => ?_)
  refine tj_if_eq (pc := 61) G (tgt := 84) (a2 := w32 r20) dX11_waits_61 (by decide) rfl ?_ ?_
  · exact tj_sub [0, 1, 2, 3, 4] rfl (hj84 z11 M21)
  refine tj_iload_n (pc := 64) G 2 dX11_waits_64 rfl rfl ?_
  refine tj_jn0 [(0, vR X 0), (1, vI c1), (2, vI z11), (3, vI c3), (4, vI z12)] [] 81 (fun M22 => ?_) (fun jk81 hj81 => ?_)
  · refine tj_iinc (pc := 81) G 2 (fun x23 => [(2, vI x23), (0, vR X 0), (1, vI c1), (3, vI c3), (4, vI z12)]) dX11_waits_81 rfl (by decide) (fun _ => rfl) (fun x23 => ?_)
    exact tj_sub [1, 2, 0, 3, 4] rfl (hj84 x23 M22)
  refine tj_if_ne (pc := 65) G (tgt := 81) (a2 := w32 z11) dX11_waits_65 (by decide) rfl ?_ ?_
  · exact tj_sub [0, 1, 2, 3, 4] rfl (hj81  M21)
  refine tj_aload_n (pc := 68) G 0 dX11_waits_68 rfl rfl ?_
  refine tj_iload_n (pc := 69) G 3 dX11_waits_69 rfl rfl ?_
  refine tj_i2l (pc := 70) G (b := w32 c3) dX11_waits_70 rfl ?_
  refine tj_callVv (pc := 71) G [vL (w32 c3)] mf_X11_enters (k := 0) (by decide) lm_0 rfl rfl ml_X11_18 (by decide) rfl rfl (Nat.le_of_ble_eq_true rfl) (fun _ h9 => ok_X11_enters X  h9) dX11_waits_71 (fun r24 M25 => ?_)
  refine tj_aload_n (pc := 74) G 0 dX11_waits_74 rfl rfl ?_
  refine tj_iload (pc := 75) G 4 dX11_waits_75 rfl ?_
  refine tj_i2l (pc := 77) G (b := w32 z12) dX11_waits_77 rfl ?_
  refine tj_callVv (pc := 78) G [vL (w32 z12)] mf_X11_enters (k := 0) (by decide) lm_0 rfl rfl ml_X11_18 (by decide) rfl rfl (Nat.le_of_ble_eq_true rfl) (fun _ h9 => ok_X11_enters X  h9) dX11_waits_78 (fun r26 M27 => ?_)
  exact tj_sub [0, 1, 2, 3, 4] rfl (hj81  M27)
set_option maxRecDepth 100000 in
set_option maxHeartbeats 4000000 in
theorem fx_X11_waits_L28_ok {X : tp_X} {Y : tp_Y} (G : tp_Ok X Y 34 cX11_waits 5 RX11 (some .int))  {c1 : Int}    (n : Nat) : ∀ (z7 z8 : Int) (M9 : tp_M), tp_J X Y LM 34 5 3 1 (tp_lp2 (fx_X11_waits_L28  c1 ) n z7 z8 M9) M9 [(0, vR X 0), (1, vI c1), (2, vI z7), (3, vI z8)] [] 28 := by
  refine tp_lp2_ok (P := fun o z7 z8 M9 => tp_J X Y LM 34 5 3 1 (o) M9 [(0, vR X 0), (1, vI c1), (2, vI z7), (3, vI z8)] [] 28) (fun z7 z8 M9 => tj_none) (fun rec hrec z7 z8 M9 => ?_) n
  unfold fx_X11_waits_L28
  refine tj_iload_n (pc := 28) G 3 dX11_waits_28 rfl rfl ?_
  refine tj_bipush (pc := 29) G dX11_waits_29 rfl ?_
  refine tj_icmp_gt (pc := 31) G (tgt := 96) (a2 := w32 z8) (b2 := 9) dX11_waits_31 (by decide) rfl rfl ?_ ?_
  · refine tj_iload_n (pc := 96) G 2 dX11_waits_96 rfl rfl ?_
    exact tj_iret (pc := 97) G dX11_waits_97
  refine tj_iconst (pc := 34) G dX11_waits_34 ?_
  refine tj_istore (pc := 35) G (fun x10 => [(4, vI x10), (0, vR X 0), (1, vI c1), (2, vI z7), (3, vI z8)]) dX11_waits_35 (by decide) (fun _ => rfl) (fun x10 => ?_)
  refine tj_sub [1, 2, 3, 4, 0] rfl (fx_X11_waits_L37_ok G    (fun y14 M28 => ?_) tp_F z7 x10 M9)
  refine tj_iinc (pc := 90) G 3 (fun x29 => [(3, vI x29), (0, vR X 0), (1, vI c1), (2, vI y14)]) dX11_waits_90 rfl (by decide) (fun _ => rfl) (fun x29 => ?_)
  refine tj_goto (pc := 93) G (tgt := 28) dX11_waits_93 (by decide) ?_
  exact tj_sub [1, 2, 3, 0] rfl (hrec y14 x29 M28)
set_option maxRecDepth 100000 in
set_option maxHeartbeats 4000000 in
theorem ok_X11_waits (X : tp_X)  {a1 : Int}  {M : tp_M} {res : Int × tp_M} (h : fx_X11_waits  a1 M = some res) : tp_Ret X LM 34 1 yX11_waits (Cond.code yX11_waits cX11_waits 5 (some .int)) 3 [vR X 0, vI a1] M res := by
  refine tp_ofW (by decide +kernel) rfl rfl (by show _ ≤ 5; exact Nat.le_of_ble_eq_true rfl) h (fun Y G => ?_)
  show tp_J X Y LM 34 5 3 1 (fx_X11_waits  a1 M) M [(0, vR X 0), (1, vI a1)] [] 0
  unfold fx_X11_waits
  refine tj_aload_n (pc := 0) G 0 dX11_waits_0 rfl rfl ?_
  refine tj_iconst (pc := 1) G dX11_waits_1 ?_
  refine tj_putI (pc := 2) G (k := 0) (j := 0) (j2 := 0) tk_X11 (by decide) lm_0 rfl (by decide) rfl fl_X11_3 rfl rfl dX11_waits_2 (fun M1 => ?_)
  refine tj_iload_n (pc := 5) G 1 dX11_waits_5 rfl rfl ?_
  refine tj_i2l (pc := 6) G (b := w32 a1) dX11_waits_6 rfl ?_
  refine tj_lconst (pc := 7) G (v := 0) dX11_waits_7 rfl ?_
  refine tj_ldc2 (pc := 8) G (v := 9) dX11_waits_8 ct_X11_485 rfl ?_
  refine tj_callSi (pc := 11) G [vL (w32 a1), vL 0, vL 9] mf_X11_in ml_X11_129 (by decide) rfl rfl (Nat.le_of_ble_eq_true rfl) (fun _ h9 => ok_X11_in X  h9) dX11_waits_11 (fun r2 M3 => ?_)
  refine tj_if_ne (pc := 14) G (tgt := 19) (a2 := w32 r2) dX11_waits_14 (by decide) rfl ?_ ?_
  · refine tj_iconst (pc := 19) G dX11_waits_19 ?_
    refine tj_istore_n (pc := 20) G (fun x4 => [(2, vI x4), (0, vR X 0), (1, vI a1)]) dX11_waits_20 rfl (by decide) (fun _ => rfl) (fun x4 => ?_)
    refine tj_aload_n (pc := 21) G 1 dX11_waits_21 rfl rfl ?_
    refine tj_iconst (pc := 22) G dX11_waits_22 ?_
    refine tj_putI (pc := 23) G (k := 0) (j := 1) (j2 := 1) tk_X11 (by decide) lm_0 rfl (by decide) rfl fl_X11_15 rfl rfl dX11_waits_23 (fun M5 => ?_)
    refine tj_iconst (pc := 26) G dX11_waits_26 ?_
    refine tj_istore_n (pc := 27) G (fun x6 => [(3, vI x6), (2, vI x4), (0, vR X 0), (1, vI a1)]) dX11_waits_27 rfl (by decide) (fun _ => rfl) (fun x6 => ?_)
    refine tj_sub [2, 3, 1, 0] rfl (fx_X11_waits_L28_ok G     tp_F x4 x6 M5)
  refine tj_iconst (pc := 17) G dX11_waits_17 ?_
  exact tj_iret (pc := 18) G dX11_waits_18

def fx_X11_draws  (a1 : Int) (M : tp_M) : tp_O :=
(tp_lm (tp_up M 0 49 (((M 0 49) * 1103515245) + 12345)) (fun M1 =>
(tp_nz (w32 a1) (some (x_rem (x_ushr (M1 0 49) 16) a1, M1)))))
set_option maxRecDepth 100000 in
set_option maxHeartbeats 4000000 in
theorem ok_X11_draws (X : tp_X)  {a1 : Int}  {M : tp_M} {res : Int × tp_M} (h : fx_X11_draws  a1 M = some res) : tp_Ret X LM 34 1 yX11_draws (Cond.code yX11_draws cX11_draws 2 (some .int)) 1 [vR X 0, vI a1] M res := by
  refine tp_ofW (by decide +kernel) rfl rfl (by show _ ≤ 2; exact Nat.le_of_ble_eq_true rfl) h (fun Y G => ?_)
  show tp_J X Y LM 34 2 1 1 (fx_X11_draws  a1 M) M [(0, vR X 0), (1, vI a1)] [] 0
  unfold fx_X11_draws
  refine tj_aload_n (pc := 0) G 0 dX11_draws_0 rfl rfl ?_
  refine tj_aload_n (pc := 1) G 0 dX11_draws_1 rfl rfl ?_
  refine tj_getI (pc := 2) G (k := 0) (j := 49) (j2 := 49) tk_X11 (by decide) lm_0 rfl (by decide) rfl fl_X11_490 dX11_draws_2 ?_
  refine tj_ldcw (pc := 5) G (v := 1103515245) dX11_draws_5 ct_X11_493 rfl ?_
  refine tj_imul (pc := 8) G dX11_draws_8 ?_
  refine tj_sipush (pc := 9) G dX11_draws_9 rfl ?_
  refine tj_iadd (pc := 12) G dX11_draws_12 ?_
  refine tj_putI (pc := 13) G (k := 0) (j := 49) (j2 := 49) tk_X11 (by decide) lm_0 rfl (by decide) rfl fl_X11_490 rfl rfl dX11_draws_13 (fun M1 => ?_)
  refine tj_aload_n (pc := 16) G 0 dX11_draws_16 rfl rfl ?_
  refine tj_getI (pc := 17) G (k := 0) (j := 49) (j2 := 49) tk_X11 (by decide) lm_0 rfl (by decide) rfl fl_X11_490 dX11_draws_17 ?_
  refine tj_bipush (pc := 20) G dX11_draws_20 rfl ?_
  refine tj_iushr (pc := 22) G dX11_draws_22 ?_
  refine tj_iload_n (pc := 23) G 1 dX11_draws_23 rfl rfl ?_
  refine tj_irem (pc := 24) G (b2 := w32 a1) dX11_draws_24 rfl ?_
  exact tj_iret (pc := 25) G dX11_draws_25

def fx_X11_innOf_L4 (c1 : Int) (rec : Int → Int → tp_M → tp_O) (z3 z4 : Int) (M5 : tp_M) : tp_O :=
(tp_ck (w32 c1) 8 (if w32 z4 < w32 (M5 2 (w32 c1)) then
(tp_bd (fx_X11_goalOf c1 z4 M5) (fun r6 M7 =>
(tp_jn1 (fun y8 M9 => 
(tp_bd (fx_X11_flag y8 M9) (fun r10 M11 =>
(tp_lt (z3 + r10) (fun x12 =>
(tp_lt (z4 + 1) (fun x13 =>
(rec x12 x13 M11)))))))) (fun jk29 =>
(if w32 r6 = 0 then
(jk29 1 M7)
else
(jk29 0 M7))))))
else
(some (z3, M5))))
def fx_X11_innOf  (a1 : Int) (M : tp_M) : tp_O :=
(tp_lt 0 (fun x1 =>
(tp_lt 0 (fun x2 =>
(tp_lp2 (fx_X11_innOf_L4 a1 ) tp_F x1 x2 M)))))
set_option maxRecDepth 100000 in
set_option maxHeartbeats 4000000 in
theorem fx_X11_innOf_L4_ok {X : tp_X} {Y : tp_Y} (G : tp_Ok X Y 34 cX11_innOf 4 RX11 (some .int))  {c1 : Int}    (n : Nat) : ∀ (z3 z4 : Int) (M5 : tp_M), tp_J X Y LM 34 4 2 1 (tp_lp2 (fx_X11_innOf_L4  c1 ) n z3 z4 M5) M5 [(0, vR X 0), (1, vI c1), (2, vI z3), (3, vI z4)] [] 4 := by
  refine tp_lp2_ok (P := fun o z3 z4 M5 => tp_J X Y LM 34 4 2 1 (o) M5 [(0, vR X 0), (1, vI c1), (2, vI z3), (3, vI z4)] [] 4) (fun z3 z4 M5 => tj_none) (fun rec hrec z3 z4 M5 => ?_) n
  unfold fx_X11_innOf_L4
  refine tj_iload_n (pc := 4) G 3 dX11_innOf_4 rfl rfl ?_
  refine tj_aload_n (pc := 5) G 0 dX11_innOf_5 rfl rfl ?_
  refine tj_getR (pc := 6) G (k := 0) (j := 4) (j2 := 4) tk_X11 (by decide) lm_0 rfl (by decide) rfl fl_X11_31 dX11_innOf_6 ?_
  refine tj_iload_n (pc := 9) G 1 dX11_innOf_9 rfl rfl ?_
  refine tj_iald (pc := 10) G (k := 2) (i2 := w32 c1) (n2 := 8) (by decide) lm_2 rfl rfl dX11_innOf_10 ?_
  refine tj_icmp_ge (pc := 11) G (tgt := 40) (a2 := w32 z4) (b2 := w32 (M5 2 (w32 c1))) dX11_innOf_11 (by decide) rfl rfl ?_ ?_
  · refine tj_iload_n (pc := 40) G 2 dX11_innOf_40 rfl rfl ?_
    exact tj_iret (pc := 41) G dX11_innOf_41
  refine tj_iload_n (pc := 14) G 2 dX11_innOf_14 rfl rfl ?_
  refine tj_aload_n (pc := 15) G 0 dX11_innOf_15 rfl rfl ?_
  refine tj_iload_n (pc := 16) G 1 dX11_innOf_16 rfl rfl ?_
  refine tj_iload_n (pc := 17) G 3 dX11_innOf_17 rfl rfl ?_
  refine tj_callVi (pc := 18) G [vI c1, vI z4] mf_X11_goalOf (k := 0) (by decide) lm_0 rfl rfl ml_X11_255 (by decide) rfl rfl (Nat.le_of_ble_eq_true rfl) (fun _ h9 => ok_X11_goalOf X  h9) dX11_innOf_18 (fun r6 M7 => ?_)
  refine tj_jn1 (fun y8 => [(0, vR X 0), (1, vI c1), (3, vI z4)]) (fun y8 => [vI y8, vI z3]) 29 (fun y8 M9 => ?_) (fun jk29 hj29 => ?_)
  · refine tj_callSi (pc := 29) G [vI y8] mf_X11_flag ml_X11_151 (by decide) rfl rfl (Nat.le_of_ble_eq_true rfl) (fun _ h9 => ok_X11_flag X  h9) dX11_innOf_29 (fun r10 M11 => ?_)
    refine tj_iadd (pc := 32) G dX11_innOf_32 ?_
    refine tj_istore_n (pc := 33) G (fun x12 => [(2, vI x12), (0, vR X 0), (1, vI c1), (3, vI z4)]) dX11_innOf_33 rfl (by decide) (fun _ => rfl) (fun x12 => ?_)
    refine tj_iinc (pc := 34) G 3 (fun x13 => [(3, vI x13), (2, vI x12), (0, vR X 0), (1, vI c1)]) dX11_innOf_34 rfl (by decide) (fun _ => rfl) (fun x13 => ?_)
    refine tj_goto (pc := 37) G (tgt := 4) dX11_innOf_37 (by decide) ?_
    exact tj_sub [2, 3, 1, 0] rfl (hrec x12 x13 M11)
  refine tj_if_ne (pc := 21) G (tgt := 28) (a2 := w32 r6) dX11_innOf_21 (by decide) rfl ?_ ?_
  · refine tj_iconst (pc := 28) G dX11_innOf_28 ?_
    exact tj_sub [0, 1, 3] rfl (hj29 0 M7)
  refine tj_iconst (pc := 24) G dX11_innOf_24 ?_
  refine tj_goto (pc := 25) G (tgt := 29) dX11_innOf_25 (by decide) ?_
  exact tj_sub [0, 1, 3] rfl (hj29 1 M7)
set_option maxRecDepth 100000 in
set_option maxHeartbeats 4000000 in
theorem ok_X11_innOf (X : tp_X)  {a1 : Int}  {M : tp_M} {res : Int × tp_M} (h : fx_X11_innOf  a1 M = some res) : tp_Ret X LM 34 1 yX11_innOf (Cond.code yX11_innOf cX11_innOf 4 (some .int)) 2 [vR X 0, vI a1] M res := by
  refine tp_ofW (by decide +kernel) rfl rfl (by show _ ≤ 4; exact Nat.le_of_ble_eq_true rfl) h (fun Y G => ?_)
  show tp_J X Y LM 34 4 2 1 (fx_X11_innOf  a1 M) M [(0, vR X 0), (1, vI a1)] [] 0
  unfold fx_X11_innOf
  refine tj_iconst (pc := 0) G dX11_innOf_0 ?_
  refine tj_istore_n (pc := 1) G (fun x1 => [(2, vI x1), (0, vR X 0), (1, vI a1)]) dX11_innOf_1 rfl (by decide) (fun _ => rfl) (fun x1 => ?_)
  refine tj_iconst (pc := 2) G dX11_innOf_2 ?_
  refine tj_istore_n (pc := 3) G (fun x2 => [(3, vI x2), (2, vI x1), (0, vR X 0), (1, vI a1)]) dX11_innOf_3 rfl (by decide) (fun _ => rfl) (fun x2 => ?_)
  refine tj_sub [2, 3, 1, 0] rfl (fx_X11_innOf_L4_ok G     tp_F x1 x2 M)

def fx_X11_years_L43 (c2 : Int) (K178 : Int → Int → tp_M → tp_O) (rec : Int → Int → Int → tp_M → tp_O) (z10 z11 z12 : Int) (M13 : tp_M) : tp_O :=
(if w32 z12 < w32 c2 then
(tp_bd (fx_X11_draws 4 M13) (fun r16 M17 =>
(tp_lt r16 (fun x18 =>
(tp_bd (fx_X11_draws ((M17 0 3) - 1) M17) (fun r19 M20 =>
(tp_lt (1 + r19) (fun x21 =>
(tp_jn2 (fun y22 y23 M24 => 
(tp_lt (z12 + 1) (fun x25 =>
(rec y22 y23 x25 M24)))) (fun jk172 =>
(if w32 x18 < 2 then
(tp_bd (fx_X11_comesMany 5 17 x21 1 M20) (fun r46 M47 =>
(jk172 z10 z11 M47)))
else
(if w32 x18 = 2 then
(tp_bd (fx_X11_goesOne 5 17 x21 M20) (fun r33 M34 =>
(tp_lt r33 (fun x35 =>
(tp_jn1 (fun y36 M37 => 
(tp_bd (fx_X11_flag y36 M37) (fun r38 M39 =>
(tp_lt (z10 + r38) (fun x40 =>
(tp_jn1 (fun y41 M42 => 
(tp_bd (fx_X11_flag y41 M42) (fun r43 M44 =>
(tp_lt (z11 + r43) (fun x45 =>
(jk172 x40 x45 M44)))))) (fun jk137 =>
(if w32 x35 < 0 then
(jk137 0 M39)
else
(jk137 1 M39))))))))) (fun jk120 =>
(if w32 x35 = 0 then
(jk120 1 M34)
else
(jk120 0 M34))))))))
else
(tp_bd (fx_X11_burstsOne 5 17 x21 M20) (fun r26 M27 =>
(tp_jn1 (fun y28 M29 => 
(tp_lt (z10 + y28) (fun x30 =>
(jk172 x30 z11 M29)))) (fun jk170 =>
(if w32 r26 < 0 then
(jk170 0 M27)
else
(tp_bd (fx_X11_innOf x21 M27) (fun r31 M32 =>
(jk170 r31 M32))))))))))))))))))))
else
(K178 z10 z11 M13))
def fx_X11_years  (a1 : Int) (a2 : Int) (M : tp_M) : tp_O :=
(tp_lm (tp_up M 0 0 0) (fun M1 =>
(tp_bd (fx_X11_in (w32 a2) 1 60 M1) (fun r2 M3 =>
(if w32 r2 = 0 then
(some ((-1), M3))
else
(tp_lm (tp_up M3 0 49 a1) (fun M4 =>
(tp_bd (fx_X11_copies 5 17 4 17 M4) (fun r5 M6 =>
(tp_lt 0 (fun x7 =>
(tp_lt 0 (fun x8 =>
(tp_lt 0 (fun x9 =>
(tp_lp3 (fx_X11_years_L43 a2 (fun y14 y15 M48 =>
(tp_lm (tp_up M48 0 1 0) (fun M49 =>
(tp_bd (fx_X11_walkers 5 17 M49) (fun r50 M51 =>
(tp_bd (fx_X11_enters (w32 r50) M51) (fun r52 M53 =>
(tp_bd (fx_X11_enters (w32 y15) M53) (fun r54 M55 =>
(some (y14, M55)))))))))))) tp_F x7 x8 x9 M6))))))))))))))))
set_option maxRecDepth 100000 in
set_option maxHeartbeats 4000000 in
theorem fx_X11_years_L43_ok {X : tp_X} {Y : tp_Y} (G : tp_Ok X Y 34 cX11_years 9 RX11 (some .int))  {c2 : Int} {K178 : Int → Int → tp_M → tp_O}   (hK178 : ∀ (y14 y15 : Int) (M9 : tp_M), tp_J X Y LM 34 9 8 1 (K178 y14 y15 M9) M9 [(0, vR X 0), (3, vI y14), (4, vI y15)] [] 178) (n : Nat) : ∀ (z10 z11 z12 : Int) (M13 : tp_M), tp_J X Y LM 34 9 8 1 (tp_lp3 (fx_X11_years_L43  c2 K178) n z10 z11 z12 M13) M13 [(0, vR X 0), (2, vI c2), (3, vI z10), (4, vI z11), (5, vI z12)] [] 43 := by
  refine tp_lp3_ok (P := fun o z10 z11 z12 M13 => tp_J X Y LM 34 9 8 1 (o) M13 [(0, vR X 0), (2, vI c2), (3, vI z10), (4, vI z11), (5, vI z12)] [] 43) (fun z10 z11 z12 M13 => tj_none) (fun rec hrec z10 z11 z12 M13 => ?_) n
  unfold fx_X11_years_L43
  refine tj_iload (pc := 43) G 4 dX11_years_43 rfl ?_
  refine tj_iload_n (pc := 45) G 1 dX11_years_45 rfl rfl ?_
  refine tj_icmp_ge (pc := 46) G (tgt := 178) (a2 := w32 z12) (b2 := w32 c2) dX11_years_46 (by decide) rfl rfl ?_ ?_
  · exact tj_sub [0, 2, 3] rfl (hK178 z10 z11 M13)
  refine tj_aload_n (pc := 49) G 0 dX11_years_49 rfl rfl ?_
  refine tj_iconst (pc := 50) G dX11_years_50 ?_
  refine tj_callVi (pc := 51) G [vI 4] mf_X11_draws (k := 0) (by decide) lm_0 rfl rfl ml_X11_494 (by decide) rfl rfl (Nat.le_of_ble_eq_true rfl) (fun _ h9 => ok_X11_draws X  h9) dX11_years_51 (fun r16 M17 => ?_)
  refine tj_istore (pc := 54) G (fun x18 => [(6, vI x18), (0, vR X 0), (2, vI c2), (3, vI z10), (4, vI z11), (5, vI z12)]) dX11_years_54 (by decide) (fun _ => rfl) (fun x18 => ?_)
  refine tj_iconst (pc := 56) G dX11_years_56 ?_
  refine tj_aload_n (pc := 57) G 1 dX11_years_57 rfl rfl ?_
  refine tj_aload_n (pc := 58) G 1 dX11_years_58 rfl rfl ?_
  refine tj_getI (pc := 59) G (k := 0) (j := 3) (j2 := 3) tk_X11 (by decide) lm_0 rfl (by decide) rfl fl_X11_28 dX11_years_59 ?_
  refine tj_iconst (pc := 62) G dX11_years_62 ?_
  refine tj_isub (pc := 63) G dX11_years_63 ?_
  refine tj_callVi (pc := 64) G [vI ((M17 0 3) - 1)] mf_X11_draws (k := 0) (by decide) lm_0 rfl rfl ml_X11_494 (by decide) rfl rfl (Nat.le_of_ble_eq_true rfl) (fun _ h9 => ok_X11_draws X  h9) dX11_years_64 (fun r19 M20 => ?_)
  refine tj_iadd (pc := 67) G dX11_years_67 ?_
  refine tj_istore (pc := 68) G (fun x21 => [(7, vI x21), (6, vI x18), (0, vR X 0), (2, vI c2), (3, vI z10), (4, vI z11), (5, vI z12)]) dX11_years_68 (by decide) (fun _ => rfl) (fun x21 => ?_)
  refine tj_iload (pc := 70) G 1 dX11_years_70 rfl ?_
  refine tj_iconst (pc := 72) G dX11_years_72 ?_
  refine tj_jn2 (fun y22 y23 => [(0, vR X 0), (2, vI c2), (3, vI y22), (4, vI y23), (5, vI z12)]) (fun y22 y23 => []) 172 (fun y22 y23 M24 => ?_) (fun jk172 hj172 => ?_)
  · refine tj_iinc (pc := 172) G 4 (fun x25 => [(5, vI x25), (0, vR X 0), (2, vI c2), (3, vI y22), (4, vI y23)]) dX11_years_172 rfl (by decide) (fun _ => rfl) (fun x25 => ?_)
    refine tj_goto (pc := 175) G (tgt := 43) dX11_years_175 (by decide) ?_
    exact tj_sub [1, 2, 3, 4, 0] rfl (hrec y22 y23 x25 M24)
  refine tj_icmp_ge (pc := 73) G (tgt := 91) (a2 := w32 x18) (b2 := 2) dX11_years_73 (by decide) rfl rfl ?_ ?_
  · refine tj_iload (pc := 91) G 1 dX11_years_91 rfl ?_
    refine tj_iconst (pc := 93) G dX11_years_93 ?_
    refine tj_icmp_ne (pc := 94) G (tgt := 146) (a2 := w32 x18) (b2 := 2) dX11_years_94 (by decide) rfl rfl ?_ ?_
    · refine tj_iload_n (pc := 146) G 4 dX11_years_146 rfl rfl ?_
      refine tj_aload_n (pc := 147) G 2 dX11_years_147 rfl rfl ?_
      refine tj_aload_n (pc := 148) G 2 dX11_years_148 rfl rfl ?_
      refine tj_getR (pc := 149) G (k := 0) (j := 7) (j2 := 7) tk_X11 (by decide) lm_0 rfl (by decide) rfl fl_X11_41 dX11_years_149 ?_
      refine tj_iload (pc := 152) G 0 dX11_years_152 rfl ?_
      refine tj_callVi (pc := 154) G [vR X 5, vI x21] mf_X11_burstsOne (k := 0) (by decide) lm_0 rfl rfl ml_X11_336 (by decide) rfl rfl (Nat.le_of_ble_eq_true rfl) (fun _ h9 => ok_X11_burstsOne X ⟨by decide, lm_5⟩ h9) dX11_years_154 (fun r26 M27 => ?_)
      refine tj_jn1 (fun y28 => [(0, vR X 0), (2, vI c2), (4, vI z11), (5, vI z12)]) (fun y28 => [vI y28, vI z10]) 170 (fun y28 M29 => ?_) (fun jk170 hj170 => ?_)
      · refine tj_iadd (pc := 170) G dX11_years_170 ?_
        refine tj_istore_n (pc := 171) G (fun x30 => [(3, vI x30), (0, vR X 0), (2, vI c2), (4, vI z11), (5, vI z12)]) dX11_years_171 rfl (by decide) (fun _ => rfl) (fun x30 => ?_)
        exact tj_sub [1, 2, 0, 3, 4] rfl (hj172 x30 z11 M29)
      refine tj_if_lt (pc := 157) G (tgt := 169) (a2 := w32 r26) dX11_years_157 (by decide) rfl ?_ ?_
      · refine tj_iconst (pc := 169) G dX11_years_169 ?_
        exact tj_sub [2, 3, 5, 6] rfl (hj170 0 M27)
      refine tj_aload_n (pc := 160) G 2 dX11_years_160 rfl rfl ?_
      refine tj_iload (pc := 161) G 0 dX11_years_161 rfl ?_
      refine tj_callVi (pc := 163) G [vI x21] mf_X11_innOf (k := 0) (by decide) lm_0 rfl rfl ml_X11_497 (by decide) rfl rfl (Nat.le_of_ble_eq_true rfl) (fun _ h9 => ok_X11_innOf X  h9) dX11_years_163 (fun r31 M32 => ?_)
      refine tj_goto (pc := 166) G (tgt := 170) dX11_years_166 (by decide) ?_
      exact tj_sub [2, 3, 5, 6] rfl (hj170 r31 M32)
    refine tj_aload_n (pc := 97) G 2 dX11_years_97 rfl rfl ?_
    refine tj_aload_n (pc := 98) G 2 dX11_years_98 rfl rfl ?_
    refine tj_getR (pc := 99) G (k := 0) (j := 7) (j2 := 7) tk_X11 (by decide) lm_0 rfl (by decide) rfl fl_X11_41 dX11_years_99 ?_
    refine tj_iload (pc := 102) G 0 dX11_years_102 rfl ?_
    refine tj_callVi (pc := 104) G [vR X 5, vI x21] mf_X11_goesOne (k := 0) (by decide) lm_0 rfl rfl ml_X11_330 (by decide) rfl rfl (Nat.le_of_ble_eq_true rfl) (fun _ h9 => ok_X11_goesOne X ⟨by decide, lm_5⟩ h9) dX11_years_104 (fun r33 M34 => ?_)
    refine tj_istore (pc := 107) G (fun x35 => [(8, vI x35), (7, vI x21), (6, vI x18), (0, vR X 0), (2, vI c2), (3, vI z10), (4, vI z11), (5, vI z12)]) dX11_years_107 (by decide) (fun _ => rfl) (fun x35 => ?_)
    refine tj_iload_n (pc := 109) G 5 dX11_years_109 rfl rfl ?_
    refine tj_iload (pc := 110) G 0 dX11_years_110 rfl ?_
    refine tj_jn1 (fun y36 => [(0, vR X 0), (2, vI c2), (4, vI z11), (5, vI z12), (8, vI x35)]) (fun y36 => [vI y36, vI z10]) 120 (fun y36 M37 => ?_) (fun jk120 hj120 => ?_)
    · refine tj_callSi (pc := 120) G [vI y36] mf_X11_flag ml_X11_151 (by decide) rfl rfl (Nat.le_of_ble_eq_true rfl) (fun _ h9 => ok_X11_flag X  h9) dX11_years_120 (fun r38 M39 => ?_)
      refine tj_iadd (pc := 123) G dX11_years_123 ?_
      refine tj_istore_n (pc := 124) G (fun x40 => [(3, vI x40), (0, vR X 0), (2, vI c2), (4, vI z11), (5, vI z12), (8, vI x35)]) dX11_years_124 rfl (by decide) (fun _ => rfl) (fun x40 => ?_)
      refine tj_iload (pc := 125) G 3 dX11_years_125 rfl ?_
      refine tj_iload (pc := 127) G 5 dX11_years_127 rfl ?_
      refine tj_jn1 (fun y41 => [(0, vR X 0), (2, vI c2), (3, vI x40), (5, vI z12)]) (fun y41 => [vI y41, vI z11]) 137 (fun y41 M42 => ?_) (fun jk137 hj137 => ?_)
      · refine tj_callSi (pc := 137) G [vI y41] mf_X11_flag ml_X11_151 (by decide) rfl rfl (Nat.le_of_ble_eq_true rfl) (fun _ h9 => ok_X11_flag X  h9) dX11_years_137 (fun r43 M44 => ?_)
        refine tj_iadd (pc := 140) G dX11_years_140 ?_
        refine tj_istore (pc := 141) G (fun x45 => [(4, vI x45), (0, vR X 0), (2, vI c2), (3, vI x40), (5, vI z12)]) dX11_years_141 (by decide) (fun _ => rfl) (fun x45 => ?_)
        refine tj_goto (pc := 143) G (tgt := 172) dX11_years_143 (by decide) ?_
        exact tj_sub [1, 2, 3, 0, 4] rfl (hj172 x40 x45 M44)
      refine tj_if_lt (pc := 129) G (tgt := 136) (a2 := w32 x35) dX11_years_129 (by decide) rfl ?_ ?_
      · refine tj_iconst (pc := 136) G dX11_years_136 ?_
        exact tj_sub [1, 2, 0, 4] rfl (hj137 0 M39)
      refine tj_iconst (pc := 132) G dX11_years_132 ?_
      refine tj_goto (pc := 133) G (tgt := 137) dX11_years_133 (by decide) ?_
      exact tj_sub [1, 2, 0, 4] rfl (hj137 1 M39)
    refine tj_if_ne (pc := 112) G (tgt := 119) (a2 := w32 x35) dX11_years_112 (by decide) rfl ?_ ?_
    · refine tj_iconst (pc := 119) G dX11_years_119 ?_
      exact tj_sub [3, 4, 6, 7, 0] rfl (hj120 0 M34)
    refine tj_iconst (pc := 115) G dX11_years_115 ?_
    refine tj_goto (pc := 116) G (tgt := 120) dX11_years_116 (by decide) ?_
    exact tj_sub [3, 4, 6, 7, 0] rfl (hj120 1 M34)
  refine tj_aload_n (pc := 76) G 2 dX11_years_76 rfl rfl ?_
  refine tj_aload_n (pc := 77) G 2 dX11_years_77 rfl rfl ?_
  refine tj_getR (pc := 78) G (k := 0) (j := 7) (j2 := 7) tk_X11 (by decide) lm_0 rfl (by decide) rfl fl_X11_41 dX11_years_78 ?_
  refine tj_iload (pc := 81) G 0 dX11_years_81 rfl ?_
  refine tj_iconst (pc := 83) G dX11_years_83 ?_
  refine tj_callVi (pc := 84) G [vR X 5, vI x21, vI 1] mf_X11_comesMany (k := 0) (by decide) lm_0 rfl rfl ml_X11_323 (by decide) rfl rfl (Nat.le_of_ble_eq_true rfl) (fun _ h9 => ok_X11_comesMany X ⟨by decide, lm_5⟩ h9) dX11_years_84 (fun r46 M47 => ?_)
  refine tj_pop (pc := 87) G dX11_years_87 rfl ?_
  refine tj_goto (pc := 88) G (tgt := 172) dX11_years_88 (by decide) ?_
  exact tj_sub [2, 3, 4, 5, 6] rfl (hj172 z10 z11 M47)
set_option maxRecDepth 100000 in
set_option maxHeartbeats 4000000 in
theorem ok_X11_years (X : tp_X)  {a1 : Int} {a2 : Int}  {M : tp_M} {res : Int × tp_M} (h : fx_X11_years  a1 a2 M = some res) : tp_Ret X LM 34 1 yX11_years (Cond.code yX11_years cX11_years 9 (some .int)) 8 [vR X 0, vI a1, vI a2] M res := by
  refine tp_ofW (by decide +kernel) rfl rfl (by show _ ≤ 9; exact Nat.le_of_ble_eq_true rfl) h (fun Y G => ?_)
  show tp_J X Y LM 34 9 8 1 (fx_X11_years  a1 a2 M) M [(0, vR X 0), (1, vI a1), (2, vI a2)] [] 0
  unfold fx_X11_years
  refine tj_aload_n (pc := 0) G 0 dX11_years_0 rfl rfl ?_
  refine tj_iconst (pc := 1) G dX11_years_1 ?_
  refine tj_putI (pc := 2) G (k := 0) (j := 0) (j2 := 0) tk_X11 (by decide) lm_0 rfl (by decide) rfl fl_X11_3 rfl rfl dX11_years_2 (fun M1 => ?_)
  refine tj_iload_n (pc := 5) G 2 dX11_years_5 rfl rfl ?_
  refine tj_i2l (pc := 6) G (b := w32 a2) dX11_years_6 rfl ?_
  refine tj_lconst (pc := 7) G (v := 1) dX11_years_7 rfl ?_
  refine tj_ldc2 (pc := 8) G (v := 60) dX11_years_8 ct_X11_371 rfl ?_
  refine tj_callSi (pc := 11) G [vL (w32 a2), vL 1, vL 60] mf_X11_in ml_X11_129 (by decide) rfl rfl (Nat.le_of_ble_eq_true rfl) (fun _ h9 => ok_X11_in X  h9) dX11_years_11 (fun r2 M3 => ?_)
  refine tj_if_ne (pc := 14) G (tgt := 19) (a2 := w32 r2) dX11_years_14 (by decide) rfl ?_ ?_
  · refine tj_aload_n (pc := 19) G 0 dX11_years_19 rfl rfl ?_
    refine tj_iload_n (pc := 20) G 1 dX11_years_20 rfl rfl ?_
    refine tj_putI (pc := 21) G (k := 0) (j := 49) (j2 := 49) tk_X11 (by decide) lm_0 rfl (by decide) rfl fl_X11_490 rfl rfl dX11_years_21 (fun M4 => ?_)
    refine tj_aload_n (pc := 24) G 0 dX11_years_24 rfl rfl ?_
    refine tj_getR (pc := 25) G (k := 0) (j := 7) (j2 := 7) tk_X11 (by decide) lm_0 rfl (by decide) rfl fl_X11_41 dX11_years_25 ?_
    refine tj_aload_n (pc := 28) G 0 dX11_years_28 rfl rfl ?_
    refine tj_getR (pc := 29) G (k := 0) (j := 6) (j2 := 6) tk_X11 (by decide) lm_0 rfl (by decide) rfl fl_X11_38 dX11_years_29 ?_
    refine tj_callSv (pc := 32) G [vR X 5, vR X 4] mf_X11_copies ml_X11_307 (by decide) rfl rfl (Nat.le_of_ble_eq_true rfl) (fun _ h9 => ok_X11_copies X ⟨by decide, lm_5⟩ ⟨by decide, lm_4⟩ h9) dX11_years_32 (fun r5 M6 => ?_)
    refine tj_iconst (pc := 35) G dX11_years_35 ?_
    refine tj_istore_n (pc := 36) G (fun x7 => [(3, vI x7), (0, vR X 0), (1, vI a1), (2, vI a2)]) dX11_years_36 rfl (by decide) (fun _ => rfl) (fun x7 => ?_)
    refine tj_iconst (pc := 37) G dX11_years_37 ?_
    refine tj_istore (pc := 38) G (fun x8 => [(4, vI x8), (3, vI x7), (0, vR X 0), (1, vI a1), (2, vI a2)]) dX11_years_38 (by decide) (fun _ => rfl) (fun x8 => ?_)
    refine tj_iconst (pc := 40) G dX11_years_40 ?_
    refine tj_istore (pc := 41) G (fun x9 => [(5, vI x9), (4, vI x8), (3, vI x7), (0, vR X 0), (1, vI a1), (2, vI a2)]) dX11_years_41 (by decide) (fun _ => rfl) (fun x9 => ?_)
    refine tj_sub [3, 5, 2, 1, 0] rfl (fx_X11_years_L43_ok G    (fun y14 y15 M48 => ?_) tp_F x7 x8 x9 M6)
    refine tj_aload_n (pc := 178) G 0 dX11_years_178 rfl rfl ?_
    refine tj_iconst (pc := 179) G dX11_years_179 ?_
    refine tj_putI (pc := 180) G (k := 0) (j := 1) (j2 := 1) tk_X11 (by decide) lm_0 rfl (by decide) rfl fl_X11_15 rfl rfl dX11_years_180 (fun M49 => ?_)
    refine tj_aload_n (pc := 183) G 0 dX11_years_183 rfl rfl ?_
    refine tj_aload_n (pc := 184) G 0 dX11_years_184 rfl rfl ?_
    refine tj_aload_n (pc := 185) G 0 dX11_years_185 rfl rfl ?_
    refine tj_getR (pc := 186) G (k := 0) (j := 7) (j2 := 7) tk_X11 (by decide) lm_0 rfl (by decide) rfl fl_X11_41 dX11_years_186 ?_
    refine tj_callVi (pc := 189) G [vR X 5] mf_X11_walkers (k := 0) (by decide) lm_0 rfl rfl ml_X11_285 (by decide) rfl rfl (Nat.le_of_ble_eq_true rfl) (fun _ h9 => ok_X11_walkers X ⟨by decide, lm_5⟩ h9) dX11_years_189 (fun r50 M51 => ?_)
    refine tj_i2l (pc := 192) G (b := w32 r50) dX11_years_192 rfl ?_
    refine tj_callVv (pc := 193) G [vL (w32 r50)] mf_X11_enters (k := 0) (by decide) lm_0 rfl rfl ml_X11_18 (by decide) rfl rfl (Nat.le_of_ble_eq_true rfl) (fun _ h9 => ok_X11_enters X  h9) dX11_years_193 (fun r52 M53 => ?_)
    refine tj_aload_n (pc := 196) G 0 dX11_years_196 rfl rfl ?_
    refine tj_iload (pc := 197) G 2 dX11_years_197 rfl ?_
    refine tj_i2l (pc := 199) G (b := w32 y15) dX11_years_199 rfl ?_
    refine tj_callVv (pc := 200) G [vL (w32 y15)] mf_X11_enters (k := 0) (by decide) lm_0 rfl rfl ml_X11_18 (by decide) rfl rfl (Nat.le_of_ble_eq_true rfl) (fun _ h9 => ok_X11_enters X  h9) dX11_years_200 (fun r54 M55 => ?_)
    refine tj_iload_n (pc := 203) G 1 dX11_years_203 rfl rfl ?_
    exact tj_iret (pc := 204) G dX11_years_204
  refine tj_iconst (pc := 17) G dX11_years_17 ?_
  exact tj_iret (pc := 18) G dX11_years_18

def fx_X11_keep_L28 (c1 : Int) (rec : Int → tp_M → tp_O) (z6 : Int) (M7 : tp_M) : tp_O :=
(if w32 z6 < 17 then
(tp_ck (w32 z6) 17 (tp_ck (w32 ((17 * c1) + z6)) 51 (tp_lm (tp_up M7 33 (w32 ((17 * c1) + z6)) (M7 4 (w32 z6))) (fun M8 =>
(tp_lt (z6 + 1) (fun x9 =>
(rec x9 M8)))))))
else
(some (1, M7)))
def fx_X11_keep  (a1 : Int) (M : tp_M) : tp_O :=
(tp_lm (tp_up M 0 0 0) (fun M1 =>
(tp_bd (fx_X11_in (w32 a1) 0 2 M1) (fun r2 M3 =>
(if w32 r2 = 0 then
(some (0, M3))
else
(tp_ck (w32 a1) 3 (tp_lm (tp_up M3 32 (w32 a1) 1) (fun M4 =>
(tp_lt 0 (fun x5 =>
(tp_lp1 (fx_X11_keep_L28 a1 ) tp_F x5 M4)))))))))))
set_option maxRecDepth 100000 in
set_option maxHeartbeats 4000000 in
theorem fx_X11_keep_L28_ok {X : tp_X} {Y : tp_Y} (G : tp_Ok X Y 34 cX11_keep 3 RX11 (some .boolean))  {c1 : Int}    (n : Nat) : ∀ (z6 : Int) (M7 : tp_M), tp_J X Y LM 34 3 2 1 (tp_lp1 (fx_X11_keep_L28  c1 ) n z6 M7) M7 [(0, vR X 0), (1, vI c1), (2, vI z6)] [] 28 := by
  refine tp_lp1_ok (P := fun o z6 M7 => tp_J X Y LM 34 3 2 1 (o) M7 [(0, vR X 0), (1, vI c1), (2, vI z6)] [] 28) (fun z6 M7 => tj_none) (fun rec hrec z6 M7 => ?_) n
  unfold fx_X11_keep_L28
  refine tj_iload_n (pc := 28) G 2 dX11_keep_28 rfl rfl ?_
  refine tj_bipush (pc := 29) G dX11_keep_29 rfl ?_
  refine tj_icmp_ge (pc := 31) G (tgt := 57) (a2 := w32 z6) (b2 := 17) dX11_keep_31 (by decide) rfl rfl ?_ ?_
  · refine tj_iconst (pc := 57) G dX11_keep_57 ?_
    exact tj_zret (pc := 58) G (by decide) dX11_keep_58
  refine tj_aload_n (pc := 34) G 0 dX11_keep_34 rfl rfl ?_
  refine tj_getR (pc := 35) G (k := 0) (j := 51) (j2 := 51) tk_X11 (by decide) lm_0 rfl (by decide) rfl fl_X11_126 dX11_keep_35 ?_
  refine tj_bipush (pc := 38) G dX11_keep_38 rfl ?_
  refine tj_iload_n (pc := 40) G 1 dX11_keep_40 rfl rfl ?_
  refine tj_imul (pc := 41) G dX11_keep_41 ?_
  refine tj_iload_n (pc := 42) G 2 dX11_keep_42 rfl rfl ?_
  refine tj_iadd (pc := 43) G dX11_keep_43 ?_
  refine tj_aload_n (pc := 44) G 0 dX11_keep_44 rfl rfl ?_
  refine tj_getR (pc := 45) G (k := 0) (j := 6) (j2 := 6) tk_X11 (by decide) lm_0 rfl (by decide) rfl fl_X11_38 dX11_keep_45 ?_
  refine tj_iload_n (pc := 48) G 2 dX11_keep_48 rfl rfl ?_
  refine tj_iald (pc := 49) G (k := 4) (i2 := w32 z6) (n2 := 17) (by decide) lm_4 rfl rfl dX11_keep_49 ?_
  refine tj_iast (pc := 50) G (k := 33) (i2 := w32 ((17 * c1) + z6)) (n2 := 51) (by decide) lm_33 rfl rfl dX11_keep_50 (fun M8 => ?_)
  refine tj_iinc (pc := 51) G 2 (fun x9 => [(2, vI x9), (0, vR X 0), (1, vI c1)]) dX11_keep_51 rfl (by decide) (fun _ => rfl) (fun x9 => ?_)
  refine tj_goto (pc := 54) G (tgt := 28) dX11_keep_54 (by decide) ?_
  exact tj_sub [1, 2, 0] rfl (hrec x9 M8)
set_option maxRecDepth 100000 in
set_option maxHeartbeats 4000000 in
theorem ok_X11_keep (X : tp_X)  {a1 : Int}  {M : tp_M} {res : Int × tp_M} (h : fx_X11_keep  a1 M = some res) : tp_Ret X LM 34 1 yX11_keep (Cond.code yX11_keep cX11_keep 3 (some .boolean)) 2 [vR X 0, vI a1] M res := by
  refine tp_ofW (by decide +kernel) rfl rfl (by show _ ≤ 3; exact Nat.le_of_ble_eq_true rfl) h (fun Y G => ?_)
  show tp_J X Y LM 34 3 2 1 (fx_X11_keep  a1 M) M [(0, vR X 0), (1, vI a1)] [] 0
  unfold fx_X11_keep
  refine tj_aload_n (pc := 0) G 0 dX11_keep_0 rfl rfl ?_
  refine tj_iconst (pc := 1) G dX11_keep_1 ?_
  refine tj_putI (pc := 2) G (k := 0) (j := 0) (j2 := 0) tk_X11 (by decide) lm_0 rfl (by decide) rfl fl_X11_3 rfl rfl dX11_keep_2 (fun M1 => ?_)
  refine tj_iload_n (pc := 5) G 1 dX11_keep_5 rfl rfl ?_
  refine tj_i2l (pc := 6) G (b := w32 a1) dX11_keep_6 rfl ?_
  refine tj_lconst (pc := 7) G (v := 0) dX11_keep_7 rfl ?_
  refine tj_ldc2 (pc := 8) G (v := 2) dX11_keep_8 ct_X11_446 rfl ?_
  refine tj_callSi (pc := 11) G [vL (w32 a1), vL 0, vL 2] mf_X11_in ml_X11_129 (by decide) rfl rfl (Nat.le_of_ble_eq_true rfl) (fun _ h9 => ok_X11_in X  h9) dX11_keep_11 (fun r2 M3 => ?_)
  refine tj_if_ne (pc := 14) G (tgt := 19) (a2 := w32 r2) dX11_keep_14 (by decide) rfl ?_ ?_
  · refine tj_aload_n (pc := 19) G 0 dX11_keep_19 rfl rfl ?_
    refine tj_getR (pc := 20) G (k := 0) (j := 50) (j2 := 50) tk_X11 (by decide) lm_0 rfl (by decide) rfl fl_X11_123 dX11_keep_20 ?_
    refine tj_iload_n (pc := 23) G 1 dX11_keep_23 rfl rfl ?_
    refine tj_iconst (pc := 24) G dX11_keep_24 ?_
    refine tj_zast (pc := 25) G (k := 32) (i2 := w32 a1) (n2 := 3) (by decide) lm_32 rfl rfl (by decide) dX11_keep_25 (fun M4 => ?_)
    refine tj_iconst (pc := 26) G dX11_keep_26 ?_
    refine tj_istore_n (pc := 27) G (fun x5 => [(2, vI x5), (0, vR X 0), (1, vI a1)]) dX11_keep_27 rfl (by decide) (fun _ => rfl) (fun x5 => ?_)
    refine tj_sub [1, 2, 0] rfl (fx_X11_keep_L28_ok G     tp_F x5 M4)
  refine tj_iconst (pc := 17) G dX11_keep_17 ?_
  exact tj_zret (pc := 18) G (by decide) dX11_keep_18

def fx_X11_again_L30 (c1 : Int) (rec : Int → tp_M → tp_O) (z5 : Int) (M6 : tp_M) : tp_O :=
(if w32 z5 < 17 then
(tp_ck (w32 ((17 * c1) + z5)) 51 (tp_ck (w32 z5) 17 (tp_lm (tp_up M6 4 (w32 z5) (M6 33 (w32 ((17 * c1) + z5)))) (fun M8 =>
(tp_lt (z5 + 1) (fun x9 =>
(rec x9 M8)))))))
else
(tp_lm (tp_up M6 0 23 0) (fun M7 =>
(some (1, M7)))))
def fx_X11_again  (a1 : Int) (M : tp_M) : tp_O :=
(tp_lm (tp_up M 0 0 0) (fun M1 =>
(tp_bd (fx_X11_in (w32 a1) 0 2 M1) (fun r2 M3 =>
(if w32 r2 = 0 then
(some (0, M3))
else
(tp_ck (w32 a1) 3 (if w32 (M3 32 (w32 a1)) = 0 then
(some (0, M3))
else
(tp_lt 0 (fun x4 =>
(tp_lp1 (fx_X11_again_L30 a1 ) tp_F x4 M3))))))))))
set_option maxRecDepth 100000 in
set_option maxHeartbeats 4000000 in
theorem fx_X11_again_L30_ok {X : tp_X} {Y : tp_Y} (G : tp_Ok X Y 34 cX11_again 3 RX11 (some .boolean))  {c1 : Int}    (n : Nat) : ∀ (z5 : Int) (M6 : tp_M), tp_J X Y LM 34 3 2 1 (tp_lp1 (fx_X11_again_L30  c1 ) n z5 M6) M6 [(0, vR X 0), (1, vI c1), (2, vI z5)] [] 30 := by
  refine tp_lp1_ok (P := fun o z5 M6 => tp_J X Y LM 34 3 2 1 (o) M6 [(0, vR X 0), (1, vI c1), (2, vI z5)] [] 30) (fun z5 M6 => tj_none) (fun rec hrec z5 M6 => ?_) n
  unfold fx_X11_again_L30
  refine tj_iload_n (pc := 30) G 2 dX11_again_30 rfl rfl ?_
  refine tj_bipush (pc := 31) G dX11_again_31 rfl ?_
  refine tj_icmp_ge (pc := 33) G (tgt := 59) (a2 := w32 z5) (b2 := 17) dX11_again_33 (by decide) rfl rfl ?_ ?_
  · refine tj_aload_n (pc := 59) G 0 dX11_again_59 rfl rfl ?_
    refine tj_iconst (pc := 60) G dX11_again_60 ?_
    refine tj_putI (pc := 61) G (k := 0) (j := 23) (j2 := 23) tk_X11 (by decide) lm_0 rfl (by decide) rfl fl_X11_200 rfl rfl dX11_again_61 (fun M7 => ?_)
    refine tj_iconst (pc := 64) G dX11_again_64 ?_
    exact tj_zret (pc := 65) G (by decide) dX11_again_65
  refine tj_aload_n (pc := 36) G 0 dX11_again_36 rfl rfl ?_
  refine tj_getR (pc := 37) G (k := 0) (j := 6) (j2 := 6) tk_X11 (by decide) lm_0 rfl (by decide) rfl fl_X11_38 dX11_again_37 ?_
  refine tj_iload_n (pc := 40) G 2 dX11_again_40 rfl rfl ?_
  refine tj_aload_n (pc := 41) G 0 dX11_again_41 rfl rfl ?_
  refine tj_getR (pc := 42) G (k := 0) (j := 51) (j2 := 51) tk_X11 (by decide) lm_0 rfl (by decide) rfl fl_X11_126 dX11_again_42 ?_
  refine tj_bipush (pc := 45) G dX11_again_45 rfl ?_
  refine tj_iload_n (pc := 47) G 1 dX11_again_47 rfl rfl ?_
  refine tj_imul (pc := 48) G dX11_again_48 ?_
  refine tj_iload_n (pc := 49) G 2 dX11_again_49 rfl rfl ?_
  refine tj_iadd (pc := 50) G dX11_again_50 ?_
  refine tj_iald (pc := 51) G (k := 33) (i2 := w32 ((17 * c1) + z5)) (n2 := 51) (by decide) lm_33 rfl rfl dX11_again_51 ?_
  refine tj_iast (pc := 52) G (k := 4) (i2 := w32 z5) (n2 := 17) (by decide) lm_4 rfl rfl dX11_again_52 (fun M8 => ?_)
  refine tj_iinc (pc := 53) G 2 (fun x9 => [(2, vI x9), (0, vR X 0), (1, vI c1)]) dX11_again_53 rfl (by decide) (fun _ => rfl) (fun x9 => ?_)
  refine tj_goto (pc := 56) G (tgt := 30) dX11_again_56 (by decide) ?_
  exact tj_sub [1, 2, 0] rfl (hrec x9 M8)
set_option maxRecDepth 100000 in
set_option maxHeartbeats 4000000 in
theorem ok_X11_again (X : tp_X)  {a1 : Int}  {M : tp_M} {res : Int × tp_M} (h : fx_X11_again  a1 M = some res) : tp_Ret X LM 34 1 yX11_again (Cond.code yX11_again cX11_again 3 (some .boolean)) 2 [vR X 0, vI a1] M res := by
  refine tp_ofW (by decide +kernel) rfl rfl (by show _ ≤ 3; exact Nat.le_of_ble_eq_true rfl) h (fun Y G => ?_)
  show tp_J X Y LM 34 3 2 1 (fx_X11_again  a1 M) M [(0, vR X 0), (1, vI a1)] [] 0
  unfold fx_X11_again
  refine tj_aload_n (pc := 0) G 0 dX11_again_0 rfl rfl ?_
  refine tj_iconst (pc := 1) G dX11_again_1 ?_
  refine tj_putI (pc := 2) G (k := 0) (j := 0) (j2 := 0) tk_X11 (by decide) lm_0 rfl (by decide) rfl fl_X11_3 rfl rfl dX11_again_2 (fun M1 => ?_)
  refine tj_iload_n (pc := 5) G 1 dX11_again_5 rfl rfl ?_
  refine tj_i2l (pc := 6) G (b := w32 a1) dX11_again_6 rfl ?_
  refine tj_lconst (pc := 7) G (v := 0) dX11_again_7 rfl ?_
  refine tj_ldc2 (pc := 8) G (v := 2) dX11_again_8 ct_X11_446 rfl ?_
  refine tj_callSi (pc := 11) G [vL (w32 a1), vL 0, vL 2] mf_X11_in ml_X11_129 (by decide) rfl rfl (Nat.le_of_ble_eq_true rfl) (fun _ h9 => ok_X11_in X  h9) dX11_again_11 (fun r2 M3 => ?_)
  refine tj_if_eq (pc := 14) G (tgt := 26) (a2 := w32 r2) dX11_again_14 (by decide) rfl ?_ ?_
  · refine tj_iconst (pc := 26) G dX11_again_26 ?_
    exact tj_zret (pc := 27) G (by decide) dX11_again_27
  refine tj_aload_n (pc := 17) G 0 dX11_again_17 rfl rfl ?_
  refine tj_getR (pc := 18) G (k := 0) (j := 50) (j2 := 50) tk_X11 (by decide) lm_0 rfl (by decide) rfl fl_X11_123 dX11_again_18 ?_
  refine tj_iload_n (pc := 21) G 1 dX11_again_21 rfl rfl ?_
  refine tj_zald (pc := 22) G (k := 32) (i2 := w32 a1) (n2 := 3) (by decide) lm_32 rfl rfl dX11_again_22 ?_
  refine tj_if_ne (pc := 23) G (tgt := 28) (a2 := w32 (M3 32 (w32 a1))) dX11_again_23 (by decide) rfl ?_ ?_
  · refine tj_iconst (pc := 28) G dX11_again_28 ?_
    refine tj_istore_n (pc := 29) G (fun x4 => [(2, vI x4), (0, vR X 0), (1, vI a1)]) dX11_again_29 rfl (by decide) (fun _ => rfl) (fun x4 => ?_)
    refine tj_sub [1, 2, 0] rfl (fx_X11_again_L30_ok G     tp_F x4 M3)
  refine tj_iconst (pc := 26) G dX11_again_26 ?_
  exact tj_zret (pc := 27) G (by decide) dX11_again_27

def fx_X11_count_L12 (c1 : Int) (K61 : Int → Int → tp_M → tp_O) (rec : Int → Int → Int → tp_M → tp_O) (z5 z6 z7 : Int) (M8 : tp_M) : tp_O :=
(if w32 z7 < w32 (M8 0 3) then
(tp_ck (w32 z7) 8 (tp_lt (z5 + (M8 2 (w32 z7))) (fun x11 =>
(tp_ck (w32 (8 + z7)) 17 (tp_jn1 (fun y12 M13 => 
(tp_lt (x_or z6 y12) (fun x14 =>
(tp_lt (z7 + 1) (fun x15 =>
(rec x11 x14 x15 M13)))))) (fun jk53 =>
(if w32 (M8 4 (w32 (8 + z7))) ≤ 0 then
(jk53 0 M8)
else
(jk53 (x_shl 1 z7) M8))))))))
else
(K61 z5 z6 M8))
def fx_X11_count  (a1 : Int) (M : tp_M) : tp_O :=
(tp_lm (tp_up M 0 0 0) (fun M1 =>
(tp_lt 0 (fun x2 =>
(tp_lt 0 (fun x3 =>
(tp_lt 1 (fun x4 =>
(tp_lp3 (fx_X11_count_L12 a1 (fun y9 y10 M16 =>
(if w32 a1 = 0 then
(some (M16 0 3, M16))
else
(if w32 a1 = 1 then
(some (y9, M16))
else
(if w32 a1 = 2 then
(some (M16 4 8, M16))
else
(if w32 a1 = 3 then
(some (M16 4 16, M16))
else
(if w32 a1 = 4 then
(tp_bd (fx_X11_walkers 4 17 M16) (fun r27 M28 =>
(some (r27, M28))))
else
(if w32 a1 = 5 then
(some (y10, M16))
else
(if w32 a1 = 6 then
(some (M16 0 39, M16))
else
(if w32 a1 = 7 then
(some (M16 0 44, M16))
else
(if w32 a1 = 8 then
(some (M16 0 23, M16))
else
(if w32 a1 = 9 then
(some (M16 0 1, M16))
else
(if w32 a1 = 10 then
(some (M16 0 9, M16))
else
(some ((-100), M16))))))))))))))) tp_F x2 x3 x4 M1)))))))))
set_option maxRecDepth 100000 in
set_option maxHeartbeats 4000000 in
theorem fx_X11_count_L12_ok {X : tp_X} {Y : tp_Y} (G : tp_Ok X Y 34 cX11_count 5 RX11 (some .int))  {c1 : Int} {K61 : Int → Int → tp_M → tp_O}   (hK61 : ∀ (y9 y10 : Int) (M9 : tp_M), tp_J X Y LM 34 5 2 1 (K61 y9 y10 M9) M9 [(0, vR X 0), (1, vI c1), (2, vI y9), (3, vI y10)] [] 61) (n : Nat) : ∀ (z5 z6 z7 : Int) (M8 : tp_M), tp_J X Y LM 34 5 2 1 (tp_lp3 (fx_X11_count_L12  c1 K61) n z5 z6 z7 M8) M8 [(0, vR X 0), (1, vI c1), (2, vI z5), (3, vI z6), (4, vI z7)] [] 12 := by
  refine tp_lp3_ok (P := fun o z5 z6 z7 M8 => tp_J X Y LM 34 5 2 1 (o) M8 [(0, vR X 0), (1, vI c1), (2, vI z5), (3, vI z6), (4, vI z7)] [] 12) (fun z5 z6 z7 M8 => tj_none) (fun rec hrec z5 z6 z7 M8 => ?_) n
  unfold fx_X11_count_L12
  refine tj_iload (pc := 12) G 4 dX11_count_12 rfl ?_
  refine tj_aload_n (pc := 14) G 0 dX11_count_14 rfl rfl ?_
  refine tj_getI (pc := 15) G (k := 0) (j := 3) (j2 := 3) tk_X11 (by decide) lm_0 rfl (by decide) rfl fl_X11_28 dX11_count_15 ?_
  refine tj_icmp_ge (pc := 18) G (tgt := 61) (a2 := w32 z7) (b2 := w32 (M8 0 3)) dX11_count_18 (by decide) rfl rfl ?_ ?_
  · exact tj_sub [0, 1, 2, 3] rfl (hK61 z5 z6 M8)
  refine tj_iload_n (pc := 21) G 2 dX11_count_21 rfl rfl ?_
  refine tj_aload_n (pc := 22) G 0 dX11_count_22 rfl rfl ?_
  refine tj_getR (pc := 23) G (k := 0) (j := 4) (j2 := 4) tk_X11 (by decide) lm_0 rfl (by decide) rfl fl_X11_31 dX11_count_23 ?_
  refine tj_iload (pc := 26) G 4 dX11_count_26 rfl ?_
  refine tj_iald (pc := 28) G (k := 2) (i2 := w32 z7) (n2 := 8) (by decide) lm_2 rfl rfl dX11_count_28 ?_
  refine tj_iadd (pc := 29) G dX11_count_29 ?_
  refine tj_istore_n (pc := 30) G (fun x11 => [(2, vI x11), (0, vR X 0), (1, vI c1), (3, vI z6), (4, vI z7)]) dX11_count_30 rfl (by decide) (fun _ => rfl) (fun x11 => ?_)
  refine tj_iload_n (pc := 31) G 3 dX11_count_31 rfl rfl ?_
  refine tj_aload_n (pc := 32) G 1 dX11_count_32 rfl rfl ?_
  refine tj_getR (pc := 33) G (k := 0) (j := 6) (j2 := 6) tk_X11 (by decide) lm_0 rfl (by decide) rfl fl_X11_38 dX11_count_33 ?_
  refine tj_bipush (pc := 36) G dX11_count_36 rfl ?_
  refine tj_iload (pc := 38) G 4 dX11_count_38 rfl ?_
  refine tj_iadd (pc := 40) G dX11_count_40 ?_
  refine tj_iald (pc := 41) G (k := 4) (i2 := w32 (8 + z7)) (n2 := 17) (by decide) lm_4 rfl rfl dX11_count_41 ?_
  refine tj_jn1 (fun y12 => [(0, vR X 0), (1, vI c1), (2, vI x11), (4, vI z7)]) (fun y12 => [vI y12, vI z6]) 53 (fun y12 M13 => ?_) (fun jk53 hj53 => ?_)
  · refine tj_ior (pc := 53) G dX11_count_53 ?_
    refine tj_istore_n (pc := 54) G (fun x14 => [(3, vI x14), (0, vR X 0), (1, vI c1), (2, vI x11), (4, vI z7)]) dX11_count_54 rfl (by decide) (fun _ => rfl) (fun x14 => ?_)
    refine tj_iinc (pc := 55) G 4 (fun x15 => [(4, vI x15), (3, vI x14), (0, vR X 0), (1, vI c1), (2, vI x11)]) dX11_count_55 rfl (by decide) (fun _ => rfl) (fun x15 => ?_)
    refine tj_goto (pc := 58) G (tgt := 12) dX11_count_58 (by decide) ?_
    exact tj_sub [2, 3, 4, 1, 0] rfl (hrec x11 x14 x15 M13)
  refine tj_if_le (pc := 42) G (tgt := 52) (a2 := w32 (M8 4 (w32 (8 + z7)))) dX11_count_42 (by decide) rfl ?_ ?_
  · refine tj_iconst (pc := 52) G dX11_count_52 ?_
    exact tj_sub [1, 2, 0, 4] rfl (hj53 0 M8)
  refine tj_iconst (pc := 45) G dX11_count_45 ?_
  refine tj_iload (pc := 46) G 4 dX11_count_46 rfl ?_
  refine tj_ishl (pc := 48) G dX11_count_48 ?_
  refine tj_goto (pc := 49) G (tgt := 53) dX11_count_49 (by decide) ?_
  exact tj_sub [1, 2, 0, 4] rfl (hj53 (x_shl 1 z7) M8)
set_option maxRecDepth 100000 in
set_option maxHeartbeats 4000000 in
theorem ok_X11_count (X : tp_X)  {a1 : Int}  {M : tp_M} {res : Int × tp_M} (h : fx_X11_count  a1 M = some res) : tp_Ret X LM 34 1 yX11_count (Cond.code yX11_count cX11_count 5 (some .int)) 2 [vR X 0, vI a1] M res := by
  refine tp_ofW (by decide +kernel) rfl rfl (by show _ ≤ 5; exact Nat.le_of_ble_eq_true rfl) h (fun Y G => ?_)
  show tp_J X Y LM 34 5 2 1 (fx_X11_count  a1 M) M [(0, vR X 0), (1, vI a1)] [] 0
  unfold fx_X11_count
  refine tj_aload_n (pc := 0) G 0 dX11_count_0 rfl rfl ?_
  refine tj_iconst (pc := 1) G dX11_count_1 ?_
  refine tj_putI (pc := 2) G (k := 0) (j := 0) (j2 := 0) tk_X11 (by decide) lm_0 rfl (by decide) rfl fl_X11_3 rfl rfl dX11_count_2 (fun M1 => ?_)
  refine tj_iconst (pc := 5) G dX11_count_5 ?_
  refine tj_istore_n (pc := 6) G (fun x2 => [(2, vI x2), (0, vR X 0), (1, vI a1)]) dX11_count_6 rfl (by decide) (fun _ => rfl) (fun x2 => ?_)
  refine tj_iconst (pc := 7) G dX11_count_7 ?_
  refine tj_istore_n (pc := 8) G (fun x3 => [(3, vI x3), (2, vI x2), (0, vR X 0), (1, vI a1)]) dX11_count_8 rfl (by decide) (fun _ => rfl) (fun x3 => ?_)
  refine tj_iconst (pc := 9) G dX11_count_9 ?_
  refine tj_istore (pc := 10) G (fun x4 => [(4, vI x4), (3, vI x3), (2, vI x2), (0, vR X 0), (1, vI a1)]) dX11_count_10 (by decide) (fun _ => rfl) (fun x4 => ?_)
  refine tj_sub [3, 4, 2, 1, 0] rfl (fx_X11_count_L12_ok G    (fun y9 y10 M16 => ?_) tp_F x2 x3 x4 M1)
  refine tj_iload_n (pc := 61) G 1 dX11_count_61 rfl rfl ?_
  refine tj_case (fun hq17 => ?_) (fun hq18 => ?_)
  · refine tj_tabIn (pc := 62) G (v := 0) (tgt := 120) dX11_count_62 hq17 (by decide) rfl (by decide) ?_
    refine tj_aload_n (pc := 120) G 0 dX11_count_120 rfl rfl ?_
    refine tj_getI (pc := 121) G (k := 0) (j := 3) (j2 := 3) tk_X11 (by decide) lm_0 rfl (by decide) rfl fl_X11_28 dX11_count_121 ?_
    exact tj_iret (pc := 124) G dX11_count_124
  refine tj_case (fun hq19 => ?_) (fun hq20 => ?_)
  · refine tj_tabIn (pc := 62) G (v := 1) (tgt := 125) dX11_count_62 hq19 (by decide) rfl (by decide) ?_
    refine tj_iload_n (pc := 125) G 2 dX11_count_125 rfl rfl ?_
    exact tj_iret (pc := 126) G dX11_count_126
  refine tj_case (fun hq21 => ?_) (fun hq22 => ?_)
  · refine tj_tabIn (pc := 62) G (v := 2) (tgt := 127) dX11_count_62 hq21 (by decide) rfl (by decide) ?_
    refine tj_aload_n (pc := 127) G 0 dX11_count_127 rfl rfl ?_
    refine tj_getR (pc := 128) G (k := 0) (j := 6) (j2 := 6) tk_X11 (by decide) lm_0 rfl (by decide) rfl fl_X11_38 dX11_count_128 ?_
    refine tj_bipush (pc := 131) G dX11_count_131 rfl ?_
    refine tj_iald1 (pc := 133) G (k := 4) (i2 := 8) (n2 := 0) (by decide) lm_4 rfl (by decide) dX11_count_133 ?_
    exact tj_iret (pc := 134) G dX11_count_134
  refine tj_case (fun hq23 => ?_) (fun hq24 => ?_)
  · refine tj_tabIn (pc := 62) G (v := 3) (tgt := 135) dX11_count_62 hq23 (by decide) rfl (by decide) ?_
    refine tj_aload_n (pc := 135) G 0 dX11_count_135 rfl rfl ?_
    refine tj_getR (pc := 136) G (k := 0) (j := 6) (j2 := 6) tk_X11 (by decide) lm_0 rfl (by decide) rfl fl_X11_38 dX11_count_136 ?_
    refine tj_bipush (pc := 139) G dX11_count_139 rfl ?_
    refine tj_iald1 (pc := 141) G (k := 4) (i2 := 16) (n2 := 0) (by decide) lm_4 rfl (by decide) dX11_count_141 ?_
    exact tj_iret (pc := 142) G dX11_count_142
  refine tj_case (fun hq25 => ?_) (fun hq26 => ?_)
  · refine tj_tabIn (pc := 62) G (v := 4) (tgt := 143) dX11_count_62 hq25 (by decide) rfl (by decide) ?_
    refine tj_aload_n (pc := 143) G 0 dX11_count_143 rfl rfl ?_
    refine tj_aload_n (pc := 144) G 0 dX11_count_144 rfl rfl ?_
    refine tj_getR (pc := 145) G (k := 0) (j := 6) (j2 := 6) tk_X11 (by decide) lm_0 rfl (by decide) rfl fl_X11_38 dX11_count_145 ?_
    refine tj_callVi (pc := 148) G [vR X 4] mf_X11_walkers (k := 0) (by decide) lm_0 rfl rfl ml_X11_285 (by decide) rfl rfl (Nat.le_of_ble_eq_true rfl) (fun _ h9 => ok_X11_walkers X ⟨by decide, lm_4⟩ h9) dX11_count_148 (fun r27 M28 => ?_)
    exact tj_iret (pc := 151) G dX11_count_151
  refine tj_case (fun hq29 => ?_) (fun hq30 => ?_)
  · refine tj_tabIn (pc := 62) G (v := 5) (tgt := 152) dX11_count_62 hq29 (by decide) rfl (by decide) ?_
    refine tj_iload_n (pc := 152) G 3 dX11_count_152 rfl rfl ?_
    exact tj_iret (pc := 153) G dX11_count_153
  refine tj_case (fun hq31 => ?_) (fun hq32 => ?_)
  · refine tj_tabIn (pc := 62) G (v := 6) (tgt := 154) dX11_count_62 hq31 (by decide) rfl (by decide) ?_
    refine tj_aload_n (pc := 154) G 0 dX11_count_154 rfl rfl ?_
    refine tj_getI (pc := 155) G (k := 0) (j := 39) (j2 := 39) tk_X11 (by decide) lm_0 rfl (by decide) rfl fl_X11_203 dX11_count_155 ?_
    exact tj_iret (pc := 158) G dX11_count_158
  refine tj_case (fun hq33 => ?_) (fun hq34 => ?_)
  · refine tj_tabIn (pc := 62) G (v := 7) (tgt := 159) dX11_count_62 hq33 (by decide) rfl (by decide) ?_
    refine tj_aload_n (pc := 159) G 0 dX11_count_159 rfl rfl ?_
    refine tj_getI (pc := 160) G (k := 0) (j := 44) (j2 := 44) tk_X11 (by decide) lm_0 rfl (by decide) rfl fl_X11_206 dX11_count_160 ?_
    exact tj_iret (pc := 163) G dX11_count_163
  refine tj_case (fun hq35 => ?_) (fun hq36 => ?_)
  · refine tj_tabIn (pc := 62) G (v := 8) (tgt := 164) dX11_count_62 hq35 (by decide) rfl (by decide) ?_
    refine tj_aload_n (pc := 164) G 0 dX11_count_164 rfl rfl ?_
    refine tj_getI (pc := 165) G (k := 0) (j := 23) (j2 := 23) tk_X11 (by decide) lm_0 rfl (by decide) rfl fl_X11_200 dX11_count_165 ?_
    exact tj_iret (pc := 168) G dX11_count_168
  refine tj_case (fun hq37 => ?_) (fun hq38 => ?_)
  · refine tj_tabIn (pc := 62) G (v := 9) (tgt := 169) dX11_count_62 hq37 (by decide) rfl (by decide) ?_
    refine tj_aload_n (pc := 169) G 0 dX11_count_169 rfl rfl ?_
    refine tj_getI (pc := 170) G (k := 0) (j := 1) (j2 := 1) tk_X11 (by decide) lm_0 rfl (by decide) rfl fl_X11_15 dX11_count_170 ?_
    exact tj_iret (pc := 173) G dX11_count_173
  refine tj_case (fun hq39 => ?_) (fun hq40 => ?_)
  · refine tj_tabIn (pc := 62) G (v := 10) (tgt := 174) dX11_count_62 hq39 (by decide) rfl (by decide) ?_
    refine tj_aload_n (pc := 174) G 0 dX11_count_174 rfl rfl ?_
    refine tj_getI (pc := 175) G (k := 0) (j := 9) (j2 := 9) tk_X11 (by decide) lm_0 rfl (by decide) rfl fl_X11_133 dX11_count_175 ?_
    exact tj_iret (pc := 178) G dX11_count_178
  refine tj_tabOut (pc := 62) G (tgt := 179) dX11_count_62 (by omega) (by decide) ?_
  refine tj_bipush (pc := 179) G dX11_count_179 rfl ?_
  exact tj_iret (pc := 181) G dX11_count_181

def fx_X11_row  (a1 : Int) (M : tp_M) : tp_O :=
(tp_lm (tp_up M 0 0 0) (fun M1 =>
(tp_bd (fx_X11_in (w32 a1) 0 (w32 ((M1 0 1) - 1)) M1) (fun r2 M3 =>
(if w32 r2 = 0 then
(tp_lm (tp_up M3 0 0 1) (fun M4 =>
(some (0, M4))))
else
(tp_ck (w32 a1) 24 (some (M3 1 (w32 a1), M3))))))))
set_option maxRecDepth 100000 in
set_option maxHeartbeats 4000000 in
theorem ok_X11_row (X : tp_X)  {a1 : Int}  {M : tp_M} {res : Int × tp_M} (h : fx_X11_row  a1 M = some res) : tp_Ret X LM 34 2 yX11_row (Cond.code yX11_row cX11_row 2 (some .long)) 2 [vR X 0, vI a1] M res := by
  refine tp_ofW (by decide +kernel) rfl rfl (by show _ ≤ 2; exact Nat.le_of_ble_eq_true rfl) h (fun Y G => ?_)
  show tp_J X Y LM 34 2 2 2 (fx_X11_row  a1 M) M [(0, vR X 0), (1, vI a1)] [] 0
  unfold fx_X11_row
  refine tj_aload_n (pc := 0) G 0 dX11_row_0 rfl rfl ?_
  refine tj_iconst (pc := 1) G dX11_row_1 ?_
  refine tj_putI (pc := 2) G (k := 0) (j := 0) (j2 := 0) tk_X11 (by decide) lm_0 rfl (by decide) rfl fl_X11_3 rfl rfl dX11_row_2 (fun M1 => ?_)
  refine tj_iload_n (pc := 5) G 1 dX11_row_5 rfl rfl ?_
  refine tj_i2l (pc := 6) G (b := w32 a1) dX11_row_6 rfl ?_
  refine tj_lconst (pc := 7) G (v := 0) dX11_row_7 rfl ?_
  refine tj_aload_n (pc := 8) G 0 dX11_row_8 rfl rfl ?_
  refine tj_getI (pc := 9) G (k := 0) (j := 1) (j2 := 1) tk_X11 (by decide) lm_0 rfl (by decide) rfl fl_X11_15 dX11_row_9 ?_
  refine tj_iconst (pc := 12) G dX11_row_12 ?_
  refine tj_isub (pc := 13) G dX11_row_13 ?_
  refine tj_i2l (pc := 14) G (b := w32 ((M1 0 1) - 1)) dX11_row_14 rfl ?_
  refine tj_callSi (pc := 15) G [vL (w32 a1), vL 0, vL (w32 ((M1 0 1) - 1))] mf_X11_in ml_X11_129 (by decide) rfl rfl (Nat.le_of_ble_eq_true rfl) (fun _ h9 => ok_X11_in X  h9) dX11_row_15 (fun r2 M3 => ?_)
  refine tj_if_ne (pc := 18) G (tgt := 28) (a2 := w32 r2) dX11_row_18 (by decide) rfl ?_ ?_
  · refine tj_aload_n (pc := 28) G 0 dX11_row_28 rfl rfl ?_
    refine tj_getR (pc := 29) G (k := 0) (j := 2) (j2 := 2) tk_X11 (by decide) lm_0 rfl (by decide) rfl fl_X11_11 dX11_row_29 ?_
    refine tj_iload_n (pc := 32) G 1 dX11_row_32 rfl rfl ?_
    refine tj_lald (pc := 33) G (k := 1) (i2 := w32 a1) (n2 := 24) (by decide) lm_1 rfl rfl dX11_row_33 ?_
    exact tj_lret (pc := 34) G dX11_row_34
  refine tj_aload_n (pc := 21) G 0 dX11_row_21 rfl rfl ?_
  refine tj_iconst (pc := 22) G dX11_row_22 ?_
  refine tj_putI (pc := 23) G (k := 0) (j := 0) (j2 := 0) tk_X11 (by decide) lm_0 rfl (by decide) rfl fl_X11_3 rfl rfl dX11_row_23 (fun M4 => ?_)
  refine tj_lconst (pc := 26) G (v := 0) dX11_row_26 rfl ?_
  exact tj_lret (pc := 27) G dX11_row_27
