def fx_X10_draw  (a1 : Int) (a2 : Int) (M : tp_M) : tp_O :=
(if w32 a2 ≤ 0 then
(some (0, M))
else
(tp_nz (w32 a2) (some (x_rem (x_ushr a1 16) a2, M))))
set_option maxRecDepth 100000 in
set_option maxHeartbeats 4000000 in
theorem ok_X10_draw (X : tp_X)  {a1 : Int} {a2 : Int}  {M : tp_M} {res : Int × tp_M} (h : fx_X10_draw  a1 a2 M = some res) : tp_Ret X LC 64 1 yX10_draw (Cond.code yX10_draw cX10_draw 2 (some .int)) 1 [vI a1, vI a2] M res := by
  refine tp_ofW (by decide +kernel) rfl rfl (by show _ ≤ 2; exact Nat.le_of_ble_eq_true rfl) h (fun Y G => ?_)
  show tp_J X Y LC 64 2 1 1 (fx_X10_draw  a1 a2 M) M [(0, vI a1), (1, vI a2)] [] 0
  unfold fx_X10_draw
  refine tj_iload_n (pc := 0) G 1 dX10_draw_0 rfl rfl ?_
  refine tj_if_le (pc := 1) G (tgt := 13) (a2 := w32 a2) dX10_draw_1 (by decide) rfl ?_ ?_
  · refine tj_iconst (pc := 13) G dX10_draw_13 ?_
    exact tj_iret (pc := 14) G dX10_draw_14
  refine tj_iload_n (pc := 4) G 0 dX10_draw_4 rfl rfl ?_
  refine tj_bipush (pc := 5) G dX10_draw_5 rfl ?_
  refine tj_iushr (pc := 7) G dX10_draw_7 ?_
  refine tj_iload_n (pc := 8) G 1 dX10_draw_8 rfl rfl ?_
  refine tj_irem (pc := 9) G (b2 := w32 a2) dX10_draw_9 rfl ?_
  refine tj_goto (pc := 10) G (tgt := 14) dX10_draw_10 (by decide) ?_
  exact tj_iret (pc := 14) G dX10_draw_14

def fx_X10_nextRandom  (a1 : Int) (M : tp_M) : tp_O :=
(some ((a1 * 1103515245) + 12345, M))
set_option maxRecDepth 100000 in
set_option maxHeartbeats 4000000 in
theorem ok_X10_nextRandom (X : tp_X)  {a1 : Int}  {M : tp_M} {res : Int × tp_M} (h : fx_X10_nextRandom  a1 M = some res) : tp_Ret X LC 64 1 yX10_nextRandom (Cond.code yX10_nextRandom cX10_nextRandom 1 (some .int)) 1 [vI a1] M res := by
  refine tp_ofW (by decide +kernel) rfl rfl (by show _ ≤ 1; exact Nat.le_of_ble_eq_true rfl) h (fun Y G => ?_)
  show tp_J X Y LC 64 1 1 1 (fx_X10_nextRandom  a1 M) M [(0, vI a1)] [] 0
  unfold fx_X10_nextRandom
  refine tj_iload_n (pc := 0) G 0 dX10_nextRandom_0 rfl rfl ?_
  refine tj_ldcw (pc := 1) G (v := 1103515245) dX10_nextRandom_1 ct_X10_459 rfl ?_
  refine tj_imul (pc := 4) G dX10_nextRandom_4 ?_
  refine tj_sipush (pc := 5) G dX10_nextRandom_5 rfl ?_
  refine tj_iadd (pc := 8) G dX10_nextRandom_8 ?_
  exact tj_iret (pc := 9) G dX10_nextRandom_9

def fx_X10_years_L35 (c2 : Int) (K209 : Int → Int → tp_M → tp_O) (rec : Int → Int → Int → Int → tp_M → tp_O) (z7 z8 z9 z10 : Int) (M11 : tp_M) : tp_O :=
(if w32 z10 < w32 c2 then
(tp_bd (fx_X10_nextRandom z7 M11) (fun r14 M15 =>
(tp_lt r14 (fun x16 =>
(tp_bd (fx_X10_draw x16 4 M15) (fun r17 M18 =>
(tp_lt r17 (fun x19 =>
(tp_bd (fx_X10_nextRandom x16 M18) (fun r20 M21 =>
(tp_lt r20 (fun x22 =>
(tp_bd (fx_X4_crossings 5 M21) (fun r23 M24 =>
(tp_bd (fx_X10_draw x22 (r23 - 1) M24) (fun r25 M26 =>
(tp_lt (1 + r25) (fun x27 =>
(tp_bd (fx_X4_hasPost 5 x27 M26) (fun r28 M29 =>
(tp_jn2 (fun y30 y31 M32 => 
(tp_lt (z10 + 1) (fun x33 =>
(rec x22 y30 y31 x33 M32)))) (fun jk203 =>
(if w32 r28 = 0 then
(jk203 z8 z9 M29)
else
(if w32 x19 < 2 then
(tp_ck (w32 x27) 8 (if w32 (M29 30 (w32 x27)) < 99 then
(tp_ck (w32 x27) 8 (tp_ck (w32 x27) 8 (tp_lm (tp_up M29 30 (w32 x27) ((M29 30 (w32 x27)) + 1)) (fun M44 =>
(jk203 z8 z9 M44)))))
else
(jk203 z8 z9 M29)))
else
(tp_jn0 (fun M34 => 
(if w32 x19 = 3 then
(tp_bd (fx_X10_canBurst 28 x27 M34) (fun r35 M36 =>
(if w32 r35 = 0 then
(jk203 z8 z9 M36)
else
(tp_bd (fx_X10_burst 28 x27 M36) (fun r37 M38 =>
(tp_lt (z8 + r37) (fun x39 =>
(jk203 x39 z9 M38))))))))
else
(jk203 z8 z9 M34))) (fun jk169 =>
(if w32 x19 = 2 then
(tp_ck (w32 x27) 8 (if w32 (M29 30 (w32 x27)) ≤ 0 then
(jk169 M29)
else
(tp_lt (z9 + 1) (fun x40 =>
(tp_bd (fx_X10_stepOf 28 x27 M29) (fun r41 M42 =>
(if w32 r41 = 0 then
(tp_lt (z8 + 1) (fun x43 =>
(jk203 x43 x40 M42)))
else
(jk203 z8 x40 M42))))))))
else
(jk169 M29))))))))))))))))))))))))))))
else
(K209 z8 z9 M11))
def fx_X10_years  (a1 : Int) (a2 : Int) (M : tp_M) : tp_O :=
(if w32 a2 < 1 then
(some ((-1), M))
else
(if w32 a2 ≤ 60 then
(tp_bd (fx_X2_copyFrom 28 25 M) (fun r1 M2 =>
(tp_lt a1 (fun x3 =>
(tp_lt 0 (fun x4 =>
(tp_lt 0 (fun x5 =>
(tp_lt 0 (fun x6 =>
(tp_lp4 (fx_X10_years_L35 a2 (fun y12 y13 M45 =>
(tp_bd (fx_X2_walkers 28 M45) (fun r46 M47 =>
(tp_bd (fx_X8_tell__ (w32 r46) (w32 y13) M47) (fun r48 M49 =>
(some (y12, M49)))))))) tp_F x3 x4 x5 x6 M2)))))))))))
else
(some ((-1), M))))
set_option maxRecDepth 100000 in
set_option maxHeartbeats 4000000 in
theorem fx_X10_years_L35_ok {X : tp_X} {Y : tp_Y} (G : tp_Ok X Y 64 cX10_years 9 RX10 (some .int))  {c2 : Int} {K209 : Int → Int → tp_M → tp_O}   (hK209 : ∀ (y12 y13 : Int) (M9 : tp_M), tp_J X Y LC 64 9 5 1 (K209 y12 y13 M9) M9 [(0, vR X 0), (4, vI y12), (5, vI y13)] [] 209) (n : Nat) : ∀ (z7 z8 z9 z10 : Int) (M11 : tp_M), tp_J X Y LC 64 9 5 1 (tp_lp4 (fx_X10_years_L35  c2 K209) n z7 z8 z9 z10 M11) M11 [(0, vR X 0), (2, vI c2), (3, vI z7), (4, vI z8), (5, vI z9), (6, vI z10)] [] 35 := by
  refine tp_lp4_ok (P := fun o z7 z8 z9 z10 M11 => tp_J X Y LC 64 9 5 1 (o) M11 [(0, vR X 0), (2, vI c2), (3, vI z7), (4, vI z8), (5, vI z9), (6, vI z10)] [] 35) (fun z7 z8 z9 z10 M11 => tj_none) (fun rec hrec z7 z8 z9 z10 M11 => ?_) n
  unfold fx_X10_years_L35
  refine tj_iload (pc := 35) G 5 dX10_years_35 rfl ?_
  refine tj_iload_n (pc := 37) G 1 dX10_years_37 rfl rfl ?_
  refine tj_icmp_ge (pc := 38) G (tgt := 209) (a2 := w32 z10) (b2 := w32 c2) dX10_years_38 (by decide) rfl rfl ?_ ?_
  · exact tj_sub [0, 3, 4] rfl (hK209 z8 z9 M11)
  refine tj_iload_n (pc := 41) G 2 dX10_years_41 rfl rfl ?_
  refine tj_callSi (pc := 42) G [vI z7] mf_X10_nextRandom ml_X10_453 (by decide) rfl rfl (Nat.le_of_ble_eq_true rfl) (fun _ h9 => ok_X10_nextRandom X  h9) dX10_years_42 (fun r14 M15 => ?_)
  refine tj_istore_n (pc := 45) G (fun x16 => [(3, vI x16), (0, vR X 0), (2, vI c2), (4, vI z8), (5, vI z9), (6, vI z10)]) dX10_years_45 rfl (by decide) (fun _ => rfl) (fun x16 => ?_)
  refine tj_iload_n (pc := 46) G 0 dX10_years_46 rfl rfl ?_
  refine tj_iconst (pc := 47) G dX10_years_47 ?_
  refine tj_callSi (pc := 48) G [vI x16, vI 4] mf_X10_draw ml_X10_456 (by decide) rfl rfl (Nat.le_of_ble_eq_true rfl) (fun _ h9 => ok_X10_draw X  h9) dX10_years_48 (fun r17 M18 => ?_)
  refine tj_istore (pc := 51) G (fun x19 => [(7, vI x19), (3, vI x16), (0, vR X 0), (2, vI c2), (4, vI z8), (5, vI z9), (6, vI z10)]) dX10_years_51 (by decide) (fun _ => rfl) (fun x19 => ?_)
  refine tj_iload_n (pc := 53) G 1 dX10_years_53 rfl rfl ?_
  refine tj_callSi (pc := 54) G [vI x16] mf_X10_nextRandom ml_X10_453 (by decide) rfl rfl (Nat.le_of_ble_eq_true rfl) (fun _ h9 => ok_X10_nextRandom X  h9) dX10_years_54 (fun r20 M21 => ?_)
  refine tj_istore_n (pc := 57) G (fun x22 => [(3, vI x22), (7, vI x19), (0, vR X 0), (2, vI c2), (4, vI z8), (5, vI z9), (6, vI z10)]) dX10_years_57 rfl (by decide) (fun _ => rfl) (fun x22 => ?_)
  refine tj_iconst (pc := 58) G dX10_years_58 ?_
  refine tj_iload_n (pc := 59) G 0 dX10_years_59 rfl rfl ?_
  refine tj_aload_n (pc := 60) G 2 dX10_years_60 rfl rfl ?_
  refine tj_getR (pc := 61) G (k := 0) (j := 2) (j2 := 2) tk_X10 (by decide) lc_0 rfl (by decide) rfl fl_X10_26 dX10_years_61 ?_
  refine tj_callVi (pc := 64) G [] mf_X4_crossings (k := 5) (by decide) lc_5 rfl rfl ml_X10_275 (by decide) rfl rfl (Nat.le_of_ble_eq_true rfl) (fun _ h9 => ok_X4_crossings X gg_Paths_5 h9) dX10_years_64 (fun r23 M24 => ?_)
  refine tj_iconst (pc := 67) G dX10_years_67 ?_
  refine tj_isub (pc := 68) G dX10_years_68 ?_
  refine tj_callSi (pc := 69) G [vI x22, vI (r23 - 1)] mf_X10_draw ml_X10_456 (by decide) rfl rfl (Nat.le_of_ble_eq_true rfl) (fun _ h9 => ok_X10_draw X  h9) dX10_years_69 (fun r25 M26 => ?_)
  refine tj_iadd (pc := 72) G dX10_years_72 ?_
  refine tj_istore (pc := 73) G (fun x27 => [(8, vI x27), (3, vI x22), (7, vI x19), (0, vR X 0), (2, vI c2), (4, vI z8), (5, vI z9), (6, vI z10)]) dX10_years_73 (by decide) (fun _ => rfl) (fun x27 => ?_)
  refine tj_aload_n (pc := 75) G 3 dX10_years_75 rfl rfl ?_
  refine tj_getR (pc := 76) G (k := 0) (j := 2) (j2 := 2) tk_X10 (by decide) lc_0 rfl (by decide) rfl fl_X10_26 dX10_years_76 ?_
  refine tj_iload (pc := 79) G 0 dX10_years_79 rfl ?_
  refine tj_callVi (pc := 81) G [vI x27] mf_X4_hasPost (k := 5) (by decide) lc_5 rfl rfl ml_X10_176 (by decide) rfl rfl (Nat.le_of_ble_eq_true rfl) (fun _ h9 => ok_X4_hasPost X gg_Paths_5 h9) dX10_years_81 (fun r28 M29 => ?_)
  refine tj_jn2 (fun y30 y31 => [(0, vR X 0), (2, vI c2), (3, vI x22), (4, vI y30), (5, vI y31), (6, vI z10)]) (fun y30 y31 => []) 203 (fun y30 y31 M32 => ?_) (fun jk203 hj203 => ?_)
  · refine tj_iinc (pc := 203) G 5 (fun x33 => [(6, vI x33), (0, vR X 0), (2, vI c2), (3, vI x22), (4, vI y30), (5, vI y31)]) dX10_years_203 rfl (by decide) (fun _ => rfl) (fun x33 => ?_)
    refine tj_goto (pc := 206) G (tgt := 35) dX10_years_206 (by decide) ?_
    exact tj_sub [1, 2, 3, 4, 5, 0] rfl (hrec x22 y30 y31 x33 M32)
  refine tj_if_ne (pc := 84) G (tgt := 90) (a2 := w32 r28) dX10_years_84 (by decide) rfl ?_ ?_
  · refine tj_iload (pc := 90) G 2 dX10_years_90 rfl ?_
    refine tj_iconst (pc := 92) G dX10_years_92 ?_
    refine tj_icmp_ge (pc := 93) G (tgt := 128) (a2 := w32 x19) (b2 := 2) dX10_years_93 (by decide) rfl rfl ?_ ?_
    · refine tj_iload (pc := 128) G 2 dX10_years_128 rfl ?_
      refine tj_iconst (pc := 130) G dX10_years_130 ?_
      refine tj_jn0 [(0, vR X 0), (2, vI c2), (3, vI x22), (4, vI z8), (5, vI z9), (6, vI z10), (7, vI x19), (8, vI x27)] [] 169 (fun M34 => ?_) (fun jk169 hj169 => ?_)
      · refine tj_iload (pc := 169) G 6 dX10_years_169 rfl ?_
        refine tj_iconst (pc := 171) G dX10_years_171 ?_
        refine tj_icmp_ne (pc := 172) G (tgt := 203) (a2 := w32 x19) (b2 := 3) dX10_years_172 (by decide) rfl rfl ?_ ?_
        · exact tj_sub [0, 1, 2, 3, 4, 5] rfl (hj203 z8 z9 M34)
        refine tj_aload_n (pc := 175) G 0 dX10_years_175 rfl rfl ?_
        refine tj_aload_n (pc := 176) G 0 dX10_years_176 rfl rfl ?_
        refine tj_getR (pc := 177) G (k := 0) (j := 7) (j2 := 7) tk_X10 (by decide) lc_0 rfl (by decide) rfl fl_X10_50 dX10_years_177 ?_
        refine tj_iload (pc := 180) G 7 dX10_years_180 rfl ?_
        refine tj_callVi (pc := 182) G [vR X 28, vI x27] mf_X10_canBurst (k := 0) (by decide) lc_0 rfl rfl ml_X10_261 (by decide) rfl rfl (Nat.le_of_ble_eq_true rfl) (fun _ h9 => ok_X10_canBurst X gg_Moor_28 h9) dX10_years_182 (fun r35 M36 => ?_)
        refine tj_if_eq (pc := 185) G (tgt := 203) (a2 := w32 r35) dX10_years_185 (by decide) rfl ?_ ?_
        · exact tj_sub [0, 1, 2, 3, 4, 5] rfl (hj203 z8 z9 M36)
        refine tj_iload (pc := 188) G 3 dX10_years_188 rfl ?_
        refine tj_aload_n (pc := 190) G 0 dX10_years_190 rfl rfl ?_
        refine tj_aload_n (pc := 191) G 0 dX10_years_191 rfl rfl ?_
        refine tj_getR (pc := 192) G (k := 0) (j := 7) (j2 := 7) tk_X10 (by decide) lc_0 rfl (by decide) rfl fl_X10_50 dX10_years_192 ?_
        refine tj_iload (pc := 195) G 7 dX10_years_195 rfl ?_
        refine tj_callVi (pc := 197) G [vR X 28, vI x27] mf_X10_burst (k := 0) (by decide) lc_0 rfl rfl ml_X10_265 (by decide) rfl rfl (Nat.le_of_ble_eq_true rfl) (fun _ h9 => ok_X10_burst X gg_Moor_28 h9) dX10_years_197 (fun r37 M38 => ?_)
        refine tj_iadd (pc := 200) G dX10_years_200 ?_
        refine tj_istore (pc := 201) G (fun x39 => [(4, vI x39), (0, vR X 0), (2, vI c2), (3, vI x22), (5, vI z9), (6, vI z10), (7, vI x19), (8, vI x27)]) dX10_years_201 (by decide) (fun _ => rfl) (fun x39 => ?_)
        exact tj_sub [1, 2, 3, 0, 4, 5] rfl (hj203 x39 z9 M38)
      refine tj_icmp_ne (pc := 131) G (tgt := 169) (a2 := w32 x19) (b2 := 2) dX10_years_131 (by decide) rfl rfl ?_ ?_
      · exact tj_sub [3, 4, 1, 5, 6, 7, 2, 0] rfl (hj169  M29)
      refine tj_aload_n (pc := 134) G 3 dX10_years_134 rfl rfl ?_
      refine tj_getR (pc := 135) G (k := 0) (j := 7) (j2 := 7) tk_X10 (by decide) lc_0 rfl (by decide) rfl fl_X10_50 dX10_years_135 ?_
      refine tj_getRN (pc := 138) G (k := 28) (j := 1) (j2 := 1) tk_X2 (by decide) lc_28 rfl (by decide) rfl fn_X10_167 dX10_years_138 ?_
      refine tj_iload (pc := 141) G 0 dX10_years_141 rfl ?_
      refine tj_iald (pc := 143) G (k := 30) (i2 := w32 x27) (n2 := 8) (by decide) lc_30 rfl rfl dX10_years_143 ?_
      refine tj_if_le (pc := 144) G (tgt := 169) (a2 := w32 (M29 30 (w32 x27))) dX10_years_144 (by decide) rfl ?_ ?_
      · exact tj_sub [3, 4, 1, 5, 6, 7, 2, 0] rfl (hj169  M29)
      refine tj_iinc (pc := 147) G 6 (fun x40 => [(5, vI x40), (8, vI x27), (3, vI x22), (7, vI x19), (0, vR X 0), (2, vI c2), (4, vI z8), (6, vI z10)]) dX10_years_147 rfl (by decide) (fun _ => rfl) (fun x40 => ?_)
      refine tj_aload_n (pc := 150) G 4 dX10_years_150 rfl rfl ?_
      refine tj_aload_n (pc := 151) G 4 dX10_years_151 rfl rfl ?_
      refine tj_getR (pc := 152) G (k := 0) (j := 7) (j2 := 7) tk_X10 (by decide) lc_0 rfl (by decide) rfl fl_X10_50 dX10_years_152 ?_
      refine tj_iload (pc := 155) G 1 dX10_years_155 rfl ?_
      refine tj_callVi (pc := 157) G [vR X 28, vI x27] mf_X10_stepOf (k := 0) (by decide) lc_0 rfl rfl ml_X10_250 (by decide) rfl rfl (Nat.le_of_ble_eq_true rfl) (fun _ h9 => ok_X10_stepOf X gg_Moor_28 h9) dX10_years_157 (fun r41 M42 => ?_)
      refine tj_if_ne (pc := 160) G (tgt := 203) (a2 := w32 r41) dX10_years_160 (by decide) rfl ?_ ?_
      · exact tj_sub [4, 5, 2, 6, 0, 7] rfl (hj203 z8 x40 M42)
      refine tj_iinc (pc := 163) G 6 (fun x43 => [(4, vI x43), (5, vI x40), (8, vI x27), (3, vI x22), (7, vI x19), (0, vR X 0), (2, vI c2), (6, vI z10)]) dX10_years_163 rfl (by decide) (fun _ => rfl) (fun x43 => ?_)
      refine tj_goto (pc := 166) G (tgt := 203) dX10_years_166 (by decide) ?_
      exact tj_sub [5, 6, 3, 0, 1, 7] rfl (hj203 x43 x40 M42)
    refine tj_aload_n (pc := 96) G 3 dX10_years_96 rfl rfl ?_
    refine tj_getR (pc := 97) G (k := 0) (j := 7) (j2 := 7) tk_X10 (by decide) lc_0 rfl (by decide) rfl fl_X10_50 dX10_years_97 ?_
    refine tj_getRN (pc := 100) G (k := 28) (j := 1) (j2 := 1) tk_X2 (by decide) lc_28 rfl (by decide) rfl fn_X10_167 dX10_years_100 ?_
    refine tj_iload (pc := 103) G 0 dX10_years_103 rfl ?_
    refine tj_iald (pc := 105) G (k := 30) (i2 := w32 x27) (n2 := 8) (by decide) lc_30 rfl rfl dX10_years_105 ?_
    refine tj_bipush (pc := 106) G dX10_years_106 rfl ?_
    refine tj_icmp_ge (pc := 108) G (tgt := 203) (a2 := w32 (M29 30 (w32 x27))) (b2 := 99) dX10_years_108 (by decide) rfl rfl ?_ ?_
    · exact tj_sub [3, 4, 1, 5, 6, 7] rfl (hj203 z8 z9 M29)
    refine tj_aload_n (pc := 111) G 3 dX10_years_111 rfl rfl ?_
    refine tj_getR (pc := 112) G (k := 0) (j := 7) (j2 := 7) tk_X10 (by decide) lc_0 rfl (by decide) rfl fl_X10_50 dX10_years_112 ?_
    refine tj_getRN (pc := 115) G (k := 28) (j := 1) (j2 := 1) tk_X2 (by decide) lc_28 rfl (by decide) rfl fn_X10_167 dX10_years_115 ?_
    refine tj_iload (pc := 118) G 0 dX10_years_118 rfl ?_
    refine tj_dup2 (pc := 120) G dX10_years_120 rfl rfl ?_
    refine tj_iald (pc := 121) G (k := 30) (i2 := w32 x27) (n2 := 8) (by decide) lc_30 rfl rfl dX10_years_121 ?_
    refine tj_iconst (pc := 122) G dX10_years_122 ?_
    refine tj_iadd (pc := 123) G dX10_years_123 ?_
    refine tj_iast (pc := 124) G (k := 30) (i2 := w32 x27) (n2 := 8) (by decide) lc_30 rfl rfl dX10_years_124 (fun M44 => ?_)
    refine tj_goto (pc := 125) G (tgt := 203) dX10_years_125 (by decide) ?_
    exact tj_sub [3, 4, 1, 5, 6, 7] rfl (hj203 z8 z9 M44)
  refine tj_goto (pc := 87) G (tgt := 203) dX10_years_87 (by decide) ?_
  exact tj_sub [3, 4, 1, 5, 6, 7] rfl (hj203 z8 z9 M29)
set_option maxRecDepth 100000 in
set_option maxHeartbeats 4000000 in
theorem ok_X10_years (X : tp_X)  {a1 : Int} {a2 : Int}  {M : tp_M} {res : Int × tp_M} (h : fx_X10_years  a1 a2 M = some res) : tp_Ret X LC 64 1 yX10_years (Cond.code yX10_years cX10_years 9 (some .int)) 5 [vR X 0, vI a1, vI a2] M res := by
  refine tp_ofW (by decide +kernel) rfl rfl (by show _ ≤ 9; exact Nat.le_of_ble_eq_true rfl) h (fun Y G => ?_)
  show tp_J X Y LC 64 9 5 1 (fx_X10_years  a1 a2 M) M [(0, vR X 0), (1, vI a1), (2, vI a2)] [] 0
  unfold fx_X10_years
  refine tj_iload_n (pc := 0) G 2 dX10_years_0 rfl rfl ?_
  refine tj_iconst (pc := 1) G dX10_years_1 ?_
  refine tj_icmp_lt (pc := 2) G (tgt := 11) (a2 := w32 a2) (b2 := 1) dX10_years_2 (by decide) rfl rfl ?_ ?_
  · refine tj_iconst (pc := 11) G dX10_years_11 ?_
    exact tj_iret (pc := 12) G dX10_years_12
  refine tj_iload_n (pc := 5) G 2 dX10_years_5 rfl rfl ?_
  refine tj_bipush (pc := 6) G dX10_years_6 rfl ?_
  refine tj_icmp_le (pc := 8) G (tgt := 13) (a2 := w32 a2) (b2 := 60) dX10_years_8 (by decide) rfl rfl ?_ ?_
  · refine tj_aload_n (pc := 13) G 0 dX10_years_13 rfl rfl ?_
    refine tj_getR (pc := 14) G (k := 0) (j := 7) (j2 := 7) tk_X10 (by decide) lc_0 rfl (by decide) rfl fl_X10_50 dX10_years_14 ?_
    refine tj_aload_n (pc := 17) G 0 dX10_years_17 rfl rfl ?_
    refine tj_getR (pc := 18) G (k := 0) (j := 6) (j2 := 6) tk_X10 (by decide) lc_0 rfl (by decide) rfl fl_X10_46 dX10_years_18 ?_
    refine tj_callVv (pc := 21) G [vR X 25] mf_X2_copyFrom (k := 28) (by decide) lc_28 rfl rfl ml_X10_201 (by decide) rfl rfl (Nat.le_of_ble_eq_true rfl) (fun _ h9 => ok_X2_copyFrom X gg_Moor_28 gg_Moor_25 h9) dX10_years_21 (fun r1 M2 => ?_)
    refine tj_iload_n (pc := 24) G 1 dX10_years_24 rfl rfl ?_
    refine tj_istore_n (pc := 25) G (fun x3 => [(3, vI x3), (0, vR X 0), (1, vI a1), (2, vI a2)]) dX10_years_25 rfl (by decide) (fun _ => rfl) (fun x3 => ?_)
    refine tj_iconst (pc := 26) G dX10_years_26 ?_
    refine tj_istore (pc := 27) G (fun x4 => [(4, vI x4), (3, vI x3), (0, vR X 0), (1, vI a1), (2, vI a2)]) dX10_years_27 (by decide) (fun _ => rfl) (fun x4 => ?_)
    refine tj_iconst (pc := 29) G dX10_years_29 ?_
    refine tj_istore (pc := 30) G (fun x5 => [(5, vI x5), (4, vI x4), (3, vI x3), (0, vR X 0), (1, vI a1), (2, vI a2)]) dX10_years_30 (by decide) (fun _ => rfl) (fun x5 => ?_)
    refine tj_iconst (pc := 32) G dX10_years_32 ?_
    refine tj_istore (pc := 33) G (fun x6 => [(6, vI x6), (5, vI x5), (4, vI x4), (3, vI x3), (0, vR X 0), (1, vI a1), (2, vI a2)]) dX10_years_33 (by decide) (fun _ => rfl) (fun x6 => ?_)
    refine tj_sub [4, 6, 3, 2, 1, 0] rfl (fx_X10_years_L35_ok G    (fun y12 y13 M45 => ?_) tp_F x3 x4 x5 x6 M2)
    refine tj_aload_n (pc := 209) G 0 dX10_years_209 rfl rfl ?_
    refine tj_getR (pc := 210) G (k := 0) (j := 1) (j2 := 1) tk_X10 (by decide) lc_0 rfl (by decide) rfl fl_X10_19 dX10_years_210 ?_
    refine tj_aload_n (pc := 213) G 0 dX10_years_213 rfl rfl ?_
    refine tj_getR (pc := 214) G (k := 0) (j := 7) (j2 := 7) tk_X10 (by decide) lc_0 rfl (by decide) rfl fl_X10_50 dX10_years_214 ?_
    refine tj_callVi (pc := 217) G [] mf_X2_walkers (k := 28) (by decide) lc_28 rfl rfl ml_X10_190 (by decide) rfl rfl (Nat.le_of_ble_eq_true rfl) (fun _ h9 => ok_X2_walkers X gg_Moor_28 h9) dX10_years_217 (fun r46 M47 => ?_)
    refine tj_i2l (pc := 220) G (b := w32 r46) dX10_years_220 rfl ?_
    refine tj_iload (pc := 221) G 2 dX10_years_221 rfl ?_
    refine tj_i2l (pc := 223) G (b := w32 y13) dX10_years_223 rfl ?_
    refine tj_callVv (pc := 224) G [vL (w32 r46), vL (w32 y13)] mf_X8_tell__ (k := 3) (by decide) lc_3 rfl rfl ml_X10_241 (by decide) rfl rfl (Nat.le_of_ble_eq_true rfl) (fun _ h9 => ok_X8_tell__ X  h9) dX10_years_224 (fun r48 M49 => ?_)
    refine tj_iload (pc := 227) G 1 dX10_years_227 rfl ?_
    exact tj_iret (pc := 229) G dX10_years_229
  refine tj_iconst (pc := 11) G dX10_years_11 ?_
  exact tj_iret (pc := 12) G dX10_years_12

def fx_X10_keep  (a1 : Int) (M : tp_M) : tp_O :=
(tp_bd (fx_X3_isNumber a1 M) (fun r1 M2 =>
(if w32 r1 = 0 then
(some (0, M2))
else
(tp_bd (fx_X3_store a1 25 M2) (fun r3 M4 =>
(some (1, M4)))))))
set_option maxRecDepth 100000 in
set_option maxHeartbeats 4000000 in
theorem ok_X10_keep (X : tp_X)  {a1 : Int}  {M : tp_M} {res : Int × tp_M} (h : fx_X10_keep  a1 M = some res) : tp_Ret X LC 64 1 yX10_keep (Cond.code yX10_keep cX10_keep 2 (some .boolean)) 3 [vR X 0, vI a1] M res := by
  refine tp_ofW (by decide +kernel) rfl rfl (by show _ ≤ 2; exact Nat.le_of_ble_eq_true rfl) h (fun Y G => ?_)
  show tp_J X Y LC 64 2 3 1 (fx_X10_keep  a1 M) M [(0, vR X 0), (1, vI a1)] [] 0
  unfold fx_X10_keep
  refine tj_aload_n (pc := 0) G 0 dX10_keep_0 rfl rfl ?_
  refine tj_getR (pc := 1) G (k := 0) (j := 9) (j2 := 9) tk_X10 (by decide) lc_0 rfl (by decide) rfl fl_X10_59 dX10_keep_1 ?_
  refine tj_iload_n (pc := 4) G 1 dX10_keep_4 rfl rfl ?_
  refine tj_callVi (pc := 5) G [vI a1] mf_X3_isNumber (k := 34) (by decide) lc_34 rfl rfl ml_X10_387 (by decide) rfl rfl (Nat.le_of_ble_eq_true rfl) (fun _ h9 => ok_X3_isNumber X  h9) dX10_keep_5 (fun r1 M2 => ?_)
  refine tj_if_ne (pc := 8) G (tgt := 13) (a2 := w32 r1) dX10_keep_8 (by decide) rfl ?_ ?_
  · refine tj_aload_n (pc := 13) G 0 dX10_keep_13 rfl rfl ?_
    refine tj_getR (pc := 14) G (k := 0) (j := 9) (j2 := 9) tk_X10 (by decide) lc_0 rfl (by decide) rfl fl_X10_59 dX10_keep_14 ?_
    refine tj_iload_n (pc := 17) G 1 dX10_keep_17 rfl rfl ?_
    refine tj_aload_n (pc := 18) G 0 dX10_keep_18 rfl rfl ?_
    refine tj_getR (pc := 19) G (k := 0) (j := 6) (j2 := 6) tk_X10 (by decide) lc_0 rfl (by decide) rfl fl_X10_46 dX10_keep_19 ?_
    refine tj_callVv (pc := 22) G [vI a1, vR X 25] mf_X3_store (k := 34) (by decide) lc_34 rfl rfl ml_X10_460 (by decide) rfl rfl (Nat.le_of_ble_eq_true rfl) (fun _ h9 => ok_X3_store X gg_Moor_25 h9) dX10_keep_22 (fun r3 M4 => ?_)
    refine tj_iconst (pc := 25) G dX10_keep_25 ?_
    exact tj_zret (pc := 26) G (by decide) dX10_keep_26
  refine tj_iconst (pc := 11) G dX10_keep_11 ?_
  exact tj_zret (pc := 12) G (by decide) dX10_keep_12

def fx_X10_again  (a1 : Int) (M : tp_M) : tp_O :=
(tp_bd (fx_X3_bring a1 25 M) (fun r1 M2 =>
(if w32 r1 = 0 then
(some (0, M2))
else
(tp_bd (fx_X3_forgetActs  M2) (fun r3 M4 =>
(some (1, M4)))))))
set_option maxRecDepth 100000 in
set_option maxHeartbeats 4000000 in
theorem ok_X10_again (X : tp_X)  {a1 : Int}  {M : tp_M} {res : Int × tp_M} (h : fx_X10_again  a1 M = some res) : tp_Ret X LC 64 1 yX10_again (Cond.code yX10_again cX10_again 2 (some .boolean)) 3 [vR X 0, vI a1] M res := by
  refine tp_ofW (by decide +kernel) rfl rfl (by show _ ≤ 2; exact Nat.le_of_ble_eq_true rfl) h (fun Y G => ?_)
  show tp_J X Y LC 64 2 3 1 (fx_X10_again  a1 M) M [(0, vR X 0), (1, vI a1)] [] 0
  unfold fx_X10_again
  refine tj_aload_n (pc := 0) G 0 dX10_again_0 rfl rfl ?_
  refine tj_getR (pc := 1) G (k := 0) (j := 9) (j2 := 9) tk_X10 (by decide) lc_0 rfl (by decide) rfl fl_X10_59 dX10_again_1 ?_
  refine tj_iload_n (pc := 4) G 1 dX10_again_4 rfl rfl ?_
  refine tj_aload_n (pc := 5) G 0 dX10_again_5 rfl rfl ?_
  refine tj_getR (pc := 6) G (k := 0) (j := 6) (j2 := 6) tk_X10 (by decide) lc_0 rfl (by decide) rfl fl_X10_46 dX10_again_6 ?_
  refine tj_callVi (pc := 9) G [vI a1, vR X 25] mf_X3_bring (k := 34) (by decide) lc_34 rfl rfl ml_X10_390 (by decide) rfl rfl (Nat.le_of_ble_eq_true rfl) (fun _ h9 => ok_X3_bring X gg_Moor_25 h9) dX10_again_9 (fun r1 M2 => ?_)
  refine tj_if_ne (pc := 12) G (tgt := 17) (a2 := w32 r1) dX10_again_12 (by decide) rfl ?_ ?_
  · refine tj_aload_n (pc := 17) G 0 dX10_again_17 rfl rfl ?_
    refine tj_getR (pc := 18) G (k := 0) (j := 9) (j2 := 9) tk_X10 (by decide) lc_0 rfl (by decide) rfl fl_X10_59 dX10_again_18 ?_
    refine tj_callVv (pc := 21) G [] mf_X3_forgetActs (k := 34) (by decide) lc_34 rfl rfl ml_X10_464 (by decide) rfl rfl (Nat.le_of_ble_eq_true rfl) (fun _ h9 => ok_X3_forgetActs X  h9) dX10_again_21 (fun r3 M4 => ?_)
    refine tj_iconst (pc := 24) G dX10_again_24 ?_
    exact tj_zret (pc := 25) G (by decide) dX10_again_25
  refine tj_iconst (pc := 15) G dX10_again_15 ?_
  exact tj_zret (pc := 16) G (by decide) dX10_again_16

def fx_X10_count  (a1 : Int) (M : tp_M) : tp_O :=
(if w32 a1 = 0 then
(tp_bd (fx_X4_crossings 5 M) (fun r3 M4 =>
(some (r3, M4))))
else
(if w32 a1 = 1 then
(tp_bd (fx_X4_waysInAll 5 M) (fun r7 M8 =>
(some (r7, M8))))
else
(if w32 a1 = 2 then
(some (M 25 2, M))
else
(if w32 a1 = 3 then
(some (M 25 3, M))
else
(if w32 a1 = 4 then
(tp_bd (fx_X2_walkers 25 M) (fun r15 M16 =>
(some (r15, M16))))
else
(if w32 a1 = 5 then
(tp_bd (fx_X2_peopled 25 M) (fun r19 M20 =>
(some (r19, M20))))
else
(if w32 a1 = 6 then
(tp_bd (fx_X6_size  M) (fun r23 M24 =>
(some (r23, M24))))
else
(if w32 a1 = 7 then
(tp_bd (fx_X1_size  M) (fun r27 M28 =>
(some (r27, M28))))
else
(if w32 a1 = 8 then
(tp_bd (fx_X3_size  M) (fun r31 M32 =>
(some (r31, M32))))
else
(if w32 a1 = 9 then
(tp_bd (fx_X8_size  M) (fun r35 M36 =>
(some (r35, M36))))
else
(if w32 a1 = 10 then
(tp_bd (fx_X7_size  M) (fun r39 M40 =>
(some (r39, M40))))
else
(some ((-100), M)))))))))))))
set_option maxRecDepth 100000 in
set_option maxHeartbeats 4000000 in
theorem ok_X10_count (X : tp_X)  {a1 : Int}  {M : tp_M} {res : Int × tp_M} (h : fx_X10_count  a1 M = some res) : tp_Ret X LC 64 1 yX10_count (Cond.code yX10_count cX10_count 2 (some .int)) 2 [vR X 0, vI a1] M res := by
  refine tp_ofW (by decide +kernel) rfl rfl (by show _ ≤ 2; exact Nat.le_of_ble_eq_true rfl) h (fun Y G => ?_)
  show tp_J X Y LC 64 2 2 1 (fx_X10_count  a1 M) M [(0, vR X 0), (1, vI a1)] [] 0
  unfold fx_X10_count
  refine tj_iload_n (pc := 0) G 1 dX10_count_0 rfl rfl ?_
  refine tj_case (fun hq1 => ?_) (fun hq2 => ?_)
  · refine tj_tabIn (pc := 1) G (v := 0) (tgt := 60) dX10_count_1 hq1 (by decide) rfl (by decide) ?_
    refine tj_aload_n (pc := 60) G 0 dX10_count_60 rfl rfl ?_
    refine tj_getR (pc := 61) G (k := 0) (j := 2) (j2 := 2) tk_X10 (by decide) lc_0 rfl (by decide) rfl fl_X10_26 dX10_count_61 ?_
    refine tj_callVi (pc := 64) G [] mf_X4_crossings (k := 5) (by decide) lc_5 rfl rfl ml_X10_275 (by decide) rfl rfl (Nat.le_of_ble_eq_true rfl) (fun _ h9 => ok_X4_crossings X gg_Paths_5 h9) dX10_count_64 (fun r3 M4 => ?_)
    exact tj_iret (pc := 67) G dX10_count_67
  refine tj_case (fun hq5 => ?_) (fun hq6 => ?_)
  · refine tj_tabIn (pc := 1) G (v := 1) (tgt := 68) dX10_count_1 hq5 (by decide) rfl (by decide) ?_
    refine tj_aload_n (pc := 68) G 0 dX10_count_68 rfl rfl ?_
    refine tj_getR (pc := 69) G (k := 0) (j := 2) (j2 := 2) tk_X10 (by decide) lc_0 rfl (by decide) rfl fl_X10_26 dX10_count_69 ?_
    refine tj_callVi (pc := 72) G [] mf_X4_waysInAll (k := 5) (by decide) lc_5 rfl rfl ml_X10_467 (by decide) rfl rfl (Nat.le_of_ble_eq_true rfl) (fun _ h9 => ok_X4_waysInAll X gg_Paths_5 h9) dX10_count_72 (fun r7 M8 => ?_)
    exact tj_iret (pc := 75) G dX10_count_75
  refine tj_case (fun hq9 => ?_) (fun hq10 => ?_)
  · refine tj_tabIn (pc := 1) G (v := 2) (tgt := 76) dX10_count_1 hq9 (by decide) rfl (by decide) ?_
    refine tj_aload_n (pc := 76) G 0 dX10_count_76 rfl rfl ?_
    refine tj_getR (pc := 77) G (k := 0) (j := 6) (j2 := 6) tk_X10 (by decide) lc_0 rfl (by decide) rfl fl_X10_46 dX10_count_77 ?_
    refine tj_getIN (pc := 80) G (k := 25) (j := 2) (j2 := 2) tk_X2 (by decide) lc_25 rfl (by decide) rfl fn_X10_152 dX10_count_80 ?_
    exact tj_iret (pc := 83) G dX10_count_83
  refine tj_case (fun hq11 => ?_) (fun hq12 => ?_)
  · refine tj_tabIn (pc := 1) G (v := 3) (tgt := 84) dX10_count_1 hq11 (by decide) rfl (by decide) ?_
    refine tj_aload_n (pc := 84) G 0 dX10_count_84 rfl rfl ?_
    refine tj_getR (pc := 85) G (k := 0) (j := 6) (j2 := 6) tk_X10 (by decide) lc_0 rfl (by decide) rfl fl_X10_46 dX10_count_85 ?_
    refine tj_getIN (pc := 88) G (k := 25) (j := 3) (j2 := 3) tk_X2 (by decide) lc_25 rfl (by decide) rfl fn_X10_307 dX10_count_88 ?_
    exact tj_iret (pc := 91) G dX10_count_91
  refine tj_case (fun hq13 => ?_) (fun hq14 => ?_)
  · refine tj_tabIn (pc := 1) G (v := 4) (tgt := 92) dX10_count_1 hq13 (by decide) rfl (by decide) ?_
    refine tj_aload_n (pc := 92) G 0 dX10_count_92 rfl rfl ?_
    refine tj_getR (pc := 93) G (k := 0) (j := 6) (j2 := 6) tk_X10 (by decide) lc_0 rfl (by decide) rfl fl_X10_46 dX10_count_93 ?_
    refine tj_callVi (pc := 96) G [] mf_X2_walkers (k := 25) (by decide) lc_25 rfl rfl ml_X10_190 (by decide) rfl rfl (Nat.le_of_ble_eq_true rfl) (fun _ h9 => ok_X2_walkers X gg_Moor_25 h9) dX10_count_96 (fun r15 M16 => ?_)
    exact tj_iret (pc := 99) G dX10_count_99
  refine tj_case (fun hq17 => ?_) (fun hq18 => ?_)
  · refine tj_tabIn (pc := 1) G (v := 5) (tgt := 100) dX10_count_1 hq17 (by decide) rfl (by decide) ?_
    refine tj_aload_n (pc := 100) G 0 dX10_count_100 rfl rfl ?_
    refine tj_getR (pc := 101) G (k := 0) (j := 6) (j2 := 6) tk_X10 (by decide) lc_0 rfl (by decide) rfl fl_X10_46 dX10_count_101 ?_
    refine tj_callVi (pc := 104) G [] mf_X2_peopled (k := 25) (by decide) lc_25 rfl rfl ml_X10_470 (by decide) rfl rfl (Nat.le_of_ble_eq_true rfl) (fun _ h9 => ok_X2_peopled X gg_Moor_25 h9) dX10_count_104 (fun r19 M20 => ?_)
    exact tj_iret (pc := 107) G dX10_count_107
  refine tj_case (fun hq21 => ?_) (fun hq22 => ?_)
  · refine tj_tabIn (pc := 1) G (v := 6) (tgt := 108) dX10_count_1 hq21 (by decide) rfl (by decide) ?_
    refine tj_aload_n (pc := 108) G 0 dX10_count_108 rfl rfl ?_
    refine tj_getR (pc := 109) G (k := 0) (j := 12) (j2 := 12) tk_X10 (by decide) lc_0 rfl (by decide) rfl fl_X10_80 dX10_count_109 ?_
    refine tj_callVi (pc := 112) G [] mf_X6_size (k := 52) (by decide) lc_52 rfl rfl ml_X10_397 (by decide) rfl rfl (Nat.le_of_ble_eq_true rfl) (fun _ h9 => ok_X6_size X  h9) dX10_count_112 (fun r23 M24 => ?_)
    exact tj_iret (pc := 115) G dX10_count_115
  refine tj_case (fun hq25 => ?_) (fun hq26 => ?_)
  · refine tj_tabIn (pc := 1) G (v := 7) (tgt := 116) dX10_count_1 hq25 (by decide) rfl (by decide) ?_
    refine tj_aload_n (pc := 116) G 0 dX10_count_116 rfl rfl ?_
    refine tj_getR (pc := 117) G (k := 0) (j := 13) (j2 := 13) tk_X10 (by decide) lc_0 rfl (by decide) rfl fl_X10_87 dX10_count_117 ?_
    refine tj_callVi (pc := 120) G [] mf_X1_size (k := 56) (by decide) lc_56 rfl rfl ml_X10_424 (by decide) rfl rfl (Nat.le_of_ble_eq_true rfl) (fun _ h9 => ok_X1_size X  h9) dX10_count_120 (fun r27 M28 => ?_)
    exact tj_iret (pc := 123) G dX10_count_123
  refine tj_case (fun hq29 => ?_) (fun hq30 => ?_)
  · refine tj_tabIn (pc := 1) G (v := 8) (tgt := 124) dX10_count_1 hq29 (by decide) rfl (by decide) ?_
    refine tj_aload_n (pc := 124) G 0 dX10_count_124 rfl rfl ?_
    refine tj_getR (pc := 125) G (k := 0) (j := 9) (j2 := 9) tk_X10 (by decide) lc_0 rfl (by decide) rfl fl_X10_59 dX10_count_125 ?_
    refine tj_callVi (pc := 128) G [] mf_X3_size (k := 34) (by decide) lc_34 rfl rfl ml_X10_249 (by decide) rfl rfl (Nat.le_of_ble_eq_true rfl) (fun _ h9 => ok_X3_size X  h9) dX10_count_128 (fun r31 M32 => ?_)
    exact tj_iret (pc := 131) G dX10_count_131
  refine tj_case (fun hq33 => ?_) (fun hq34 => ?_)
  · refine tj_tabIn (pc := 1) G (v := 9) (tgt := 132) dX10_count_1 hq33 (by decide) rfl (by decide) ?_
    refine tj_aload_n (pc := 132) G 0 dX10_count_132 rfl rfl ?_
    refine tj_getR (pc := 133) G (k := 0) (j := 1) (j2 := 1) tk_X10 (by decide) lc_0 rfl (by decide) rfl fl_X10_19 dX10_count_133 ?_
    refine tj_callVi (pc := 136) G [] mf_X8_size (k := 3) (by decide) lc_3 rfl rfl ml_X10_473 (by decide) rfl rfl (Nat.le_of_ble_eq_true rfl) (fun _ h9 => ok_X8_size X  h9) dX10_count_136 (fun r35 M36 => ?_)
    exact tj_iret (pc := 139) G dX10_count_139
  refine tj_case (fun hq37 => ?_) (fun hq38 => ?_)
  · refine tj_tabIn (pc := 1) G (v := 10) (tgt := 140) dX10_count_1 hq37 (by decide) rfl (by decide) ?_
    refine tj_aload_n (pc := 140) G 0 dX10_count_140 rfl rfl ?_
    refine tj_getR (pc := 141) G (k := 0) (j := 0) (j2 := 0) tk_X10 (by decide) lc_0 rfl (by decide) rfl fl_X10_12 dX10_count_141 ?_
    refine tj_callVi (pc := 144) G [] mf_X7_size (k := 1) (by decide) lc_1 rfl rfl ml_X10_114 (by decide) rfl rfl (Nat.le_of_ble_eq_true rfl) (fun _ h9 => ok_X7_size X  h9) dX10_count_144 (fun r39 M40 => ?_)
    exact tj_iret (pc := 147) G dX10_count_147
  refine tj_tabOut (pc := 1) G (tgt := 148) dX10_count_1 (by omega) (by decide) ?_
  refine tj_bipush (pc := 148) G dX10_count_148 rfl ?_
  exact tj_iret (pc := 150) G dX10_count_150

def fx_X11_thrown   (M : tp_M) : tp_O :=
(some (M 0 0, M))
set_option maxRecDepth 100000 in
set_option maxHeartbeats 4000000 in
theorem ok_X11_thrown (X : tp_X)    {M : tp_M} {res : Int × tp_M} (h : fx_X11_thrown   M = some res) : tp_Ret X LM 34 1 yX11_thrown (Cond.code yX11_thrown cX11_thrown 1 (some .int)) 1 [vR X 0] M res := by
  refine tp_ofW (by decide +kernel) rfl rfl (by show _ ≤ 1; exact Nat.le_of_ble_eq_true rfl) h (fun Y G => ?_)
  show tp_J X Y LM 34 1 1 1 (fx_X11_thrown   M) M [(0, vR X 0)] [] 0
  unfold fx_X11_thrown
  refine tj_aload_n (pc := 0) G 0 dX11_thrown_0 rfl rfl ?_
  refine tj_getI (pc := 1) G (k := 0) (j := 0) (j2 := 0) tk_X11 (by decide) lm_0 rfl (by decide) rfl fl_X11_3 dX11_thrown_1 ?_
  exact tj_iret (pc := 4) G dX11_thrown_4

def fx_X11_refuse   (M : tp_M) : tp_O :=
(tp_lm (tp_up M 0 0 1) (fun M1 =>
(some (0, M1))))
set_option maxRecDepth 100000 in
set_option maxHeartbeats 4000000 in
theorem ok_X11_refuse (X : tp_X)    {M : tp_M} {res : Int × tp_M} (h : fx_X11_refuse   M = some res) : tp_Ret X LM 34 1 yX11_refuse (Cond.code yX11_refuse cX11_refuse 1 (some .int)) 1 [vR X 0] M res := by
  refine tp_ofW (by decide +kernel) rfl rfl (by show _ ≤ 1; exact Nat.le_of_ble_eq_true rfl) h (fun Y G => ?_)
  show tp_J X Y LM 34 1 1 1 (fx_X11_refuse   M) M [(0, vR X 0)] [] 0
  unfold fx_X11_refuse
  refine tj_aload_n (pc := 0) G 0 dX11_refuse_0 rfl rfl ?_
  refine tj_iconst (pc := 1) G dX11_refuse_1 ?_
  refine tj_putI (pc := 2) G (k := 0) (j := 0) (j2 := 0) tk_X11 (by decide) lm_0 rfl (by decide) rfl fl_X11_3 rfl rfl dX11_refuse_2 (fun M1 => ?_)
  refine tj_iconst (pc := 5) G dX11_refuse_5 ?_
  exact tj_iret (pc := 6) G dX11_refuse_6

def fx_X11_in  (a1 : Int) (a2 : Int) (a3 : Int) (M : tp_M) : tp_O :=
(if x_lcmp a1 a2 < 0 then
(some (0, M))
else
(if x_lcmp a1 a3 ≤ 0 then
(some (1, M))
else
(some (0, M))))
set_option maxRecDepth 100000 in
set_option maxHeartbeats 4000000 in
theorem ok_X11_in (X : tp_X)  {a1 : Int} {a2 : Int} {a3 : Int}  {M : tp_M} {res : Int × tp_M} (h : fx_X11_in  a1 a2 a3 M = some res) : tp_Ret X LM 34 1 yX11_in (Cond.code yX11_in cX11_in 6 (some .boolean)) 1 [vL a1, vL a2, vL a3] M res := by
  refine tp_ofW (by decide +kernel) rfl rfl (by show _ ≤ 6; exact Nat.le_of_ble_eq_true rfl) h (fun Y G => ?_)
  show tp_J X Y LM 34 6 1 1 (fx_X11_in  a1 a2 a3 M) M [(0, vL a1), (2, vL a2), (4, vL a3)] [] 0
  unfold fx_X11_in
  refine tj_lload_n (pc := 0) G 0 dX11_in_0 rfl rfl ?_
  refine tj_lload_n (pc := 1) G 1 dX11_in_1 rfl rfl ?_
  refine tj_lcmp (pc := 2) G dX11_in_2 ?_
  refine tj_if_lt (pc := 3) G (tgt := 17) (a2 := x_lcmp a1 a2) dX11_in_3 (by decide) (w32_lcmp _ _) ?_ ?_
  · refine tj_iconst (pc := 17) G dX11_in_17 ?_
    exact tj_zret (pc := 18) G (by decide) dX11_in_18
  refine tj_lload_n (pc := 6) G 0 dX11_in_6 rfl rfl ?_
  refine tj_lload (pc := 7) G 2 dX11_in_7 rfl ?_
  refine tj_lcmp (pc := 9) G dX11_in_9 ?_
  refine tj_if_gt (pc := 10) G (tgt := 17) (a2 := x_lcmp a1 a3) dX11_in_10 (by decide) (w32_lcmp _ _) ?_ ?_
  · refine tj_iconst (pc := 17) G dX11_in_17 ?_
    exact tj_zret (pc := 18) G (by decide) dX11_in_18
  refine tj_iconst (pc := 13) G dX11_in_13 ?_
  refine tj_goto (pc := 14) G (tgt := 18) dX11_in_14 (by decide) ?_
  exact tj_zret (pc := 18) G (by decide) dX11_in_18

def fx_X11_has  (a1 : Int) (a2 : Int) (M : tp_M) : tp_O :=
(if w32 (x_and (x_shr a1 a2) 1) = 1 then
(some (1, M))
else
(some (0, M)))
set_option maxRecDepth 100000 in
set_option maxHeartbeats 4000000 in
theorem ok_X11_has (X : tp_X)  {a1 : Int} {a2 : Int}  {M : tp_M} {res : Int × tp_M} (h : fx_X11_has  a1 a2 M = some res) : tp_Ret X LM 34 1 yX11_has (Cond.code yX11_has cX11_has 2 (some .boolean)) 1 [vI a1, vI a2] M res := by
  refine tp_ofW (by decide +kernel) rfl rfl (by show _ ≤ 2; exact Nat.le_of_ble_eq_true rfl) h (fun Y G => ?_)
  show tp_J X Y LM 34 2 1 1 (fx_X11_has  a1 a2 M) M [(0, vI a1), (1, vI a2)] [] 0
  unfold fx_X11_has
  refine tj_iload_n (pc := 0) G 0 dX11_has_0 rfl rfl ?_
  refine tj_iload_n (pc := 1) G 1 dX11_has_1 rfl rfl ?_
  refine tj_ishr (pc := 2) G dX11_has_2 ?_
  refine tj_iconst (pc := 3) G dX11_has_3 ?_
  refine tj_iand (pc := 4) G dX11_has_4 ?_
  refine tj_iconst (pc := 5) G dX11_has_5 ?_
  refine tj_icmp_ne (pc := 6) G (tgt := 13) (a2 := w32 (x_and (x_shr a1 a2) 1)) (b2 := 1) dX11_has_6 (by decide) rfl rfl ?_ ?_
  · refine tj_iconst (pc := 13) G dX11_has_13 ?_
    exact tj_zret (pc := 14) G (by decide) dX11_has_14
  refine tj_iconst (pc := 9) G dX11_has_9 ?_
  refine tj_goto (pc := 10) G (tgt := 14) dX11_has_10 (by decide) ?_
  exact tj_zret (pc := 14) G (by decide) dX11_has_14

def fx_X11_flag  (a1 : Int) (M : tp_M) : tp_O :=
(if w32 a1 = 0 then
(some (0, M))
else
(some (1, M)))
set_option maxRecDepth 100000 in
set_option maxHeartbeats 4000000 in
theorem ok_X11_flag (X : tp_X)  {a1 : Int}  {M : tp_M} {res : Int × tp_M} (h : fx_X11_flag  a1 M = some res) : tp_Ret X LM 34 1 yX11_flag (Cond.code yX11_flag cX11_flag 1 (some .int)) 1 [vI a1] M res := by
  refine tp_ofW (by decide +kernel) rfl rfl (by show _ ≤ 1; exact Nat.le_of_ble_eq_true rfl) h (fun Y G => ?_)
  show tp_J X Y LM 34 1 1 1 (fx_X11_flag  a1 M) M [(0, vI a1)] [] 0
  unfold fx_X11_flag
  refine tj_iload_n (pc := 0) G 0 dX11_flag_0 rfl rfl ?_
  refine tj_if_eq (pc := 1) G (tgt := 8) (a2 := w32 a1) dX11_flag_1 (by decide) rfl ?_ ?_
  · refine tj_iconst (pc := 8) G dX11_flag_8 ?_
    exact tj_iret (pc := 9) G dX11_flag_9
  refine tj_iconst (pc := 4) G dX11_flag_4 ?_
  refine tj_goto (pc := 5) G (tgt := 9) dX11_flag_5 (by decide) ?_
  exact tj_iret (pc := 9) G dX11_flag_9

def fx_X11_enters  (a1 : Int) (M : tp_M) : tp_O :=
(tp_ck (w32 (M 0 1)) 24 (tp_lm (tp_up M 1 (w32 (M 0 1)) a1) (fun M1 =>
(tp_lm (tp_up M1 0 1 ((M1 0 1) + 1)) (fun M2 =>
(some (0, M2)))))))
set_option maxRecDepth 100000 in
set_option maxHeartbeats 4000000 in
theorem ok_X11_enters (X : tp_X)  {a1 : Int}  {M : tp_M} {res : Int × tp_M} (h : fx_X11_enters  a1 M = some res) : tp_Ret X LM 34 0 yX11_enters (Cond.code yX11_enters cX11_enters 3 none) 1 [vR X 0, vL a1] M res := by
  refine tp_ofW (by decide +kernel) rfl rfl (by show _ ≤ 3; exact Nat.le_of_ble_eq_true rfl) h (fun Y G => ?_)
  show tp_J X Y LM 34 3 1 0 (fx_X11_enters  a1 M) M [(0, vR X 0), (1, vL a1)] [] 0
  unfold fx_X11_enters
  refine tj_aload_n (pc := 0) G 0 dX11_enters_0 rfl rfl ?_
  refine tj_getR (pc := 1) G (k := 0) (j := 2) (j2 := 2) tk_X11 (by decide) lm_0 rfl (by decide) rfl fl_X11_11 dX11_enters_1 ?_
  refine tj_aload_n (pc := 4) G 0 dX11_enters_4 rfl rfl ?_
  refine tj_getI (pc := 5) G (k := 0) (j := 1) (j2 := 1) tk_X11 (by decide) lm_0 rfl (by decide) rfl fl_X11_15 dX11_enters_5 ?_
  refine tj_lload_n (pc := 8) G 1 dX11_enters_8 rfl rfl ?_
  refine tj_last (pc := 9) G (k := 1) (i2 := w32 (M 0 1)) (n2 := 24) (by decide) lm_1 rfl rfl dX11_enters_9 (fun M1 => ?_)
  refine tj_aload_n (pc := 10) G 0 dX11_enters_10 rfl rfl ?_
  refine tj_dup (pc := 11) G dX11_enters_11 rfl ?_
  refine tj_getI (pc := 12) G (k := 0) (j := 1) (j2 := 1) tk_X11 (by decide) lm_0 rfl (by decide) rfl fl_X11_15 dX11_enters_12 ?_
  refine tj_iconst (pc := 15) G dX11_enters_15 ?_
  refine tj_iadd (pc := 16) G dX11_enters_16 ?_
  refine tj_putI (pc := 17) G (k := 0) (j := 1) (j2 := 1) tk_X11 (by decide) lm_0 rfl (by decide) rfl fl_X11_15 rfl rfl dX11_enters_17 (fun M2 => ?_)
  exact tj_vret (pc := 20) G dX11_enters_20

def fx_X11_isCrossing  (a1 : Int) (M : tp_M) : tp_O :=
(tp_bd (fx_X11_in (w32 a1) 0 (w32 ((M 0 3) - 1)) M) (fun r1 M2 =>
(tp_gd (w32 r1 = 0 ∨ w32 r1 = 1) inferInstance (some (r1, M2)))))
set_option maxRecDepth 100000 in
set_option maxHeartbeats 4000000 in
theorem ok_X11_isCrossing (X : tp_X)  {a1 : Int}  {M : tp_M} {res : Int × tp_M} (h : fx_X11_isCrossing  a1 M = some res) : tp_Ret X LM 34 1 yX11_isCrossing (Cond.code yX11_isCrossing cX11_isCrossing 2 (some .boolean)) 2 [vR X 0, vI a1] M res := by
  refine tp_ofW (by decide +kernel) rfl rfl (by show _ ≤ 2; exact Nat.le_of_ble_eq_true rfl) h (fun Y G => ?_)
  show tp_J X Y LM 34 2 2 1 (fx_X11_isCrossing  a1 M) M [(0, vR X 0), (1, vI a1)] [] 0
  unfold fx_X11_isCrossing
  refine tj_iload_n (pc := 0) G 1 dX11_isCrossing_0 rfl rfl ?_
  refine tj_i2l (pc := 1) G (b := w32 a1) dX11_isCrossing_1 rfl ?_
  refine tj_lconst (pc := 2) G (v := 0) dX11_isCrossing_2 rfl ?_
  refine tj_aload_n (pc := 3) G 0 dX11_isCrossing_3 rfl rfl ?_
  refine tj_getI (pc := 4) G (k := 0) (j := 3) (j2 := 3) tk_X11 (by decide) lm_0 rfl (by decide) rfl fl_X11_28 dX11_isCrossing_4 ?_
  refine tj_iconst (pc := 7) G dX11_isCrossing_7 ?_
  refine tj_isub (pc := 8) G dX11_isCrossing_8 ?_
  refine tj_i2l (pc := 9) G (b := w32 ((M 0 3) - 1)) dX11_isCrossing_9 rfl ?_
  refine tj_callSi (pc := 10) G [vL (w32 a1), vL 0, vL (w32 ((M 0 3) - 1))] mf_X11_in ml_X11_129 (by decide) rfl rfl (Nat.le_of_ble_eq_true rfl) (fun _ h9 => ok_X11_in X  h9) dX11_isCrossing_10 (fun r1 M2 => ?_)
  exact tj_gd (fun hz => tj_zret (pc := 13) G hz dX11_isCrossing_13)

def fx_X11_isOut  (a1 : Int) (M : tp_M) : tp_O :=
(tp_bd (fx_X11_in (w32 a1) 1 (w32 ((M 0 3) - 1)) M) (fun r1 M2 =>
(tp_gd (w32 r1 = 0 ∨ w32 r1 = 1) inferInstance (some (r1, M2)))))
set_option maxRecDepth 100000 in
set_option maxHeartbeats 4000000 in
theorem ok_X11_isOut (X : tp_X)  {a1 : Int}  {M : tp_M} {res : Int × tp_M} (h : fx_X11_isOut  a1 M = some res) : tp_Ret X LM 34 1 yX11_isOut (Cond.code yX11_isOut cX11_isOut 2 (some .boolean)) 2 [vR X 0, vI a1] M res := by
  refine tp_ofW (by decide +kernel) rfl rfl (by show _ ≤ 2; exact Nat.le_of_ble_eq_true rfl) h (fun Y G => ?_)
  show tp_J X Y LM 34 2 2 1 (fx_X11_isOut  a1 M) M [(0, vR X 0), (1, vI a1)] [] 0
  unfold fx_X11_isOut
  refine tj_iload_n (pc := 0) G 1 dX11_isOut_0 rfl rfl ?_
  refine tj_i2l (pc := 1) G (b := w32 a1) dX11_isOut_1 rfl ?_
  refine tj_lconst (pc := 2) G (v := 1) dX11_isOut_2 rfl ?_
  refine tj_aload_n (pc := 3) G 0 dX11_isOut_3 rfl rfl ?_
  refine tj_getI (pc := 4) G (k := 0) (j := 3) (j2 := 3) tk_X11 (by decide) lm_0 rfl (by decide) rfl fl_X11_28 dX11_isOut_4 ?_
  refine tj_iconst (pc := 7) G dX11_isOut_7 ?_
  refine tj_isub (pc := 8) G dX11_isOut_8 ?_
  refine tj_i2l (pc := 9) G (b := w32 ((M 0 3) - 1)) dX11_isOut_9 rfl ?_
  refine tj_callSi (pc := 10) G [vL (w32 a1), vL 1, vL (w32 ((M 0 3) - 1))] mf_X11_in ml_X11_129 (by decide) rfl rfl (Nat.le_of_ble_eq_true rfl) (fun _ h9 => ok_X11_in X  h9) dX11_isOut_10 (fun r1 M2 => ?_)
  exact tj_gd (fun hz => tj_zret (pc := 13) G hz dX11_isOut_13)

def fx_X11_goalOf  (a1 : Int) (a2 : Int) (M : tp_M) : tp_O :=
(tp_ck (w32 ((4 * a1) + a2)) 32 (some (M 3 (w32 ((4 * a1) + a2)), M)))
set_option maxRecDepth 100000 in
set_option maxHeartbeats 4000000 in
theorem ok_X11_goalOf (X : tp_X)  {a1 : Int} {a2 : Int}  {M : tp_M} {res : Int × tp_M} (h : fx_X11_goalOf  a1 a2 M = some res) : tp_Ret X LM 34 1 yX11_goalOf (Cond.code yX11_goalOf cX11_goalOf 3 (some .int)) 1 [vR X 0, vI a1, vI a2] M res := by
  refine tp_ofW (by decide +kernel) rfl rfl (by show _ ≤ 3; exact Nat.le_of_ble_eq_true rfl) h (fun Y G => ?_)
  show tp_J X Y LM 34 3 1 1 (fx_X11_goalOf  a1 a2 M) M [(0, vR X 0), (1, vI a1), (2, vI a2)] [] 0
  unfold fx_X11_goalOf
  refine tj_aload_n (pc := 0) G 0 dX11_goalOf_0 rfl rfl ?_
  refine tj_getR (pc := 1) G (k := 0) (j := 5) (j2 := 5) tk_X11 (by decide) lm_0 rfl (by decide) rfl fl_X11_35 dX11_goalOf_1 ?_
  refine tj_iconst (pc := 4) G dX11_goalOf_4 ?_
  refine tj_iload_n (pc := 5) G 1 dX11_goalOf_5 rfl rfl ?_
  refine tj_imul (pc := 6) G dX11_goalOf_6 ?_
  refine tj_iload_n (pc := 7) G 2 dX11_goalOf_7 rfl rfl ?_
  refine tj_iadd (pc := 8) G dX11_goalOf_8 ?_
  refine tj_iald (pc := 9) G (k := 3) (i2 := w32 ((4 * a1) + a2)) (n2 := 32) (by decide) lm_3 rfl rfl dX11_goalOf_9 ?_
  exact tj_iret (pc := 10) G dX11_goalOf_10

def fx_X11_walkers_L4 (k1 : Nat) (k1n : Nat)  (rec : Int → Int → tp_M → tp_O) (z3 z4 : Int) (M5 : tp_M) : tp_O :=
(if w32 z4 < w32 (M5 0 3) then
(tp_ck (w32 (8 + z4)) k1n (tp_lt (z3 + (M5 k1 (w32 (8 + z4)))) (fun x6 =>
(tp_lt (z4 + 1) (fun x7 =>
(rec x6 x7 M5))))))
else
(some (z3, M5)))
def fx_X11_walkers  (k1 : Nat) (k1n : Nat) (M : tp_M) : tp_O :=
(tp_lt 0 (fun x1 =>
(tp_lt 1 (fun x2 =>
(tp_lp2 (fx_X11_walkers_L4 k1 k1n ) tp_F x1 x2 M)))))
set_option maxRecDepth 100000 in
set_option maxHeartbeats 4000000 in
theorem fx_X11_walkers_L4_ok {X : tp_X} {Y : tp_Y} (G : tp_Ok X Y 34 cX11_walkers 4 RX11 (some .int))  {k1 : Nat} {k1n : Nat} (hk1 : tg_I LM 34 k1 k1n)   (n : Nat) : ∀ (z3 z4 : Int) (M5 : tp_M), tp_J X Y LM 34 4 1 1 (tp_lp2 (fx_X11_walkers_L4 k1 k1n  ) n z3 z4 M5) M5 [(0, vR X 0), (1, vR X k1), (2, vI z3), (3, vI z4)] [] 4 := by
  refine tp_lp2_ok (P := fun o z3 z4 M5 => tp_J X Y LM 34 4 1 1 (o) M5 [(0, vR X 0), (1, vR X k1), (2, vI z3), (3, vI z4)] [] 4) (fun z3 z4 M5 => tj_none) (fun rec hrec z3 z4 M5 => ?_) n
  unfold fx_X11_walkers_L4
  refine tj_iload_n (pc := 4) G 3 dX11_walkers_4 rfl rfl ?_
  refine tj_aload_n (pc := 5) G 0 dX11_walkers_5 rfl rfl ?_
  refine tj_getI (pc := 6) G (k := 0) (j := 3) (j2 := 3) tk_X11 (by decide) lm_0 rfl (by decide) rfl fl_X11_28 dX11_walkers_6 ?_
  refine tj_icmp_ge (pc := 9) G (tgt := 27) (a2 := w32 z4) (b2 := w32 (M5 0 3)) dX11_walkers_9 (by decide) rfl rfl ?_ ?_
  · refine tj_iload_n (pc := 27) G 2 dX11_walkers_27 rfl rfl ?_
    exact tj_iret (pc := 28) G dX11_walkers_28
  refine tj_iload_n (pc := 12) G 2 dX11_walkers_12 rfl rfl ?_
  refine tj_aload_n (pc := 13) G 1 dX11_walkers_13 rfl rfl ?_
  refine tj_bipush (pc := 14) G dX11_walkers_14 rfl ?_
  refine tj_iload_n (pc := 16) G 3 dX11_walkers_16 rfl rfl ?_
  refine tj_iadd (pc := 17) G dX11_walkers_17 ?_
  refine tj_iald (pc := 18) G (k := k1) (i2 := w32 (8 + z4)) (n2 := k1n) hk1.1 hk1.2 rfl rfl dX11_walkers_18 ?_
  refine tj_iadd (pc := 19) G dX11_walkers_19 ?_
  refine tj_istore_n (pc := 20) G (fun x6 => [(2, vI x6), (0, vR X 0), (1, vR X k1), (3, vI z4)]) dX11_walkers_20 rfl (by decide) (fun _ => rfl) (fun x6 => ?_)
  refine tj_iinc (pc := 21) G 3 (fun x7 => [(3, vI x7), (2, vI x6), (0, vR X 0), (1, vR X k1)]) dX11_walkers_21 rfl (by decide) (fun _ => rfl) (fun x7 => ?_)
  refine tj_goto (pc := 24) G (tgt := 4) dX11_walkers_24 (by decide) ?_
  exact tj_sub [2, 3, 1, 0] rfl (hrec x6 x7 M5)
set_option maxRecDepth 100000 in
set_option maxHeartbeats 4000000 in
theorem ok_X11_walkers (X : tp_X)  {k1 : Nat} {k1n : Nat} (hk1 : tg_I LM 34 k1 k1n) {M : tp_M} {res : Int × tp_M} (h : fx_X11_walkers  k1 k1n M = some res) : tp_Ret X LM 34 1 yX11_walkers (Cond.code yX11_walkers cX11_walkers 4 (some .int)) 1 [vR X 0, vR X k1] M res := by
  refine tp_ofW (by decide +kernel) rfl rfl (by show _ ≤ 4; exact Nat.le_of_ble_eq_true rfl) h (fun Y G => ?_)
  show tp_J X Y LM 34 4 1 1 (fx_X11_walkers  k1 k1n M) M [(0, vR X 0), (1, vR X k1)] [] 0
  unfold fx_X11_walkers
  refine tj_iconst (pc := 0) G dX11_walkers_0 ?_
  refine tj_istore_n (pc := 1) G (fun x1 => [(2, vI x1), (0, vR X 0), (1, vR X k1)]) dX11_walkers_1 rfl (by decide) (fun _ => rfl) (fun x1 => ?_)
  refine tj_iconst (pc := 2) G dX11_walkers_2 ?_
  refine tj_istore_n (pc := 3) G (fun x2 => [(3, vI x2), (2, vI x1), (0, vR X 0), (1, vR X k1)]) dX11_walkers_3 rfl (by decide) (fun _ => rfl) (fun x2 => ?_)
  refine tj_sub [2, 3, 1, 0] rfl (fx_X11_walkers_L4_ok G  hk1   tp_F x1 x2 M)

def fx_X11_copies_L2 (k1 : Nat) (k1n : Nat) (k2 : Nat) (k2n : Nat)  (rec : Int → tp_M → tp_O) (z2 : Int) (M3 : tp_M) : tp_O :=
(if w32 z2 < 17 then
(tp_ck (w32 z2) k2n (tp_ck (w32 z2) k1n (tp_lm (tp_up M3 k1 (w32 z2) (M3 k2 (w32 z2))) (fun M4 =>
(tp_lt (z2 + 1) (fun x5 =>
(rec x5 M4)))))))
else
(some (0, M3)))
def fx_X11_copies  (k1 : Nat) (k1n : Nat) (k2 : Nat) (k2n : Nat) (M : tp_M) : tp_O :=
(tp_lt 0 (fun x1 =>
(tp_lp1 (fx_X11_copies_L2 k1 k1n k2 k2n ) tp_F x1 M)))
set_option maxRecDepth 100000 in
set_option maxHeartbeats 4000000 in
theorem fx_X11_copies_L2_ok {X : tp_X} {Y : tp_Y} (G : tp_Ok X Y 34 cX11_copies 3 RX11 none)  {k1 : Nat} {k1n : Nat} {k2 : Nat} {k2n : Nat} (hk1 : tg_I LM 34 k1 k1n) (hk2 : tg_I LM 34 k2 k2n)   (n : Nat) : ∀ (z2 : Int) (M3 : tp_M), tp_J X Y LM 34 3 1 0 (tp_lp1 (fx_X11_copies_L2 k1 k1n k2 k2n  ) n z2 M3) M3 [(0, vR X k1), (1, vR X k2), (2, vI z2)] [] 2 := by
  refine tp_lp1_ok (P := fun o z2 M3 => tp_J X Y LM 34 3 1 0 (o) M3 [(0, vR X k1), (1, vR X k2), (2, vI z2)] [] 2) (fun z2 M3 => tj_none) (fun rec hrec z2 M3 => ?_) n
  unfold fx_X11_copies_L2
  refine tj_iload_n (pc := 2) G 2 dX11_copies_2 rfl rfl ?_
  refine tj_bipush (pc := 3) G dX11_copies_3 rfl ?_
  refine tj_icmp_ge (pc := 5) G (tgt := 20) (a2 := w32 z2) (b2 := 17) dX11_copies_5 (by decide) rfl rfl ?_ ?_
  · exact tj_vret (pc := 20) G dX11_copies_20
  refine tj_aload_n (pc := 8) G 0 dX11_copies_8 rfl rfl ?_
  refine tj_iload_n (pc := 9) G 2 dX11_copies_9 rfl rfl ?_
  refine tj_aload_n (pc := 10) G 1 dX11_copies_10 rfl rfl ?_
  refine tj_iload_n (pc := 11) G 2 dX11_copies_11 rfl rfl ?_
  refine tj_iald (pc := 12) G (k := k2) (i2 := w32 z2) (n2 := k2n) hk2.1 hk2.2 rfl rfl dX11_copies_12 ?_
  refine tj_iast (pc := 13) G (k := k1) (i2 := w32 z2) (n2 := k1n) hk1.1 hk1.2 rfl rfl dX11_copies_13 (fun M4 => ?_)
  refine tj_iinc (pc := 14) G 2 (fun x5 => [(2, vI x5), (0, vR X k1), (1, vR X k2)]) dX11_copies_14 rfl (by decide) (fun _ => rfl) (fun x5 => ?_)
  refine tj_goto (pc := 17) G (tgt := 2) dX11_copies_17 (by decide) ?_
  exact tj_sub [1, 2, 0] rfl (hrec x5 M4)
set_option maxRecDepth 100000 in
set_option maxHeartbeats 4000000 in
theorem ok_X11_copies (X : tp_X)  {k1 : Nat} {k1n : Nat} {k2 : Nat} {k2n : Nat} (hk1 : tg_I LM 34 k1 k1n) (hk2 : tg_I LM 34 k2 k2n) {M : tp_M} {res : Int × tp_M} (h : fx_X11_copies  k1 k1n k2 k2n M = some res) : tp_Ret X LM 34 0 yX11_copies (Cond.code yX11_copies cX11_copies 3 none) 1 [vR X k1, vR X k2] M res := by
  refine tp_ofW (by decide +kernel) rfl rfl (by show _ ≤ 3; exact Nat.le_of_ble_eq_true rfl) h (fun Y G => ?_)
  show tp_J X Y LM 34 3 1 0 (fx_X11_copies  k1 k1n k2 k2n M) M [(0, vR X k1), (1, vR X k2)] [] 0
  unfold fx_X11_copies
  refine tj_iconst (pc := 0) G dX11_copies_0 ?_
  refine tj_istore_n (pc := 1) G (fun x1 => [(2, vI x1), (0, vR X k1), (1, vR X k2)]) dX11_copies_1 rfl (by decide) (fun _ => rfl) (fun x1 => ?_)
  refine tj_sub [1, 2, 0] rfl (fx_X11_copies_L2_ok G  hk1 hk2   tp_F x1 M)

def fx_X11_sign_L18 (c1 : Int) (rec : Int → tp_M → tp_O) (z3 : Int) (M4 : tp_M) : tp_O :=
(if w32 z3 < 4 then
(tp_ck (w32 ((M4 0 9) + z3)) 80 (tp_lm (tp_up M4 6 (w32 ((M4 0 9) + z3)) (x_and (x_shr c1 (24 - (8 * z3))) 255)) (fun M6 =>
(tp_lt (z3 + 1) (fun x7 =>
(rec x7 M6))))))
else
(tp_lm (tp_up M4 0 9 ((M4 0 9) + 4)) (fun M5 =>
(some (M5 0 9, M5)))))
def fx_X11_sign  (a1 : Int) (M : tp_M) : tp_O :=
(tp_lm (tp_up M 0 0 0) (fun M1 =>
(if w32 (M1 0 9) ≤ 76 then
(tp_lt 0 (fun x2 =>
(tp_lp1 (fx_X11_sign_L18 a1 ) tp_F x2 M1)))
else
(some ((-1), M1)))))
set_option maxRecDepth 100000 in
set_option maxHeartbeats 4000000 in
theorem fx_X11_sign_L18_ok {X : tp_X} {Y : tp_Y} (G : tp_Ok X Y 34 cX11_sign 3 RX11 (some .int))  {c1 : Int}    (n : Nat) : ∀ (z3 : Int) (M4 : tp_M), tp_J X Y LM 34 3 1 1 (tp_lp1 (fx_X11_sign_L18  c1 ) n z3 M4) M4 [(0, vR X 0), (1, vI c1), (2, vI z3)] [] 18 := by
  refine tp_lp1_ok (P := fun o z3 M4 => tp_J X Y LM 34 3 1 1 (o) M4 [(0, vR X 0), (1, vI c1), (2, vI z3)] [] 18) (fun z3 M4 => tj_none) (fun rec hrec z3 M4 => ?_) n
  unfold fx_X11_sign_L18
  refine tj_iload_n (pc := 18) G 2 dX11_sign_18 rfl rfl ?_
  refine tj_iconst (pc := 19) G dX11_sign_19 ?_
  refine tj_icmp_ge (pc := 20) G (tgt := 53) (a2 := w32 z3) (b2 := 4) dX11_sign_20 (by decide) rfl rfl ?_ ?_
  · refine tj_aload_n (pc := 53) G 0 dX11_sign_53 rfl rfl ?_
    refine tj_dup (pc := 54) G dX11_sign_54 rfl ?_
    refine tj_getI (pc := 55) G (k := 0) (j := 9) (j2 := 9) tk_X11 (by decide) lm_0 rfl (by decide) rfl fl_X11_133 dX11_sign_55 ?_
    refine tj_iconst (pc := 58) G dX11_sign_58 ?_
    refine tj_iadd (pc := 59) G dX11_sign_59 ?_
    refine tj_putI (pc := 60) G (k := 0) (j := 9) (j2 := 9) tk_X11 (by decide) lm_0 rfl (by decide) rfl fl_X11_133 rfl rfl dX11_sign_60 (fun M5 => ?_)
    refine tj_aload_n (pc := 63) G 0 dX11_sign_63 rfl rfl ?_
    refine tj_getI (pc := 64) G (k := 0) (j := 9) (j2 := 9) tk_X11 (by decide) lm_0 rfl (by decide) rfl fl_X11_133 dX11_sign_64 ?_
    exact tj_iret (pc := 67) G dX11_sign_67
  refine tj_aload_n (pc := 23) G 0 dX11_sign_23 rfl rfl ?_
  refine tj_getR (pc := 24) G (k := 0) (j := 8) (j2 := 8) tk_X11 (by decide) lm_0 rfl (by decide) rfl fl_X11_44 dX11_sign_24 ?_
  refine tj_aload_n (pc := 27) G 0 dX11_sign_27 rfl rfl ?_
  refine tj_getI (pc := 28) G (k := 0) (j := 9) (j2 := 9) tk_X11 (by decide) lm_0 rfl (by decide) rfl fl_X11_133 dX11_sign_28 ?_
  refine tj_iload_n (pc := 31) G 2 dX11_sign_31 rfl rfl ?_
  refine tj_iadd (pc := 32) G dX11_sign_32 ?_
  refine tj_iload_n (pc := 33) G 1 dX11_sign_33 rfl rfl ?_
  refine tj_bipush (pc := 34) G dX11_sign_34 rfl ?_
  refine tj_bipush (pc := 36) G dX11_sign_36 rfl ?_
  refine tj_iload_n (pc := 38) G 2 dX11_sign_38 rfl rfl ?_
  refine tj_imul (pc := 39) G dX11_sign_39 ?_
  refine tj_isub (pc := 40) G dX11_sign_40 ?_
  refine tj_ishr (pc := 41) G dX11_sign_41 ?_
  refine tj_sipush (pc := 42) G dX11_sign_42 rfl ?_
  refine tj_iand (pc := 45) G dX11_sign_45 ?_
  refine tj_iast (pc := 46) G (k := 6) (i2 := w32 ((M4 0 9) + z3)) (n2 := 80) (by decide) lm_6 rfl rfl dX11_sign_46 (fun M6 => ?_)
  refine tj_iinc (pc := 47) G 2 (fun x7 => [(2, vI x7), (0, vR X 0), (1, vI c1)]) dX11_sign_47 rfl (by decide) (fun _ => rfl) (fun x7 => ?_)
  refine tj_goto (pc := 50) G (tgt := 18) dX11_sign_50 (by decide) ?_
  exact tj_sub [1, 2, 0] rfl (hrec x7 M6)
set_option maxRecDepth 100000 in
set_option maxHeartbeats 4000000 in
theorem ok_X11_sign (X : tp_X)  {a1 : Int}  {M : tp_M} {res : Int × tp_M} (h : fx_X11_sign  a1 M = some res) : tp_Ret X LM 34 1 yX11_sign (Cond.code yX11_sign cX11_sign 3 (some .int)) 1 [vR X 0, vI a1] M res := by
  refine tp_ofW (by decide +kernel) rfl rfl (by show _ ≤ 3; exact Nat.le_of_ble_eq_true rfl) h (fun Y G => ?_)
  show tp_J X Y LM 34 3 1 1 (fx_X11_sign  a1 M) M [(0, vR X 0), (1, vI a1)] [] 0
  unfold fx_X11_sign
  refine tj_aload_n (pc := 0) G 0 dX11_sign_0 rfl rfl ?_
  refine tj_iconst (pc := 1) G dX11_sign_1 ?_
  refine tj_putI (pc := 2) G (k := 0) (j := 0) (j2 := 0) tk_X11 (by decide) lm_0 rfl (by decide) rfl fl_X11_3 rfl rfl dX11_sign_2 (fun M1 => ?_)
  refine tj_aload_n (pc := 5) G 0 dX11_sign_5 rfl rfl ?_
  refine tj_getI (pc := 6) G (k := 0) (j := 9) (j2 := 9) tk_X11 (by decide) lm_0 rfl (by decide) rfl fl_X11_133 dX11_sign_6 ?_
  refine tj_bipush (pc := 9) G dX11_sign_9 rfl ?_
  refine tj_icmp_le (pc := 11) G (tgt := 16) (a2 := w32 (M1 0 9)) (b2 := 76) dX11_sign_11 (by decide) rfl rfl ?_ ?_
  · refine tj_iconst (pc := 16) G dX11_sign_16 ?_
    refine tj_istore_n (pc := 17) G (fun x2 => [(2, vI x2), (0, vR X 0), (1, vI a1)]) dX11_sign_17 rfl (by decide) (fun _ => rfl) (fun x2 => ?_)
    refine tj_sub [1, 2, 0] rfl (fx_X11_sign_L18_ok G     tp_F x2 M1)
  refine tj_iconst (pc := 14) G dX11_sign_14 ?_
  exact tj_iret (pc := 15) G dX11_sign_15

def fx_X11_end  (a1 : Int) (M : tp_M) : tp_O :=
(tp_lm (tp_up M 0 0 0) (fun M1 =>
(tp_bd (fx_X11_in (w32 a1) 0 (w32 (M1 0 9)) M1) (fun r2 M3 =>
(if w32 r2 = 0 then
(some (0, M3))
else
(tp_lm (tp_up M3 0 9 a1) (fun M4 =>
(some (1, M4)))))))))
set_option maxRecDepth 100000 in
set_option maxHeartbeats 4000000 in
theorem ok_X11_end (X : tp_X)  {a1 : Int}  {M : tp_M} {res : Int × tp_M} (h : fx_X11_end  a1 M = some res) : tp_Ret X LM 34 1 yX11_end (Cond.code yX11_end cX11_end 2 (some .boolean)) 2 [vR X 0, vI a1] M res := by
  refine tp_ofW (by decide +kernel) rfl rfl (by show _ ≤ 2; exact Nat.le_of_ble_eq_true rfl) h (fun Y G => ?_)
  show tp_J X Y LM 34 2 2 1 (fx_X11_end  a1 M) M [(0, vR X 0), (1, vI a1)] [] 0
  unfold fx_X11_end
  refine tj_aload_n (pc := 0) G 0 dX11_end_0 rfl rfl ?_
  refine tj_iconst (pc := 1) G dX11_end_1 ?_
  refine tj_putI (pc := 2) G (k := 0) (j := 0) (j2 := 0) tk_X11 (by decide) lm_0 rfl (by decide) rfl fl_X11_3 rfl rfl dX11_end_2 (fun M1 => ?_)
  refine tj_iload_n (pc := 5) G 1 dX11_end_5 rfl rfl ?_
  refine tj_i2l (pc := 6) G (b := w32 a1) dX11_end_6 rfl ?_
  refine tj_lconst (pc := 7) G (v := 0) dX11_end_7 rfl ?_
  refine tj_aload_n (pc := 8) G 0 dX11_end_8 rfl rfl ?_
  refine tj_getI (pc := 9) G (k := 0) (j := 9) (j2 := 9) tk_X11 (by decide) lm_0 rfl (by decide) rfl fl_X11_133 dX11_end_9 ?_
  refine tj_i2l (pc := 12) G (b := w32 (M1 0 9)) dX11_end_12 rfl ?_
  refine tj_callSi (pc := 13) G [vL (w32 a1), vL 0, vL (w32 (M1 0 9))] mf_X11_in ml_X11_129 (by decide) rfl rfl (Nat.le_of_ble_eq_true rfl) (fun _ h9 => ok_X11_in X  h9) dX11_end_13 (fun r2 M3 => ?_)
  refine tj_if_ne (pc := 16) G (tgt := 21) (a2 := w32 r2) dX11_end_16 (by decide) rfl ?_ ?_
  · refine tj_aload_n (pc := 21) G 0 dX11_end_21 rfl rfl ?_
    refine tj_iload_n (pc := 22) G 1 dX11_end_22 rfl rfl ?_
    refine tj_putI (pc := 23) G (k := 0) (j := 9) (j2 := 9) tk_X11 (by decide) lm_0 rfl (by decide) rfl fl_X11_133 rfl rfl dX11_end_23 (fun M4 => ?_)
    refine tj_iconst (pc := 26) G dX11_end_26 ?_
    exact tj_zret (pc := 27) G (by decide) dX11_end_27
  refine tj_iconst (pc := 19) G dX11_end_19 ?_
  exact tj_zret (pc := 20) G (by decide) dX11_end_20

def fx_X11_begins  (a1 : Int) (M : tp_M) : tp_O :=
(tp_lt (M 0 9) (fun x1 =>
(tp_lm (tp_up M 0 9 0) (fun M2 =>
(tp_lm (tp_up M2 0 10 0) (fun M3 =>
(tp_lm (tp_up M3 0 12 0) (fun M4 =>
(tp_lm (tp_up M4 0 11 (min (w32 x1) (w32 a1))) (fun M5 =>
(some (x1, M5))))))))))))
set_option maxRecDepth 100000 in
set_option maxHeartbeats 4000000 in
theorem ok_X11_begins (X : tp_X)  {a1 : Int}  {M : tp_M} {res : Int × tp_M} (h : fx_X11_begins  a1 M = some res) : tp_Ret X LM 34 1 yX11_begins (Cond.code yX11_begins cX11_begins 3 (some .int)) 1 [vR X 0, vI a1] M res := by
  refine tp_ofW (by decide +kernel) rfl rfl (by show _ ≤ 3; exact Nat.le_of_ble_eq_true rfl) h (fun Y G => ?_)
  show tp_J X Y LM 34 3 1 1 (fx_X11_begins  a1 M) M [(0, vR X 0), (1, vI a1)] [] 0
  unfold fx_X11_begins
  refine tj_aload_n (pc := 0) G 0 dX11_begins_0 rfl rfl ?_
  refine tj_getI (pc := 1) G (k := 0) (j := 9) (j2 := 9) tk_X11 (by decide) lm_0 rfl (by decide) rfl fl_X11_133 dX11_begins_1 ?_
  refine tj_istore_n (pc := 4) G (fun x1 => [(2, vI x1), (0, vR X 0), (1, vI a1)]) dX11_begins_4 rfl (by decide) (fun _ => rfl) (fun x1 => ?_)
  refine tj_aload_n (pc := 5) G 1 dX11_begins_5 rfl rfl ?_
  refine tj_iconst (pc := 6) G dX11_begins_6 ?_
  refine tj_putI (pc := 7) G (k := 0) (j := 9) (j2 := 9) tk_X11 (by decide) lm_0 rfl (by decide) rfl fl_X11_133 rfl rfl dX11_begins_7 (fun M2 => ?_)
  refine tj_aload_n (pc := 10) G 1 dX11_begins_10 rfl rfl ?_
  refine tj_iconst (pc := 11) G dX11_begins_11 ?_
  refine tj_putI (pc := 12) G (k := 0) (j := 10) (j2 := 10) tk_X11 (by decide) lm_0 rfl (by decide) rfl fl_X11_136 rfl rfl dX11_begins_12 (fun M3 => ?_)
  refine tj_aload_n (pc := 15) G 1 dX11_begins_15 rfl rfl ?_
  refine tj_iconst (pc := 16) G dX11_begins_16 ?_
  refine tj_putI (pc := 17) G (k := 0) (j := 12) (j2 := 12) tk_X11 (by decide) lm_0 rfl (by decide) rfl fl_X11_139 rfl rfl dX11_begins_17 (fun M4 => ?_)
  refine tj_aload_n (pc := 20) G 1 dX11_begins_20 rfl rfl ?_
  refine tj_iload_n (pc := 21) G 0 dX11_begins_21 rfl rfl ?_
  refine tj_iload_n (pc := 22) G 2 dX11_begins_22 rfl rfl ?_
  refine tj_min (pc := 23) G (a2 := w32 x1) (b2 := w32 a1) rfl rfl ml_X11_142 mw_min (by decide) (Nat.le_of_ble_eq_true rfl) dX11_begins_23 ?_
  refine tj_putI (pc := 26) G (k := 0) (j := 11) (j2 := 11) tk_X11 (by decide) lm_0 rfl (by decide) rfl fl_X11_148 rfl rfl dX11_begins_26 (fun M5 => ?_)
  refine tj_iload_n (pc := 29) G 0 dX11_begins_29 rfl rfl ?_
  exact tj_iret (pc := 30) G dX11_begins_30

def fx_X11_takes  (a1 : Int) (M : tp_M) : tp_O :=
(tp_jn1 (fun y1 M2 => 
(tp_lt y1 (fun x3 =>
(tp_bd (fx_X11_flag x3 M2) (fun r4 M5 =>
(tp_lm (tp_up M5 0 10 ((M2 0 10) + r4)) (fun M6 =>
(tp_gd (w32 x3 = 0 ∨ w32 x3 = 1) inferInstance (some (x3, M6)))))))))) (fun jk29 =>
(tp_jn0 (fun M7 => 
(jk29 0 M7)) (fun jk28 =>
(if w32 (M 0 10) < w32 (M 0 11) then
(tp_ck (w32 (M 0 10)) 80 (if w32 (M 6 (w32 (M 0 10))) = w32 a1 then
(jk29 1 M)
else
(jk28 M)))
else
(jk28 M))))))
set_option maxRecDepth 100000 in
set_option maxHeartbeats 4000000 in
theorem ok_X11_takes (X : tp_X)  {a1 : Int}  {M : tp_M} {res : Int × tp_M} (h : fx_X11_takes  a1 M = some res) : tp_Ret X LM 34 1 yX11_takes (Cond.code yX11_takes cX11_takes 3 (some .boolean)) 2 [vR X 0, vI a1] M res := by
  refine tp_ofW (by decide +kernel) rfl rfl (by show _ ≤ 3; exact Nat.le_of_ble_eq_true rfl) h (fun Y G => ?_)
  show tp_J X Y LM 34 3 2 1 (fx_X11_takes  a1 M) M [(0, vR X 0), (1, vI a1)] [] 0
  unfold fx_X11_takes
  refine tj_aload_n (pc := 0) G 0 dX11_takes_0 rfl rfl ?_
  refine tj_getI (pc := 1) G (k := 0) (j := 10) (j2 := 10) tk_X11 (by decide) lm_0 rfl (by decide) rfl fl_X11_136 dX11_takes_1 ?_
  refine tj_aload_n (pc := 4) G 0 dX11_takes_4 rfl rfl ?_
  refine tj_getI (pc := 5) G (k := 0) (j := 11) (j2 := 11) tk_X11 (by decide) lm_0 rfl (by decide) rfl fl_X11_148 dX11_takes_5 ?_
  refine tj_jn1 (fun y1 => [(0, vR X 0)]) (fun y1 => [vI y1]) 29 (fun y1 M2 => ?_) (fun jk29 hj29 => ?_)
  · refine tj_istore_n (pc := 29) G (fun x3 => [(2, vI x3), (0, vR X 0)]) dX11_takes_29 rfl (by decide) (fun _ => rfl) (fun x3 => ?_)
    refine tj_aload_n (pc := 30) G 1 dX11_takes_30 rfl rfl ?_
    refine tj_dup (pc := 31) G dX11_takes_31 rfl ?_
    refine tj_getI (pc := 32) G (k := 0) (j := 10) (j2 := 10) tk_X11 (by decide) lm_0 rfl (by decide) rfl fl_X11_136 dX11_takes_32 ?_
    refine tj_iload_n (pc := 35) G 0 dX11_takes_35 rfl rfl ?_
    refine tj_callSi (pc := 36) G [vI x3] mf_X11_flag ml_X11_151 (by decide) rfl rfl (Nat.le_of_ble_eq_true rfl) (fun _ h9 => ok_X11_flag X  h9) dX11_takes_36 (fun r4 M5 => ?_)
    refine tj_iadd (pc := 39) G dX11_takes_39 ?_
    refine tj_putI (pc := 40) G (k := 0) (j := 10) (j2 := 10) tk_X11 (by decide) lm_0 rfl (by decide) rfl fl_X11_136 rfl rfl dX11_takes_40 (fun M6 => ?_)
    refine tj_iload_n (pc := 43) G 0 dX11_takes_43 rfl rfl ?_
    exact tj_gd (fun hz => tj_zret (pc := 44) G hz dX11_takes_44)
  refine tj_jn0 [(0, vR X 0)] [] 28 (fun M7 => ?_) (fun jk28 hj28 => ?_)
  · refine tj_iconst (pc := 28) G dX11_takes_28 ?_
    exact tj_sub [0] rfl (hj29 0 M7)
  refine tj_icmp_ge (pc := 8) G (tgt := 28) (a2 := w32 (M 0 10)) (b2 := w32 (M 0 11)) dX11_takes_8 (by decide) rfl rfl ?_ ?_
  · exact tj_sub [0] rfl (hj28  M)
  refine tj_aload_n (pc := 11) G 0 dX11_takes_11 rfl rfl ?_
  refine tj_getR (pc := 12) G (k := 0) (j := 8) (j2 := 8) tk_X11 (by decide) lm_0 rfl (by decide) rfl fl_X11_44 dX11_takes_12 ?_
  refine tj_aload_n (pc := 15) G 0 dX11_takes_15 rfl rfl ?_
  refine tj_getI (pc := 16) G (k := 0) (j := 10) (j2 := 10) tk_X11 (by decide) lm_0 rfl (by decide) rfl fl_X11_136 dX11_takes_16 ?_
  refine tj_iald (pc := 19) G (k := 6) (i2 := w32 (M 0 10)) (n2 := 80) (by decide) lm_6 rfl rfl dX11_takes_19 ?_
  refine tj_iload_n (pc := 20) G 1 dX11_takes_20 rfl rfl ?_
  refine tj_icmp_ne (pc := 21) G (tgt := 28) (a2 := w32 (M 6 (w32 (M 0 10)))) (b2 := w32 a1) dX11_takes_21 (by decide) rfl rfl ?_ ?_
  · exact tj_sub [0] rfl (hj28  M)
  refine tj_iconst (pc := 24) G dX11_takes_24 ?_
  refine tj_goto (pc := 25) G (tgt := 29) dX11_takes_25 (by decide) ?_
  exact tj_sub [0] rfl (hj29 1 M)

def fx_X11_isDigit   (M : tp_M) : tp_O :=
(if w32 (M 0 10) < w32 (M 0 11) then
(tp_ck (w32 (M 0 10)) 80 (tp_bd (fx_X11_in (w32 (M 6 (w32 (M 0 10)))) 48 57 M) (fun r1 M2 =>
(if w32 r1 = 0 then
(some (0, M2))
else
(some (1, M2))))))
else
(some (0, M)))
set_option maxRecDepth 100000 in
set_option maxHeartbeats 4000000 in
theorem ok_X11_isDigit (X : tp_X)    {M : tp_M} {res : Int × tp_M} (h : fx_X11_isDigit   M = some res) : tp_Ret X LM 34 1 yX11_isDigit (Cond.code yX11_isDigit cX11_isDigit 1 (some .boolean)) 2 [vR X 0] M res := by
  refine tp_ofW (by decide +kernel) rfl rfl (by show _ ≤ 1; exact Nat.le_of_ble_eq_true rfl) h (fun Y G => ?_)
  show tp_J X Y LM 34 1 2 1 (fx_X11_isDigit   M) M [(0, vR X 0)] [] 0
  unfold fx_X11_isDigit
  refine tj_aload_n (pc := 0) G 0 dX11_isDigit_0 rfl rfl ?_
  refine tj_getI (pc := 1) G (k := 0) (j := 10) (j2 := 10) tk_X11 (by decide) lm_0 rfl (by decide) rfl fl_X11_136 dX11_isDigit_1 ?_
  refine tj_aload_n (pc := 4) G 0 dX11_isDigit_4 rfl rfl ?_
  refine tj_getI (pc := 5) G (k := 0) (j := 11) (j2 := 11) tk_X11 (by decide) lm_0 rfl (by decide) rfl fl_X11_148 dX11_isDigit_5 ?_
  refine tj_icmp_ge (pc := 8) G (tgt := 37) (a2 := w32 (M 0 10)) (b2 := w32 (M 0 11)) dX11_isDigit_8 (by decide) rfl rfl ?_ ?_
  · refine tj_iconst (pc := 37) G dX11_isDigit_37 ?_
    exact tj_zret (pc := 38) G (by decide) dX11_isDigit_38
  refine tj_aload_n (pc := 11) G 0 dX11_isDigit_11 rfl rfl ?_
  refine tj_getR (pc := 12) G (k := 0) (j := 8) (j2 := 8) tk_X11 (by decide) lm_0 rfl (by decide) rfl fl_X11_44 dX11_isDigit_12 ?_
  refine tj_aload_n (pc := 15) G 0 dX11_isDigit_15 rfl rfl ?_
  refine tj_getI (pc := 16) G (k := 0) (j := 10) (j2 := 10) tk_X11 (by decide) lm_0 rfl (by decide) rfl fl_X11_136 dX11_isDigit_16 ?_
  refine tj_iald (pc := 19) G (k := 6) (i2 := w32 (M 0 10)) (n2 := 80) (by decide) lm_6 rfl rfl dX11_isDigit_19 ?_
  refine tj_i2l (pc := 20) G (b := w32 (M 6 (w32 (M 0 10)))) dX11_isDigit_20 rfl ?_
  refine tj_ldc2 (pc := 21) G (v := 48) dX11_isDigit_21 ct_X11_155 rfl ?_
  refine tj_ldc2 (pc := 24) G (v := 57) dX11_isDigit_24 ct_X11_157 rfl ?_
  refine tj_callSi (pc := 27) G [vL (w32 (M 6 (w32 (M 0 10)))), vL 48, vL 57] mf_X11_in ml_X11_129 (by decide) rfl rfl (Nat.le_of_ble_eq_true rfl) (fun _ h9 => ok_X11_in X  h9) dX11_isDigit_27 (fun r1 M2 => ?_)
  refine tj_if_eq (pc := 30) G (tgt := 37) (a2 := w32 r1) dX11_isDigit_30 (by decide) rfl ?_ ?_
  · refine tj_iconst (pc := 37) G dX11_isDigit_37 ?_
    exact tj_zret (pc := 38) G (by decide) dX11_isDigit_38
  refine tj_iconst (pc := 33) G dX11_isDigit_33 ?_
  refine tj_goto (pc := 34) G (tgt := 38) dX11_isDigit_34 (by decide) ?_
  exact tj_zret (pc := 38) G (by decide) dX11_isDigit_38

def fx_X11_number_L13 (c1 : Int) (rec : Int → Int → tp_M → tp_O) (z5 z6 : Int) (M7 : tp_M) : tp_O :=
(if w32 z6 < w32 c1 then
(tp_bd (fx_X11_isDigit  M7) (fun r8 M9 =>
(if w32 r8 = 0 then
(some (z5, M9))
else
(tp_ck (w32 (M9 0 10)) 80 (tp_lt (((10 * z5) + (M9 6 (w32 (M9 0 10)))) - 48) (fun x10 =>
(tp_lm (tp_up M9 0 10 ((M9 0 10) + 1)) (fun M11 =>
(tp_lt (z6 + 1) (fun x12 =>
(rec x10 x12 M11)))))))))))
else
(some (z5, M7)))
def fx_X11_number  (a1 : Int) (M : tp_M) : tp_O :=
(tp_bd (fx_X11_isDigit  M) (fun r1 M2 =>
(if w32 r1 = 0 then
(some ((-1), M2))
else
(tp_lt 0 (fun x3 =>
(tp_lt 0 (fun x4 =>
(tp_lp2 (fx_X11_number_L13 a1 ) tp_F x3 x4 M2))))))))
set_option maxRecDepth 100000 in
set_option maxHeartbeats 4000000 in
theorem fx_X11_number_L13_ok {X : tp_X} {Y : tp_Y} (G : tp_Ok X Y 34 cX11_number 4 RX11 (some .int))  {c1 : Int}    (n : Nat) : ∀ (z5 z6 : Int) (M7 : tp_M), tp_J X Y LM 34 4 3 1 (tp_lp2 (fx_X11_number_L13  c1 ) n z5 z6 M7) M7 [(0, vR X 0), (1, vI c1), (2, vI z5), (3, vI z6)] [] 13 := by
  refine tp_lp2_ok (P := fun o z5 z6 M7 => tp_J X Y LM 34 4 3 1 (o) M7 [(0, vR X 0), (1, vI c1), (2, vI z5), (3, vI z6)] [] 13) (fun z5 z6 M7 => tj_none) (fun rec hrec z5 z6 M7 => ?_) n
  unfold fx_X11_number_L13
  refine tj_iload_n (pc := 13) G 3 dX11_number_13 rfl rfl ?_
  refine tj_iload_n (pc := 14) G 1 dX11_number_14 rfl rfl ?_
  refine tj_icmp_ge (pc := 15) G (tgt := 59) (a2 := w32 z6) (b2 := w32 c1) dX11_number_15 (by decide) rfl rfl ?_ ?_
  · refine tj_iload_n (pc := 59) G 2 dX11_number_59 rfl rfl ?_
    exact tj_iret (pc := 60) G dX11_number_60
  refine tj_aload_n (pc := 18) G 0 dX11_number_18 rfl rfl ?_
  refine tj_callVi (pc := 19) G [] mf_X11_isDigit (k := 0) (by decide) lm_0 rfl rfl ml_X11_169 (by decide) rfl rfl (Nat.le_of_ble_eq_true rfl) (fun _ h9 => ok_X11_isDigit X  h9) dX11_number_19 (fun r8 M9 => ?_)
  refine tj_if_eq (pc := 22) G (tgt := 59) (a2 := w32 r8) dX11_number_22 (by decide) rfl ?_ ?_
  · refine tj_iload_n (pc := 59) G 2 dX11_number_59 rfl rfl ?_
    exact tj_iret (pc := 60) G dX11_number_60
  refine tj_bipush (pc := 25) G dX11_number_25 rfl ?_
  refine tj_iload_n (pc := 27) G 2 dX11_number_27 rfl rfl ?_
  refine tj_imul (pc := 28) G dX11_number_28 ?_
  refine tj_aload_n (pc := 29) G 0 dX11_number_29 rfl rfl ?_
  refine tj_getR (pc := 30) G (k := 0) (j := 8) (j2 := 8) tk_X11 (by decide) lm_0 rfl (by decide) rfl fl_X11_44 dX11_number_30 ?_
  refine tj_aload_n (pc := 33) G 0 dX11_number_33 rfl rfl ?_
  refine tj_getI (pc := 34) G (k := 0) (j := 10) (j2 := 10) tk_X11 (by decide) lm_0 rfl (by decide) rfl fl_X11_136 dX11_number_34 ?_
  refine tj_iald (pc := 37) G (k := 6) (i2 := w32 (M9 0 10)) (n2 := 80) (by decide) lm_6 rfl rfl dX11_number_37 ?_
  refine tj_iadd (pc := 38) G dX11_number_38 ?_
  refine tj_bipush (pc := 39) G dX11_number_39 rfl ?_
  refine tj_isub (pc := 41) G dX11_number_41 ?_
  refine tj_istore_n (pc := 42) G (fun x10 => [(2, vI x10), (0, vR X 0), (1, vI c1), (3, vI z6)]) dX11_number_42 rfl (by decide) (fun _ => rfl) (fun x10 => ?_)
  refine tj_aload_n (pc := 43) G 1 dX11_number_43 rfl rfl ?_
  refine tj_dup (pc := 44) G dX11_number_44 rfl ?_
  refine tj_getI (pc := 45) G (k := 0) (j := 10) (j2 := 10) tk_X11 (by decide) lm_0 rfl (by decide) rfl fl_X11_136 dX11_number_45 ?_
  refine tj_iconst (pc := 48) G dX11_number_48 ?_
  refine tj_iadd (pc := 49) G dX11_number_49 ?_
  refine tj_putI (pc := 50) G (k := 0) (j := 10) (j2 := 10) tk_X11 (by decide) lm_0 rfl (by decide) rfl fl_X11_136 rfl rfl dX11_number_50 (fun M11 => ?_)
  refine tj_iinc (pc := 53) G 3 (fun x12 => [(3, vI x12), (2, vI x10), (0, vR X 0), (1, vI c1)]) dX11_number_53 rfl (by decide) (fun _ => rfl) (fun x12 => ?_)
  refine tj_goto (pc := 56) G (tgt := 13) dX11_number_56 (by decide) ?_
  exact tj_sub [2, 3, 1, 0] rfl (hrec x10 x12 M11)
set_option maxRecDepth 100000 in
set_option maxHeartbeats 4000000 in
theorem ok_X11_number (X : tp_X)  {a1 : Int}  {M : tp_M} {res : Int × tp_M} (h : fx_X11_number  a1 M = some res) : tp_Ret X LM 34 1 yX11_number (Cond.code yX11_number cX11_number 4 (some .int)) 3 [vR X 0, vI a1] M res := by
  refine tp_ofW (by decide +kernel) rfl rfl (by show _ ≤ 4; exact Nat.le_of_ble_eq_true rfl) h (fun Y G => ?_)
  show tp_J X Y LM 34 4 3 1 (fx_X11_number  a1 M) M [(0, vR X 0), (1, vI a1)] [] 0
  unfold fx_X11_number
  refine tj_aload_n (pc := 0) G 0 dX11_number_0 rfl rfl ?_
  refine tj_callVi (pc := 1) G [] mf_X11_isDigit (k := 0) (by decide) lm_0 rfl rfl ml_X11_169 (by decide) rfl rfl (Nat.le_of_ble_eq_true rfl) (fun _ h9 => ok_X11_isDigit X  h9) dX11_number_1 (fun r1 M2 => ?_)
  refine tj_if_ne (pc := 4) G (tgt := 9) (a2 := w32 r1) dX11_number_4 (by decide) rfl ?_ ?_
  · refine tj_iconst (pc := 9) G dX11_number_9 ?_
    refine tj_istore_n (pc := 10) G (fun x3 => [(2, vI x3), (0, vR X 0), (1, vI a1)]) dX11_number_10 rfl (by decide) (fun _ => rfl) (fun x3 => ?_)
    refine tj_iconst (pc := 11) G dX11_number_11 ?_
    refine tj_istore_n (pc := 12) G (fun x4 => [(3, vI x4), (2, vI x3), (0, vR X 0), (1, vI a1)]) dX11_number_12 rfl (by decide) (fun _ => rfl) (fun x4 => ?_)
    refine tj_sub [2, 3, 1, 0] rfl (fx_X11_number_L13_ok G     tp_F x3 x4 M2)
  refine tj_iconst (pc := 7) G dX11_number_7 ?_
  exact tj_iret (pc := 8) G dX11_number_8

def fx_X11_digitIn  (a1 : Int) (a2 : Int) (M : tp_M) : tp_O :=
(if w32 (M 0 10) < w32 (M 0 11) then
(tp_ck (w32 (M 0 10)) 80 (tp_bd (fx_X11_in (w32 ((M 6 (w32 (M 0 10))) - 48)) (w32 a1) (w32 a2) M) (fun r1 M2 =>
(if w32 r1 = 0 then
(some ((-1), M2))
else
(tp_lm (tp_up M2 0 10 ((M2 0 10) + 1)) (fun M3 =>
(tp_ck (w32 ((M3 0 10) - 1)) 80 (some ((M3 6 (w32 ((M3 0 10) - 1))) - 48, M3)))))))))
else
(some ((-1), M)))
set_option maxRecDepth 100000 in
set_option maxHeartbeats 4000000 in
theorem ok_X11_digitIn (X : tp_X)  {a1 : Int} {a2 : Int}  {M : tp_M} {res : Int × tp_M} (h : fx_X11_digitIn  a1 a2 M = some res) : tp_Ret X LM 34 1 yX11_digitIn (Cond.code yX11_digitIn cX11_digitIn 3 (some .int)) 2 [vR X 0, vI a1, vI a2] M res := by
  refine tp_ofW (by decide +kernel) rfl rfl (by show _ ≤ 3; exact Nat.le_of_ble_eq_true rfl) h (fun Y G => ?_)
  show tp_J X Y LM 34 3 2 1 (fx_X11_digitIn  a1 a2 M) M [(0, vR X 0), (1, vI a1), (2, vI a2)] [] 0
  unfold fx_X11_digitIn
  refine tj_aload_n (pc := 0) G 0 dX11_digitIn_0 rfl rfl ?_
  refine tj_getI (pc := 1) G (k := 0) (j := 10) (j2 := 10) tk_X11 (by decide) lm_0 rfl (by decide) rfl fl_X11_136 dX11_digitIn_1 ?_
  refine tj_aload_n (pc := 4) G 0 dX11_digitIn_4 rfl rfl ?_
  refine tj_getI (pc := 5) G (k := 0) (j := 11) (j2 := 11) tk_X11 (by decide) lm_0 rfl (by decide) rfl fl_X11_148 dX11_digitIn_5 ?_
  refine tj_icmp_ge (pc := 8) G (tgt := 34) (a2 := w32 (M 0 10)) (b2 := w32 (M 0 11)) dX11_digitIn_8 (by decide) rfl rfl ?_ ?_
  · refine tj_iconst (pc := 34) G dX11_digitIn_34 ?_
    exact tj_iret (pc := 35) G dX11_digitIn_35
  refine tj_aload_n (pc := 11) G 0 dX11_digitIn_11 rfl rfl ?_
  refine tj_getR (pc := 12) G (k := 0) (j := 8) (j2 := 8) tk_X11 (by decide) lm_0 rfl (by decide) rfl fl_X11_44 dX11_digitIn_12 ?_
  refine tj_aload_n (pc := 15) G 0 dX11_digitIn_15 rfl rfl ?_
  refine tj_getI (pc := 16) G (k := 0) (j := 10) (j2 := 10) tk_X11 (by decide) lm_0 rfl (by decide) rfl fl_X11_136 dX11_digitIn_16 ?_
  refine tj_iald (pc := 19) G (k := 6) (i2 := w32 (M 0 10)) (n2 := 80) (by decide) lm_6 rfl rfl dX11_digitIn_19 ?_
  refine tj_bipush (pc := 20) G dX11_digitIn_20 rfl ?_
  refine tj_isub (pc := 22) G dX11_digitIn_22 ?_
  refine tj_i2l (pc := 23) G (b := w32 ((M 6 (w32 (M 0 10))) - 48)) dX11_digitIn_23 rfl ?_
  refine tj_iload_n (pc := 24) G 1 dX11_digitIn_24 rfl rfl ?_
  refine tj_i2l (pc := 25) G (b := w32 a1) dX11_digitIn_25 rfl ?_
  refine tj_iload_n (pc := 26) G 2 dX11_digitIn_26 rfl rfl ?_
  refine tj_i2l (pc := 27) G (b := w32 a2) dX11_digitIn_27 rfl ?_
  refine tj_callSi (pc := 28) G [vL (w32 ((M 6 (w32 (M 0 10))) - 48)), vL (w32 a1), vL (w32 a2)] mf_X11_in ml_X11_129 (by decide) rfl rfl (Nat.le_of_ble_eq_true rfl) (fun _ h9 => ok_X11_in X  h9) dX11_digitIn_28 (fun r1 M2 => ?_)
  refine tj_if_ne (pc := 31) G (tgt := 36) (a2 := w32 r1) dX11_digitIn_31 (by decide) rfl ?_ ?_
  · refine tj_aload_n (pc := 36) G 0 dX11_digitIn_36 rfl rfl ?_
    refine tj_dup (pc := 37) G dX11_digitIn_37 rfl ?_
    refine tj_getI (pc := 38) G (k := 0) (j := 10) (j2 := 10) tk_X11 (by decide) lm_0 rfl (by decide) rfl fl_X11_136 dX11_digitIn_38 ?_
    refine tj_iconst (pc := 41) G dX11_digitIn_41 ?_
    refine tj_iadd (pc := 42) G dX11_digitIn_42 ?_
    refine tj_putI (pc := 43) G (k := 0) (j := 10) (j2 := 10) tk_X11 (by decide) lm_0 rfl (by decide) rfl fl_X11_136 rfl rfl dX11_digitIn_43 (fun M3 => ?_)
    refine tj_aload_n (pc := 46) G 0 dX11_digitIn_46 rfl rfl ?_
    refine tj_getR (pc := 47) G (k := 0) (j := 8) (j2 := 8) tk_X11 (by decide) lm_0 rfl (by decide) rfl fl_X11_44 dX11_digitIn_47 ?_
    refine tj_aload_n (pc := 50) G 0 dX11_digitIn_50 rfl rfl ?_
    refine tj_getI (pc := 51) G (k := 0) (j := 10) (j2 := 10) tk_X11 (by decide) lm_0 rfl (by decide) rfl fl_X11_136 dX11_digitIn_51 ?_
    refine tj_iconst (pc := 54) G dX11_digitIn_54 ?_
    refine tj_isub (pc := 55) G dX11_digitIn_55 ?_
    refine tj_iald (pc := 56) G (k := 6) (i2 := w32 ((M3 0 10) - 1)) (n2 := 80) (by decide) lm_6 rfl rfl dX11_digitIn_56 ?_
    refine tj_bipush (pc := 57) G dX11_digitIn_57 rfl ?_
    refine tj_isub (pc := 59) G dX11_digitIn_59 ?_
    exact tj_iret (pc := 60) G dX11_digitIn_60
  refine tj_iconst (pc := 34) G dX11_digitIn_34 ?_
  exact tj_iret (pc := 35) G dX11_digitIn_35

def fx_X11_faultOf  (a1 : Int) (a2 : Int) (a3 : Int) (M : tp_M) : tp_O :=
(tp_jn1 (fun y1 M2 => 
(tp_lt y1 (fun x3 =>
(tp_jn0 (fun M4 => 
(if w32 x3 = 0 then
(some ((-1) - (M4 0 10), M4))
else
(some (0, M4)))) (fun jk44 =>
(if w32 a1 ≤ w32 a2 then
(jk44 M2)
else
(if w32 x3 = 0 then
(if w32 (M2 0 10) < w32 a2 then
(jk44 M2)
else
(some ((-1) - a2, M2)))
else
(some ((-1) - a2, M2))))))))) (fun jk20 =>
(tp_jn0 (fun M5 => 
(jk20 0 M5)) (fun jk19 =>
(if w32 a3 = 0 then
(jk19 M)
else
(if w32 (M 0 10) = w32 (M 0 11) then
(jk20 1 M)
else
(jk19 M)))))))
set_option maxRecDepth 100000 in
set_option maxHeartbeats 4000000 in
theorem ok_X11_faultOf (X : tp_X)  {a1 : Int} {a2 : Int} {a3 : Int}  {M : tp_M} {res : Int × tp_M} (h : fx_X11_faultOf  a1 a2 a3 M = some res) : tp_Ret X LM 34 1 yX11_faultOf (Cond.code yX11_faultOf cX11_faultOf 5 (some .int)) 1 [vR X 0, vI a1, vI a2, vI a3] M res := by
  refine tp_ofW (by decide +kernel) rfl rfl (by show _ ≤ 5; exact Nat.le_of_ble_eq_true rfl) h (fun Y G => ?_)
  show tp_J X Y LM 34 5 1 1 (fx_X11_faultOf  a1 a2 a3 M) M [(0, vR X 0), (1, vI a1), (2, vI a2), (3, vI a3)] [] 0
  unfold fx_X11_faultOf
  refine tj_iload_n (pc := 0) G 3 dX11_faultOf_0 rfl rfl ?_
  refine tj_jn1 (fun y1 => [(0, vR X 0), (1, vI a1), (2, vI a2)]) (fun y1 => [vI y1]) 20 (fun y1 M2 => ?_) (fun jk20 hj20 => ?_)
  · refine tj_istore (pc := 20) G (fun x3 => [(4, vI x3), (0, vR X 0), (1, vI a1), (2, vI a2)]) dX11_faultOf_20 (by decide) (fun _ => rfl) (fun x3 => ?_)
    refine tj_iload_n (pc := 22) G 2 dX11_faultOf_22 rfl rfl ?_
    refine tj_iload_n (pc := 23) G 3 dX11_faultOf_23 rfl rfl ?_
    refine tj_jn0 [(0, vR X 0), (4, vI x3)] [] 44 (fun M4 => ?_) (fun jk44 hj44 => ?_)
    · refine tj_iload (pc := 44) G 1 dX11_faultOf_44 rfl ?_
      refine tj_if_eq (pc := 46) G (tgt := 53) (a2 := w32 x3) dX11_faultOf_46 (by decide) rfl ?_ ?_
      · refine tj_iconst (pc := 53) G dX11_faultOf_53 ?_
        refine tj_aload_n (pc := 54) G 0 dX11_faultOf_54 rfl rfl ?_
        refine tj_getI (pc := 55) G (k := 0) (j := 10) (j2 := 10) tk_X11 (by decide) lm_0 rfl (by decide) rfl fl_X11_136 dX11_faultOf_55 ?_
        refine tj_isub (pc := 58) G dX11_faultOf_58 ?_
        exact tj_iret (pc := 59) G dX11_faultOf_59
      refine tj_iconst (pc := 49) G dX11_faultOf_49 ?_
      refine tj_goto (pc := 50) G (tgt := 59) dX11_faultOf_50 (by decide) ?_
      exact tj_iret (pc := 59) G dX11_faultOf_59
    refine tj_icmp_le (pc := 24) G (tgt := 44) (a2 := w32 a1) (b2 := w32 a2) dX11_faultOf_24 (by decide) rfl rfl ?_ ?_
    · exact tj_sub [1, 0] rfl (hj44  M2)
    refine tj_iload (pc := 27) G 0 dX11_faultOf_27 rfl ?_
    refine tj_if_ne (pc := 29) G (tgt := 40) (a2 := w32 x3) dX11_faultOf_29 (by decide) rfl ?_ ?_
    · refine tj_iconst (pc := 40) G dX11_faultOf_40 ?_
      refine tj_iload_n (pc := 41) G 3 dX11_faultOf_41 rfl rfl ?_
      refine tj_isub (pc := 42) G dX11_faultOf_42 ?_
      exact tj_iret (pc := 43) G dX11_faultOf_43
    refine tj_aload_n (pc := 32) G 1 dX11_faultOf_32 rfl rfl ?_
    refine tj_getI (pc := 33) G (k := 0) (j := 10) (j2 := 10) tk_X11 (by decide) lm_0 rfl (by decide) rfl fl_X11_136 dX11_faultOf_33 ?_
    refine tj_iload_n (pc := 36) G 3 dX11_faultOf_36 rfl rfl ?_
    refine tj_icmp_lt (pc := 37) G (tgt := 44) (a2 := w32 (M2 0 10)) (b2 := w32 a2) dX11_faultOf_37 (by decide) rfl rfl ?_ ?_
    · exact tj_sub [1, 0] rfl (hj44  M2)
    refine tj_iconst (pc := 40) G dX11_faultOf_40 ?_
    refine tj_iload_n (pc := 41) G 3 dX11_faultOf_41 rfl rfl ?_
    refine tj_isub (pc := 42) G dX11_faultOf_42 ?_
    exact tj_iret (pc := 43) G dX11_faultOf_43
  refine tj_jn0 [(0, vR X 0), (1, vI a1), (2, vI a2)] [] 19 (fun M5 => ?_) (fun jk19 hj19 => ?_)
  · refine tj_iconst (pc := 19) G dX11_faultOf_19 ?_
    exact tj_sub [0, 1, 2] rfl (hj20 0 M5)
  refine tj_if_eq (pc := 1) G (tgt := 19) (a2 := w32 a3) dX11_faultOf_1 (by decide) rfl ?_ ?_
  · exact tj_sub [0, 1, 2] rfl (hj19  M)
  refine tj_aload_n (pc := 4) G 0 dX11_faultOf_4 rfl rfl ?_
  refine tj_getI (pc := 5) G (k := 0) (j := 10) (j2 := 10) tk_X11 (by decide) lm_0 rfl (by decide) rfl fl_X11_136 dX11_faultOf_5 ?_
  refine tj_aload_n (pc := 8) G 0 dX11_faultOf_8 rfl rfl ?_
  refine tj_getI (pc := 9) G (k := 0) (j := 11) (j2 := 11) tk_X11 (by decide) lm_0 rfl (by decide) rfl fl_X11_148 dX11_faultOf_9 ?_
  refine tj_icmp_ne (pc := 12) G (tgt := 19) (a2 := w32 (M 0 10)) (b2 := w32 (M 0 11)) dX11_faultOf_12 (by decide) rfl rfl ?_ ?_
  · exact tj_sub [0, 1, 2] rfl (hj19  M)
  refine tj_iconst (pc := 15) G dX11_faultOf_15 ?_
  refine tj_goto (pc := 16) G (tgt := 20) dX11_faultOf_16 (by decide) ?_
  exact tj_sub [0, 1, 2] rfl (hj20 1 M)

def fx_X11_digitOf  (a1 : Int) (M : tp_M) : tp_O :=
(tp_bd (fx_X11_digitIn 0 7 M) (fun r1 M2 =>
(tp_lt r1 (fun x3 =>
(tp_jn1 (fun y4 M5 => 
(tp_bd (fx_X11_flag y4 M5) (fun r6 M7 =>
(tp_lm (tp_up M7 0 10 ((M2 0 10) - r6)) (fun M8 =>
(if w32 x3 = w32 a1 then
(some ((-1), M8))
else
(some (x3, M8)))))))) (fun jk23 =>
(if w32 x3 = w32 a1 then
(jk23 1 M2)
else
(jk23 0 M2))))))))
set_option maxRecDepth 100000 in
set_option maxHeartbeats 4000000 in
theorem ok_X11_digitOf (X : tp_X)  {a1 : Int}  {M : tp_M} {res : Int × tp_M} (h : fx_X11_digitOf  a1 M = some res) : tp_Ret X LM 34 1 yX11_digitOf (Cond.code yX11_digitOf cX11_digitOf 3 (some .int)) 3 [vR X 0, vI a1] M res := by
  refine tp_ofW (by decide +kernel) rfl rfl (by show _ ≤ 3; exact Nat.le_of_ble_eq_true rfl) h (fun Y G => ?_)
  show tp_J X Y LM 34 3 3 1 (fx_X11_digitOf  a1 M) M [(0, vR X 0), (1, vI a1)] [] 0
  unfold fx_X11_digitOf
  refine tj_aload_n (pc := 0) G 0 dX11_digitOf_0 rfl rfl ?_
  refine tj_iconst (pc := 1) G dX11_digitOf_1 ?_
  refine tj_bipush (pc := 2) G dX11_digitOf_2 rfl ?_
  refine tj_callVi (pc := 4) G [vI 0, vI 7] mf_X11_digitIn (k := 0) (by decide) lm_0 rfl rfl ml_X11_173 (by decide) rfl rfl (Nat.le_of_ble_eq_true rfl) (fun _ h9 => ok_X11_digitIn X  h9) dX11_digitOf_4 (fun r1 M2 => ?_)
  refine tj_istore_n (pc := 7) G (fun x3 => [(2, vI x3), (0, vR X 0), (1, vI a1)]) dX11_digitOf_7 rfl (by decide) (fun _ => rfl) (fun x3 => ?_)
  refine tj_aload_n (pc := 8) G 1 dX11_digitOf_8 rfl rfl ?_
  refine tj_dup (pc := 9) G dX11_digitOf_9 rfl ?_
  refine tj_getI (pc := 10) G (k := 0) (j := 10) (j2 := 10) tk_X11 (by decide) lm_0 rfl (by decide) rfl fl_X11_136 dX11_digitOf_10 ?_
  refine tj_iload_n (pc := 13) G 0 dX11_digitOf_13 rfl rfl ?_
  refine tj_iload_n (pc := 14) G 2 dX11_digitOf_14 rfl rfl ?_
  refine tj_jn1 (fun y4 => [(1, vI a1), (2, vI x3)]) (fun y4 => [vI y4, vI (M2 0 10), vR X 0]) 23 (fun y4 M5 => ?_) (fun jk23 hj23 => ?_)
  · refine tj_callSi (pc := 23) G [vI y4] mf_X11_flag ml_X11_151 (by decide) rfl rfl (Nat.le_of_ble_eq_true rfl) (fun _ h9 => ok_X11_flag X  h9) dX11_digitOf_23 (fun r6 M7 => ?_)
    refine tj_isub (pc := 26) G dX11_digitOf_26 ?_
    refine tj_putI (pc := 27) G (k := 0) (j := 10) (j2 := 10) tk_X11 (by decide) lm_0 rfl (by decide) rfl fl_X11_136 rfl rfl dX11_digitOf_27 (fun M8 => ?_)
    refine tj_iload_n (pc := 30) G 1 dX11_digitOf_30 rfl rfl ?_
    refine tj_iload_n (pc := 31) G 0 dX11_digitOf_31 rfl rfl ?_
    refine tj_icmp_ne (pc := 32) G (tgt := 39) (a2 := w32 x3) (b2 := w32 a1) dX11_digitOf_32 (by decide) rfl rfl ?_ ?_
    · refine tj_iload_n (pc := 39) G 1 dX11_digitOf_39 rfl rfl ?_
      exact tj_iret (pc := 40) G dX11_digitOf_40
    refine tj_iconst (pc := 35) G dX11_digitOf_35 ?_
    refine tj_goto (pc := 36) G (tgt := 40) dX11_digitOf_36 (by decide) ?_
    exact tj_iret (pc := 40) G dX11_digitOf_40
  refine tj_icmp_ne (pc := 15) G (tgt := 22) (a2 := w32 x3) (b2 := w32 a1) dX11_digitOf_15 (by decide) rfl rfl ?_ ?_
  · refine tj_iconst (pc := 22) G dX11_digitOf_22 ?_
    exact tj_sub [2, 0] rfl (hj23 0 M2)
  refine tj_iconst (pc := 18) G dX11_digitOf_18 ?_
  refine tj_goto (pc := 19) G (tgt := 23) dX11_digitOf_19 (by decide) ?_
  exact tj_sub [2, 0] rfl (hj23 1 M2)

def fx_X11_readsLine_L19 (c1 : Int) (K83 : Int → Int → tp_M → tp_O) (rec : Int → Int → tp_M → tp_O) (z4 z5 : Int) (M6 : tp_M) : tp_O :=
(if w32 z5 = 0 then
(K83 z4 z5 M6)
else
(tp_jn0 (fun M9 => 
(tp_jn1 (fun y10 M11 => 
(tp_lt y10 (fun x12 =>
(tp_jn1 (fun y13 M14 => 
(tp_lt y13 (fun x15 =>
(tp_jn1 (fun y16 M17 => 
(rec y16 x15 M17)) (fun jk80 =>
(if w32 x15 = 0 then
(jk80 z4 M14)
else
(tp_ck (w32 ((4 * c1) + z4)) 32 (tp_lm (tp_up M14 8 (w32 ((4 * c1) + z4)) x12) (fun M18 =>
(tp_lt (z4 + 1) (fun x19 =>
(jk80 x19 M18)))))))))))) (fun jk60 =>
(if w32 x12 < 0 then
(jk60 0 M11)
else
(jk60 1 M11))))))) (fun jk48 =>
(if w32 z4 < 4 then
(tp_bd (fx_X11_digitOf c1 M9) (fun r20 M21 =>
(jk48 r20 M21)))
else
(jk48 (-1) M9))))) (fun jk34 =>
(if w32 z4 = 0 then
(jk34 M6)
else
(tp_bd (fx_X11_isDigit  M6) (fun r22 M23 =>
(if w32 r22 = 0 then
(K83 z4 z5 M23)
else
(jk34 M23))))))))
def fx_X11_readsLine   (M : tp_M) : tp_O :=
(tp_lt ((M 0 15) + 1) (fun x1 =>
(if w32 x1 = 8 then
(some (0, M))
else
(tp_lt 0 (fun x2 =>
(tp_lt 1 (fun x3 =>
(tp_lp2 (fx_X11_readsLine_L19 x1 (fun y7 y8 M24 =>
(tp_ck (w32 x1) 8 (tp_lm (tp_up M24 7 (w32 x1) y7) (fun M25 =>
(tp_lm (tp_up M25 0 15 ((M25 0 15) + 1)) (fun M26 =>
(tp_gd (w32 y8 = 0 ∨ w32 y8 = 1) inferInstance (some (y8, M26)))))))))) tp_F x2 x3 M))))))))
set_option maxRecDepth 100000 in
set_option maxHeartbeats 4000000 in
theorem fx_X11_readsLine_L19_ok {X : tp_X} {Y : tp_Y} (G : tp_Ok X Y 34 cX11_readsLine 5 RX11 (some .boolean))  {c1 : Int} {K83 : Int → Int → tp_M → tp_O}   (hK83 : ∀ (y7 y8 : Int) (M9 : tp_M), tp_J X Y LM 34 5 4 1 (K83 y7 y8 M9) M9 [(0, vR X 0), (1, vI c1), (2, vI y7), (3, vI y8)] [] 83) (n : Nat) : ∀ (z4 z5 : Int) (M6 : tp_M), tp_J X Y LM 34 5 4 1 (tp_lp2 (fx_X11_readsLine_L19  c1 K83) n z4 z5 M6) M6 [(0, vR X 0), (1, vI c1), (2, vI z4), (3, vI z5)] [] 19 := by
  refine tp_lp2_ok (P := fun o z4 z5 M6 => tp_J X Y LM 34 5 4 1 (o) M6 [(0, vR X 0), (1, vI c1), (2, vI z4), (3, vI z5)] [] 19) (fun z4 z5 M6 => tj_none) (fun rec hrec z4 z5 M6 => ?_) n
  unfold fx_X11_readsLine_L19
  refine tj_iload_n (pc := 19) G 3 dX11_readsLine_19 rfl rfl ?_
  refine tj_if_eq (pc := 20) G (tgt := 83) (a2 := w32 z5) dX11_readsLine_20 (by decide) rfl ?_ ?_
  · exact tj_sub [0, 1, 2, 3] rfl (hK83 z4 z5 M6)
  refine tj_iload_n (pc := 23) G 2 dX11_readsLine_23 rfl rfl ?_
  refine tj_jn0 [(0, vR X 0), (1, vI c1), (2, vI z4)] [] 34 (fun M9 => ?_) (fun jk34 hj34 => ?_)
  · refine tj_iload_n (pc := 34) G 2 dX11_readsLine_34 rfl rfl ?_
    refine tj_iconst (pc := 35) G dX11_readsLine_35 ?_
    refine tj_jn1 (fun y10 => [(0, vR X 0), (1, vI c1), (2, vI z4)]) (fun y10 => [vI y10]) 48 (fun y10 M11 => ?_) (fun jk48 hj48 => ?_)
    · refine tj_istore (pc := 48) G (fun x12 => [(4, vI x12), (0, vR X 0), (1, vI c1), (2, vI z4)]) dX11_readsLine_48 (by decide) (fun _ => rfl) (fun x12 => ?_)
      refine tj_iload (pc := 50) G 0 dX11_readsLine_50 rfl ?_
      refine tj_jn1 (fun y13 => [(0, vR X 0), (1, vI c1), (2, vI z4), (4, vI x12)]) (fun y13 => [vI y13]) 60 (fun y13 M14 => ?_) (fun jk60 hj60 => ?_)
      · refine tj_istore_n (pc := 60) G (fun x15 => [(3, vI x15), (0, vR X 0), (1, vI c1), (2, vI z4), (4, vI x12)]) dX11_readsLine_60 rfl (by decide) (fun _ => rfl) (fun x15 => ?_)
        refine tj_iload_n (pc := 61) G 0 dX11_readsLine_61 rfl rfl ?_
        refine tj_jn1 (fun y16 => [(0, vR X 0), (1, vI c1), (2, vI y16), (3, vI x15)]) (fun y16 => []) 80 (fun y16 M17 => ?_) (fun jk80 hj80 => ?_)
        · refine tj_goto (pc := 80) G (tgt := 19) dX11_readsLine_80 (by decide) ?_
          exact tj_sub [0, 1, 2, 3] rfl (hrec y16 x15 M17)
        refine tj_if_eq (pc := 62) G (tgt := 80) (a2 := w32 x15) dX11_readsLine_62 (by decide) rfl ?_ ?_
        · exact tj_sub [1, 2, 3, 0] rfl (hj80 z4 M14)
        refine tj_aload_n (pc := 65) G 1 dX11_readsLine_65 rfl rfl ?_
        refine tj_getR (pc := 66) G (k := 0) (j := 14) (j2 := 14) tk_X11 (by decide) lm_0 rfl (by decide) rfl fl_X11_50 dX11_readsLine_66 ?_
        refine tj_iconst (pc := 69) G dX11_readsLine_69 ?_
        refine tj_iload_n (pc := 70) G 2 dX11_readsLine_70 rfl rfl ?_
        refine tj_imul (pc := 71) G dX11_readsLine_71 ?_
        refine tj_iload_n (pc := 72) G 3 dX11_readsLine_72 rfl rfl ?_
        refine tj_iadd (pc := 73) G dX11_readsLine_73 ?_
        refine tj_iload (pc := 74) G 4 dX11_readsLine_74 rfl ?_
        refine tj_iast (pc := 76) G (k := 8) (i2 := w32 ((4 * c1) + z4)) (n2 := 32) (by decide) lm_8 rfl rfl dX11_readsLine_76 (fun M18 => ?_)
        refine tj_iinc (pc := 77) G 3 (fun x19 => [(2, vI x19), (3, vI x15), (0, vR X 0), (1, vI c1), (4, vI x12)]) dX11_readsLine_77 rfl (by decide) (fun _ => rfl) (fun x19 => ?_)
        exact tj_sub [2, 3, 0, 1] rfl (hj80 x19 M18)
      refine tj_if_lt (pc := 52) G (tgt := 59) (a2 := w32 x12) dX11_readsLine_52 (by decide) rfl ?_ ?_
      · refine tj_iconst (pc := 59) G dX11_readsLine_59 ?_
        exact tj_sub [1, 2, 3, 0] rfl (hj60 0 M11)
      refine tj_iconst (pc := 55) G dX11_readsLine_55 ?_
      refine tj_goto (pc := 56) G (tgt := 60) dX11_readsLine_56 (by decide) ?_
      exact tj_sub [1, 2, 3, 0] rfl (hj60 1 M11)
    refine tj_icmp_ge (pc := 36) G (tgt := 47) (a2 := w32 z4) (b2 := 4) dX11_readsLine_36 (by decide) rfl rfl ?_ ?_
    · refine tj_iconst (pc := 47) G dX11_readsLine_47 ?_
      exact tj_sub [0, 1, 2] rfl (hj48 (-1) M9)
    refine tj_aload_n (pc := 39) G 0 dX11_readsLine_39 rfl rfl ?_
    refine tj_iload_n (pc := 40) G 1 dX11_readsLine_40 rfl rfl ?_
    refine tj_callVi (pc := 41) G [vI c1] mf_X11_digitOf (k := 0) (by decide) lm_0 rfl rfl ml_X11_179 (by decide) rfl rfl (Nat.le_of_ble_eq_true rfl) (fun _ h9 => ok_X11_digitOf X  h9) dX11_readsLine_41 (fun r20 M21 => ?_)
    refine tj_goto (pc := 44) G (tgt := 48) dX11_readsLine_44 (by decide) ?_
    exact tj_sub [0, 1, 2] rfl (hj48 r20 M21)
  refine tj_if_eq (pc := 24) G (tgt := 34) (a2 := w32 z4) dX11_readsLine_24 (by decide) rfl ?_ ?_
  · exact tj_sub [0, 1, 2] rfl (hj34  M6)
  refine tj_aload_n (pc := 27) G 0 dX11_readsLine_27 rfl rfl ?_
  refine tj_callVi (pc := 28) G [] mf_X11_isDigit (k := 0) (by decide) lm_0 rfl rfl ml_X11_169 (by decide) rfl rfl (Nat.le_of_ble_eq_true rfl) (fun _ h9 => ok_X11_isDigit X  h9) dX11_readsLine_28 (fun r22 M23 => ?_)
  refine tj_if_eq (pc := 31) G (tgt := 83) (a2 := w32 r22) dX11_readsLine_31 (by decide) rfl ?_ ?_
  · exact tj_sub [0, 1, 2, 3] rfl (hK83 z4 z5 M23)
  exact tj_sub [0, 1, 2] rfl (hj34  M23)
set_option maxRecDepth 100000 in
set_option maxHeartbeats 4000000 in
theorem ok_X11_readsLine (X : tp_X)    {M : tp_M} {res : Int × tp_M} (h : fx_X11_readsLine   M = some res) : tp_Ret X LM 34 1 yX11_readsLine (Cond.code yX11_readsLine cX11_readsLine 5 (some .boolean)) 4 [vR X 0] M res := by
  refine tp_ofW (by decide +kernel) rfl rfl (by show _ ≤ 5; exact Nat.le_of_ble_eq_true rfl) h (fun Y G => ?_)
  show tp_J X Y LM 34 5 4 1 (fx_X11_readsLine   M) M [(0, vR X 0)] [] 0
  unfold fx_X11_readsLine
  refine tj_aload_n (pc := 0) G 0 dX11_readsLine_0 rfl rfl ?_
  refine tj_getI (pc := 1) G (k := 0) (j := 15) (j2 := 15) tk_X11 (by decide) lm_0 rfl (by decide) rfl fl_X11_176 dX11_readsLine_1 ?_
  refine tj_iconst (pc := 4) G dX11_readsLine_4 ?_
  refine tj_iadd (pc := 5) G dX11_readsLine_5 ?_
  refine tj_istore_n (pc := 6) G (fun x1 => [(1, vI x1), (0, vR X 0)]) dX11_readsLine_6 rfl (by decide) (fun _ => rfl) (fun x1 => ?_)
  refine tj_iload_n (pc := 7) G 0 dX11_readsLine_7 rfl rfl ?_
  refine tj_bipush (pc := 8) G dX11_readsLine_8 rfl ?_
  refine tj_icmp_ne (pc := 10) G (tgt := 15) (a2 := w32 x1) (b2 := 8) dX11_readsLine_10 (by decide) rfl rfl ?_ ?_
  · refine tj_iconst (pc := 15) G dX11_readsLine_15 ?_
    refine tj_istore_n (pc := 16) G (fun x2 => [(2, vI x2), (1, vI x1), (0, vR X 0)]) dX11_readsLine_16 rfl (by decide) (fun _ => rfl) (fun x2 => ?_)
    refine tj_iconst (pc := 17) G dX11_readsLine_17 ?_
    refine tj_istore_n (pc := 18) G (fun x3 => [(3, vI x3), (2, vI x2), (1, vI x1), (0, vR X 0)]) dX11_readsLine_18 rfl (by decide) (fun _ => rfl) (fun x3 => ?_)
    refine tj_sub [3, 2, 1, 0] rfl (fx_X11_readsLine_L19_ok G    (fun y7 y8 M24 => ?_) tp_F x2 x3 M)
    refine tj_aload_n (pc := 83) G 0 dX11_readsLine_83 rfl rfl ?_
    refine tj_getR (pc := 84) G (k := 0) (j := 13) (j2 := 13) tk_X11 (by decide) lm_0 rfl (by decide) rfl fl_X11_47 dX11_readsLine_84 ?_
    refine tj_iload_n (pc := 87) G 1 dX11_readsLine_87 rfl rfl ?_
    refine tj_iload_n (pc := 88) G 2 dX11_readsLine_88 rfl rfl ?_
    refine tj_iast (pc := 89) G (k := 7) (i2 := w32 x1) (n2 := 8) (by decide) lm_7 rfl rfl dX11_readsLine_89 (fun M25 => ?_)
    refine tj_aload_n (pc := 90) G 0 dX11_readsLine_90 rfl rfl ?_
    refine tj_dup (pc := 91) G dX11_readsLine_91 rfl ?_
    refine tj_getI (pc := 92) G (k := 0) (j := 15) (j2 := 15) tk_X11 (by decide) lm_0 rfl (by decide) rfl fl_X11_176 dX11_readsLine_92 ?_
    refine tj_iconst (pc := 95) G dX11_readsLine_95 ?_
    refine tj_iadd (pc := 96) G dX11_readsLine_96 ?_
    refine tj_putI (pc := 97) G (k := 0) (j := 15) (j2 := 15) tk_X11 (by decide) lm_0 rfl (by decide) rfl fl_X11_176 rfl rfl dX11_readsLine_97 (fun M26 => ?_)
    refine tj_iload_n (pc := 100) G 3 dX11_readsLine_100 rfl rfl ?_
    exact tj_gd (fun hz => tj_zret (pc := 101) G hz dX11_readsLine_101)
  refine tj_iconst (pc := 13) G dX11_readsLine_13 ?_
  exact tj_zret (pc := 14) G (by decide) dX11_readsLine_14

def fx_X11_allCome_L23 (c2 : Int) (c3 : Int) (K68 : Int → tp_M → tp_O) (rec : Int → Int → tp_M → tp_O) (z13 z14 : Int) (M15 : tp_M) : tp_O :=
(tp_ck (w32 c3) 8 (if w32 z14 < w32 (M15 7 (w32 c3)) then
(tp_ck (w32 ((4 * c3) + z14)) 32 (tp_bd (fx_X11_has z13 (M15 8 (w32 ((4 * c3) + z14))) M15) (fun r17 M18 =>
(tp_jn1 (fun y19 M20 => 
(tp_lt (x_or z13 y19) (fun x21 =>
(tp_lt (z14 + 1) (fun x22 =>
(rec x21 x22 M20)))))) (fun jk60 =>
(if w32 r17 = 0 then
(jk60 0 M18)
else
(jk60 (x_shl 1 c3) M18)))))))
else
(K68 z13 M15)))
def fx_X11_allCome_L12 (c2 : Int) (K74 : Int → tp_M → tp_O) (rec : Int → Int → tp_M → tp_O) (z8 z9 : Int) (M10 : tp_M) : tp_O :=
(if w32 z9 ≤ w32 (M10 0 15) then
(tp_lt 0 (fun x12 =>
(tp_lp2 (fx_X11_allCome_L23 c2 z9 (fun y16 M23 =>
(tp_lt (z9 + 1) (fun x24 =>
(rec y16 x24 M23))))) tp_F z8 x12 M10)))
else
(K74 z8 M10))
def fx_X11_allCome_L4  (K80 : Int → tp_M → tp_O) (rec : Int → Int → tp_M → tp_O) (z3 z4 : Int) (M5 : tp_M) : tp_O :=
(if w32 z4 < 8 then
(tp_lt 1 (fun x7 =>
(tp_lp2 (fx_X11_allCome_L12 z4 (fun y11 M25 =>
(tp_lt (z4 + 1) (fun x26 =>
(rec y11 x26 M25))))) tp_F z3 x7 M5)))
else
(K80 z3 M5))
def fx_X11_allCome   (M : tp_M) : tp_O :=
(tp_lt 1 (fun x1 =>
(tp_lt 0 (fun x2 =>
(tp_lp2 (fx_X11_allCome_L4  (fun y6 M27 =>
(if w32 y6 = w32 ((x_shl 1 ((M27 0 15) + 1)) - 1) then
(some (1, M27))
else
(some (0, M27))))) tp_F x1 x2 M)))))
set_option maxRecDepth 100000 in
set_option maxHeartbeats 4000000 in
theorem fx_X11_allCome_L23_ok {X : tp_X} {Y : tp_Y} (G : tp_Ok X Y 34 cX11_allCome 5 RX11 (some .boolean))  {c2 : Int} {c3 : Int} {K68 : Int → tp_M → tp_O}   (hK68 : ∀ (y16 : Int) (M9 : tp_M), tp_J X Y LM 34 5 2 1 (K68 y16 M9) M9 [(0, vR X 0), (1, vI y16), (2, vI c2), (3, vI c3)] [] 68) (n : Nat) : ∀ (z13 z14 : Int) (M15 : tp_M), tp_J X Y LM 34 5 2 1 (tp_lp2 (fx_X11_allCome_L23  c2 c3 K68) n z13 z14 M15) M15 [(0, vR X 0), (1, vI z13), (2, vI c2), (3, vI c3), (4, vI z14)] [] 23 := by
  refine tp_lp2_ok (P := fun o z13 z14 M15 => tp_J X Y LM 34 5 2 1 (o) M15 [(0, vR X 0), (1, vI z13), (2, vI c2), (3, vI c3), (4, vI z14)] [] 23) (fun z13 z14 M15 => tj_none) (fun rec hrec z13 z14 M15 => ?_) n
  unfold fx_X11_allCome_L23
  refine tj_iload (pc := 23) G 4 dX11_allCome_23 rfl ?_
  refine tj_aload_n (pc := 25) G 0 dX11_allCome_25 rfl rfl ?_
  refine tj_getR (pc := 26) G (k := 0) (j := 13) (j2 := 13) tk_X11 (by decide) lm_0 rfl (by decide) rfl fl_X11_47 dX11_allCome_26 ?_
  refine tj_iload_n (pc := 29) G 3 dX11_allCome_29 rfl rfl ?_
  refine tj_iald (pc := 30) G (k := 7) (i2 := w32 c3) (n2 := 8) (by decide) lm_7 rfl rfl dX11_allCome_30 ?_
  refine tj_icmp_ge (pc := 31) G (tgt := 68) (a2 := w32 z14) (b2 := w32 (M15 7 (w32 c3))) dX11_allCome_31 (by decide) rfl rfl ?_ ?_
  · exact tj_sub [0, 1, 2, 3] rfl (hK68 z13 M15)
  refine tj_iload_n (pc := 34) G 1 dX11_allCome_34 rfl rfl ?_
  refine tj_iload_n (pc := 35) G 1 dX11_allCome_35 rfl rfl ?_
  refine tj_aload_n (pc := 36) G 0 dX11_allCome_36 rfl rfl ?_
  refine tj_getR (pc := 37) G (k := 0) (j := 14) (j2 := 14) tk_X11 (by decide) lm_0 rfl (by decide) rfl fl_X11_50 dX11_allCome_37 ?_
  refine tj_iconst (pc := 40) G dX11_allCome_40 ?_
  refine tj_iload_n (pc := 41) G 3 dX11_allCome_41 rfl rfl ?_
  refine tj_imul (pc := 42) G dX11_allCome_42 ?_
  refine tj_iload (pc := 43) G 4 dX11_allCome_43 rfl ?_
  refine tj_iadd (pc := 45) G dX11_allCome_45 ?_
  refine tj_iald (pc := 46) G (k := 8) (i2 := w32 ((4 * c3) + z14)) (n2 := 32) (by decide) lm_8 rfl rfl dX11_allCome_46 ?_
  refine tj_callSi (pc := 47) G [vI z13, vI (M15 8 (w32 ((4 * c3) + z14)))] mf_X11_has ml_X11_183 (by decide) rfl rfl (Nat.le_of_ble_eq_true rfl) (fun _ h9 => ok_X11_has X  h9) dX11_allCome_47 (fun r17 M18 => ?_)
  refine tj_jn1 (fun y19 => [(0, vR X 0), (2, vI c2), (3, vI c3), (4, vI z14)]) (fun y19 => [vI y19, vI z13]) 60 (fun y19 M20 => ?_) (fun jk60 hj60 => ?_)
  · refine tj_ior (pc := 60) G dX11_allCome_60 ?_
    refine tj_istore_n (pc := 61) G (fun x21 => [(1, vI x21), (0, vR X 0), (2, vI c2), (3, vI c3), (4, vI z14)]) dX11_allCome_61 rfl (by decide) (fun _ => rfl) (fun x21 => ?_)
    refine tj_iinc (pc := 62) G 4 (fun x22 => [(4, vI x22), (1, vI x21), (0, vR X 0), (2, vI c2), (3, vI c3)]) dX11_allCome_62 rfl (by decide) (fun _ => rfl) (fun x22 => ?_)
    refine tj_goto (pc := 65) G (tgt := 23) dX11_allCome_65 (by decide) ?_
    exact tj_sub [2, 1, 3, 4, 0] rfl (hrec x21 x22 M20)
  refine tj_if_eq (pc := 50) G (tgt := 59) (a2 := w32 r17) dX11_allCome_50 (by decide) rfl ?_ ?_
  · refine tj_iconst (pc := 59) G dX11_allCome_59 ?_
    exact tj_sub [0, 2, 3, 4] rfl (hj60 0 M18)
  refine tj_iconst (pc := 53) G dX11_allCome_53 ?_
  refine tj_iload_n (pc := 54) G 3 dX11_allCome_54 rfl rfl ?_
  refine tj_ishl (pc := 55) G dX11_allCome_55 ?_
  refine tj_goto (pc := 56) G (tgt := 60) dX11_allCome_56 (by decide) ?_
  exact tj_sub [0, 2, 3, 4] rfl (hj60 (x_shl 1 c3) M18)
set_option maxRecDepth 100000 in
set_option maxHeartbeats 4000000 in
theorem fx_X11_allCome_L12_ok {X : tp_X} {Y : tp_Y} (G : tp_Ok X Y 34 cX11_allCome 5 RX11 (some .boolean))  {c2 : Int} {K74 : Int → tp_M → tp_O}   (hK74 : ∀ (y11 : Int) (M9 : tp_M), tp_J X Y LM 34 5 2 1 (K74 y11 M9) M9 [(0, vR X 0), (1, vI y11), (2, vI c2)] [] 74) (n : Nat) : ∀ (z8 z9 : Int) (M10 : tp_M), tp_J X Y LM 34 5 2 1 (tp_lp2 (fx_X11_allCome_L12  c2 K74) n z8 z9 M10) M10 [(0, vR X 0), (1, vI z8), (2, vI c2), (3, vI z9)] [] 12 := by
  refine tp_lp2_ok (P := fun o z8 z9 M10 => tp_J X Y LM 34 5 2 1 (o) M10 [(0, vR X 0), (1, vI z8), (2, vI c2), (3, vI z9)] [] 12) (fun z8 z9 M10 => tj_none) (fun rec hrec z8 z9 M10 => ?_) n
  unfold fx_X11_allCome_L12
  refine tj_iload_n (pc := 12) G 3 dX11_allCome_12 rfl rfl ?_
  refine tj_aload_n (pc := 13) G 0 dX11_allCome_13 rfl rfl ?_
  refine tj_getI (pc := 14) G (k := 0) (j := 15) (j2 := 15) tk_X11 (by decide) lm_0 rfl (by decide) rfl fl_X11_176 dX11_allCome_14 ?_
  refine tj_icmp_gt (pc := 17) G (tgt := 74) (a2 := w32 z9) (b2 := w32 (M10 0 15)) dX11_allCome_17 (by decide) rfl rfl ?_ ?_
  · exact tj_sub [0, 1, 2] rfl (hK74 z8 M10)
  refine tj_iconst (pc := 20) G dX11_allCome_20 ?_
  refine tj_istore (pc := 21) G (fun x12 => [(4, vI x12), (0, vR X 0), (1, vI z8), (2, vI c2), (3, vI z9)]) dX11_allCome_21 (by decide) (fun _ => rfl) (fun x12 => ?_)
  refine tj_sub [1, 2, 3, 4, 0] rfl (fx_X11_allCome_L23_ok G    (fun y16 M23 => ?_) tp_F z8 x12 M10)
  refine tj_iinc (pc := 68) G 3 (fun x24 => [(3, vI x24), (0, vR X 0), (1, vI y16), (2, vI c2)]) dX11_allCome_68 rfl (by decide) (fun _ => rfl) (fun x24 => ?_)
  refine tj_goto (pc := 71) G (tgt := 12) dX11_allCome_71 (by decide) ?_
  exact tj_sub [1, 2, 3, 0] rfl (hrec y16 x24 M23)
set_option maxRecDepth 100000 in
set_option maxHeartbeats 4000000 in
theorem fx_X11_allCome_L4_ok {X : tp_X} {Y : tp_Y} (G : tp_Ok X Y 34 cX11_allCome 5 RX11 (some .boolean))  {K80 : Int → tp_M → tp_O}   (hK80 : ∀ (y6 : Int) (M9 : tp_M), tp_J X Y LM 34 5 2 1 (K80 y6 M9) M9 [(0, vR X 0), (1, vI y6)] [] 80) (n : Nat) : ∀ (z3 z4 : Int) (M5 : tp_M), tp_J X Y LM 34 5 2 1 (tp_lp2 (fx_X11_allCome_L4   K80) n z3 z4 M5) M5 [(0, vR X 0), (1, vI z3), (2, vI z4)] [] 4 := by
  refine tp_lp2_ok (P := fun o z3 z4 M5 => tp_J X Y LM 34 5 2 1 (o) M5 [(0, vR X 0), (1, vI z3), (2, vI z4)] [] 4) (fun z3 z4 M5 => tj_none) (fun rec hrec z3 z4 M5 => ?_) n
  unfold fx_X11_allCome_L4
  refine tj_iload_n (pc := 4) G 2 dX11_allCome_4 rfl rfl ?_
  refine tj_bipush (pc := 5) G dX11_allCome_5 rfl ?_
  refine tj_icmp_ge (pc := 7) G (tgt := 80) (a2 := w32 z4) (b2 := 8) dX11_allCome_7 (by decide) rfl rfl ?_ ?_
  · exact tj_sub [0, 1] rfl (hK80 z3 M5)
  refine tj_iconst (pc := 10) G dX11_allCome_10 ?_
  refine tj_istore_n (pc := 11) G (fun x7 => [(3, vI x7), (0, vR X 0), (1, vI z3), (2, vI z4)]) dX11_allCome_11 rfl (by decide) (fun _ => rfl) (fun x7 => ?_)
  refine tj_sub [1, 2, 3, 0] rfl (fx_X11_allCome_L12_ok G    (fun y11 M25 => ?_) tp_F z3 x7 M5)
  refine tj_iinc (pc := 74) G 2 (fun x26 => [(2, vI x26), (0, vR X 0), (1, vI y11)]) dX11_allCome_74 rfl (by decide) (fun _ => rfl) (fun x26 => ?_)
  refine tj_goto (pc := 77) G (tgt := 4) dX11_allCome_77 (by decide) ?_
  exact tj_sub [1, 2, 0] rfl (hrec y11 x26 M25)
set_option maxRecDepth 100000 in
set_option maxHeartbeats 4000000 in
theorem ok_X11_allCome (X : tp_X)    {M : tp_M} {res : Int × tp_M} (h : fx_X11_allCome   M = some res) : tp_Ret X LM 34 1 yX11_allCome (Cond.code yX11_allCome cX11_allCome 5 (some .boolean)) 2 [vR X 0] M res := by
  refine tp_ofW (by decide +kernel) rfl rfl (by show _ ≤ 5; exact Nat.le_of_ble_eq_true rfl) h (fun Y G => ?_)
  show tp_J X Y LM 34 5 2 1 (fx_X11_allCome   M) M [(0, vR X 0)] [] 0
  unfold fx_X11_allCome
  refine tj_iconst (pc := 0) G dX11_allCome_0 ?_
  refine tj_istore_n (pc := 1) G (fun x1 => [(1, vI x1), (0, vR X 0)]) dX11_allCome_1 rfl (by decide) (fun _ => rfl) (fun x1 => ?_)
  refine tj_iconst (pc := 2) G dX11_allCome_2 ?_
  refine tj_istore_n (pc := 3) G (fun x2 => [(2, vI x2), (1, vI x1), (0, vR X 0)]) dX11_allCome_3 rfl (by decide) (fun _ => rfl) (fun x2 => ?_)
  refine tj_sub [2, 1, 0] rfl (fx_X11_allCome_L4_ok G    (fun y6 M27 => ?_) tp_F x1 x2 M)
  refine tj_iload_n (pc := 80) G 1 dX11_allCome_80 rfl rfl ?_
  refine tj_iconst (pc := 81) G dX11_allCome_81 ?_
  refine tj_aload_n (pc := 82) G 0 dX11_allCome_82 rfl rfl ?_
  refine tj_getI (pc := 83) G (k := 0) (j := 15) (j2 := 15) tk_X11 (by decide) lm_0 rfl (by decide) rfl fl_X11_176 dX11_allCome_83 ?_
  refine tj_iconst (pc := 86) G dX11_allCome_86 ?_
  refine tj_iadd (pc := 87) G dX11_allCome_87 ?_
  refine tj_ishl (pc := 88) G dX11_allCome_88 ?_
  refine tj_iconst (pc := 89) G dX11_allCome_89 ?_
  refine tj_isub (pc := 90) G dX11_allCome_90 ?_
  refine tj_icmp_ne (pc := 91) G (tgt := 98) (a2 := w32 y6) (b2 := w32 ((x_shl 1 ((M27 0 15) + 1)) - 1)) dX11_allCome_91 (by decide) rfl rfl ?_ ?_
  · refine tj_iconst (pc := 98) G dX11_allCome_98 ?_
    exact tj_zret (pc := 99) G (by decide) dX11_allCome_99
  refine tj_iconst (pc := 94) G dX11_allCome_94 ?_
  refine tj_goto (pc := 95) G (tgt := 99) dX11_allCome_95 (by decide) ?_
  exact tj_zret (pc := 99) G (by decide) dX11_allCome_99
