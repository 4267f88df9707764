def fx_X10_fillPlaces_L62 (c1 : Int) (c2 : Int) (c3 : Int) (c4 : Int) (K111 : tp_M → tp_O) (rec : Int → Int → tp_M → tp_O) (z13 z14 : Int) (M15 : tp_M) : tp_O :=
(if w32 z14 ≤ 20 then
(tp_ck (w32 ((c4 * 21) + z14)) 84 (tp_lm (tp_up M15 62 (w32 ((c4 * 21) + z14)) z13) (fun M16 =>
(tp_jn1 (fun y17 M18 => 
(tp_lt (z14 + 1) (fun x19 =>
(rec y17 x19 M18)))) (fun jk105 =>
(if w32 z13 = 0 then
(jk105 z13 M16)
else
(tp_bd (fx_X10_stride 28 15 z13 M16) (fun r20 M21 =>
(tp_lt r20 (fun x22 =>
(jk105 x22 M21)))))))))))
else
(K111 M15))
def fx_X10_fillPlaces_L3 (c1 : Int) (c2 : Int) (c3 : Int) (rec : Int → tp_M → tp_O) (z2 : Int) (M3 : tp_M) : tp_O :=
(if w32 z2 < 4 then
(tp_bd (fx_X4_hasWay 5 c1 z2 M3) (fun r4 M5 =>
(tp_jn0 (fun M6 => 
(tp_lt (z2 + 1) (fun x7 =>
(rec x7 M6)))) (fun jk111 =>
(if w32 r4 = 0 then
(jk111 M5)
else
(if w32 (x_and (x_shr c2 z2) 1) = 0 then
(jk111 M5)
else
(tp_bd (fx_X2_copyFrom 28 25 M5) (fun r8 M9 =>
(tp_ck (w32 c1) 8 (tp_lm (tp_up M9 29 (w32 c1) z2) (fun M10 =>
(tp_lt c3 (fun x11 =>
(tp_lt 0 (fun x12 =>
(tp_lp2 (fx_X10_fillPlaces_L62 c1 c2 c3 z2 (fun M23 =>
(jk111 M23))) tp_F x11 x12 M10))))))))))))))))
else
(some (0, M3)))
def fx_X10_fillPlaces  (a1 : Int) (a2 : Int) (a3 : Int) (M : tp_M) : tp_O :=
(tp_lt 0 (fun x1 =>
(tp_lp1 (fx_X10_fillPlaces_L3 a1 a2 a3 ) tp_F x1 M)))
set_option maxRecDepth 100000 in
set_option maxHeartbeats 4000000 in
theorem fx_X10_fillPlaces_L62_ok {X : tp_X} {Y : tp_Y} (G : tp_Ok X Y 64 cX10_fillPlaces 7 RX10 none)  {c1 : Int} {c2 : Int} {c3 : Int} {c4 : Int} {K111 : tp_M → tp_O}   (hK111 : ∀ (M9 : tp_M), tp_J X Y LC 64 7 4 0 (K111  M9) M9 [(0, vR X 0), (1, vI c1), (2, vI c2), (3, vI c3), (4, vI c4)] [] 111) (n : Nat) : ∀ (z13 z14 : Int) (M15 : tp_M), tp_J X Y LC 64 7 4 0 (tp_lp2 (fx_X10_fillPlaces_L62  c1 c2 c3 c4 K111) n z13 z14 M15) M15 [(0, vR X 0), (1, vI c1), (2, vI c2), (3, vI c3), (4, vI c4), (5, vI z13), (6, vI z14)] [] 62 := by
  refine tp_lp2_ok (P := fun o z13 z14 M15 => tp_J X Y LC 64 7 4 0 (o) M15 [(0, vR X 0), (1, vI c1), (2, vI c2), (3, vI c3), (4, vI c4), (5, vI z13), (6, vI z14)] [] 62) (fun z13 z14 M15 => tj_none) (fun rec hrec z13 z14 M15 => ?_) n
  unfold fx_X10_fillPlaces_L62
  refine tj_iload (pc := 62) G 6 dX10_fillPlaces_62 rfl ?_
  refine tj_bipush (pc := 64) G dX10_fillPlaces_64 rfl ?_
  refine tj_icmp_gt (pc := 66) G (tgt := 111) (a2 := w32 z14) (b2 := 20) dX10_fillPlaces_66 (by decide) rfl rfl ?_ ?_
  · exact tj_sub [0, 1, 2, 3, 4] rfl (hK111  M15)
  refine tj_aload_n (pc := 69) G 0 dX10_fillPlaces_69 rfl rfl ?_
  refine tj_getR (pc := 70) G (k := 0) (j := 17) (j2 := 17) tk_X10 (by decide) lc_0 rfl (by decide) rfl fl_X10_101 dX10_fillPlaces_70 ?_
  refine tj_iload (pc := 73) G 4 dX10_fillPlaces_73 rfl ?_
  refine tj_bipush (pc := 75) G dX10_fillPlaces_75 rfl ?_
  refine tj_imul (pc := 77) G dX10_fillPlaces_77 ?_
  refine tj_iload (pc := 78) G 6 dX10_fillPlaces_78 rfl ?_
  refine tj_iadd (pc := 80) G dX10_fillPlaces_80 ?_
  refine tj_iload (pc := 81) G 5 dX10_fillPlaces_81 rfl ?_
  refine tj_iast (pc := 83) G (k := 62) (i2 := w32 ((c4 * 21) + z14)) (n2 := 84) (by decide) lc_62 rfl rfl dX10_fillPlaces_83 (fun M16 => ?_)
  refine tj_iload (pc := 84) G 5 dX10_fillPlaces_84 rfl ?_
  refine tj_jn1 (fun y17 => [(0, vR X 0), (1, vI c1), (2, vI c2), (3, vI c3), (4, vI c4), (5, vI y17), (6, vI z14)]) (fun y17 => []) 105 (fun y17 M18 => ?_) (fun jk105 hj105 => ?_)
  · refine tj_iinc (pc := 105) G 6 (fun x19 => [(6, vI x19), (0, vR X 0), (1, vI c1), (2, vI c2), (3, vI c3), (4, vI c4), (5, vI y17)]) dX10_fillPlaces_105 rfl (by decide) (fun _ => rfl) (fun x19 => ?_)
    refine tj_goto (pc := 108) G (tgt := 62) dX10_fillPlaces_108 (by decide) ?_
    exact tj_sub [1, 2, 3, 4, 5, 6, 0] rfl (hrec y17 x19 M18)
  refine tj_if_eq (pc := 86) G (tgt := 105) (a2 := w32 z13) dX10_fillPlaces_86 (by decide) rfl ?_ ?_
  · exact tj_sub [0, 1, 2, 3, 4, 5, 6] rfl (hj105 z13 M16)
  refine tj_aload_n (pc := 89) G 0 dX10_fillPlaces_89 rfl rfl ?_
  refine tj_aload_n (pc := 90) G 0 dX10_fillPlaces_90 rfl rfl ?_
  refine tj_getR (pc := 91) G (k := 0) (j := 7) (j2 := 7) tk_X10 (by decide) lc_0 rfl (by decide) rfl fl_X10_50 dX10_fillPlaces_91 ?_
  refine tj_aload_n (pc := 94) G 0 dX10_fillPlaces_94 rfl rfl ?_
  refine tj_getR (pc := 95) G (k := 0) (j := 4) (j2 := 4) tk_X10 (by decide) lc_0 rfl (by decide) rfl fl_X10_36 dX10_fillPlaces_95 ?_
  refine tj_iload (pc := 98) G 5 dX10_fillPlaces_98 rfl ?_
  refine tj_callVi (pc := 100) G [vR X 28, vR X 15, vI z13] mf_X10_stride (k := 0) (by decide) lc_0 rfl rfl ml_X10_303 (by decide) rfl rfl (Nat.le_of_ble_eq_true rfl) (fun _ h9 => ok_X10_stride X gg_Moor_28 gg_Turner_15 h9) dX10_fillPlaces_100 (fun r20 M21 => ?_)
  refine tj_istore (pc := 103) G (fun x22 => [(5, vI x22), (0, vR X 0), (1, vI c1), (2, vI c2), (3, vI c3), (4, vI c4), (6, vI z14)]) dX10_fillPlaces_103 (by decide) (fun _ => rfl) (fun x22 => ?_)
  exact tj_sub [1, 2, 3, 4, 5, 0, 6] rfl (hj105 x22 M21)
set_option maxRecDepth 100000 in
set_option maxHeartbeats 4000000 in
theorem fx_X10_fillPlaces_L3_ok {X : tp_X} {Y : tp_Y} (G : tp_Ok X Y 64 cX10_fillPlaces 7 RX10 none)  {c1 : Int} {c2 : Int} {c3 : Int}    (n : Nat) : ∀ (z2 : Int) (M3 : tp_M), tp_J X Y LC 64 7 4 0 (tp_lp1 (fx_X10_fillPlaces_L3  c1 c2 c3 ) n z2 M3) M3 [(0, vR X 0), (1, vI c1), (2, vI c2), (3, vI c3), (4, vI z2)] [] 3 := by
  refine tp_lp1_ok (P := fun o z2 M3 => tp_J X Y LC 64 7 4 0 (o) M3 [(0, vR X 0), (1, vI c1), (2, vI c2), (3, vI c3), (4, vI z2)] [] 3) (fun z2 M3 => tj_none) (fun rec hrec z2 M3 => ?_) n
  unfold fx_X10_fillPlaces_L3
  refine tj_iload (pc := 3) G 4 dX10_fillPlaces_3 rfl ?_
  refine tj_iconst (pc := 5) G dX10_fillPlaces_5 ?_
  refine tj_icmp_ge (pc := 6) G (tgt := 117) (a2 := w32 z2) (b2 := 4) dX10_fillPlaces_6 (by decide) rfl rfl ?_ ?_
  · exact tj_vret (pc := 117) G dX10_fillPlaces_117
  refine tj_aload_n (pc := 9) G 0 dX10_fillPlaces_9 rfl rfl ?_
  refine tj_getR (pc := 10) G (k := 0) (j := 2) (j2 := 2) tk_X10 (by decide) lc_0 rfl (by decide) rfl fl_X10_26 dX10_fillPlaces_10 ?_
  refine tj_iload_n (pc := 13) G 1 dX10_fillPlaces_13 rfl rfl ?_
  refine tj_iload (pc := 14) G 4 dX10_fillPlaces_14 rfl ?_
  refine tj_callVi (pc := 16) G [vI c1, vI z2] mf_X4_hasWay (k := 5) (by decide) lc_5 rfl rfl ml_X10_183 (by decide) rfl rfl (Nat.le_of_ble_eq_true rfl) (fun _ h9 => ok_X4_hasWay X gg_Paths_5 h9) dX10_fillPlaces_16 (fun r4 M5 => ?_)
  refine tj_jn0 [(0, vR X 0), (1, vI c1), (2, vI c2), (3, vI c3), (4, vI z2)] [] 111 (fun M6 => ?_) (fun jk111 hj111 => ?_)
  · refine tj_iinc (pc := 111) G 4 (fun x7 => [(4, vI x7), (0, vR X 0), (1, vI c1), (2, vI c2), (3, vI c3)]) dX10_fillPlaces_111 rfl (by decide) (fun _ => rfl) (fun x7 => ?_)
    refine tj_goto (pc := 114) G (tgt := 3) dX10_fillPlaces_114 (by decide) ?_
    exact tj_sub [1, 2, 3, 4, 0] rfl (hrec x7 M6)
  refine tj_if_eq (pc := 19) G (tgt := 111) (a2 := w32 r4) dX10_fillPlaces_19 (by decide) rfl ?_ ?_
  · exact tj_sub [0, 1, 2, 3, 4] rfl (hj111  M5)
  refine tj_iload_n (pc := 22) G 2 dX10_fillPlaces_22 rfl rfl ?_
  refine tj_iload (pc := 23) G 4 dX10_fillPlaces_23 rfl ?_
  refine tj_ishr (pc := 25) G dX10_fillPlaces_25 ?_
  refine tj_iconst (pc := 26) G dX10_fillPlaces_26 ?_
  refine tj_iand (pc := 27) G dX10_fillPlaces_27 ?_
  refine tj_if_ne (pc := 28) G (tgt := 34) (a2 := w32 (x_and (x_shr c2 z2) 1)) dX10_fillPlaces_28 (by decide) rfl ?_ ?_
  · refine tj_aload_n (pc := 34) G 0 dX10_fillPlaces_34 rfl rfl ?_
    refine tj_getR (pc := 35) G (k := 0) (j := 7) (j2 := 7) tk_X10 (by decide) lc_0 rfl (by decide) rfl fl_X10_50 dX10_fillPlaces_35 ?_
    refine tj_aload_n (pc := 38) G 0 dX10_fillPlaces_38 rfl rfl ?_
    refine tj_getR (pc := 39) G (k := 0) (j := 6) (j2 := 6) tk_X10 (by decide) lc_0 rfl (by decide) rfl fl_X10_46 dX10_fillPlaces_39 ?_
    refine tj_callVv (pc := 42) G [vR X 25] mf_X2_copyFrom (k := 28) (by decide) lc_28 rfl rfl ml_X10_201 (by decide) rfl rfl (Nat.le_of_ble_eq_true rfl) (fun _ h9 => ok_X2_copyFrom X gg_Moor_28 gg_Moor_25 h9) dX10_fillPlaces_42 (fun r8 M9 => ?_)
    refine tj_aload_n (pc := 45) G 0 dX10_fillPlaces_45 rfl rfl ?_
    refine tj_getR (pc := 46) G (k := 0) (j := 7) (j2 := 7) tk_X10 (by decide) lc_0 rfl (by decide) rfl fl_X10_50 dX10_fillPlaces_46 ?_
    refine tj_getRN (pc := 49) G (k := 28) (j := 0) (j2 := 0) tk_X2 (by decide) lc_28 rfl (by decide) rfl fn_X10_160 dX10_fillPlaces_49 ?_
    refine tj_iload_n (pc := 52) G 1 dX10_fillPlaces_52 rfl rfl ?_
    refine tj_iload (pc := 53) G 4 dX10_fillPlaces_53 rfl ?_
    refine tj_iast (pc := 55) G (k := 29) (i2 := w32 c1) (n2 := 8) (by decide) lc_29 rfl rfl dX10_fillPlaces_55 (fun M10 => ?_)
    refine tj_iload_n (pc := 56) G 3 dX10_fillPlaces_56 rfl rfl ?_
    refine tj_istore (pc := 57) G (fun x11 => [(5, vI x11), (0, vR X 0), (1, vI c1), (2, vI c2), (3, vI c3), (4, vI z2)]) dX10_fillPlaces_57 (by decide) (fun _ => rfl) (fun x11 => ?_)
    refine tj_iconst (pc := 59) G dX10_fillPlaces_59 ?_
    refine tj_istore (pc := 60) G (fun x12 => [(6, vI x12), (5, vI x11), (0, vR X 0), (1, vI c1), (2, vI c2), (3, vI c3), (4, vI z2)]) dX10_fillPlaces_60 (by decide) (fun _ => rfl) (fun x12 => ?_)
    refine tj_sub [2, 3, 4, 5, 6, 1, 0] rfl (fx_X10_fillPlaces_L62_ok G    (fun M23 => ?_) tp_F x11 x12 M10)
    exact tj_sub [0, 1, 2, 3, 4] rfl (hj111  M23)
  refine tj_goto (pc := 31) G (tgt := 111) dX10_fillPlaces_31 (by decide) ?_
  exact tj_sub [0, 1, 2, 3, 4] rfl (hj111  M5)
set_option maxRecDepth 100000 in
set_option maxHeartbeats 4000000 in
theorem ok_X10_fillPlaces (X : tp_X)  {a1 : Int} {a2 : Int} {a3 : Int}  {M : tp_M} {res : Int × tp_M} (h : fx_X10_fillPlaces  a1 a2 a3 M = some res) : tp_Ret X LC 64 0 yX10_fillPlaces (Cond.code yX10_fillPlaces cX10_fillPlaces 7 none) 4 [vR X 0, vI a1, vI a2, vI a3] M res := by
  refine tp_ofW (by decide +kernel) rfl rfl (by show _ ≤ 7; exact Nat.le_of_ble_eq_true rfl) h (fun Y G => ?_)
  show tp_J X Y LC 64 7 4 0 (fx_X10_fillPlaces  a1 a2 a3 M) M [(0, vR X 0), (1, vI a1), (2, vI a2), (3, vI a3)] [] 0
  unfold fx_X10_fillPlaces
  refine tj_iconst (pc := 0) G dX10_fillPlaces_0 ?_
  refine tj_istore (pc := 1) G (fun x1 => [(4, vI x1), (0, vR X 0), (1, vI a1), (2, vI a2), (3, vI a3)]) dX10_fillPlaces_1 (by decide) (fun _ => rfl) (fun x1 => ?_)
  refine tj_sub [1, 2, 3, 4, 0] rfl (fx_X10_fillPlaces_L3_ok G     tp_F x1 M)

def fx_X10_mostAtOnePlace_L17 (c1 : Int) (c2 : Int) (c3 : Int) (c4 : Int) (K91 : Int → tp_M → tp_O) (rec : Int → Int → tp_M → tp_O) (z8 z9 : Int) (M10 : tp_M) : tp_O :=
(if w32 z9 < 4 then
(tp_jn1 (fun y12 M13 => 
(tp_lt y12 (fun x14 =>
(tp_jn1 (fun y15 M16 => 
(tp_lt (z9 + 1) (fun x17 =>
(rec y15 x17 M16)))) (fun jk85 =>
(if w32 x14 = 0 then
(jk85 z8 M13)
else
(tp_ck (w32 ((c4 * 21) + c2)) 84 (tp_ck (w32 ((z9 * 21) + c2)) 84 (if w32 (M13 62 (w32 ((c4 * 21) + c2))) = w32 (M13 62 (w32 ((z9 * 21) + c2))) then
(tp_lt (z8 + 1) (fun x18 =>
(jk85 x18 M13)))
else
(jk85 z8 M13)))))))))) (fun jk48 =>
(tp_jn0 (fun M19 => 
(jk48 0 M19)) (fun jk47 =>
(if w32 (x_and (x_shr c1 c4) 1) = 1 then
(if w32 (x_and (x_shr c1 z9) 1) = 1 then
(jk48 1 M10)
else
(jk47 M10))
else
(jk47 M10))))))
else
(K91 z8 M10))
def fx_X10_mostAtOnePlace_L5 (c1 : Int) (c2 : Int) (rec : Int → Int → tp_M → tp_O) (z3 z4 : Int) (M5 : tp_M) : tp_O :=
(if w32 z4 < 4 then
(tp_lt 0 (fun x6 =>
(tp_lt 0 (fun x7 =>
(tp_lp2 (fx_X10_mostAtOnePlace_L17 c1 c2 z3 z4 (fun y11 M20 =>
(tp_lt (max (w32 z3) (w32 y11)) (fun x21 =>
(tp_lt (z4 + 1) (fun x22 =>
(rec x21 x22 M20))))))) tp_F x6 x7 M5)))))
else
(some (z3, M5)))
def fx_X10_mostAtOnePlace  (a1 : Int) (a2 : Int) (M : tp_M) : tp_O :=
(tp_lt 0 (fun x1 =>
(tp_lt 0 (fun x2 =>
(tp_lp2 (fx_X10_mostAtOnePlace_L5 a1 a2 ) tp_F x1 x2 M)))))
set_option maxRecDepth 100000 in
set_option maxHeartbeats 4000000 in
theorem fx_X10_mostAtOnePlace_L17_ok {X : tp_X} {Y : tp_Y} (G : tp_Ok X Y 64 cX10_mostAtOnePlace 8 RX10 (some .int))  {c1 : Int} {c2 : Int} {c3 : Int} {c4 : Int} {K91 : Int → tp_M → tp_O}   (hK91 : ∀ (y11 : Int) (M9 : tp_M), tp_J X Y LC 64 8 1 1 (K91 y11 M9) M9 [(0, vR X 0), (1, vI c1), (2, vI c2), (3, vI c3), (4, vI c4), (5, vI y11)] [] 91) (n : Nat) : ∀ (z8 z9 : Int) (M10 : tp_M), tp_J X Y LC 64 8 1 1 (tp_lp2 (fx_X10_mostAtOnePlace_L17  c1 c2 c3 c4 K91) n z8 z9 M10) M10 [(0, vR X 0), (1, vI c1), (2, vI c2), (3, vI c3), (4, vI c4), (5, vI z8), (6, vI z9)] [] 17 := by
  refine tp_lp2_ok (P := fun o z8 z9 M10 => tp_J X Y LC 64 8 1 1 (o) M10 [(0, vR X 0), (1, vI c1), (2, vI c2), (3, vI c3), (4, vI c4), (5, vI z8), (6, vI z9)] [] 17) (fun z8 z9 M10 => tj_none) (fun rec hrec z8 z9 M10 => ?_) n
  unfold fx_X10_mostAtOnePlace_L17
  refine tj_iload (pc := 17) G 6 dX10_mostAtOnePlace_17 rfl ?_
  refine tj_iconst (pc := 19) G dX10_mostAtOnePlace_19 ?_
  refine tj_icmp_ge (pc := 20) G (tgt := 91) (a2 := w32 z9) (b2 := 4) dX10_mostAtOnePlace_20 (by decide) rfl rfl ?_ ?_
  · exact tj_sub [0, 1, 2, 3, 4, 5] rfl (hK91 z8 M10)
  refine tj_iload_n (pc := 23) G 1 dX10_mostAtOnePlace_23 rfl rfl ?_
  refine tj_iload (pc := 24) G 4 dX10_mostAtOnePlace_24 rfl ?_
  refine tj_ishr (pc := 26) G dX10_mostAtOnePlace_26 ?_
  refine tj_iconst (pc := 27) G dX10_mostAtOnePlace_27 ?_
  refine tj_iand (pc := 28) G dX10_mostAtOnePlace_28 ?_
  refine tj_iconst (pc := 29) G dX10_mostAtOnePlace_29 ?_
  refine tj_jn1 (fun y12 => [(0, vR X 0), (1, vI c1), (2, vI c2), (3, vI c3), (4, vI c4), (5, vI z8), (6, vI z9)]) (fun y12 => [vI y12]) 48 (fun y12 M13 => ?_) (fun jk48 hj48 => ?_)
  · refine tj_istore (pc := 48) G (fun x14 => [(7, vI x14), (0, vR X 0), (1, vI c1), (2, vI c2), (3, vI c3), (4, vI c4), (5, vI z8), (6, vI z9)]) dX10_mostAtOnePlace_48 (by decide) (fun _ => rfl) (fun x14 => ?_)
    refine tj_iload (pc := 50) G 0 dX10_mostAtOnePlace_50 rfl ?_
    refine tj_jn1 (fun y15 => [(0, vR X 0), (1, vI c1), (2, vI c2), (3, vI c3), (4, vI c4), (5, vI y15), (6, vI z9)]) (fun y15 => []) 85 (fun y15 M16 => ?_) (fun jk85 hj85 => ?_)
    · refine tj_iinc (pc := 85) G 6 (fun x17 => [(6, vI x17), (0, vR X 0), (1, vI c1), (2, vI c2), (3, vI c3), (4, vI c4), (5, vI y15)]) dX10_mostAtOnePlace_85 rfl (by decide) (fun _ => rfl) (fun x17 => ?_)
      refine tj_goto (pc := 88) G (tgt := 17) dX10_mostAtOnePlace_88 (by decide) ?_
      exact tj_sub [1, 2, 3, 4, 5, 6, 0] rfl (hrec y15 x17 M16)
    refine tj_if_eq (pc := 52) G (tgt := 85) (a2 := w32 x14) dX10_mostAtOnePlace_52 (by decide) rfl ?_ ?_
    · exact tj_sub [1, 2, 3, 4, 5, 6, 7] rfl (hj85 z8 M13)
    refine tj_aload_n (pc := 55) G 1 dX10_mostAtOnePlace_55 rfl rfl ?_
    refine tj_getR (pc := 56) G (k := 0) (j := 17) (j2 := 17) tk_X10 (by decide) lc_0 rfl (by decide) rfl fl_X10_101 dX10_mostAtOnePlace_56 ?_
    refine tj_iload (pc := 59) G 5 dX10_mostAtOnePlace_59 rfl ?_
    refine tj_bipush (pc := 61) G dX10_mostAtOnePlace_61 rfl ?_
    refine tj_imul (pc := 63) G dX10_mostAtOnePlace_63 ?_
    refine tj_iload_n (pc := 64) G 3 dX10_mostAtOnePlace_64 rfl rfl ?_
    refine tj_iadd (pc := 65) G dX10_mostAtOnePlace_65 ?_
    refine tj_iald (pc := 66) G (k := 62) (i2 := w32 ((c4 * 21) + c2)) (n2 := 84) (by decide) lc_62 rfl rfl dX10_mostAtOnePlace_66 ?_
    refine tj_aload_n (pc := 67) G 1 dX10_mostAtOnePlace_67 rfl rfl ?_
    refine tj_getR (pc := 68) G (k := 0) (j := 17) (j2 := 17) tk_X10 (by decide) lc_0 rfl (by decide) rfl fl_X10_101 dX10_mostAtOnePlace_68 ?_
    refine tj_iload (pc := 71) G 7 dX10_mostAtOnePlace_71 rfl ?_
    refine tj_bipush (pc := 73) G dX10_mostAtOnePlace_73 rfl ?_
    refine tj_imul (pc := 75) G dX10_mostAtOnePlace_75 ?_
    refine tj_iload_n (pc := 76) G 3 dX10_mostAtOnePlace_76 rfl rfl ?_
    refine tj_iadd (pc := 77) G dX10_mostAtOnePlace_77 ?_
    refine tj_iald (pc := 78) G (k := 62) (i2 := w32 ((z9 * 21) + c2)) (n2 := 84) (by decide) lc_62 rfl rfl dX10_mostAtOnePlace_78 ?_
    refine tj_icmp_ne (pc := 79) G (tgt := 85) (a2 := w32 (M13 62 (w32 ((c4 * 21) + c2)))) (b2 := w32 (M13 62 (w32 ((z9 * 21) + c2)))) dX10_mostAtOnePlace_79 (by decide) rfl rfl ?_ ?_
    · exact tj_sub [1, 2, 3, 4, 5, 6, 7] rfl (hj85 z8 M13)
    refine tj_iinc (pc := 82) G 6 (fun x18 => [(5, vI x18), (7, vI x14), (0, vR X 0), (1, vI c1), (2, vI c2), (3, vI c3), (4, vI c4), (6, vI z9)]) dX10_mostAtOnePlace_82 rfl (by decide) (fun _ => rfl) (fun x18 => ?_)
    exact tj_sub [2, 3, 4, 5, 6, 0, 7] rfl (hj85 x18 M13)
  refine tj_jn0 [(0, vR X 0), (1, vI c1), (2, vI c2), (3, vI c3), (4, vI c4), (5, vI z8), (6, vI z9)] [] 47 (fun M19 => ?_) (fun jk47 hj47 => ?_)
  · refine tj_iconst (pc := 47) G dX10_mostAtOnePlace_47 ?_
    exact tj_sub [0, 1, 2, 3, 4, 5, 6] rfl (hj48 0 M19)
  refine tj_icmp_ne (pc := 30) G (tgt := 47) (a2 := w32 (x_and (x_shr c1 c4) 1)) (b2 := 1) dX10_mostAtOnePlace_30 (by decide) rfl rfl ?_ ?_
  · exact tj_sub [0, 1, 2, 3, 4, 5, 6] rfl (hj47  M10)
  refine tj_iload_n (pc := 33) G 1 dX10_mostAtOnePlace_33 rfl rfl ?_
  refine tj_iload (pc := 34) G 6 dX10_mostAtOnePlace_34 rfl ?_
  refine tj_ishr (pc := 36) G dX10_mostAtOnePlace_36 ?_
  refine tj_iconst (pc := 37) G dX10_mostAtOnePlace_37 ?_
  refine tj_iand (pc := 38) G dX10_mostAtOnePlace_38 ?_
  refine tj_iconst (pc := 39) G dX10_mostAtOnePlace_39 ?_
  refine tj_icmp_ne (pc := 40) G (tgt := 47) (a2 := w32 (x_and (x_shr c1 z9) 1)) (b2 := 1) dX10_mostAtOnePlace_40 (by decide) rfl rfl ?_ ?_
  · exact tj_sub [0, 1, 2, 3, 4, 5, 6] rfl (hj47  M10)
  refine tj_iconst (pc := 43) G dX10_mostAtOnePlace_43 ?_
  refine tj_goto (pc := 44) G (tgt := 48) dX10_mostAtOnePlace_44 (by decide) ?_
  exact tj_sub [0, 1, 2, 3, 4, 5, 6] rfl (hj48 1 M10)
set_option maxRecDepth 100000 in
set_option maxHeartbeats 4000000 in
theorem fx_X10_mostAtOnePlace_L5_ok {X : tp_X} {Y : tp_Y} (G : tp_Ok X Y 64 cX10_mostAtOnePlace 8 RX10 (some .int))  {c1 : Int} {c2 : Int}    (n : Nat) : ∀ (z3 z4 : Int) (M5 : tp_M), tp_J X Y LC 64 8 1 1 (tp_lp2 (fx_X10_mostAtOnePlace_L5  c1 c2 ) n z3 z4 M5) M5 [(0, vR X 0), (1, vI c1), (2, vI c2), (3, vI z3), (4, vI z4)] [] 5 := by
  refine tp_lp2_ok (P := fun o z3 z4 M5 => tp_J X Y LC 64 8 1 1 (o) M5 [(0, vR X 0), (1, vI c1), (2, vI c2), (3, vI z3), (4, vI z4)] [] 5) (fun z3 z4 M5 => tj_none) (fun rec hrec z3 z4 M5 => ?_) n
  unfold fx_X10_mostAtOnePlace_L5
  refine tj_iload (pc := 5) G 4 dX10_mostAtOnePlace_5 rfl ?_
  refine tj_iconst (pc := 7) G dX10_mostAtOnePlace_7 ?_
  refine tj_icmp_ge (pc := 8) G (tgt := 104) (a2 := w32 z4) (b2 := 4) dX10_mostAtOnePlace_8 (by decide) rfl rfl ?_ ?_
  · refine tj_iload_n (pc := 104) G 3 dX10_mostAtOnePlace_104 rfl rfl ?_
    exact tj_iret (pc := 105) G dX10_mostAtOnePlace_105
  refine tj_iconst (pc := 11) G dX10_mostAtOnePlace_11 ?_
  refine tj_istore (pc := 12) G (fun x6 => [(5, vI x6), (0, vR X 0), (1, vI c1), (2, vI c2), (3, vI z3), (4, vI z4)]) dX10_mostAtOnePlace_12 (by decide) (fun _ => rfl) (fun x6 => ?_)
  refine tj_iconst (pc := 14) G dX10_mostAtOnePlace_14 ?_
  refine tj_istore (pc := 15) G (fun x7 => [(6, vI x7), (5, vI x6), (0, vR X 0), (1, vI c1), (2, vI c2), (3, vI z3), (4, vI z4)]) dX10_mostAtOnePlace_15 (by decide) (fun _ => rfl) (fun x7 => ?_)
  refine tj_sub [2, 3, 4, 5, 6, 1, 0] rfl (fx_X10_mostAtOnePlace_L17_ok G    (fun y11 M20 => ?_) tp_F x6 x7 M5)
  refine tj_iload_n (pc := 91) G 3 dX10_mostAtOnePlace_91 rfl rfl ?_
  refine tj_iload (pc := 92) G 5 dX10_mostAtOnePlace_92 rfl ?_
  refine tj_max (pc := 94) G (a2 := w32 z3) (b2 := w32 y11) rfl rfl ml_X10_198 mw_max (by decide) (Nat.le_of_ble_eq_true rfl) dX10_mostAtOnePlace_94 ?_
  refine tj_istore_n (pc := 97) G (fun x21 => [(3, vI x21), (0, vR X 0), (1, vI c1), (2, vI c2), (4, vI z4), (5, vI y11)]) dX10_mostAtOnePlace_97 rfl (by decide) (fun _ => rfl) (fun x21 => ?_)
  refine tj_iinc (pc := 98) G 4 (fun x22 => [(4, vI x22), (3, vI x21), (0, vR X 0), (1, vI c1), (2, vI c2), (5, vI y11)]) dX10_mostAtOnePlace_98 rfl (by decide) (fun _ => rfl) (fun x22 => ?_)
  refine tj_goto (pc := 101) G (tgt := 5) dX10_mostAtOnePlace_101 (by decide) ?_
  exact tj_sub [2, 3, 4, 1, 0] rfl (hrec x21 x22 M20)
set_option maxRecDepth 100000 in
set_option maxHeartbeats 4000000 in
theorem ok_X10_mostAtOnePlace (X : tp_X)  {a1 : Int} {a2 : Int}  {M : tp_M} {res : Int × tp_M} (h : fx_X10_mostAtOnePlace  a1 a2 M = some res) : tp_Ret X LC 64 1 yX10_mostAtOnePlace (Cond.code yX10_mostAtOnePlace cX10_mostAtOnePlace 8 (some .int)) 1 [vR X 0, vI a1, vI a2] M res := by
  refine tp_ofW (by decide +kernel) rfl rfl (by show _ ≤ 8; exact Nat.le_of_ble_eq_true rfl) h (fun Y G => ?_)
  show tp_J X Y LC 64 8 1 1 (fx_X10_mostAtOnePlace  a1 a2 M) M [(0, vR X 0), (1, vI a1), (2, vI a2)] [] 0
  unfold fx_X10_mostAtOnePlace
  refine tj_iconst (pc := 0) G dX10_mostAtOnePlace_0 ?_
  refine tj_istore_n (pc := 1) G (fun x1 => [(3, vI x1), (0, vR X 0), (1, vI a1), (2, vI a2)]) dX10_mostAtOnePlace_1 rfl (by decide) (fun _ => rfl) (fun x1 => ?_)
  refine tj_iconst (pc := 2) G dX10_mostAtOnePlace_2 ?_
  refine tj_istore (pc := 3) G (fun x2 => [(4, vI x2), (3, vI x1), (0, vR X 0), (1, vI a1), (2, vI a2)]) dX10_mostAtOnePlace_3 (by decide) (fun _ => rfl) (fun x2 => ?_)
  refine tj_sub [2, 3, 4, 1, 0] rfl (fx_X10_mostAtOnePlace_L5_ok G     tp_F x1 x2 M)

def fx_X10_looks_L57 (c1 : Int) (c2 : Int) (c5 : Int) (K99 : Int → Int → tp_M → tp_O) (rec : Int → Int → Int → tp_M → tp_O) (z20 z21 z22 : Int) (M23 : tp_M) : tp_O :=
(if w32 z22 ≤ 20 then
(tp_bd (fx_X10_mostAtOnePlace c2 z22 M23) (fun r26 M27 =>
(tp_lt r26 (fun x28 =>
(tp_jn2 (fun y29 y30 M31 => 
(tp_lt (z22 + 1) (fun x32 =>
(rec y29 y30 x32 M31)))) (fun jk93 =>
(if w32 x28 < w32 z21 then
(tp_lt x28 (fun x33 =>
(tp_lt ((100 * c5) + z22) (fun x34 =>
(jk93 x34 x33 M27)))))
else
(jk93 z20 z21 M27))))))))
else
(K99 z20 z21 M23))
def fx_X10_looks_L34 (c1 : Int) (c2 : Int) (K105 : Int → Int → tp_M → tp_O) (rec : Int → Int → Int → tp_M → tp_O) (z9 z10 z11 : Int) (M12 : tp_M) : tp_O :=
(tp_bd (fx_X4_crossings 5 M12) (fun r15 M16 =>
(if w32 z11 < w32 r15 then
(tp_bd (fx_X10_fillPlaces c1 c2 z11 M16) (fun r17 M18 =>
(tp_lt 0 (fun x19 =>
(tp_lp3 (fx_X10_looks_L57 c1 c2 z11 (fun y24 y25 M35 =>
(tp_lt (z11 + 1) (fun x36 =>
(rec y24 y25 x36 M35))))) tp_F z9 z10 x19 M18)))))
else
(K105 z9 z10 M16))))
def fx_X10_looks  (a1 : Int) (M : tp_M) : tp_O :=
(tp_bd (fx_X4_hasPost 5 a1 M) (fun r1 M2 =>
(if w32 r1 = 0 then
(some ((-1), M2))
else
(tp_bd (fx_X10_possibleNumbers a1 M2) (fun r3 M4 =>
(tp_lt r3 (fun x5 =>
(if w32 x5 = 0 then
(some ((-2), M4))
else
(tp_lt 0 (fun x6 =>
(tp_lt 5 (fun x7 =>
(tp_lt 1 (fun x8 =>
(tp_lp3 (fx_X10_looks_L34 a1 x5 (fun y13 y14 M37 =>
(tp_bd (fx_X8_tell_ (w32 y14) M37) (fun r38 M39 =>
(some (y13, M39)))))) tp_F x6 x7 x8 M4)))))))))))))))
set_option maxRecDepth 100000 in
set_option maxHeartbeats 4000000 in
theorem fx_X10_looks_L57_ok {X : tp_X} {Y : tp_Y} (G : tp_Ok X Y 64 cX10_looks 8 RX10 (some .int))  {c1 : Int} {c2 : Int} {c5 : Int} {K99 : Int → Int → tp_M → tp_O}   (hK99 : ∀ (y24 y25 : Int) (M9 : tp_M), tp_J X Y LC 64 8 6 1 (K99 y24 y25 M9) M9 [(0, vR X 0), (1, vI c1), (2, vI c2), (3, vI y24), (4, vI y25), (5, vI c5)] [] 99) (n : Nat) : ∀ (z20 z21 z22 : Int) (M23 : tp_M), tp_J X Y LC 64 8 6 1 (tp_lp3 (fx_X10_looks_L57  c1 c2 c5 K99) n z20 z21 z22 M23) M23 [(0, vR X 0), (1, vI c1), (2, vI c2), (3, vI z20), (4, vI z21), (5, vI c5), (6, vI z22)] [] 57 := by
  refine tp_lp3_ok (P := fun o z20 z21 z22 M23 => tp_J X Y LC 64 8 6 1 (o) M23 [(0, vR X 0), (1, vI c1), (2, vI c2), (3, vI z20), (4, vI z21), (5, vI c5), (6, vI z22)] [] 57) (fun z20 z21 z22 M23 => tj_none) (fun rec hrec z20 z21 z22 M23 => ?_) n
  unfold fx_X10_looks_L57
  refine tj_iload (pc := 57) G 6 dX10_looks_57 rfl ?_
  refine tj_bipush (pc := 59) G dX10_looks_59 rfl ?_
  refine tj_icmp_gt (pc := 61) G (tgt := 99) (a2 := w32 z22) (b2 := 20) dX10_looks_61 (by decide) rfl rfl ?_ ?_
  · exact tj_sub [0, 1, 2, 3, 4, 5] rfl (hK99 z20 z21 M23)
  refine tj_aload_n (pc := 64) G 0 dX10_looks_64 rfl rfl ?_
  refine tj_iload_n (pc := 65) G 2 dX10_looks_65 rfl rfl ?_
  refine tj_iload (pc := 66) G 6 dX10_looks_66 rfl ?_
  refine tj_callVi (pc := 68) G [vI c2, vI z22] mf_X10_mostAtOnePlace (k := 0) (by decide) lc_0 rfl rfl ml_X10_405 (by decide) rfl rfl (Nat.le_of_ble_eq_true rfl) (fun _ h9 => ok_X10_mostAtOnePlace X  h9) dX10_looks_68 (fun r26 M27 => ?_)
  refine tj_istore (pc := 71) G (fun x28 => [(7, vI x28), (0, vR X 0), (1, vI c1), (2, vI c2), (3, vI z20), (4, vI z21), (5, vI c5), (6, vI z22)]) dX10_looks_71 (by decide) (fun _ => rfl) (fun x28 => ?_)
  refine tj_iload (pc := 73) G 0 dX10_looks_73 rfl ?_
  refine tj_iload (pc := 75) G 5 dX10_looks_75 rfl ?_
  refine tj_jn2 (fun y29 y30 => [(0, vR X 0), (1, vI c1), (2, vI c2), (3, vI y29), (4, vI y30), (5, vI c5), (6, vI z22)]) (fun y29 y30 => []) 93 (fun y29 y30 M31 => ?_) (fun jk93 hj93 => ?_)
  · refine tj_iinc (pc := 93) G 6 (fun x32 => [(6, vI x32), (0, vR X 0), (1, vI c1), (2, vI c2), (3, vI y29), (4, vI y30), (5, vI c5)]) dX10_looks_93 rfl (by decide) (fun _ => rfl) (fun x32 => ?_)
    refine tj_goto (pc := 96) G (tgt := 57) dX10_looks_96 (by decide) ?_
    exact tj_sub [1, 2, 3, 4, 5, 6, 0] rfl (hrec y29 y30 x32 M31)
  refine tj_icmp_ge (pc := 77) G (tgt := 93) (a2 := w32 x28) (b2 := w32 z21) dX10_looks_77 (by decide) rfl rfl ?_ ?_
  · exact tj_sub [1, 2, 3, 4, 5, 6, 7] rfl (hj93 z20 z21 M27)
  refine tj_iload (pc := 80) G 0 dX10_looks_80 rfl ?_
  refine tj_istore (pc := 82) G (fun x33 => [(4, vI x33), (7, vI x28), (0, vR X 0), (1, vI c1), (2, vI c2), (3, vI z20), (5, vI c5), (6, vI z22)]) dX10_looks_82 (by decide) (fun _ => rfl) (fun x33 => ?_)
  refine tj_bipush (pc := 84) G dX10_looks_84 rfl ?_
  refine tj_iload (pc := 86) G 6 dX10_looks_86 rfl ?_
  refine tj_imul (pc := 88) G dX10_looks_88 ?_
  refine tj_iload (pc := 89) G 7 dX10_looks_89 rfl ?_
  refine tj_iadd (pc := 91) G dX10_looks_91 ?_
  refine tj_istore_n (pc := 92) G (fun x34 => [(3, vI x34), (4, vI x33), (7, vI x28), (0, vR X 0), (1, vI c1), (2, vI c2), (5, vI c5), (6, vI z22)]) dX10_looks_92 rfl (by decide) (fun _ => rfl) (fun x34 => ?_)
  exact tj_sub [3, 4, 5, 0, 1, 6, 7] rfl (hj93 x34 x33 M27)
set_option maxRecDepth 100000 in
set_option maxHeartbeats 4000000 in
theorem fx_X10_looks_L34_ok {X : tp_X} {Y : tp_Y} (G : tp_Ok X Y 64 cX10_looks 8 RX10 (some .int))  {c1 : Int} {c2 : Int} {K105 : Int → Int → tp_M → tp_O}   (hK105 : ∀ (y13 y14 : Int) (M9 : tp_M), tp_J X Y LC 64 8 6 1 (K105 y13 y14 M9) M9 [(0, vR X 0), (3, vI y13), (4, vI y14)] [] 105) (n : Nat) : ∀ (z9 z10 z11 : Int) (M12 : tp_M), tp_J X Y LC 64 8 6 1 (tp_lp3 (fx_X10_looks_L34  c1 c2 K105) n z9 z10 z11 M12) M12 [(0, vR X 0), (1, vI c1), (2, vI c2), (3, vI z9), (4, vI z10), (5, vI z11)] [] 34 := by
  refine tp_lp3_ok (P := fun o z9 z10 z11 M12 => tp_J X Y LC 64 8 6 1 (o) M12 [(0, vR X 0), (1, vI c1), (2, vI c2), (3, vI z9), (4, vI z10), (5, vI z11)] [] 34) (fun z9 z10 z11 M12 => tj_none) (fun rec hrec z9 z10 z11 M12 => ?_) n
  unfold fx_X10_looks_L34
  refine tj_iload (pc := 34) G 5 dX10_looks_34 rfl ?_
  refine tj_aload_n (pc := 36) G 0 dX10_looks_36 rfl rfl ?_
  refine tj_getR (pc := 37) G (k := 0) (j := 2) (j2 := 2) tk_X10 (by decide) lc_0 rfl (by decide) rfl fl_X10_26 dX10_looks_37 ?_
  refine tj_callVi (pc := 40) G [] mf_X4_crossings (k := 5) (by decide) lc_5 rfl rfl ml_X10_275 (by decide) rfl rfl (Nat.le_of_ble_eq_true rfl) (fun _ h9 => ok_X4_crossings X gg_Paths_5 h9) dX10_looks_40 (fun r15 M16 => ?_)
  refine tj_icmp_ge (pc := 43) G (tgt := 105) (a2 := w32 z11) (b2 := w32 r15) dX10_looks_43 (by decide) rfl rfl ?_ ?_
  · exact tj_sub [0, 3, 4] rfl (hK105 z9 z10 M16)
  refine tj_aload_n (pc := 46) G 0 dX10_looks_46 rfl rfl ?_
  refine tj_iload_n (pc := 47) G 1 dX10_looks_47 rfl rfl ?_
  refine tj_iload_n (pc := 48) G 2 dX10_looks_48 rfl rfl ?_
  refine tj_iload (pc := 49) G 5 dX10_looks_49 rfl ?_
  refine tj_callVv (pc := 51) G [vI c1, vI c2, vI z11] mf_X10_fillPlaces (k := 0) (by decide) lc_0 rfl rfl ml_X10_401 (by decide) rfl rfl (Nat.le_of_ble_eq_true rfl) (fun _ h9 => ok_X10_fillPlaces X  h9) dX10_looks_51 (fun r17 M18 => ?_)
  refine tj_iconst (pc := 54) G dX10_looks_54 ?_
  refine tj_istore (pc := 55) G (fun x19 => [(6, vI x19), (0, vR X 0), (1, vI c1), (2, vI c2), (3, vI z9), (4, vI z10), (5, vI z11)]) dX10_looks_55 (by decide) (fun _ => rfl) (fun x19 => ?_)
  refine tj_sub [1, 2, 3, 4, 5, 6, 0] rfl (fx_X10_looks_L57_ok G    (fun y24 y25 M35 => ?_) tp_F z9 z10 x19 M18)
  refine tj_iinc (pc := 99) G 5 (fun x36 => [(5, vI x36), (0, vR X 0), (1, vI c1), (2, vI c2), (3, vI y24), (4, vI y25)]) dX10_looks_99 rfl (by decide) (fun _ => rfl) (fun x36 => ?_)
  refine tj_goto (pc := 102) G (tgt := 34) dX10_looks_102 (by decide) ?_
  exact tj_sub [1, 2, 3, 4, 5, 0] rfl (hrec y24 y25 x36 M35)
set_option maxRecDepth 100000 in
set_option maxHeartbeats 4000000 in
theorem ok_X10_looks (X : tp_X)  {a1 : Int}  {M : tp_M} {res : Int × tp_M} (h : fx_X10_looks  a1 M = some res) : tp_Ret X LC 64 1 yX10_looks (Cond.code yX10_looks cX10_looks 8 (some .int)) 6 [vR X 0, vI a1] M res := by
  refine tp_ofW (by decide +kernel) rfl rfl (by show _ ≤ 8; exact Nat.le_of_ble_eq_true rfl) h (fun Y G => ?_)
  show tp_J X Y LC 64 8 6 1 (fx_X10_looks  a1 M) M [(0, vR X 0), (1, vI a1)] [] 0
  unfold fx_X10_looks
  refine tj_aload_n (pc := 0) G 0 dX10_looks_0 rfl rfl ?_
  refine tj_getR (pc := 1) G (k := 0) (j := 2) (j2 := 2) tk_X10 (by decide) lc_0 rfl (by decide) rfl fl_X10_26 dX10_looks_1 ?_
  refine tj_iload_n (pc := 4) G 1 dX10_looks_4 rfl rfl ?_
  refine tj_callVi (pc := 5) G [vI a1] mf_X4_hasPost (k := 5) (by decide) lc_5 rfl rfl ml_X10_176 (by decide) rfl rfl (Nat.le_of_ble_eq_true rfl) (fun _ h9 => ok_X4_hasPost X gg_Paths_5 h9) dX10_looks_5 (fun r1 M2 => ?_)
  refine tj_if_ne (pc := 8) G (tgt := 13) (a2 := w32 r1) dX10_looks_8 (by decide) rfl ?_ ?_
  · refine tj_aload_n (pc := 13) G 0 dX10_looks_13 rfl rfl ?_
    refine tj_iload_n (pc := 14) G 1 dX10_looks_14 rfl rfl ?_
    refine tj_callVi (pc := 15) G [vI a1] mf_X10_possibleNumbers (k := 0) (by decide) lc_0 rfl rfl ml_X10_398 (by decide) rfl rfl (Nat.le_of_ble_eq_true rfl) (fun _ h9 => ok_X10_possibleNumbers X  h9) dX10_looks_15 (fun r3 M4 => ?_)
    refine tj_istore_n (pc := 18) G (fun x5 => [(2, vI x5), (0, vR X 0), (1, vI a1)]) dX10_looks_18 rfl (by decide) (fun _ => rfl) (fun x5 => ?_)
    refine tj_iload_n (pc := 19) G 0 dX10_looks_19 rfl rfl ?_
    refine tj_if_ne (pc := 20) G (tgt := 26) (a2 := w32 x5) dX10_looks_20 (by decide) rfl ?_ ?_
    · refine tj_iconst (pc := 26) G dX10_looks_26 ?_
      refine tj_istore_n (pc := 27) G (fun x6 => [(3, vI x6), (2, vI x5), (0, vR X 0), (1, vI a1)]) dX10_looks_27 rfl (by decide) (fun _ => rfl) (fun x6 => ?_)
      refine tj_iconst (pc := 28) G dX10_looks_28 ?_
      refine tj_istore (pc := 29) G (fun x7 => [(4, vI x7), (3, vI x6), (2, vI x5), (0, vR X 0), (1, vI a1)]) dX10_looks_29 (by decide) (fun _ => rfl) (fun x7 => ?_)
      refine tj_iconst (pc := 31) G dX10_looks_31 ?_
      refine tj_istore (pc := 32) G (fun x8 => [(5, vI x8), (4, vI x7), (3, vI x6), (2, vI x5), (0, vR X 0), (1, vI a1)]) dX10_looks_32 (by decide) (fun _ => rfl) (fun x8 => ?_)
      refine tj_sub [4, 5, 3, 2, 1, 0] rfl (fx_X10_looks_L34_ok G    (fun y13 y14 M37 => ?_) tp_F x6 x7 x8 M4)
      refine tj_aload_n (pc := 105) G 0 dX10_looks_105 rfl rfl ?_
      refine tj_getR (pc := 106) G (k := 0) (j := 1) (j2 := 1) tk_X10 (by decide) lc_0 rfl (by decide) rfl fl_X10_19 dX10_looks_106 ?_
      refine tj_iload (pc := 109) G 2 dX10_looks_109 rfl ?_
      refine tj_i2l (pc := 111) G (b := w32 y14) dX10_looks_111 rfl ?_
      refine tj_callVv (pc := 112) G [vL (w32 y14)] mf_X8_tell_ (k := 3) (by decide) lc_3 rfl rfl ml_X10_258 (by decide) rfl rfl (Nat.le_of_ble_eq_true rfl) (fun _ h9 => ok_X8_tell_ X  h9) dX10_looks_112 (fun r38 M39 => ?_)
      refine tj_iload_n (pc := 115) G 1 dX10_looks_115 rfl rfl ?_
      exact tj_iret (pc := 116) G dX10_looks_116
    refine tj_bipush (pc := 23) G dX10_looks_23 rfl ?_
    exact tj_iret (pc := 25) G dX10_looks_25
  refine tj_iconst (pc := 11) G dX10_looks_11 ?_
  exact tj_iret (pc := 12) G dX10_looks_12

def fx_X10_heard  (a1 : Int) (a2 : Int) (M : tp_M) : tp_O :=
(tp_bd (fx_X1_canBeHeard a1 a2 M) (fun r1 M2 =>
(if w32 r1 = 0 then
(some ((-1), M2))
else
(tp_bd (fx_X1_add a1 a2 M2) (fun r3 M4 =>
(if w32 r3 = 0 then
(some ((-1), M4))
else
(tp_bd (fx_X1_size  M4) (fun r5 M6 =>
(some (r5, M6))))))))))
set_option maxRecDepth 100000 in
set_option maxHeartbeats 4000000 in
theorem ok_X10_heard (X : tp_X)  {a1 : Int} {a2 : Int}  {M : tp_M} {res : Int × tp_M} (h : fx_X10_heard  a1 a2 M = some res) : tp_Ret X LC 64 1 yX10_heard (Cond.code yX10_heard cX10_heard 3 (some .int)) 2 [vR X 0, vI a1, vI a2] M res := by
  refine tp_ofW (by decide +kernel) rfl rfl (by show _ ≤ 3; exact Nat.le_of_ble_eq_true rfl) h (fun Y G => ?_)
  show tp_J X Y LC 64 3 2 1 (fx_X10_heard  a1 a2 M) M [(0, vR X 0), (1, vI a1), (2, vI a2)] [] 0
  unfold fx_X10_heard
  refine tj_iload_n (pc := 0) G 1 dX10_heard_0 rfl rfl ?_
  refine tj_iload_n (pc := 1) G 2 dX10_heard_1 rfl rfl ?_
  refine tj_callSi (pc := 2) G [vI a1, vI a2] mf_X1_canBeHeard ml_X10_419 (by decide) rfl rfl (Nat.le_of_ble_eq_true rfl) (fun _ h9 => ok_X1_canBeHeard X  h9) dX10_heard_2 (fun r1 M2 => ?_)
  refine tj_if_ne (pc := 5) G (tgt := 10) (a2 := w32 r1) dX10_heard_5 (by decide) rfl ?_ ?_
  · refine tj_aload_n (pc := 10) G 0 dX10_heard_10 rfl rfl ?_
    refine tj_getR (pc := 11) G (k := 0) (j := 13) (j2 := 13) tk_X10 (by decide) lc_0 rfl (by decide) rfl fl_X10_87 dX10_heard_11 ?_
    refine tj_iload_n (pc := 14) G 1 dX10_heard_14 rfl rfl ?_
    refine tj_iload_n (pc := 15) G 2 dX10_heard_15 rfl rfl ?_
    refine tj_callVi (pc := 16) G [vI a1, vI a2] mf_X1_add (k := 56) (by decide) lc_56 rfl rfl ml_X10_422 (by decide) rfl rfl (Nat.le_of_ble_eq_true rfl) (fun _ h9 => ok_X1_add X  h9) dX10_heard_16 (fun r3 M4 => ?_)
    refine tj_if_eq (pc := 19) G (tgt := 32) (a2 := w32 r3) dX10_heard_19 (by decide) rfl ?_ ?_
    · refine tj_iconst (pc := 32) G dX10_heard_32 ?_
      exact tj_iret (pc := 33) G dX10_heard_33
    refine tj_aload_n (pc := 22) G 0 dX10_heard_22 rfl rfl ?_
    refine tj_getR (pc := 23) G (k := 0) (j := 13) (j2 := 13) tk_X10 (by decide) lc_0 rfl (by decide) rfl fl_X10_87 dX10_heard_23 ?_
    refine tj_callVi (pc := 26) G [] mf_X1_size (k := 56) (by decide) lc_56 rfl rfl ml_X10_424 (by decide) rfl rfl (Nat.le_of_ble_eq_true rfl) (fun _ h9 => ok_X1_size X  h9) dX10_heard_26 (fun r5 M6 => ?_)
    refine tj_goto (pc := 29) G (tgt := 33) dX10_heard_29 (by decide) ?_
    exact tj_iret (pc := 33) G dX10_heard_33
  refine tj_iconst (pc := 8) G dX10_heard_8 ?_
  exact tj_iret (pc := 9) G dX10_heard_9

def fx_X10_denies   (M : tp_M) : tp_O :=
(tp_bd (fx_X1_size  M) (fun r1 M2 =>
(tp_lt r1 (fun x3 =>
(tp_bd (fx_X1_clear  M2) (fun r4 M5 =>
(some (x3, M5))))))))
set_option maxRecDepth 100000 in
set_option maxHeartbeats 4000000 in
theorem ok_X10_denies (X : tp_X)    {M : tp_M} {res : Int × tp_M} (h : fx_X10_denies   M = some res) : tp_Ret X LC 64 1 yX10_denies (Cond.code yX10_denies cX10_denies 2 (some .int)) 2 [vR X 0] M res := by
  refine tp_ofW (by decide +kernel) rfl rfl (by show _ ≤ 2; exact Nat.le_of_ble_eq_true rfl) h (fun Y G => ?_)
  show tp_J X Y LC 64 2 2 1 (fx_X10_denies   M) M [(0, vR X 0)] [] 0
  unfold fx_X10_denies
  refine tj_aload_n (pc := 0) G 0 dX10_denies_0 rfl rfl ?_
  refine tj_getR (pc := 1) G (k := 0) (j := 13) (j2 := 13) tk_X10 (by decide) lc_0 rfl (by decide) rfl fl_X10_87 dX10_denies_1 ?_
  refine tj_callVi (pc := 4) G [] mf_X1_size (k := 56) (by decide) lc_56 rfl rfl ml_X10_424 (by decide) rfl rfl (Nat.le_of_ble_eq_true rfl) (fun _ h9 => ok_X1_size X  h9) dX10_denies_4 (fun r1 M2 => ?_)
  refine tj_istore_n (pc := 7) G (fun x3 => [(1, vI x3), (0, vR X 0)]) dX10_denies_7 rfl (by decide) (fun _ => rfl) (fun x3 => ?_)
  refine tj_aload_n (pc := 8) G 1 dX10_denies_8 rfl rfl ?_
  refine tj_getR (pc := 9) G (k := 0) (j := 13) (j2 := 13) tk_X10 (by decide) lc_0 rfl (by decide) rfl fl_X10_87 dX10_denies_9 ?_
  refine tj_callVv (pc := 12) G [] mf_X1_clear (k := 56) (by decide) lc_56 rfl rfl ml_X10_140 (by decide) rfl rfl (Nat.le_of_ble_eq_true rfl) (fun _ h9 => ok_X1_clear X  h9) dX10_denies_12 (fun r4 M5 => ?_)
  refine tj_iload_n (pc := 15) G 0 dX10_denies_15 rfl rfl ?_
  exact tj_iret (pc := 16) G dX10_denies_16

def fx_X10_isSo  (a1 : Int) (a2 : Int) (a3 : Int) (M : tp_M) : tp_O :=
(tp_bd (fx_X4_hasPost 5 a1 M) (fun r1 M2 =>
(if w32 r1 = 0 then
(some (0, M2))
else
(if w32 a2 = 0 then
(tp_bd (fx_X4_degree 5 a1 M2) (fun r5 M6 =>
(if w32 r5 = w32 a3 then
(some (1, M6))
else
(some (0, M6)))))
else
(if w32 a2 = 1 then
(tp_ck (w32 a1) 8 (if w32 (M2 27 (w32 a1)) < w32 a3 then
(some (0, M2))
else
(some (1, M2))))
else
(if w32 a2 = 2 then
(tp_ck (w32 a1) 8 (tp_bd (fx_X4_goal 5 a1 (M2 26 (w32 a1)) M2) (fun r11 M12 =>
(if w32 r11 = w32 a3 then
(some (1, M12))
else
(some (0, M12))))))
else
(tp_bd (fx_X4_far 5 a1 M2) (fun r13 M14 =>
(if w32 r13 = w32 a3 then
(some (1, M14))
else
(some (0, M14)))))))))))
set_option maxRecDepth 100000 in
set_option maxHeartbeats 4000000 in
theorem ok_X10_isSo (X : tp_X)  {a1 : Int} {a2 : Int} {a3 : Int}  {M : tp_M} {res : Int × tp_M} (h : fx_X10_isSo  a1 a2 a3 M = some res) : tp_Ret X LC 64 1 yX10_isSo (Cond.code yX10_isSo cX10_isSo 4 (some .boolean)) 3 [vR X 0, vI a1, vI a2, vI a3] M res := by
  refine tp_ofW (by decide +kernel) rfl rfl (by show _ ≤ 4; exact Nat.le_of_ble_eq_true rfl) h (fun Y G => ?_)
  show tp_J X Y LC 64 4 3 1 (fx_X10_isSo  a1 a2 a3 M) M [(0, vR X 0), (1, vI a1), (2, vI a2), (3, vI a3)] [] 0
  unfold fx_X10_isSo
  refine tj_aload_n (pc := 0) G 0 dX10_isSo_0 rfl rfl ?_
  refine tj_getR (pc := 1) G (k := 0) (j := 2) (j2 := 2) tk_X10 (by decide) lc_0 rfl (by decide) rfl fl_X10_26 dX10_isSo_1 ?_
  refine tj_iload_n (pc := 4) G 1 dX10_isSo_4 rfl rfl ?_
  refine tj_callVi (pc := 5) G [vI a1] mf_X4_hasPost (k := 5) (by decide) lc_5 rfl rfl ml_X10_176 (by decide) rfl rfl (Nat.le_of_ble_eq_true rfl) (fun _ h9 => ok_X4_hasPost X gg_Paths_5 h9) dX10_isSo_5 (fun r1 M2 => ?_)
  refine tj_if_ne (pc := 8) G (tgt := 13) (a2 := w32 r1) dX10_isSo_8 (by decide) rfl ?_ ?_
  · refine tj_iload_n (pc := 13) G 2 dX10_isSo_13 rfl rfl ?_
    refine tj_case (fun hq3 => ?_) (fun hq4 => ?_)
    · refine tj_tabIn (pc := 14) G (v := 0) (tgt := 40) dX10_isSo_14 hq3 (by decide) rfl (by decide) ?_
      refine tj_aload_n (pc := 40) G 0 dX10_isSo_40 rfl rfl ?_
      refine tj_getR (pc := 41) G (k := 0) (j := 2) (j2 := 2) tk_X10 (by decide) lc_0 rfl (by decide) rfl fl_X10_26 dX10_isSo_41 ?_
      refine tj_iload_n (pc := 44) G 1 dX10_isSo_44 rfl rfl ?_
      refine tj_callVi (pc := 45) G [vI a1] mf_X4_degree (k := 5) (by decide) lc_5 rfl rfl ml_X10_156 (by decide) rfl rfl (Nat.le_of_ble_eq_true rfl) (fun _ h9 => ok_X4_degree X gg_Paths_5 h9) dX10_isSo_45 (fun r5 M6 => ?_)
      refine tj_iload_n (pc := 48) G 3 dX10_isSo_48 rfl rfl ?_
      refine tj_icmp_ne (pc := 49) G (tgt := 56) (a2 := w32 r5) (b2 := w32 a3) dX10_isSo_49 (by decide) rfl rfl ?_ ?_
      · refine tj_iconst (pc := 56) G dX10_isSo_56 ?_
        exact tj_zret (pc := 57) G (by decide) dX10_isSo_57
      refine tj_iconst (pc := 52) G dX10_isSo_52 ?_
      refine tj_goto (pc := 53) G (tgt := 57) dX10_isSo_53 (by decide) ?_
      exact tj_zret (pc := 57) G (by decide) dX10_isSo_57
    refine tj_case (fun hq7 => ?_) (fun hq8 => ?_)
    · refine tj_tabIn (pc := 14) G (v := 1) (tgt := 58) dX10_isSo_14 hq7 (by decide) rfl (by decide) ?_
      refine tj_aload_n (pc := 58) G 0 dX10_isSo_58 rfl rfl ?_
      refine tj_getR (pc := 59) G (k := 0) (j := 6) (j2 := 6) tk_X10 (by decide) lc_0 rfl (by decide) rfl fl_X10_46 dX10_isSo_59 ?_
      refine tj_getRN (pc := 62) G (k := 25) (j := 1) (j2 := 1) tk_X2 (by decide) lc_25 rfl (by decide) rfl fn_X10_167 dX10_isSo_62 ?_
      refine tj_iload_n (pc := 65) G 1 dX10_isSo_65 rfl rfl ?_
      refine tj_iald (pc := 66) G (k := 27) (i2 := w32 a1) (n2 := 8) (by decide) lc_27 rfl rfl dX10_isSo_66 ?_
      refine tj_iload_n (pc := 67) G 3 dX10_isSo_67 rfl rfl ?_
      refine tj_icmp_lt (pc := 68) G (tgt := 75) (a2 := w32 (M2 27 (w32 a1))) (b2 := w32 a3) dX10_isSo_68 (by decide) rfl rfl ?_ ?_
      · refine tj_iconst (pc := 75) G dX10_isSo_75 ?_
        exact tj_zret (pc := 76) G (by decide) dX10_isSo_76
      refine tj_iconst (pc := 71) G dX10_isSo_71 ?_
      refine tj_goto (pc := 72) G (tgt := 76) dX10_isSo_72 (by decide) ?_
      exact tj_zret (pc := 76) G (by decide) dX10_isSo_76
    refine tj_case (fun hq9 => ?_) (fun hq10 => ?_)
    · refine tj_tabIn (pc := 14) G (v := 2) (tgt := 77) dX10_isSo_14 hq9 (by decide) rfl (by decide) ?_
      refine tj_aload_n (pc := 77) G 0 dX10_isSo_77 rfl rfl ?_
      refine tj_getR (pc := 78) G (k := 0) (j := 2) (j2 := 2) tk_X10 (by decide) lc_0 rfl (by decide) rfl fl_X10_26 dX10_isSo_78 ?_
      refine tj_iload_n (pc := 81) G 1 dX10_isSo_81 rfl rfl ?_
      refine tj_aload_n (pc := 82) G 0 dX10_isSo_82 rfl rfl ?_
      refine tj_getR (pc := 83) G (k := 0) (j := 6) (j2 := 6) tk_X10 (by decide) lc_0 rfl (by decide) rfl fl_X10_46 dX10_isSo_83 ?_
      refine tj_getRN (pc := 86) G (k := 25) (j := 0) (j2 := 0) tk_X2 (by decide) lc_25 rfl (by decide) rfl fn_X10_160 dX10_isSo_86 ?_
      refine tj_iload_n (pc := 89) G 1 dX10_isSo_89 rfl rfl ?_
      refine tj_iald (pc := 90) G (k := 26) (i2 := w32 a1) (n2 := 8) (by decide) lc_26 rfl rfl dX10_isSo_90 ?_
      refine tj_callVi (pc := 91) G [vI a1, vI (M2 26 (w32 a1))] mf_X4_goal (k := 5) (by decide) lc_5 rfl rfl ml_X10_163 (by decide) rfl rfl (Nat.le_of_ble_eq_true rfl) (fun _ h9 => ok_X4_goal X gg_Paths_5 h9) dX10_isSo_91 (fun r11 M12 => ?_)
      refine tj_iload_n (pc := 94) G 3 dX10_isSo_94 rfl rfl ?_
      refine tj_icmp_ne (pc := 95) G (tgt := 102) (a2 := w32 r11) (b2 := w32 a3) dX10_isSo_95 (by decide) rfl rfl ?_ ?_
      · refine tj_iconst (pc := 102) G dX10_isSo_102 ?_
        exact tj_zret (pc := 103) G (by decide) dX10_isSo_103
      refine tj_iconst (pc := 98) G dX10_isSo_98 ?_
      refine tj_goto (pc := 99) G (tgt := 103) dX10_isSo_99 (by decide) ?_
      exact tj_zret (pc := 103) G (by decide) dX10_isSo_103
    refine tj_tabOut (pc := 14) G (tgt := 104) dX10_isSo_14 (by omega) (by decide) ?_
    refine tj_aload_n (pc := 104) G 0 dX10_isSo_104 rfl rfl ?_
    refine tj_getR (pc := 105) G (k := 0) (j := 2) (j2 := 2) tk_X10 (by decide) lc_0 rfl (by decide) rfl fl_X10_26 dX10_isSo_105 ?_
    refine tj_iload_n (pc := 108) G 1 dX10_isSo_108 rfl rfl ?_
    refine tj_callVi (pc := 109) G [vI a1] mf_X4_far (k := 5) (by decide) lc_5 rfl rfl ml_X10_173 (by decide) rfl rfl (Nat.le_of_ble_eq_true rfl) (fun _ h9 => ok_X4_far X gg_Paths_5 h9) dX10_isSo_109 (fun r13 M14 => ?_)
    refine tj_iload_n (pc := 112) G 3 dX10_isSo_112 rfl rfl ?_
    refine tj_icmp_ne (pc := 113) G (tgt := 120) (a2 := w32 r13) (b2 := w32 a3) dX10_isSo_113 (by decide) rfl rfl ?_ ?_
    · refine tj_iconst (pc := 120) G dX10_isSo_120 ?_
      exact tj_zret (pc := 121) G (by decide) dX10_isSo_121
    refine tj_iconst (pc := 116) G dX10_isSo_116 ?_
    refine tj_goto (pc := 117) G (tgt := 121) dX10_isSo_117 (by decide) ?_
    exact tj_zret (pc := 121) G (by decide) dX10_isSo_121
  refine tj_iconst (pc := 11) G dX10_isSo_11 ?_
  exact tj_zret (pc := 12) G (by decide) dX10_isSo_12

def fx_X10_crossingsOf_L5 (c1 : Int) (c2 : Int) (rec : Int → Int → tp_M → tp_O) (z3 z4 : Int) (M5 : tp_M) : tp_O :=
(tp_bd (fx_X4_crossings 5 M5) (fun r6 M7 =>
(if w32 z4 < w32 r6 then
(tp_bd (fx_X10_isSo z4 c1 c2 M7) (fun r8 M9 =>
(tp_jn1 (fun y10 M11 => 
(tp_lt (z4 + 1) (fun x12 =>
(rec y10 x12 M11)))) (fun jk35 =>
(if w32 r8 = 0 then
(jk35 z3 M9)
else
(tp_lt (x_or z3 (x_shl 1 z4)) (fun x13 =>
(jk35 x13 M9))))))))
else
(some (z3, M7)))))
def fx_X10_crossingsOf  (a1 : Int) (a2 : Int) (M : tp_M) : tp_O :=
(tp_lt 0 (fun x1 =>
(tp_lt 1 (fun x2 =>
(tp_lp2 (fx_X10_crossingsOf_L5 a1 a2 ) tp_F x1 x2 M)))))
set_option maxRecDepth 100000 in
set_option maxHeartbeats 4000000 in
theorem fx_X10_crossingsOf_L5_ok {X : tp_X} {Y : tp_Y} (G : tp_Ok X Y 64 cX10_crossingsOf 5 RX10 (some .int))  {c1 : Int} {c2 : Int}    (n : Nat) : ∀ (z3 z4 : Int) (M5 : tp_M), tp_J X Y LC 64 5 4 1 (tp_lp2 (fx_X10_crossingsOf_L5  c1 c2 ) n z3 z4 M5) M5 [(0, vR X 0), (1, vI c1), (2, vI c2), (3, vI z3), (4, vI z4)] [] 5 := by
  refine tp_lp2_ok (P := fun o z3 z4 M5 => tp_J X Y LC 64 5 4 1 (o) M5 [(0, vR X 0), (1, vI c1), (2, vI c2), (3, vI z3), (4, vI z4)] [] 5) (fun z3 z4 M5 => tj_none) (fun rec hrec z3 z4 M5 => ?_) n
  unfold fx_X10_crossingsOf_L5
  refine tj_iload (pc := 5) G 4 dX10_crossingsOf_5 rfl ?_
  refine tj_aload_n (pc := 7) G 0 dX10_crossingsOf_7 rfl rfl ?_
  refine tj_getR (pc := 8) G (k := 0) (j := 2) (j2 := 2) tk_X10 (by decide) lc_0 rfl (by decide) rfl fl_X10_26 dX10_crossingsOf_8 ?_
  refine tj_callVi (pc := 11) G [] mf_X4_crossings (k := 5) (by decide) lc_5 rfl rfl ml_X10_275 (by decide) rfl rfl (Nat.le_of_ble_eq_true rfl) (fun _ h9 => ok_X4_crossings X gg_Paths_5 h9) dX10_crossingsOf_11 (fun r6 M7 => ?_)
  refine tj_icmp_ge (pc := 14) G (tgt := 41) (a2 := w32 z4) (b2 := w32 r6) dX10_crossingsOf_14 (by decide) rfl rfl ?_ ?_
  · refine tj_iload_n (pc := 41) G 3 dX10_crossingsOf_41 rfl rfl ?_
    exact tj_iret (pc := 42) G dX10_crossingsOf_42
  refine tj_aload_n (pc := 17) G 0 dX10_crossingsOf_17 rfl rfl ?_
  refine tj_iload (pc := 18) G 4 dX10_crossingsOf_18 rfl ?_
  refine tj_iload_n (pc := 20) G 1 dX10_crossingsOf_20 rfl rfl ?_
  refine tj_iload_n (pc := 21) G 2 dX10_crossingsOf_21 rfl rfl ?_
  refine tj_callVi (pc := 22) G [vI z4, vI c1, vI c2] mf_X10_isSo (k := 0) (by decide) lc_0 rfl rfl ml_X10_437 (by decide) rfl rfl (Nat.le_of_ble_eq_true rfl) (fun _ h9 => ok_X10_isSo X  h9) dX10_crossingsOf_22 (fun r8 M9 => ?_)
  refine tj_jn1 (fun y10 => [(0, vR X 0), (1, vI c1), (2, vI c2), (3, vI y10), (4, vI z4)]) (fun y10 => []) 35 (fun y10 M11 => ?_) (fun jk35 hj35 => ?_)
  · refine tj_iinc (pc := 35) G 4 (fun x12 => [(4, vI x12), (0, vR X 0), (1, vI c1), (2, vI c2), (3, vI y10)]) dX10_crossingsOf_35 rfl (by decide) (fun _ => rfl) (fun x12 => ?_)
    refine tj_goto (pc := 38) G (tgt := 5) dX10_crossingsOf_38 (by decide) ?_
    exact tj_sub [1, 2, 3, 4, 0] rfl (hrec y10 x12 M11)
  refine tj_if_eq (pc := 25) G (tgt := 35) (a2 := w32 r8) dX10_crossingsOf_25 (by decide) rfl ?_ ?_
  · exact tj_sub [0, 1, 2, 3, 4] rfl (hj35 z3 M9)
  refine tj_iload_n (pc := 28) G 3 dX10_crossingsOf_28 rfl rfl ?_
  refine tj_iconst (pc := 29) G dX10_crossingsOf_29 ?_
  refine tj_iload (pc := 30) G 4 dX10_crossingsOf_30 rfl ?_
  refine tj_ishl (pc := 32) G dX10_crossingsOf_32 ?_
  refine tj_ior (pc := 33) G dX10_crossingsOf_33 ?_
  refine tj_istore_n (pc := 34) G (fun x13 => [(3, vI x13), (0, vR X 0), (1, vI c1), (2, vI c2), (4, vI z4)]) dX10_crossingsOf_34 rfl (by decide) (fun _ => rfl) (fun x13 => ?_)
  exact tj_sub [1, 2, 3, 0, 4] rfl (hj35 x13 M9)
set_option maxRecDepth 100000 in
set_option maxHeartbeats 4000000 in
theorem ok_X10_crossingsOf (X : tp_X)  {a1 : Int} {a2 : Int}  {M : tp_M} {res : Int × tp_M} (h : fx_X10_crossingsOf  a1 a2 M = some res) : tp_Ret X LC 64 1 yX10_crossingsOf (Cond.code yX10_crossingsOf cX10_crossingsOf 5 (some .int)) 4 [vR X 0, vI a1, vI a2] M res := by
  refine tp_ofW (by decide +kernel) rfl rfl (by show _ ≤ 5; exact Nat.le_of_ble_eq_true rfl) h (fun Y G => ?_)
  show tp_J X Y LC 64 5 4 1 (fx_X10_crossingsOf  a1 a2 M) M [(0, vR X 0), (1, vI a1), (2, vI a2)] [] 0
  unfold fx_X10_crossingsOf
  refine tj_iconst (pc := 0) G dX10_crossingsOf_0 ?_
  refine tj_istore_n (pc := 1) G (fun x1 => [(3, vI x1), (0, vR X 0), (1, vI a1), (2, vI a2)]) dX10_crossingsOf_1 rfl (by decide) (fun _ => rfl) (fun x1 => ?_)
  refine tj_iconst (pc := 2) G dX10_crossingsOf_2 ?_
  refine tj_istore (pc := 3) G (fun x2 => [(4, vI x2), (3, vI x1), (0, vR X 0), (1, vI a1), (2, vI a2)]) dX10_crossingsOf_3 (by decide) (fun _ => rfl) (fun x2 => ?_)
  refine tj_sub [2, 3, 4, 1, 0] rfl (fx_X10_crossingsOf_L5_ok G     tp_F x1 x2 M)

def fx_X10_fittingCrossings_L14  (rec : Int → Int → tp_M → tp_O) (z5 z6 : Int) (M7 : tp_M) : tp_O :=
(tp_bd (fx_X1_size  M7) (fun r8 M9 =>
(if w32 z6 < w32 r8 then
(tp_bd (fx_X1_what z6 M9) (fun r10 M11 =>
(tp_bd (fx_X1_value z6 M11) (fun r12 M13 =>
(tp_bd (fx_X10_crossingsOf r10 r12 M13) (fun r14 M15 =>
(tp_lt (x_and z5 r14) (fun x16 =>
(tp_lt (z6 + 1) (fun x17 =>
(rec x16 x17 M15)))))))))))
else
(some (z5, M9)))))
def fx_X10_fittingCrossings   (M : tp_M) : tp_O :=
(tp_bd (fx_X4_crossings 5 M) (fun r1 M2 =>
(tp_lt ((x_shl 1 r1) - 2) (fun x3 =>
(tp_lt 0 (fun x4 =>
(tp_lp2 (fx_X10_fittingCrossings_L14  ) tp_F x3 x4 M2)))))))
set_option maxRecDepth 100000 in
set_option maxHeartbeats 4000000 in
theorem fx_X10_fittingCrossings_L14_ok {X : tp_X} {Y : tp_Y} (G : tp_Ok X Y 64 cX10_fittingCrossings 3 RX10 (some .int))      (n : Nat) : ∀ (z5 z6 : Int) (M7 : tp_M), tp_J X Y LC 64 3 5 1 (tp_lp2 (fx_X10_fittingCrossings_L14   ) n z5 z6 M7) M7 [(0, vR X 0), (1, vI z5), (2, vI z6)] [] 14 := by
  refine tp_lp2_ok (P := fun o z5 z6 M7 => tp_J X Y LC 64 3 5 1 (o) M7 [(0, vR X 0), (1, vI z5), (2, vI z6)] [] 14) (fun z5 z6 M7 => tj_none) (fun rec hrec z5 z6 M7 => ?_) n
  unfold fx_X10_fittingCrossings_L14
  refine tj_iload_n (pc := 14) G 2 dX10_fittingCrossings_14 rfl rfl ?_
  refine tj_aload_n (pc := 15) G 0 dX10_fittingCrossings_15 rfl rfl ?_
  refine tj_getR (pc := 16) G (k := 0) (j := 13) (j2 := 13) tk_X10 (by decide) lc_0 rfl (by decide) rfl fl_X10_87 dX10_fittingCrossings_16 ?_
  refine tj_callVi (pc := 19) G [] mf_X1_size (k := 56) (by decide) lc_56 rfl rfl ml_X10_424 (by decide) rfl rfl (Nat.le_of_ble_eq_true rfl) (fun _ h9 => ok_X1_size X  h9) dX10_fittingCrossings_19 (fun r8 M9 => ?_)
  refine tj_icmp_ge (pc := 22) G (tgt := 54) (a2 := w32 z6) (b2 := w32 r8) dX10_fittingCrossings_22 (by decide) rfl rfl ?_ ?_
  · refine tj_iload_n (pc := 54) G 1 dX10_fittingCrossings_54 rfl rfl ?_
    exact tj_iret (pc := 55) G dX10_fittingCrossings_55
  refine tj_iload_n (pc := 25) G 1 dX10_fittingCrossings_25 rfl rfl ?_
  refine tj_aload_n (pc := 26) G 0 dX10_fittingCrossings_26 rfl rfl ?_
  refine tj_aload_n (pc := 27) G 0 dX10_fittingCrossings_27 rfl rfl ?_
  refine tj_getR (pc := 28) G (k := 0) (j := 13) (j2 := 13) tk_X10 (by decide) lc_0 rfl (by decide) rfl fl_X10_87 dX10_fittingCrossings_28 ?_
  refine tj_iload_n (pc := 31) G 2 dX10_fittingCrossings_31 rfl rfl ?_
  refine tj_callVi (pc := 32) G [vI z6] mf_X1_what (k := 56) (by decide) lc_56 rfl rfl ml_X10_431 (by decide) rfl rfl (Nat.le_of_ble_eq_true rfl) (fun _ h9 => ok_X1_what X  h9) dX10_fittingCrossings_32 (fun r10 M11 => ?_)
  refine tj_aload_n (pc := 35) G 0 dX10_fittingCrossings_35 rfl rfl ?_
  refine tj_getR (pc := 36) G (k := 0) (j := 13) (j2 := 13) tk_X10 (by decide) lc_0 rfl (by decide) rfl fl_X10_87 dX10_fittingCrossings_36 ?_
  refine tj_iload_n (pc := 39) G 2 dX10_fittingCrossings_39 rfl rfl ?_
  refine tj_callVi (pc := 40) G [vI z6] mf_X1_value (k := 56) (by decide) lc_56 rfl rfl ml_X10_434 (by decide) rfl rfl (Nat.le_of_ble_eq_true rfl) (fun _ h9 => ok_X1_value X  h9) dX10_fittingCrossings_40 (fun r12 M13 => ?_)
  refine tj_callVi (pc := 43) G [vI r10, vI r12] mf_X10_crossingsOf (k := 0) (by decide) lc_0 rfl rfl ml_X10_428 (by decide) rfl rfl (Nat.le_of_ble_eq_true rfl) (fun _ h9 => ok_X10_crossingsOf X  h9) dX10_fittingCrossings_43 (fun r14 M15 => ?_)
  refine tj_iand (pc := 46) G dX10_fittingCrossings_46 ?_
  refine tj_istore_n (pc := 47) G (fun x16 => [(1, vI x16), (0, vR X 0), (2, vI z6)]) dX10_fittingCrossings_47 rfl (by decide) (fun _ => rfl) (fun x16 => ?_)
  refine tj_iinc (pc := 48) G 2 (fun x17 => [(2, vI x17), (1, vI x16), (0, vR X 0)]) dX10_fittingCrossings_48 rfl (by decide) (fun _ => rfl) (fun x17 => ?_)
  refine tj_goto (pc := 51) G (tgt := 14) dX10_fittingCrossings_51 (by decide) ?_
  exact tj_sub [2, 1, 0] rfl (hrec x16 x17 M15)
set_option maxRecDepth 100000 in
set_option maxHeartbeats 4000000 in
theorem ok_X10_fittingCrossings (X : tp_X)    {M : tp_M} {res : Int × tp_M} (h : fx_X10_fittingCrossings   M = some res) : tp_Ret X LC 64 1 yX10_fittingCrossings (Cond.code yX10_fittingCrossings cX10_fittingCrossings 3 (some .int)) 5 [vR X 0] M res := by
  refine tp_ofW (by decide +kernel) rfl rfl (by show _ ≤ 3; exact Nat.le_of_ble_eq_true rfl) h (fun Y G => ?_)
  show tp_J X Y LC 64 3 5 1 (fx_X10_fittingCrossings   M) M [(0, vR X 0)] [] 0
  unfold fx_X10_fittingCrossings
  refine tj_iconst (pc := 0) G dX10_fittingCrossings_0 ?_
  refine tj_aload_n (pc := 1) G 0 dX10_fittingCrossings_1 rfl rfl ?_
  refine tj_getR (pc := 2) G (k := 0) (j := 2) (j2 := 2) tk_X10 (by decide) lc_0 rfl (by decide) rfl fl_X10_26 dX10_fittingCrossings_2 ?_
  refine tj_callVi (pc := 5) G [] mf_X4_crossings (k := 5) (by decide) lc_5 rfl rfl ml_X10_275 (by decide) rfl rfl (Nat.le_of_ble_eq_true rfl) (fun _ h9 => ok_X4_crossings X gg_Paths_5 h9) dX10_fittingCrossings_5 (fun r1 M2 => ?_)
  refine tj_ishl (pc := 8) G dX10_fittingCrossings_8 ?_
  refine tj_iconst (pc := 9) G dX10_fittingCrossings_9 ?_
  refine tj_isub (pc := 10) G dX10_fittingCrossings_10 ?_
  refine tj_istore_n (pc := 11) G (fun x3 => [(1, vI x3), (0, vR X 0)]) dX10_fittingCrossings_11 rfl (by decide) (fun _ => rfl) (fun x3 => ?_)
  refine tj_iconst (pc := 12) G dX10_fittingCrossings_12 ?_
  refine tj_istore_n (pc := 13) G (fun x4 => [(2, vI x4), (1, vI x3), (0, vR X 0)]) dX10_fittingCrossings_13 rfl (by decide) (fun _ => rfl) (fun x4 => ?_)
  refine tj_sub [2, 1, 0] rfl (fx_X10_fittingCrossings_L14_ok G     tp_F x3 x4 M2)

def fx_X10_fits   (M : tp_M) : tp_O :=
(tp_bd (fx_X10_fittingCrossings  M) (fun r1 M2 =>
(tp_lt r1 (fun x3 =>
(tp_bd (fx_J6_bitCount_0f7a4 x3 M2) (fun r4 M5 =>
(tp_bd (fx_X8_tell_ (w32 r4) M5) (fun r6 M7 =>
(some (x3, M7))))))))))
set_option maxRecDepth 100000 in
set_option maxHeartbeats 4000000 in
theorem ok_X10_fits (X : tp_X)    {M : tp_M} {res : Int × tp_M} (h : fx_X10_fits   M = some res) : tp_Ret X LC 64 1 yX10_fits (Cond.code yX10_fits cX10_fits 2 (some .int)) 6 [vR X 0] M res := by
  refine tp_ofW (by decide +kernel) rfl rfl (by show _ ≤ 2; exact Nat.le_of_ble_eq_true rfl) h (fun Y G => ?_)
  show tp_J X Y LC 64 2 6 1 (fx_X10_fits   M) M [(0, vR X 0)] [] 0
  unfold fx_X10_fits
  refine tj_aload_n (pc := 0) G 0 dX10_fits_0 rfl rfl ?_
  refine tj_callVi (pc := 1) G [] mf_X10_fittingCrossings (k := 0) (by decide) lc_0 rfl rfl ml_X10_425 (by decide) rfl rfl (Nat.le_of_ble_eq_true rfl) (fun _ h9 => ok_X10_fittingCrossings X  h9) dX10_fits_1 (fun r1 M2 => ?_)
  refine tj_istore_n (pc := 4) G (fun x3 => [(1, vI x3), (0, vR X 0)]) dX10_fits_4 rfl (by decide) (fun _ => rfl) (fun x3 => ?_)
  refine tj_aload_n (pc := 5) G 1 dX10_fits_5 rfl rfl ?_
  refine tj_getR (pc := 6) G (k := 0) (j := 1) (j2 := 1) tk_X10 (by decide) lc_0 rfl (by decide) rfl fl_X10_19 dX10_fits_6 ?_
  refine tj_iload_n (pc := 9) G 0 dX10_fits_9 rfl rfl ?_
  refine tj_callSi (pc := 10) G [vI x3] mf_J6_bitCount_0f7a4 ml_X10_316 (by decide) rfl rfl (Nat.le_of_ble_eq_true rfl) (fun _ h9 => ok_J6_bitCount_0f7a4 X  h9) dX10_fits_10 (fun r4 M5 => ?_)
  refine tj_i2l (pc := 13) G (b := w32 r4) dX10_fits_13 rfl ?_
  refine tj_callVv (pc := 14) G [vL (w32 r4)] mf_X8_tell_ (k := 3) (by decide) lc_3 rfl rfl ml_X10_258 (by decide) rfl rfl (Nat.le_of_ble_eq_true rfl) (fun _ h9 => ok_X8_tell_ X  h9) dX10_fits_14 (fun r6 M7 => ?_)
  refine tj_iload_n (pc := 17) G 0 dX10_fits_17 rfl rfl ?_
  exact tj_iret (pc := 18) G dX10_fits_18

def fx_X10_asks_L26 (c1 : Int) (c2 : Int) (K106 : Int → Int → tp_M → tp_O) (rec : Int → Int → Int → tp_M → tp_O) (z10 z11 z12 : Int) (M13 : tp_M) : tp_O :=
(if w32 z12 < 40 then
(tp_nz 10 (tp_lt (x_div z12 10) (fun x16 =>
(tp_nz 10 (tp_lt (x_rem z12 10) (fun x17 =>
(tp_bd (fx_X1_canBeHeard x16 x17 M13) (fun r18 M19 =>
(tp_jn2 (fun y20 y21 M22 => 
(tp_lt (z12 + 1) (fun x23 =>
(rec y20 y21 x23 M22)))) (fun jk100 =>
(if w32 r18 = 0 then
(jk100 z10 z11 M19)
else
(tp_bd (fx_X10_crossingsOf x16 x17 M19) (fun r24 M25 =>
(tp_bd (fx_J6_bitCount_0f7a4 (x_and c1 r24) M25) (fun r26 M27 =>
(tp_lt r26 (fun x28 =>
(tp_lt (max (w32 x28) (w32 (c2 - x28))) (fun x29 =>
(if w32 x29 < w32 z11 then
(tp_lt x29 (fun x30 =>
(tp_lt z12 (fun x31 =>
(jk100 x31 x30 M27)))))
else
(jk100 z10 z11 M27)))))))))))))))))))))
else
(K106 z10 z11 M13))
def fx_X10_asks   (M : tp_M) : tp_O :=
(tp_bd (fx_X10_fittingCrossings  M) (fun r1 M2 =>
(tp_lt r1 (fun x3 =>
(if w32 x3 = 0 then
(some ((-2), M2))
else
(tp_bd (fx_J6_bitCount_0f7a4 x3 M2) (fun r4 M5 =>
(tp_lt r4 (fun x6 =>
(tp_lt 0 (fun x7 =>
(tp_lt 8 (fun x8 =>
(tp_lt 0 (fun x9 =>
(tp_lp3 (fx_X10_asks_L26 x3 x6 (fun y14 y15 M32 =>
(tp_bd (fx_X8_tell_ (w32 y15) M32) (fun r33 M34 =>
(some (y14, M34)))))) tp_F x7 x8 x9 M5))))))))))))))))
set_option maxRecDepth 100000 in
set_option maxHeartbeats 4000000 in
theorem fx_X10_asks_L26_ok {X : tp_X} {Y : tp_Y} (G : tp_Ok X Y 64 cX10_asks 10 RX10 (some .int))  {c1 : Int} {c2 : Int} {K106 : Int → Int → tp_M → tp_O}   (hK106 : ∀ (y14 y15 : Int) (M9 : tp_M), tp_J X Y LC 64 10 6 1 (K106 y14 y15 M9) M9 [(0, vR X 0), (3, vI y14), (4, vI y15)] [] 106) (n : Nat) : ∀ (z10 z11 z12 : Int) (M13 : tp_M), tp_J X Y LC 64 10 6 1 (tp_lp3 (fx_X10_asks_L26  c1 c2 K106) n z10 z11 z12 M13) M13 [(0, vR X 0), (1, vI c1), (2, vI c2), (3, vI z10), (4, vI z11), (5, vI z12)] [] 26 := by
  refine tp_lp3_ok (P := fun o z10 z11 z12 M13 => tp_J X Y LC 64 10 6 1 (o) M13 [(0, vR X 0), (1, vI c1), (2, vI c2), (3, vI z10), (4, vI z11), (5, vI z12)] [] 26) (fun z10 z11 z12 M13 => tj_none) (fun rec hrec z10 z11 z12 M13 => ?_) n
  unfold fx_X10_asks_L26
  refine tj_iload (pc := 26) G 5 dX10_asks_26 rfl ?_
  refine tj_bipush (pc := 28) G dX10_asks_28 rfl ?_
  refine tj_icmp_ge (pc := 30) G (tgt := 106) (a2 := w32 z12) (b2 := 40) dX10_asks_30 (by decide) rfl rfl ?_ ?_
  · exact tj_sub [0, 3, 4] rfl (hK106 z10 z11 M13)
  refine tj_iload (pc := 33) G 5 dX10_asks_33 rfl ?_
  refine tj_bipush (pc := 35) G dX10_asks_35 rfl ?_
  refine tj_idiv (pc := 37) G (b2 := 10) dX10_asks_37 rfl ?_
  refine tj_istore (pc := 38) G (fun x16 => [(6, vI x16), (0, vR X 0), (1, vI c1), (2, vI c2), (3, vI z10), (4, vI z11), (5, vI z12)]) dX10_asks_38 (by decide) (fun _ => rfl) (fun x16 => ?_)
  refine tj_iload (pc := 40) G 6 dX10_asks_40 rfl ?_
  refine tj_bipush (pc := 42) G dX10_asks_42 rfl ?_
  refine tj_irem (pc := 44) G (b2 := 10) dX10_asks_44 rfl ?_
  refine tj_istore (pc := 45) G (fun x17 => [(7, vI x17), (6, vI x16), (0, vR X 0), (1, vI c1), (2, vI c2), (3, vI z10), (4, vI z11), (5, vI z12)]) dX10_asks_45 (by decide) (fun _ => rfl) (fun x17 => ?_)
  refine tj_iload (pc := 47) G 1 dX10_asks_47 rfl ?_
  refine tj_iload (pc := 49) G 0 dX10_asks_49 rfl ?_
  refine tj_callSi (pc := 51) G [vI x16, vI x17] mf_X1_canBeHeard ml_X10_419 (by decide) rfl rfl (Nat.le_of_ble_eq_true rfl) (fun _ h9 => ok_X1_canBeHeard X  h9) dX10_asks_51 (fun r18 M19 => ?_)
  refine tj_jn2 (fun y20 y21 => [(0, vR X 0), (1, vI c1), (2, vI c2), (3, vI y20), (4, vI y21), (5, vI z12)]) (fun y20 y21 => []) 100 (fun y20 y21 M22 => ?_) (fun jk100 hj100 => ?_)
  · refine tj_iinc (pc := 100) G 5 (fun x23 => [(5, vI x23), (0, vR X 0), (1, vI c1), (2, vI c2), (3, vI y20), (4, vI y21)]) dX10_asks_100 rfl (by decide) (fun _ => rfl) (fun x23 => ?_)
    refine tj_goto (pc := 103) G (tgt := 26) dX10_asks_103 (by decide) ?_
    exact tj_sub [1, 2, 3, 4, 5, 0] rfl (hrec y20 y21 x23 M22)
  refine tj_if_ne (pc := 54) G (tgt := 60) (a2 := w32 r18) dX10_asks_54 (by decide) rfl ?_ ?_
  · refine tj_iload_n (pc := 60) G 3 dX10_asks_60 rfl rfl ?_
    refine tj_aload_n (pc := 61) G 2 dX10_asks_61 rfl rfl ?_
    refine tj_iload (pc := 62) G 1 dX10_asks_62 rfl ?_
    refine tj_iload (pc := 64) G 0 dX10_asks_64 rfl ?_
    refine tj_callVi (pc := 66) G [vI x16, vI x17] mf_X10_crossingsOf (k := 0) (by decide) lc_0 rfl rfl ml_X10_428 (by decide) rfl rfl (Nat.le_of_ble_eq_true rfl) (fun _ h9 => ok_X10_crossingsOf X  h9) dX10_asks_66 (fun r24 M25 => ?_)
    refine tj_iand (pc := 69) G dX10_asks_69 ?_
    refine tj_callSi (pc := 70) G [vI (x_and c1 r24)] mf_J6_bitCount_0f7a4 ml_X10_316 (by decide) rfl rfl (Nat.le_of_ble_eq_true rfl) (fun _ h9 => ok_J6_bitCount_0f7a4 X  h9) dX10_asks_70 (fun r26 M27 => ?_)
    refine tj_istore (pc := 73) G (fun x28 => [(8, vI x28), (7, vI x17), (6, vI x16), (0, vR X 0), (1, vI c1), (2, vI c2), (3, vI z10), (4, vI z11), (5, vI z12)]) dX10_asks_73 (by decide) (fun _ => rfl) (fun x28 => ?_)
    refine tj_iload (pc := 75) G 0 dX10_asks_75 rfl ?_
    refine tj_iload_n (pc := 77) G 5 dX10_asks_77 rfl rfl ?_
    refine tj_iload (pc := 78) G 0 dX10_asks_78 rfl ?_
    refine tj_isub (pc := 80) G dX10_asks_80 ?_
    refine tj_max (pc := 81) G (a2 := w32 x28) (b2 := w32 (c2 - x28)) rfl rfl ml_X10_198 mw_max (by decide) (Nat.le_of_ble_eq_true rfl) dX10_asks_81 ?_
    refine tj_istore (pc := 84) G (fun x29 => [(9, vI x29), (8, vI x28), (7, vI x17), (6, vI x16), (0, vR X 0), (1, vI c1), (2, vI c2), (3, vI z10), (4, vI z11), (5, vI z12)]) dX10_asks_84 (by decide) (fun _ => rfl) (fun x29 => ?_)
    refine tj_iload (pc := 86) G 0 dX10_asks_86 rfl ?_
    refine tj_iload (pc := 88) G 8 dX10_asks_88 rfl ?_
    refine tj_icmp_ge (pc := 90) G (tgt := 100) (a2 := w32 x29) (b2 := w32 z11) dX10_asks_90 (by decide) rfl rfl ?_ ?_
    · exact tj_sub [4, 5, 6, 7, 8, 9] rfl (hj100 z10 z11 M27)
    refine tj_iload (pc := 93) G 0 dX10_asks_93 rfl ?_
    refine tj_istore (pc := 95) G (fun x30 => [(4, vI x30), (9, vI x29), (8, vI x28), (7, vI x17), (6, vI x16), (0, vR X 0), (1, vI c1), (2, vI c2), (3, vI z10), (5, vI z12)]) dX10_asks_95 (by decide) (fun _ => rfl) (fun x30 => ?_)
    refine tj_iload (pc := 97) G 9 dX10_asks_97 rfl ?_
    refine tj_istore_n (pc := 99) G (fun x31 => [(3, vI x31), (4, vI x30), (9, vI x29), (8, vI x28), (7, vI x17), (6, vI x16), (0, vR X 0), (1, vI c1), (2, vI c2), (5, vI z12)]) dX10_asks_99 rfl (by decide) (fun _ => rfl) (fun x31 => ?_)
    exact tj_sub [6, 7, 8, 0, 1, 9] rfl (hj100 x31 x30 M27)
  refine tj_goto (pc := 57) G (tgt := 100) dX10_asks_57 (by decide) ?_
  exact tj_sub [2, 3, 4, 5, 6, 7] rfl (hj100 z10 z11 M19)
set_option maxRecDepth 100000 in
set_option maxHeartbeats 4000000 in
theorem ok_X10_asks (X : tp_X)    {M : tp_M} {res : Int × tp_M} (h : fx_X10_asks   M = some res) : tp_Ret X LC 64 1 yX10_asks (Cond.code yX10_asks cX10_asks 10 (some .int)) 6 [vR X 0] M res := by
  refine tp_ofW (by decide +kernel) rfl rfl (by show _ ≤ 10; exact Nat.le_of_ble_eq_true rfl) h (fun Y G => ?_)
  show tp_J X Y LC 64 10 6 1 (fx_X10_asks   M) M [(0, vR X 0)] [] 0
  unfold fx_X10_asks
  refine tj_aload_n (pc := 0) G 0 dX10_asks_0 rfl rfl ?_
  refine tj_callVi (pc := 1) G [] mf_X10_fittingCrossings (k := 0) (by decide) lc_0 rfl rfl ml_X10_425 (by decide) rfl rfl (Nat.le_of_ble_eq_true rfl) (fun _ h9 => ok_X10_fittingCrossings X  h9) dX10_asks_1 (fun r1 M2 => ?_)
  refine tj_istore_n (pc := 4) G (fun x3 => [(1, vI x3), (0, vR X 0)]) dX10_asks_4 rfl (by decide) (fun _ => rfl) (fun x3 => ?_)
  refine tj_iload_n (pc := 5) G 0 dX10_asks_5 rfl rfl ?_
  refine tj_if_ne (pc := 6) G (tgt := 12) (a2 := w32 x3) dX10_asks_6 (by decide) rfl ?_ ?_
  · refine tj_iload_n (pc := 12) G 0 dX10_asks_12 rfl rfl ?_
    refine tj_callSi (pc := 13) G [vI x3] mf_J6_bitCount_0f7a4 ml_X10_316 (by decide) rfl rfl (Nat.le_of_ble_eq_true rfl) (fun _ h9 => ok_J6_bitCount_0f7a4 X  h9) dX10_asks_13 (fun r4 M5 => ?_)
    refine tj_istore_n (pc := 16) G (fun x6 => [(2, vI x6), (1, vI x3), (0, vR X 0)]) dX10_asks_16 rfl (by decide) (fun _ => rfl) (fun x6 => ?_)
    refine tj_iconst (pc := 17) G dX10_asks_17 ?_
    refine tj_istore_n (pc := 18) G (fun x7 => [(3, vI x7), (2, vI x6), (1, vI x3), (0, vR X 0)]) dX10_asks_18 rfl (by decide) (fun _ => rfl) (fun x7 => ?_)
    refine tj_bipush (pc := 19) G dX10_asks_19 rfl ?_
    refine tj_istore (pc := 21) G (fun x8 => [(4, vI x8), (3, vI x7), (2, vI x6), (1, vI x3), (0, vR X 0)]) dX10_asks_21 (by decide) (fun _ => rfl) (fun x8 => ?_)
    refine tj_iconst (pc := 23) G dX10_asks_23 ?_
    refine tj_istore (pc := 24) G (fun x9 => [(5, vI x9), (4, vI x8), (3, vI x7), (2, vI x6), (1, vI x3), (0, vR X 0)]) dX10_asks_24 (by decide) (fun _ => rfl) (fun x9 => ?_)
    refine tj_sub [5, 4, 3, 2, 1, 0] rfl (fx_X10_asks_L26_ok G    (fun y14 y15 M32 => ?_) tp_F x7 x8 x9 M5)
    refine tj_aload_n (pc := 106) G 0 dX10_asks_106 rfl rfl ?_
    refine tj_getR (pc := 107) G (k := 0) (j := 1) (j2 := 1) tk_X10 (by decide) lc_0 rfl (by decide) rfl fl_X10_19 dX10_asks_107 ?_
    refine tj_iload (pc := 110) G 2 dX10_asks_110 rfl ?_
    refine tj_i2l (pc := 112) G (b := w32 y15) dX10_asks_112 rfl ?_
    refine tj_callVv (pc := 113) G [vL (w32 y15)] mf_X8_tell_ (k := 3) (by decide) lc_3 rfl rfl ml_X10_258 (by decide) rfl rfl (Nat.le_of_ble_eq_true rfl) (fun _ h9 => ok_X8_tell_ X  h9) dX10_asks_113 (fun r33 M34 => ?_)
    refine tj_iload_n (pc := 116) G 1 dX10_asks_116 rfl rfl ?_
    exact tj_iret (pc := 117) G dX10_asks_117
  refine tj_bipush (pc := 9) G dX10_asks_9 rfl ?_
  exact tj_iret (pc := 11) G dX10_asks_11

def fx_X10_isCold  (a1 : Int) (a2 : Int) (M : tp_M) : tp_O :=
(if w32 a1 < 0 then
(some (0, M))
else
(if w32 a1 < 31 then
(tp_ck (w32 a1) 31 (if w32 (M 63 (w32 a1)) = w32 a2 then
(some (1, M))
else
(some (0, M))))
else
(some (0, M))))
set_option maxRecDepth 100000 in
set_option maxHeartbeats 4000000 in
theorem ok_X10_isCold (X : tp_X)  {a1 : Int} {a2 : Int}  {M : tp_M} {res : Int × tp_M} (h : fx_X10_isCold  a1 a2 M = some res) : tp_Ret X LC 64 1 yX10_isCold (Cond.code yX10_isCold cX10_isCold 3 (some .boolean)) 1 [vR X 0, vI a1, vI a2] M res := by
  refine tp_ofW (by decide +kernel) rfl rfl (by show _ ≤ 3; exact Nat.le_of_ble_eq_true rfl) h (fun Y G => ?_)
  show tp_J X Y LC 64 3 1 1 (fx_X10_isCold  a1 a2 M) M [(0, vR X 0), (1, vI a1), (2, vI a2)] [] 0
  unfold fx_X10_isCold
  refine tj_iload_n (pc := 0) G 1 dX10_isCold_0 rfl rfl ?_
  refine tj_if_lt (pc := 1) G (tgt := 27) (a2 := w32 a1) dX10_isCold_1 (by decide) rfl ?_ ?_
  · refine tj_iconst (pc := 27) G dX10_isCold_27 ?_
    exact tj_zret (pc := 28) G (by decide) dX10_isCold_28
  refine tj_iload_n (pc := 4) G 1 dX10_isCold_4 rfl rfl ?_
  refine tj_aload_n (pc := 5) G 0 dX10_isCold_5 rfl rfl ?_
  refine tj_getR (pc := 6) G (k := 0) (j := 18) (j2 := 18) tk_X10 (by decide) lc_0 rfl (by decide) rfl fl_X10_104 dX10_isCold_6 ?_
  refine tj_alen (pc := 9) G (k := 63) (n2 := 31) (by decide) lc_63 rfl (by decide) dX10_isCold_9 ?_
  refine tj_icmp_ge (pc := 10) G (tgt := 27) (a2 := w32 a1) (b2 := 31) dX10_isCold_10 (by decide) rfl rfl ?_ ?_
  · refine tj_iconst (pc := 27) G dX10_isCold_27 ?_
    exact tj_zret (pc := 28) G (by decide) dX10_isCold_28
  refine tj_aload_n (pc := 13) G 0 dX10_isCold_13 rfl rfl ?_
  refine tj_getR (pc := 14) G (k := 0) (j := 18) (j2 := 18) tk_X10 (by decide) lc_0 rfl (by decide) rfl fl_X10_104 dX10_isCold_14 ?_
  refine tj_iload_n (pc := 17) G 1 dX10_isCold_17 rfl rfl ?_
  refine tj_iald (pc := 18) G (k := 63) (i2 := w32 a1) (n2 := 31) (by decide) lc_63 rfl rfl dX10_isCold_18 ?_
  refine tj_iload_n (pc := 19) G 2 dX10_isCold_19 rfl rfl ?_
  refine tj_icmp_ne (pc := 20) G (tgt := 27) (a2 := w32 (M 63 (w32 a1))) (b2 := w32 a2) dX10_isCold_20 (by decide) rfl rfl ?_ ?_
  · refine tj_iconst (pc := 27) G dX10_isCold_27 ?_
    exact tj_zret (pc := 28) G (by decide) dX10_isCold_28
  refine tj_iconst (pc := 23) G dX10_isCold_23 ?_
  refine tj_goto (pc := 24) G (tgt := 28) dX10_isCold_24 (by decide) ?_
  exact tj_zret (pc := 28) G (by decide) dX10_isCold_28

def fx_X10_crowds_L50 (c1 : Int) (c2 : Int) (c3 : Int) (K110 : Int → tp_M → tp_O) (K130 : tp_M → tp_O) (rec : Int → tp_M → tp_O) (z11 : Int) (M12 : tp_M) : tp_O :=
(if w32 z11 ≤ w32 c2 then
(tp_jn1 (fun y14 M15 => 
(tp_lt y14 (fun x16 =>
(tp_jn0 (fun M17 => 
(tp_lt (z11 + 1) (fun x18 =>
(rec x18 M17)))) (fun jk124 =>
(if w32 x16 = 0 then
(jk124 M15)
else
(tp_bd (fx_X10_isCold (c1 - c3) (c2 - z11) M15) (fun r19 M20 =>
(if w32 r19 = 0 then
(jk124 M20)
else
(K110 z11 M20)))))))))) (fun jk89 =>
(if w32 c3 = 0 then
(if w32 z11 ≤ 0 then
(jk89 0 M12)
else
(jk89 1 M12))
else
(tp_jn0 (fun M21 => 
(jk89 1 M21)) (fun jk84 =>
(if w32 z11 = 0 then
(jk84 M12)
else
(if w32 c3 = w32 z11 then
(jk84 M12)
else
(jk89 0 M12))))))))
else
(K130 M12))
def fx_X10_crowds_L42 (c1 : Int) (c2 : Int) (K110 : Int → Int → tp_M → tp_O) (rec : Int → tp_M → tp_O) (z6 : Int) (M7 : tp_M) : tp_O :=
(if w32 z6 ≤ w32 c1 then
(tp_lt 0 (fun x10 =>
(tp_lp1 (fx_X10_crowds_L50 c1 c2 z6 (fun y13 M22 =>
(K110 z6 y13 M22))
(fun M23 =>
(tp_lt (z6 + 1) (fun x24 =>
(rec x24 M23))))) tp_F x10 M7)))
else
(some (0, M7)))
def fx_X10_crowds  (a1 : Int) (a2 : Int) (M : tp_M) : tp_O :=
(if w32 a1 < 0 then
(some ((-1), M))
else
(if w32 a1 ≤ 30 then
(if w32 a2 < 0 then
(some ((-1), M))
else
(if w32 a2 ≤ 30 then
(tp_bd (fx_X8_tell  M) (fun r1 M2 =>
(tp_bd (fx_X10_isCold a1 a2 M2) (fun r3 M4 =>
(if w32 r3 = 0 then
(tp_lt 0 (fun x5 =>
(tp_lp1 (fx_X10_crowds_L42 a1 a2 (fun y8 y9 M25 =>
(tp_bd (fx_X8_tell__ (w32 y8) (w32 y9) M25) (fun r26 M27 =>
(some (1, M27)))))) tp_F x5 M4)))
else
(some (0, M4)))))))
else
(some ((-1), M))))
else
(some ((-1), M))))
set_option maxRecDepth 100000 in
set_option maxHeartbeats 4000000 in
theorem fx_X10_crowds_L50_ok {X : tp_X} {Y : tp_Y} (G : tp_Ok X Y 64 cX10_crowds 6 RX10 (some .int))  {c1 : Int} {c2 : Int} {c3 : Int} {K110 : Int → tp_M → tp_O} {K130 : tp_M → tp_O}   (hK110 : ∀ (y13 : Int) (M9 : tp_M), tp_J X Y LC 64 6 4 1 (K110 y13 M9) M9 [(0, vR X 0), (3, vI c3), (4, vI y13)] [] 110) (hK130 : ∀ (M9 : tp_M), tp_J X Y LC 64 6 4 1 (K130  M9) M9 [(0, vR X 0), (1, vI c1), (2, vI c2), (3, vI c3)] [] 130) (n : Nat) : ∀ (z11 : Int) (M12 : tp_M), tp_J X Y LC 64 6 4 1 (tp_lp1 (fx_X10_crowds_L50  c1 c2 c3 K110 K130) n z11 M12) M12 [(0, vR X 0), (1, vI c1), (2, vI c2), (3, vI c3), (4, vI z11)] [] 50 := by
  refine tp_lp1_ok (P := fun o z11 M12 => tp_J X Y LC 64 6 4 1 (o) M12 [(0, vR X 0), (1, vI c1), (2, vI c2), (3, vI c3), (4, vI z11)] [] 50) (fun z11 M12 => tj_none) (fun rec hrec z11 M12 => ?_) n
  unfold fx_X10_crowds_L50
  refine tj_iload (pc := 50) G 4 dX10_crowds_50 rfl ?_
  refine tj_iload_n (pc := 52) G 2 dX10_crowds_52 rfl rfl ?_
  refine tj_icmp_gt (pc := 53) G (tgt := 130) (a2 := w32 z11) (b2 := w32 c2) dX10_crowds_53 (by decide) rfl rfl ?_ ?_
  · exact tj_sub [0, 1, 2, 3] rfl (hK130  M12)
  refine tj_iload_n (pc := 56) G 3 dX10_crowds_56 rfl rfl ?_
  refine tj_jn1 (fun y14 => [(0, vR X 0), (1, vI c1), (2, vI c2), (3, vI c3), (4, vI z11)]) (fun y14 => [vI y14]) 89 (fun y14 M15 => ?_) (fun jk89 hj89 => ?_)
  · refine tj_istore (pc := 89) G (fun x16 => [(5, vI x16), (0, vR X 0), (1, vI c1), (2, vI c2), (3, vI c3), (4, vI z11)]) dX10_crowds_89 (by decide) (fun _ => rfl) (fun x16 => ?_)
    refine tj_iload (pc := 91) G 0 dX10_crowds_91 rfl ?_
    refine tj_jn0 [(0, vR X 0), (1, vI c1), (2, vI c2), (3, vI c3), (4, vI z11)] [] 124 (fun M17 => ?_) (fun jk124 hj124 => ?_)
    · refine tj_iinc (pc := 124) G 4 (fun x18 => [(4, vI x18), (0, vR X 0), (1, vI c1), (2, vI c2), (3, vI c3)]) dX10_crowds_124 rfl (by decide) (fun _ => rfl) (fun x18 => ?_)
      refine tj_goto (pc := 127) G (tgt := 50) dX10_crowds_127 (by decide) ?_
      exact tj_sub [1, 2, 3, 4, 0] rfl (hrec x18 M17)
    refine tj_if_eq (pc := 93) G (tgt := 124) (a2 := w32 x16) dX10_crowds_93 (by decide) rfl ?_ ?_
    · exact tj_sub [1, 2, 3, 4, 5] rfl (hj124  M15)
    refine tj_aload_n (pc := 96) G 1 dX10_crowds_96 rfl rfl ?_
    refine tj_iload_n (pc := 97) G 2 dX10_crowds_97 rfl rfl ?_
    refine tj_iload_n (pc := 98) G 4 dX10_crowds_98 rfl rfl ?_
    refine tj_isub (pc := 99) G dX10_crowds_99 ?_
    refine tj_iload_n (pc := 100) G 3 dX10_crowds_100 rfl rfl ?_
    refine tj_iload (pc := 101) G 5 dX10_crowds_101 rfl ?_
    refine tj_isub (pc := 103) G dX10_crowds_103 ?_
    refine tj_callVi (pc := 104) G [vI (c1 - c3), vI (c2 - z11)] mf_X10_isCold (k := 0) (by decide) lc_0 rfl rfl ml_X10_440 (by decide) rfl rfl (Nat.le_of_ble_eq_true rfl) (fun _ h9 => ok_X10_isCold X  h9) dX10_crowds_104 (fun r19 M20 => ?_)
    refine tj_if_eq (pc := 107) G (tgt := 124) (a2 := w32 r19) dX10_crowds_107 (by decide) rfl ?_ ?_
    · exact tj_sub [1, 2, 3, 4, 5] rfl (hj124  M20)
    exact tj_sub [1, 4, 5] rfl (hK110 z11 M20)
  refine tj_if_ne (pc := 57) G (tgt := 73) (a2 := w32 c3) dX10_crowds_57 (by decide) rfl ?_ ?_
  · refine tj_iload (pc := 73) G 4 dX10_crowds_73 rfl ?_
    refine tj_jn0 [(0, vR X 0), (1, vI c1), (2, vI c2), (3, vI c3), (4, vI z11)] [] 84 (fun M21 => ?_) (fun jk84 hj84 => ?_)
    · refine tj_iconst (pc := 84) G dX10_crowds_84 ?_
      refine tj_goto (pc := 85) G (tgt := 89) dX10_crowds_85 (by decide) ?_
      exact tj_sub [0, 1, 2, 3, 4] rfl (hj89 1 M21)
    refine tj_if_eq (pc := 75) G (tgt := 84) (a2 := w32 z11) dX10_crowds_75 (by decide) rfl ?_ ?_
    · exact tj_sub [0, 1, 2, 3, 4] rfl (hj84  M12)
    refine tj_iload_n (pc := 78) G 3 dX10_crowds_78 rfl rfl ?_
    refine tj_iload (pc := 79) G 4 dX10_crowds_79 rfl ?_
    refine tj_icmp_ne (pc := 81) G (tgt := 88) (a2 := w32 c3) (b2 := w32 z11) dX10_crowds_81 (by decide) rfl rfl ?_ ?_
    · refine tj_iconst (pc := 88) G dX10_crowds_88 ?_
      exact tj_sub [0, 1, 2, 3, 4] rfl (hj89 0 M12)
    exact tj_sub [0, 1, 2, 3, 4] rfl (hj84  M12)
  refine tj_iload (pc := 60) G 4 dX10_crowds_60 rfl ?_
  refine tj_if_le (pc := 62) G (tgt := 69) (a2 := w32 z11) dX10_crowds_62 (by decide) rfl ?_ ?_
  · refine tj_iconst (pc := 69) G dX10_crowds_69 ?_
    refine tj_goto (pc := 70) G (tgt := 89) dX10_crowds_70 (by decide) ?_
    exact tj_sub [0, 1, 2, 3, 4] rfl (hj89 0 M12)
  refine tj_iconst (pc := 65) G dX10_crowds_65 ?_
  refine tj_goto (pc := 66) G (tgt := 89) dX10_crowds_66 (by decide) ?_
  exact tj_sub [0, 1, 2, 3, 4] rfl (hj89 1 M12)
set_option maxRecDepth 100000 in
set_option maxHeartbeats 4000000 in
theorem fx_X10_crowds_L42_ok {X : tp_X} {Y : tp_Y} (G : tp_Ok X Y 64 cX10_crowds 6 RX10 (some .int))  {c1 : Int} {c2 : Int} {K110 : Int → Int → tp_M → tp_O}   (hK110 : ∀ (y8 y9 : Int) (M9 : tp_M), tp_J X Y LC 64 6 4 1 (K110 y8 y9 M9) M9 [(0, vR X 0), (3, vI y8), (4, vI y9)] [] 110) (n : Nat) : ∀ (z6 : Int) (M7 : tp_M), tp_J X Y LC 64 6 4 1 (tp_lp1 (fx_X10_crowds_L42  c1 c2 K110) n z6 M7) M7 [(0, vR X 0), (1, vI c1), (2, vI c2), (3, vI z6)] [] 42 := by
  refine tp_lp1_ok (P := fun o z6 M7 => tp_J X Y LC 64 6 4 1 (o) M7 [(0, vR X 0), (1, vI c1), (2, vI c2), (3, vI z6)] [] 42) (fun z6 M7 => tj_none) (fun rec hrec z6 M7 => ?_) n
  unfold fx_X10_crowds_L42
  refine tj_iload_n (pc := 42) G 3 dX10_crowds_42 rfl rfl ?_
  refine tj_iload_n (pc := 43) G 1 dX10_crowds_43 rfl rfl ?_
  refine tj_icmp_gt (pc := 44) G (tgt := 136) (a2 := w32 z6) (b2 := w32 c1) dX10_crowds_44 (by decide) rfl rfl ?_ ?_
  · refine tj_iconst (pc := 136) G dX10_crowds_136 ?_
    exact tj_iret (pc := 137) G dX10_crowds_137
  refine tj_iconst (pc := 47) G dX10_crowds_47 ?_
  refine tj_istore (pc := 48) G (fun x10 => [(4, vI x10), (0, vR X 0), (1, vI c1), (2, vI c2), (3, vI z6)]) dX10_crowds_48 (by decide) (fun _ => rfl) (fun x10 => ?_)
  refine tj_sub [1, 2, 3, 4, 0] rfl (fx_X10_crowds_L50_ok G    (fun y13 M22 => ?_) (fun M23 => ?_) tp_F x10 M7)
  · exact tj_sub [0, 1, 2] rfl (hK110 z6 y13 M22)
  refine tj_iinc (pc := 130) G 3 (fun x24 => [(3, vI x24), (0, vR X 0), (1, vI c1), (2, vI c2)]) dX10_crowds_130 rfl (by decide) (fun _ => rfl) (fun x24 => ?_)
  refine tj_goto (pc := 133) G (tgt := 42) dX10_crowds_133 (by decide) ?_
  exact tj_sub [1, 2, 3, 0] rfl (hrec x24 M23)
set_option maxRecDepth 100000 in
set_option maxHeartbeats 4000000 in
theorem ok_X10_crowds (X : tp_X)  {a1 : Int} {a2 : Int}  {M : tp_M} {res : Int × tp_M} (h : fx_X10_crowds  a1 a2 M = some res) : tp_Ret X LC 64 1 yX10_crowds (Cond.code yX10_crowds cX10_crowds 6 (some .int)) 4 [vR X 0, vI a1, vI a2] M res := by
  refine tp_ofW (by decide +kernel) rfl rfl (by show _ ≤ 6; exact Nat.le_of_ble_eq_true rfl) h (fun Y G => ?_)
  show tp_J X Y LC 64 6 4 1 (fx_X10_crowds  a1 a2 M) M [(0, vR X 0), (1, vI a1), (2, vI a2)] [] 0
  unfold fx_X10_crowds
  refine tj_iload_n (pc := 0) G 1 dX10_crowds_0 rfl rfl ?_
  refine tj_if_lt (pc := 1) G (tgt := 20) (a2 := w32 a1) dX10_crowds_1 (by decide) rfl ?_ ?_
  · refine tj_iconst (pc := 20) G dX10_crowds_20 ?_
    exact tj_iret (pc := 21) G dX10_crowds_21
  refine tj_iload_n (pc := 4) G 1 dX10_crowds_4 rfl rfl ?_
  refine tj_bipush (pc := 5) G dX10_crowds_5 rfl ?_
  refine tj_icmp_gt (pc := 7) G (tgt := 20) (a2 := w32 a1) (b2 := 30) dX10_crowds_7 (by decide) rfl rfl ?_ ?_
  · refine tj_iconst (pc := 20) G dX10_crowds_20 ?_
    exact tj_iret (pc := 21) G dX10_crowds_21
  refine tj_iload_n (pc := 10) G 2 dX10_crowds_10 rfl rfl ?_
  refine tj_if_lt (pc := 11) G (tgt := 20) (a2 := w32 a2) dX10_crowds_11 (by decide) rfl ?_ ?_
  · refine tj_iconst (pc := 20) G dX10_crowds_20 ?_
    exact tj_iret (pc := 21) G dX10_crowds_21
  refine tj_iload_n (pc := 14) G 2 dX10_crowds_14 rfl rfl ?_
  refine tj_bipush (pc := 15) G dX10_crowds_15 rfl ?_
  refine tj_icmp_le (pc := 17) G (tgt := 22) (a2 := w32 a2) (b2 := 30) dX10_crowds_17 (by decide) rfl rfl ?_ ?_
  · refine tj_aload_n (pc := 22) G 0 dX10_crowds_22 rfl rfl ?_
    refine tj_getR (pc := 23) G (k := 0) (j := 1) (j2 := 1) tk_X10 (by decide) lc_0 rfl (by decide) rfl fl_X10_19 dX10_crowds_23 ?_
    refine tj_callVv (pc := 26) G [] mf_X8_tell (k := 3) (by decide) lc_3 rfl rfl ml_X10_342 (by decide) rfl rfl (Nat.le_of_ble_eq_true rfl) (fun _ h9 => ok_X8_tell X  h9) dX10_crowds_26 (fun r1 M2 => ?_)
    refine tj_aload_n (pc := 29) G 0 dX10_crowds_29 rfl rfl ?_
    refine tj_iload_n (pc := 30) G 1 dX10_crowds_30 rfl rfl ?_
    refine tj_iload_n (pc := 31) G 2 dX10_crowds_31 rfl rfl ?_
    refine tj_callVi (pc := 32) G [vI a1, vI a2] mf_X10_isCold (k := 0) (by decide) lc_0 rfl rfl ml_X10_440 (by decide) rfl rfl (Nat.le_of_ble_eq_true rfl) (fun _ h9 => ok_X10_isCold X  h9) dX10_crowds_32 (fun r3 M4 => ?_)
    refine tj_if_eq (pc := 35) G (tgt := 40) (a2 := w32 r3) dX10_crowds_35 (by decide) rfl ?_ ?_
    · refine tj_iconst (pc := 40) G dX10_crowds_40 ?_
      refine tj_istore_n (pc := 41) G (fun x5 => [(3, vI x5), (0, vR X 0), (1, vI a1), (2, vI a2)]) dX10_crowds_41 rfl (by decide) (fun _ => rfl) (fun x5 => ?_)
      refine tj_sub [1, 2, 3, 0] rfl (fx_X10_crowds_L42_ok G    (fun y8 y9 M25 => ?_) tp_F x5 M4)
      refine tj_aload_n (pc := 110) G 0 dX10_crowds_110 rfl rfl ?_
      refine tj_getR (pc := 111) G (k := 0) (j := 1) (j2 := 1) tk_X10 (by decide) lc_0 rfl (by decide) rfl fl_X10_19 dX10_crowds_111 ?_
      refine tj_iload_n (pc := 114) G 1 dX10_crowds_114 rfl rfl ?_
      refine tj_i2l (pc := 115) G (b := w32 y8) dX10_crowds_115 rfl ?_
      refine tj_iload (pc := 116) G 2 dX10_crowds_116 rfl ?_
      refine tj_i2l (pc := 118) G (b := w32 y9) dX10_crowds_118 rfl ?_
      refine tj_callVv (pc := 119) G [vL (w32 y8), vL (w32 y9)] mf_X8_tell__ (k := 3) (by decide) lc_3 rfl rfl ml_X10_241 (by decide) rfl rfl (Nat.le_of_ble_eq_true rfl) (fun _ h9 => ok_X8_tell__ X  h9) dX10_crowds_119 (fun r26 M27 => ?_)
      refine tj_iconst (pc := 122) G dX10_crowds_122 ?_
      exact tj_iret (pc := 123) G dX10_crowds_123
    refine tj_iconst (pc := 38) G dX10_crowds_38 ?_
    exact tj_iret (pc := 39) G dX10_crowds_39
  refine tj_iconst (pc := 20) G dX10_crowds_20 ?_
  exact tj_iret (pc := 21) G dX10_crowds_21

def fx_X10_fillColdPartners_L2 (k1 : Nat) (k1n : Nat) (K18 : tp_M → tp_O) (rec : Int → tp_M → tp_O) (z2 : Int) (M3 : tp_M) : tp_O :=
(if w32 z2 < w32 k1n then
(tp_ck (w32 z2) k1n (tp_lm (tp_up M3 k1 (w32 z2) (-1)) (fun M4 =>
(tp_lt (z2 + 1) (fun x5 =>
(rec x5 M4))))))
else
(K18 M3))
def fx_X10_fillColdPartners_L22 (k1 : Nat) (k1n : Nat)  (rec : Int → Int → tp_M → tp_O) (z9 z10 : Int) (M11 : tp_M) : tp_O :=
(if w32 z10 < w32 k1n then
(tp_ck (w32 z10) k1n (tp_jn1 (fun y12 M13 => 
(tp_lt (z10 + 1) (fun x14 =>
(rec y12 x14 M13)))) (fun jk59 =>
(if w32 (M11 k1 (w32 z10)) = (-1) then
(tp_lt (z10 + z9) (fun x15 =>
(tp_ck (w32 z10) k1n (tp_lm (tp_up M11 k1 (w32 z10) x15) (fun M16 =>
(tp_jn0 (fun M17 => 
(tp_lt (z9 + 1) (fun x18 =>
(jk59 x18 M17)))) (fun jk56 =>
(if w32 x15 < w32 k1n then
(tp_ck (w32 x15) k1n (tp_lm (tp_up M16 k1 (w32 x15) z10) (fun M19 =>
(jk56 M19))))
else
(jk56 M16)))))))))
else
(jk59 z9 M11)))))
else
(some (0, M11)))
def fx_X10_fillColdPartners  (k1 : Nat) (k1n : Nat) (M : tp_M) : tp_O :=
(tp_lt 0 (fun x1 =>
(tp_lp1 (fx_X10_fillColdPartners_L2 k1 k1n (fun M6 =>
(tp_lt 0 (fun x7 =>
(tp_lt 0 (fun x8 =>
(tp_lp2 (fx_X10_fillColdPartners_L22 k1 k1n ) tp_F x7 x8 M6))))))) tp_F x1 M)))
set_option maxRecDepth 100000 in
set_option maxHeartbeats 4000000 in
theorem fx_X10_fillColdPartners_L2_ok {X : tp_X} {Y : tp_Y} (G : tp_Ok X Y 64 cX10_fillColdPartners 4 RX10 none)  {k1 : Nat} {k1n : Nat} {K18 : tp_M → tp_O} (hk1 : tg_I LC 64 k1 k1n)  (hK18 : ∀ (M9 : tp_M), tp_J X Y LC 64 4 1 0 (K18  M9) M9 [(0, vR X k1)] [] 18) (n : Nat) : ∀ (z2 : Int) (M3 : tp_M), tp_J X Y LC 64 4 1 0 (tp_lp1 (fx_X10_fillColdPartners_L2 k1 k1n  K18) n z2 M3) M3 [(0, vR X k1), (1, vI z2)] [] 2 := by
  refine tp_lp1_ok (P := fun o z2 M3 => tp_J X Y LC 64 4 1 0 (o) M3 [(0, vR X k1), (1, vI z2)] [] 2) (fun z2 M3 => tj_none) (fun rec hrec z2 M3 => ?_) n
  unfold fx_X10_fillColdPartners_L2
  refine tj_iload_n (pc := 2) G 1 dX10_fillColdPartners_2 rfl rfl ?_
  refine tj_aload_n (pc := 3) G 0 dX10_fillColdPartners_3 rfl rfl ?_
  refine tj_alen (pc := 4) G (k := k1) (n2 := k1n) hk1.1 hk1.2 rfl (by decide) dX10_fillColdPartners_4 ?_
  refine tj_icmp_ge (pc := 5) G (tgt := 18) (a2 := w32 z2) (b2 := w32 k1n) dX10_fillColdPartners_5 (by decide) rfl rfl ?_ ?_
  · exact tj_sub [0] rfl (hK18  M3)
  refine tj_aload_n (pc := 8) G 0 dX10_fillColdPartners_8 rfl rfl ?_
  refine tj_iload_n (pc := 9) G 1 dX10_fillColdPartners_9 rfl rfl ?_
  refine tj_iconst (pc := 10) G dX10_fillColdPartners_10 ?_
  refine tj_iast (pc := 11) G (k := k1) (i2 := w32 z2) (n2 := k1n) hk1.1 hk1.2 rfl rfl dX10_fillColdPartners_11 (fun M4 => ?_)
  refine tj_iinc (pc := 12) G 1 (fun x5 => [(1, vI x5), (0, vR X k1)]) dX10_fillColdPartners_12 rfl (by decide) (fun _ => rfl) (fun x5 => ?_)
  refine tj_goto (pc := 15) G (tgt := 2) dX10_fillColdPartners_15 (by decide) ?_
  exact tj_sub [1, 0] rfl (hrec x5 M4)
set_option maxRecDepth 100000 in
set_option maxHeartbeats 4000000 in
theorem fx_X10_fillColdPartners_L22_ok {X : tp_X} {Y : tp_Y} (G : tp_Ok X Y 64 cX10_fillColdPartners 4 RX10 none)  {k1 : Nat} {k1n : Nat} (hk1 : tg_I LC 64 k1 k1n)   (n : Nat) : ∀ (z9 z10 : Int) (M11 : tp_M), tp_J X Y LC 64 4 1 0 (tp_lp2 (fx_X10_fillColdPartners_L22 k1 k1n  ) n z9 z10 M11) M11 [(0, vR X k1), (1, vI z9), (2, vI z10)] [] 22 := by
  refine tp_lp2_ok (P := fun o z9 z10 M11 => tp_J X Y LC 64 4 1 0 (o) M11 [(0, vR X k1), (1, vI z9), (2, vI z10)] [] 22) (fun z9 z10 M11 => tj_none) (fun rec hrec z9 z10 M11 => ?_) n
  unfold fx_X10_fillColdPartners_L22
  refine tj_iload_n (pc := 22) G 2 dX10_fillColdPartners_22 rfl rfl ?_
  refine tj_aload_n (pc := 23) G 0 dX10_fillColdPartners_23 rfl rfl ?_
  refine tj_alen (pc := 24) G (k := k1) (n2 := k1n) hk1.1 hk1.2 rfl (by decide) dX10_fillColdPartners_24 ?_
  refine tj_icmp_ge (pc := 25) G (tgt := 65) (a2 := w32 z10) (b2 := w32 k1n) dX10_fillColdPartners_25 (by decide) rfl rfl ?_ ?_
  · exact tj_vret (pc := 65) G dX10_fillColdPartners_65
  refine tj_aload_n (pc := 28) G 0 dX10_fillColdPartners_28 rfl rfl ?_
  refine tj_iload_n (pc := 29) G 2 dX10_fillColdPartners_29 rfl rfl ?_
  refine tj_iald (pc := 30) G (k := k1) (i2 := w32 z10) (n2 := k1n) hk1.1 hk1.2 rfl rfl dX10_fillColdPartners_30 ?_
  refine tj_iconst (pc := 31) G dX10_fillColdPartners_31 ?_
  refine tj_jn1 (fun y12 => [(0, vR X k1), (1, vI y12), (2, vI z10)]) (fun y12 => []) 59 (fun y12 M13 => ?_) (fun jk59 hj59 => ?_)
  · refine tj_iinc (pc := 59) G 2 (fun x14 => [(2, vI x14), (0, vR X k1), (1, vI y12)]) dX10_fillColdPartners_59 rfl (by decide) (fun _ => rfl) (fun x14 => ?_)
    refine tj_goto (pc := 62) G (tgt := 22) dX10_fillColdPartners_62 (by decide) ?_
    exact tj_sub [1, 2, 0] rfl (hrec y12 x14 M13)
  refine tj_icmp_eq (pc := 32) G (tgt := 38) (a2 := w32 (M11 k1 (w32 z10))) (b2 := (-1)) dX10_fillColdPartners_32 (by decide) rfl rfl ?_ ?_
  · refine tj_iload_n (pc := 38) G 2 dX10_fillColdPartners_38 rfl rfl ?_
    refine tj_iload_n (pc := 39) G 1 dX10_fillColdPartners_39 rfl rfl ?_
    refine tj_iadd (pc := 40) G dX10_fillColdPartners_40 ?_
    refine tj_istore_n (pc := 41) G (fun x15 => [(3, vI x15), (0, vR X k1), (1, vI z9), (2, vI z10)]) dX10_fillColdPartners_41 rfl (by decide) (fun _ => rfl) (fun x15 => ?_)
    refine tj_aload_n (pc := 42) G 1 dX10_fillColdPartners_42 rfl rfl ?_
    refine tj_iload_n (pc := 43) G 3 dX10_fillColdPartners_43 rfl rfl ?_
    refine tj_iload_n (pc := 44) G 0 dX10_fillColdPartners_44 rfl rfl ?_
    refine tj_iast (pc := 45) G (k := k1) (i2 := w32 z10) (n2 := k1n) hk1.1 hk1.2 rfl rfl dX10_fillColdPartners_45 (fun M16 => ?_)
    refine tj_iload_n (pc := 46) G 0 dX10_fillColdPartners_46 rfl rfl ?_
    refine tj_aload_n (pc := 47) G 1 dX10_fillColdPartners_47 rfl rfl ?_
    refine tj_alen (pc := 48) G (k := k1) (n2 := k1n) hk1.1 hk1.2 rfl (by decide) dX10_fillColdPartners_48 ?_
    refine tj_jn0 [(0, vR X k1), (1, vI z9), (2, vI z10)] [] 56 (fun M17 => ?_) (fun jk56 hj56 => ?_)
    · refine tj_iinc (pc := 56) G 1 (fun x18 => [(1, vI x18), (0, vR X k1), (2, vI z10)]) dX10_fillColdPartners_56 rfl (by decide) (fun _ => rfl) (fun x18 => ?_)
      exact tj_sub [1, 0, 2] rfl (hj59 x18 M17)
    refine tj_icmp_ge (pc := 49) G (tgt := 56) (a2 := w32 x15) (b2 := w32 k1n) dX10_fillColdPartners_49 (by decide) rfl rfl ?_ ?_
    · exact tj_sub [1, 2, 3] rfl (hj56  M16)
    refine tj_aload_n (pc := 52) G 1 dX10_fillColdPartners_52 rfl rfl ?_
    refine tj_iload_n (pc := 53) G 0 dX10_fillColdPartners_53 rfl rfl ?_
    refine tj_iload_n (pc := 54) G 3 dX10_fillColdPartners_54 rfl rfl ?_
    refine tj_iast (pc := 55) G (k := k1) (i2 := w32 x15) (n2 := k1n) hk1.1 hk1.2 rfl rfl dX10_fillColdPartners_55 (fun M19 => ?_)
    exact tj_sub [1, 2, 3] rfl (hj56  M19)
  refine tj_goto (pc := 35) G (tgt := 59) dX10_fillColdPartners_35 (by decide) ?_
  exact tj_sub [0, 1, 2] rfl (hj59 z9 M11)
set_option maxRecDepth 100000 in
set_option maxHeartbeats 4000000 in
theorem ok_X10_fillColdPartners (X : tp_X)  {k1 : Nat} {k1n : Nat} (hk1 : tg_I LC 64 k1 k1n) {M : tp_M} {res : Int × tp_M} (h : fx_X10_fillColdPartners  k1 k1n M = some res) : tp_Ret X LC 64 0 yX10_fillColdPartners (Cond.code yX10_fillColdPartners cX10_fillColdPartners 4 none) 1 [vR X k1] M res := by
  refine tp_ofW (by decide +kernel) rfl rfl (by show _ ≤ 4; exact Nat.le_of_ble_eq_true rfl) h (fun Y G => ?_)
  show tp_J X Y LC 64 4 1 0 (fx_X10_fillColdPartners  k1 k1n M) M [(0, vR X k1)] [] 0
  unfold fx_X10_fillColdPartners
  refine tj_iconst (pc := 0) G dX10_fillColdPartners_0 ?_
  refine tj_istore_n (pc := 1) G (fun x1 => [(1, vI x1), (0, vR X k1)]) dX10_fillColdPartners_1 rfl (by decide) (fun _ => rfl) (fun x1 => ?_)
  refine tj_sub [1, 0] rfl (fx_X10_fillColdPartners_L2_ok G  hk1  (fun M6 => ?_) tp_F x1 M)
  refine tj_iconst (pc := 18) G dX10_fillColdPartners_18 ?_
  refine tj_istore_n (pc := 19) G (fun x7 => [(1, vI x7), (0, vR X k1)]) dX10_fillColdPartners_19 rfl (by decide) (fun _ => rfl) (fun x7 => ?_)
  refine tj_iconst (pc := 20) G dX10_fillColdPartners_20 ?_
  refine tj_istore_n (pc := 21) G (fun x8 => [(2, vI x8), (1, vI x7), (0, vR X k1)]) dX10_fillColdPartners_21 rfl (by decide) (fun _ => rfl) (fun x8 => ?_)
  refine tj_sub [2, 1, 0] rfl (fx_X10_fillColdPartners_L22_ok G  hk1   tp_F x7 x8 M6)

def fx_X10_lengthBy  (k1 : Nat) (a2 : Int) (M : tp_M) : tp_O :=
(tp_bd (fx_X2_copyFrom 28 25 M) (fun r1 M2 =>
(tp_bd (fx_X10_walkHome 28 k1 a2 M2) (fun r3 M4 =>
(tp_lt r3 (fun x5 =>
(if w32 x5 < 0 then
(some (1000, M4))
else
(some (x5, M4)))))))))
set_option maxRecDepth 100000 in
set_option maxHeartbeats 4000000 in
theorem ok_X10_lengthBy (X : tp_X)  {k1 : Nat} {a2 : Int} (hk1 : tg_Turner LC 64 k1) {M : tp_M} {res : Int × tp_M} (h : fx_X10_lengthBy  k1 a2 M = some res) : tp_Ret X LC 64 1 yX10_lengthBy (Cond.code yX10_lengthBy cX10_lengthBy 4 (some .int)) 5 [vR X 0, vR X k1, vI a2] M res := by
  refine tp_ofW (by decide +kernel) rfl rfl (by show _ ≤ 4; exact Nat.le_of_ble_eq_true rfl) h (fun Y G => ?_)
  show tp_J X Y LC 64 4 5 1 (fx_X10_lengthBy  k1 a2 M) M [(0, vR X 0), (1, vR X k1), (2, vI a2)] [] 0
  unfold fx_X10_lengthBy
  refine tj_aload_n (pc := 0) G 0 dX10_lengthBy_0 rfl rfl ?_
  refine tj_getR (pc := 1) G (k := 0) (j := 7) (j2 := 7) tk_X10 (by decide) lc_0 rfl (by decide) rfl fl_X10_50 dX10_lengthBy_1 ?_
  refine tj_aload_n (pc := 4) G 0 dX10_lengthBy_4 rfl rfl ?_
  refine tj_getR (pc := 5) G (k := 0) (j := 6) (j2 := 6) tk_X10 (by decide) lc_0 rfl (by decide) rfl fl_X10_46 dX10_lengthBy_5 ?_
  refine tj_callVv (pc := 8) G [vR X 25] mf_X2_copyFrom (k := 28) (by decide) lc_28 rfl rfl ml_X10_201 (by decide) rfl rfl (Nat.le_of_ble_eq_true rfl) (fun _ h9 => ok_X2_copyFrom X gg_Moor_28 gg_Moor_25 h9) dX10_lengthBy_8 (fun r1 M2 => ?_)
  refine tj_aload_n (pc := 11) G 0 dX10_lengthBy_11 rfl rfl ?_
  refine tj_aload_n (pc := 12) G 0 dX10_lengthBy_12 rfl rfl ?_
  refine tj_getR (pc := 13) G (k := 0) (j := 7) (j2 := 7) tk_X10 (by decide) lc_0 rfl (by decide) rfl fl_X10_50 dX10_lengthBy_13 ?_
  refine tj_aload_n (pc := 16) G 1 dX10_lengthBy_16 rfl rfl ?_
  refine tj_iload_n (pc := 17) G 2 dX10_lengthBy_17 rfl rfl ?_
  refine tj_callVi (pc := 18) G [vR X 28, vR X k1, vI a2] mf_X10_walkHome (k := 0) (by decide) lc_0 rfl rfl ml_X10_254 (by decide) rfl rfl (Nat.le_of_ble_eq_true rfl) (fun _ h9 => ok_X10_walkHome X gg_Moor_28 hk1 h9) dX10_lengthBy_18 (fun r3 M4 => ?_)
  refine tj_istore_n (pc := 21) G (fun x5 => [(3, vI x5), (0, vR X 0), (1, vR X k1), (2, vI a2)]) dX10_lengthBy_21 rfl (by decide) (fun _ => rfl) (fun x5 => ?_)
  refine tj_iload_n (pc := 22) G 0 dX10_lengthBy_22 rfl rfl ?_
  refine tj_if_ge (pc := 23) G (tgt := 32) (a2 := w32 x5) dX10_lengthBy_23 (by decide) rfl ?_ ?_
  · refine tj_iload_n (pc := 32) G 0 dX10_lengthBy_32 rfl rfl ?_
    exact tj_iret (pc := 33) G dX10_lengthBy_33
  refine tj_sipush (pc := 26) G dX10_lengthBy_26 rfl ?_
  refine tj_goto (pc := 29) G (tgt := 33) dX10_lengthBy_29 (by decide) ?_
  exact tj_iret (pc := 33) G dX10_lengthBy_33

def fx_X10_law   (M : tp_M) : tp_O :=
(tp_bd (fx_X9_read 20 M) (fun r1 M2 =>
(tp_lt r1 (fun x3 =>
(tp_bd (fx_X7_cut 0 M2) (fun r4 M5 =>
(if w32 x3 < 0 then
(some (x3 - 9999, M5))
else
(tp_bd (fx_X4_crossings 5 M5) (fun r6 M7 =>
(tp_lt (r6 - 1) (fun x8 =>
(tp_bd (fx_X10_lengthBy 20 x8 M7) (fun r9 M10 =>
(tp_lt r9 (fun x11 =>
(tp_bd (fx_X10_lengthBy 15 x8 M10) (fun r12 M13 =>
(tp_lt r12 (fun x14 =>
(tp_bd (fx_X8_tell__ (w32 x11) (w32 x14) M13) (fun r15 M16 =>
(some (x11 - x14, M16)))))))))))))))))))))))
set_option maxRecDepth 100000 in
set_option maxHeartbeats 4000000 in
theorem ok_X10_law (X : tp_X)    {M : tp_M} {res : Int × tp_M} (h : fx_X10_law   M = some res) : tp_Ret X LC 64 1 yX10_law (Cond.code yX10_law cX10_law 5 (some .int)) 6 [vR X 0] M res := by
  refine tp_ofW (by decide +kernel) rfl rfl (by show _ ≤ 5; exact Nat.le_of_ble_eq_true rfl) h (fun Y G => ?_)
  show tp_J X Y LC 64 5 6 1 (fx_X10_law   M) M [(0, vR X 0)] [] 0
  unfold fx_X10_law
  refine tj_aload_n (pc := 0) G 0 dX10_law_0 rfl rfl ?_
  refine tj_getR (pc := 1) G (k := 0) (j := 5) (j2 := 5) tk_X10 (by decide) lc_0 rfl (by decide) rfl fl_X10_40 dX10_law_1 ?_
  refine tj_aload_n (pc := 4) G 0 dX10_law_4 rfl rfl ?_
  refine tj_getR (pc := 5) G (k := 0) (j := 0) (j2 := 0) tk_X10 (by decide) lc_0 rfl (by decide) rfl fl_X10_12 dX10_law_5 ?_
  refine tj_callVi (pc := 8) G [vR X 1] mf_X9_read (k := 20) (by decide) lc_20 rfl rfl ml_X10_141 (by decide) rfl rfl (Nat.le_of_ble_eq_true rfl) (fun _ h9 => ok_X9_read X gg_Turner_20 h9) dX10_law_8 (fun r1 M2 => ?_)
  refine tj_istore_n (pc := 11) G (fun x3 => [(1, vI x3), (0, vR X 0)]) dX10_law_11 rfl (by decide) (fun _ => rfl) (fun x3 => ?_)
  refine tj_aload_n (pc := 12) G 1 dX10_law_12 rfl rfl ?_
  refine tj_getR (pc := 13) G (k := 0) (j := 0) (j2 := 0) tk_X10 (by decide) lc_0 rfl (by decide) rfl fl_X10_12 dX10_law_13 ?_
  refine tj_iconst (pc := 16) G dX10_law_16 ?_
  refine tj_callVv (pc := 17) G [vI 0] mf_X7_cut (k := 1) (by decide) lc_1 rfl rfl ml_X10_122 (by decide) rfl rfl (Nat.le_of_ble_eq_true rfl) (fun _ h9 => ok_X7_cut X  h9) dX10_law_17 (fun r4 M5 => ?_)
  refine tj_iload_n (pc := 20) G 0 dX10_law_20 rfl rfl ?_
  refine tj_if_ge (pc := 21) G (tgt := 30) (a2 := w32 x3) dX10_law_21 (by decide) rfl ?_ ?_
  · refine tj_aload_n (pc := 30) G 1 dX10_law_30 rfl rfl ?_
    refine tj_getR (pc := 31) G (k := 0) (j := 2) (j2 := 2) tk_X10 (by decide) lc_0 rfl (by decide) rfl fl_X10_26 dX10_law_31 ?_
    refine tj_callVi (pc := 34) G [] mf_X4_crossings (k := 5) (by decide) lc_5 rfl rfl ml_X10_275 (by decide) rfl rfl (Nat.le_of_ble_eq_true rfl) (fun _ h9 => ok_X4_crossings X gg_Paths_5 h9) dX10_law_34 (fun r6 M7 => ?_)
    refine tj_iconst (pc := 37) G dX10_law_37 ?_
    refine tj_isub (pc := 38) G dX10_law_38 ?_
    refine tj_istore_n (pc := 39) G (fun x8 => [(2, vI x8), (1, vI x3), (0, vR X 0)]) dX10_law_39 rfl (by decide) (fun _ => rfl) (fun x8 => ?_)
    refine tj_aload_n (pc := 40) G 2 dX10_law_40 rfl rfl ?_
    refine tj_aload_n (pc := 41) G 2 dX10_law_41 rfl rfl ?_
    refine tj_getR (pc := 42) G (k := 0) (j := 5) (j2 := 5) tk_X10 (by decide) lc_0 rfl (by decide) rfl fl_X10_40 dX10_law_42 ?_
    refine tj_iload_n (pc := 45) G 0 dX10_law_45 rfl rfl ?_
    refine tj_callVi (pc := 46) G [vR X 20, vI x8] mf_X10_lengthBy (k := 0) (by decide) lc_0 rfl rfl ml_X10_443 (by decide) rfl rfl (Nat.le_of_ble_eq_true rfl) (fun _ h9 => ok_X10_lengthBy X gg_Turner_20 h9) dX10_law_46 (fun r9 M10 => ?_)
    refine tj_istore_n (pc := 49) G (fun x11 => [(3, vI x11), (2, vI x8), (1, vI x3), (0, vR X 0)]) dX10_law_49 rfl (by decide) (fun _ => rfl) (fun x11 => ?_)
    refine tj_aload_n (pc := 50) G 3 dX10_law_50 rfl rfl ?_
    refine tj_aload_n (pc := 51) G 3 dX10_law_51 rfl rfl ?_
    refine tj_getR (pc := 52) G (k := 0) (j := 4) (j2 := 4) tk_X10 (by decide) lc_0 rfl (by decide) rfl fl_X10_36 dX10_law_52 ?_
    refine tj_iload_n (pc := 55) G 1 dX10_law_55 rfl rfl ?_
    refine tj_callVi (pc := 56) G [vR X 15, vI x8] mf_X10_lengthBy (k := 0) (by decide) lc_0 rfl rfl ml_X10_443 (by decide) rfl rfl (Nat.le_of_ble_eq_true rfl) (fun _ h9 => ok_X10_lengthBy X gg_Turner_15 h9) dX10_law_56 (fun r12 M13 => ?_)
    refine tj_istore (pc := 59) G (fun x14 => [(4, vI x14), (3, vI x11), (2, vI x8), (1, vI x3), (0, vR X 0)]) dX10_law_59 (by decide) (fun _ => rfl) (fun x14 => ?_)
    refine tj_aload_n (pc := 61) G 4 dX10_law_61 rfl rfl ?_
    refine tj_getR (pc := 62) G (k := 0) (j := 1) (j2 := 1) tk_X10 (by decide) lc_0 rfl (by decide) rfl fl_X10_19 dX10_law_62 ?_
    refine tj_iload_n (pc := 65) G 1 dX10_law_65 rfl rfl ?_
    refine tj_i2l (pc := 66) G (b := w32 x11) dX10_law_66 rfl ?_
    refine tj_iload (pc := 67) G 0 dX10_law_67 rfl ?_
    refine tj_i2l (pc := 69) G (b := w32 x14) dX10_law_69 rfl ?_
    refine tj_callVv (pc := 70) G [vL (w32 x11), vL (w32 x14)] mf_X8_tell__ (k := 3) (by decide) lc_3 rfl rfl ml_X10_241 (by decide) rfl rfl (Nat.le_of_ble_eq_true rfl) (fun _ h9 => ok_X8_tell__ X  h9) dX10_law_70 (fun r15 M16 => ?_)
    refine tj_iload_n (pc := 73) G 1 dX10_law_73 rfl rfl ?_
    refine tj_iload (pc := 74) G 0 dX10_law_74 rfl ?_
    refine tj_isub (pc := 76) G dX10_law_76 ?_
    exact tj_iret (pc := 77) G dX10_law_77
  refine tj_iload_n (pc := 24) G 0 dX10_law_24 rfl rfl ?_
  refine tj_sipush (pc := 25) G dX10_law_25 rfl ?_
  refine tj_isub (pc := 28) G dX10_law_28 ?_
  exact tj_iret (pc := 29) G dX10_law_29

def fx_X10_waitCost  (a1 : Int) (a2 : Int) (a3 : Int) (M : tp_M) : tp_O :=
(tp_jn1 (fun y1 M2 => 
(if w32 a1 ≤ w32 a2 then
(some ((a1 + y1) + 0, M2))
else
(some ((a1 + y1) + 2, M2)))) (fun jk12 =>
(if w32 a1 < w32 a3 then
(jk12 6 M)
else
(jk12 0 M))))
set_option maxRecDepth 100000 in
set_option maxHeartbeats 4000000 in
theorem ok_X10_waitCost (X : tp_X)  {a1 : Int} {a2 : Int} {a3 : Int}  {M : tp_M} {res : Int × tp_M} (h : fx_X10_waitCost  a1 a2 a3 M = some res) : tp_Ret X LC 64 1 yX10_waitCost (Cond.code yX10_waitCost cX10_waitCost 3 (some .int)) 1 [vI a1, vI a2, vI a3] M res := by
  refine tp_ofW (by decide +kernel) rfl rfl (by show _ ≤ 3; exact Nat.le_of_ble_eq_true rfl) h (fun Y G => ?_)
  show tp_J X Y LC 64 3 1 1 (fx_X10_waitCost  a1 a2 a3 M) M [(0, vI a1), (1, vI a2), (2, vI a3)] [] 0
  unfold fx_X10_waitCost
  refine tj_iload_n (pc := 0) G 0 dX10_waitCost_0 rfl rfl ?_
  refine tj_iload_n (pc := 1) G 0 dX10_waitCost_1 rfl rfl ?_
  refine tj_iload_n (pc := 2) G 2 dX10_waitCost_2 rfl rfl ?_
  refine tj_jn1 (fun y1 => [(0, vI a1), (1, vI a2)]) (fun y1 => [vI y1, vI a1]) 12 (fun y1 M2 => ?_) (fun jk12 hj12 => ?_)
  · refine tj_iadd (pc := 12) G dX10_waitCost_12 ?_
    refine tj_iload_n (pc := 13) G 0 dX10_waitCost_13 rfl rfl ?_
    refine tj_iload_n (pc := 14) G 1 dX10_waitCost_14 rfl rfl ?_
    refine tj_icmp_le (pc := 15) G (tgt := 22) (a2 := w32 a1) (b2 := w32 a2) dX10_waitCost_15 (by decide) rfl rfl ?_ ?_
    · refine tj_iconst (pc := 22) G dX10_waitCost_22 ?_
      refine tj_iadd (pc := 23) G dX10_waitCost_23 ?_
      exact tj_iret (pc := 24) G dX10_waitCost_24
    refine tj_iconst (pc := 18) G dX10_waitCost_18 ?_
    refine tj_goto (pc := 19) G (tgt := 23) dX10_waitCost_19 (by decide) ?_
    refine tj_iadd (pc := 23) G dX10_waitCost_23 ?_
    exact tj_iret (pc := 24) G dX10_waitCost_24
  refine tj_icmp_ge (pc := 3) G (tgt := 11) (a2 := w32 a1) (b2 := w32 a3) dX10_waitCost_3 (by decide) rfl rfl ?_ ?_
  · refine tj_iconst (pc := 11) G dX10_waitCost_11 ?_
    exact tj_sub [0, 1] rfl (hj12 0 M)
  refine tj_bipush (pc := 6) G dX10_waitCost_6 rfl ?_
  refine tj_goto (pc := 8) G (tgt := 12) dX10_waitCost_8 (by decide) ?_
  exact tj_sub [0, 1] rfl (hj12 6 M)

def fx_X10_isBestWait_L10 (c1 : Int) (c2 : Int) (c3 : Int) (rec : Int → tp_M → tp_O) (z5 : Int) (M6 : tp_M) : tp_O :=
(if w32 z5 ≤ 9 then
(tp_bd (fx_X10_waitCost z5 c1 c2 M6) (fun r7 M8 =>
(if w32 r7 < w32 c3 then
(some (0, M8))
else
(tp_lt (z5 + 1) (fun x9 =>
(rec x9 M8))))))
else
(some (1, M6)))
def fx_X10_isBestWait  (a1 : Int) (a2 : Int) (a3 : Int) (M : tp_M) : tp_O :=
(tp_bd (fx_X10_waitCost a1 a2 a3 M) (fun r1 M2 =>
(tp_lt r1 (fun x3 =>
(tp_lt 0 (fun x4 =>
(tp_lp1 (fx_X10_isBestWait_L10 a2 a3 x3 ) tp_F x4 M2)))))))
set_option maxRecDepth 100000 in
set_option maxHeartbeats 4000000 in
theorem fx_X10_isBestWait_L10_ok {X : tp_X} {Y : tp_Y} (G : tp_Ok X Y 64 cX10_isBestWait 5 RX10 (some .boolean))  {c1 : Int} {c2 : Int} {c3 : Int}    (n : Nat) : ∀ (z5 : Int) (M6 : tp_M), tp_J X Y LC 64 5 2 1 (tp_lp1 (fx_X10_isBestWait_L10  c1 c2 c3 ) n z5 M6) M6 [(1, vI c1), (2, vI c2), (3, vI c3), (4, vI z5)] [] 10 := by
  refine tp_lp1_ok (P := fun o z5 M6 => tp_J X Y LC 64 5 2 1 (o) M6 [(1, vI c1), (2, vI c2), (3, vI c3), (4, vI z5)] [] 10) (fun z5 M6 => tj_none) (fun rec hrec z5 M6 => ?_) n
  unfold fx_X10_isBestWait_L10
  refine tj_iload (pc := 10) G 3 dX10_isBestWait_10 rfl ?_
  refine tj_bipush (pc := 12) G dX10_isBestWait_12 rfl ?_
  refine tj_icmp_gt (pc := 14) G (tgt := 36) (a2 := w32 z5) (b2 := 9) dX10_isBestWait_14 (by decide) rfl rfl ?_ ?_
  · refine tj_iconst (pc := 36) G dX10_isBestWait_36 ?_
    exact tj_zret (pc := 37) G (by decide) dX10_isBestWait_37
  refine tj_iload (pc := 17) G 3 dX10_isBestWait_17 rfl ?_
  refine tj_iload_n (pc := 19) G 0 dX10_isBestWait_19 rfl rfl ?_
  refine tj_iload_n (pc := 20) G 1 dX10_isBestWait_20 rfl rfl ?_
  refine tj_callSi (pc := 21) G [vI z5, vI c1, vI c2] mf_X10_waitCost ml_X10_450 (by decide) rfl rfl (Nat.le_of_ble_eq_true rfl) (fun _ h9 => ok_X10_waitCost X  h9) dX10_isBestWait_21 (fun r7 M8 => ?_)
  refine tj_iload_n (pc := 24) G 2 dX10_isBestWait_24 rfl rfl ?_
  refine tj_icmp_ge (pc := 25) G (tgt := 30) (a2 := w32 r7) (b2 := w32 c3) dX10_isBestWait_25 (by decide) rfl rfl ?_ ?_
  · refine tj_iinc (pc := 30) G 3 (fun x9 => [(4, vI x9), (1, vI c1), (2, vI c2), (3, vI c3)]) dX10_isBestWait_30 rfl (by decide) (fun _ => rfl) (fun x9 => ?_)
    refine tj_goto (pc := 33) G (tgt := 10) dX10_isBestWait_33 (by decide) ?_
    exact tj_sub [1, 2, 3, 0] rfl (hrec x9 M8)
  refine tj_iconst (pc := 28) G dX10_isBestWait_28 ?_
  exact tj_zret (pc := 29) G (by decide) dX10_isBestWait_29
set_option maxRecDepth 100000 in
set_option maxHeartbeats 4000000 in
theorem ok_X10_isBestWait (X : tp_X)  {a1 : Int} {a2 : Int} {a3 : Int}  {M : tp_M} {res : Int × tp_M} (h : fx_X10_isBestWait  a1 a2 a3 M = some res) : tp_Ret X LC 64 1 yX10_isBestWait (Cond.code yX10_isBestWait cX10_isBestWait 5 (some .boolean)) 2 [vI a1, vI a2, vI a3] M res := by
  refine tp_ofW (by decide +kernel) rfl rfl (by show _ ≤ 5; exact Nat.le_of_ble_eq_true rfl) h (fun Y G => ?_)
  show tp_J X Y LC 64 5 2 1 (fx_X10_isBestWait  a1 a2 a3 M) M [(0, vI a1), (1, vI a2), (2, vI a3)] [] 0
  unfold fx_X10_isBestWait
  refine tj_iload_n (pc := 0) G 0 dX10_isBestWait_0 rfl rfl ?_
  refine tj_iload_n (pc := 1) G 1 dX10_isBestWait_1 rfl rfl ?_
  refine tj_iload_n (pc := 2) G 2 dX10_isBestWait_2 rfl rfl ?_
  refine tj_callSi (pc := 3) G [vI a1, vI a2, vI a3] mf_X10_waitCost ml_X10_450 (by decide) rfl rfl (Nat.le_of_ble_eq_true rfl) (fun _ h9 => ok_X10_waitCost X  h9) dX10_isBestWait_3 (fun r1 M2 => ?_)
  refine tj_istore_n (pc := 6) G (fun x3 => [(3, vI x3), (0, vI a1), (1, vI a2), (2, vI a3)]) dX10_isBestWait_6 rfl (by decide) (fun _ => rfl) (fun x3 => ?_)
  refine tj_iconst (pc := 7) G dX10_isBestWait_7 ?_
  refine tj_istore (pc := 8) G (fun x4 => [(4, vI x4), (3, vI x3), (0, vI a1), (1, vI a2), (2, vI a3)]) dX10_isBestWait_8 (by decide) (fun _ => rfl) (fun x4 => ?_)
  refine tj_sub [3, 4, 1, 0] rfl (fx_X10_isBestWait_L10_ok G     tp_F x4 M2)

def fx_X10_waits_L32 (c1 : Int) (c3 : Int) (K87 : Int → tp_M → tp_O) (rec : Int → Int → tp_M → tp_O) (z9 z10 : Int) (M11 : tp_M) : tp_O :=
(if w32 z10 ≤ 9 then
(tp_bd (fx_X10_isBestWait c3 z10 c1 M11) (fun r13 M14 =>
(tp_jn1 (fun y15 M16 => 
(tp_lt (z10 + 1) (fun x17 =>
(rec y15 x17 M16)))) (fun jk81 =>
(if w32 r13 = 0 then
(jk81 z9 M14)
else
(tp_bd (fx_X10_isBestWait z10 c3 c1 M14) (fun r18 M19 =>
(if w32 r18 = 0 then
(jk81 z9 M19)
else
(tp_jn0 (fun M20 => 
(tp_lt (z9 + 1) (fun x21 =>
(jk81 x21 M20)))) (fun jk78 =>
(if w32 z9 = 0 then
(tp_bd (fx_X8_tell__ (w32 c3) (w32 z10) M19) (fun r22 M23 =>
(jk78 M23)))
else
(jk78 M19))))))))))))
else
(K87 z9 M11))
def fx_X10_waits_L23 (c1 : Int) (rec : Int → Int → tp_M → tp_O) (z5 z6 : Int) (M7 : tp_M) : tp_O :=
(if w32 z6 ≤ 9 then
(tp_lt 0 (fun x8 =>
(tp_lp2 (fx_X10_waits_L32 c1 z6 (fun y12 M24 =>
(tp_lt (z6 + 1) (fun x25 =>
(rec y12 x25 M24))))) tp_F z5 x8 M7)))
else
(some (z5, M7)))
def fx_X10_waits  (a1 : Int) (M : tp_M) : tp_O :=
(if w32 a1 < 0 then
(some ((-1), M))
else
(if w32 a1 ≤ 9 then
(tp_lt 0 (fun x1 =>
(tp_bd (fx_X8_tell  M) (fun r2 M3 =>
(tp_lt 0 (fun x4 =>
(tp_lp2 (fx_X10_waits_L23 a1 ) tp_F x1 x4 M3)))))))
else
(some ((-1), M))))
set_option maxRecDepth 100000 in
set_option maxHeartbeats 4000000 in
theorem fx_X10_waits_L32_ok {X : tp_X} {Y : tp_Y} (G : tp_Ok X Y 64 cX10_waits 5 RX10 (some .int))  {c1 : Int} {c3 : Int} {K87 : Int → tp_M → tp_O}   (hK87 : ∀ (y12 : Int) (M9 : tp_M), tp_J X Y LC 64 5 4 1 (K87 y12 M9) M9 [(0, vR X 0), (1, vI c1), (2, vI y12), (3, vI c3)] [] 87) (n : Nat) : ∀ (z9 z10 : Int) (M11 : tp_M), tp_J X Y LC 64 5 4 1 (tp_lp2 (fx_X10_waits_L32  c1 c3 K87) n z9 z10 M11) M11 [(0, vR X 0), (1, vI c1), (2, vI z9), (3, vI c3), (4, vI z10)] [] 32 := by
  refine tp_lp2_ok (P := fun o z9 z10 M11 => tp_J X Y LC 64 5 4 1 (o) M11 [(0, vR X 0), (1, vI c1), (2, vI z9), (3, vI c3), (4, vI z10)] [] 32) (fun z9 z10 M11 => tj_none) (fun rec hrec z9 z10 M11 => ?_) n
  unfold fx_X10_waits_L32
  refine tj_iload (pc := 32) G 4 dX10_waits_32 rfl ?_
  refine tj_bipush (pc := 34) G dX10_waits_34 rfl ?_
  refine tj_icmp_gt (pc := 36) G (tgt := 87) (a2 := w32 z10) (b2 := 9) dX10_waits_36 (by decide) rfl rfl ?_ ?_
  · exact tj_sub [0, 1, 2, 3] rfl (hK87 z9 M11)
  refine tj_iload_n (pc := 39) G 3 dX10_waits_39 rfl rfl ?_
  refine tj_iload (pc := 40) G 4 dX10_waits_40 rfl ?_
  refine tj_iload_n (pc := 42) G 1 dX10_waits_42 rfl rfl ?_
  refine tj_callSi (pc := 43) G [vI c3, vI z10, vI c1] mf_X10_isBestWait ml_X10_447 (by decide) rfl rfl (Nat.le_of_ble_eq_true rfl) (fun _ h9 => ok_X10_isBestWait X  h9) dX10_waits_43 (fun r13 M14 => ?_)
  refine tj_jn1 (fun y15 => [(0, vR X 0), (1, vI c1), (2, vI y15), (3, vI c3), (4, vI z10)]) (fun y15 => []) 81 (fun y15 M16 => ?_) (fun jk81 hj81 => ?_)
  · refine tj_iinc (pc := 81) G 4 (fun x17 => [(4, vI x17), (0, vR X 0), (1, vI c1), (2, vI y15), (3, vI c3)]) dX10_waits_81 rfl (by decide) (fun _ => rfl) (fun x17 => ?_)
    refine tj_goto (pc := 84) G (tgt := 32) dX10_waits_84 (by decide) ?_
    exact tj_sub [1, 2, 3, 4, 0] rfl (hrec y15 x17 M16)
  refine tj_if_eq (pc := 46) G (tgt := 81) (a2 := w32 r13) dX10_waits_46 (by decide) rfl ?_ ?_
  · exact tj_sub [0, 1, 2, 3, 4] rfl (hj81 z9 M14)
  refine tj_iload (pc := 49) G 4 dX10_waits_49 rfl ?_
  refine tj_iload_n (pc := 51) G 3 dX10_waits_51 rfl rfl ?_
  refine tj_iload_n (pc := 52) G 1 dX10_waits_52 rfl rfl ?_
  refine tj_callSi (pc := 53) G [vI z10, vI c3, vI c1] mf_X10_isBestWait ml_X10_447 (by decide) rfl rfl (Nat.le_of_ble_eq_true rfl) (fun _ h9 => ok_X10_isBestWait X  h9) dX10_waits_53 (fun r18 M19 => ?_)
  refine tj_if_ne (pc := 56) G (tgt := 62) (a2 := w32 r18) dX10_waits_56 (by decide) rfl ?_ ?_
  · refine tj_iload_n (pc := 62) G 2 dX10_waits_62 rfl rfl ?_
    refine tj_jn0 [(0, vR X 0), (1, vI c1), (2, vI z9), (3, vI c3), (4, vI z10)] [] 78 (fun M20 => ?_) (fun jk78 hj78 => ?_)
    · refine tj_iinc (pc := 78) G 2 (fun x21 => [(2, vI x21), (0, vR X 0), (1, vI c1), (3, vI c3), (4, vI z10)]) dX10_waits_78 rfl (by decide) (fun _ => rfl) (fun x21 => ?_)
      exact tj_sub [1, 2, 0, 3, 4] rfl (hj81 x21 M20)
    refine tj_if_ne (pc := 63) G (tgt := 78) (a2 := w32 z9) dX10_waits_63 (by decide) rfl ?_ ?_
    · exact tj_sub [0, 1, 2, 3, 4] rfl (hj78  M19)
    refine tj_aload_n (pc := 66) G 0 dX10_waits_66 rfl rfl ?_
    refine tj_getR (pc := 67) G (k := 0) (j := 1) (j2 := 1) tk_X10 (by decide) lc_0 rfl (by decide) rfl fl_X10_19 dX10_waits_67 ?_
    refine tj_iload_n (pc := 70) G 3 dX10_waits_70 rfl rfl ?_
    refine tj_i2l (pc := 71) G (b := w32 c3) dX10_waits_71 rfl ?_
    refine tj_iload (pc := 72) G 4 dX10_waits_72 rfl ?_
    refine tj_i2l (pc := 74) G (b := w32 z10) dX10_waits_74 rfl ?_
    refine tj_callVv (pc := 75) G [vL (w32 c3), vL (w32 z10)] mf_X8_tell__ (k := 3) (by decide) lc_3 rfl rfl ml_X10_241 (by decide) rfl rfl (Nat.le_of_ble_eq_true rfl) (fun _ h9 => ok_X8_tell__ X  h9) dX10_waits_75 (fun r22 M23 => ?_)
    exact tj_sub [0, 1, 2, 3, 4] rfl (hj78  M23)
  refine tj_goto (pc := 59) G (tgt := 81) dX10_waits_59 (by decide) ?_
  exact tj_sub [0, 1, 2, 3, 4] rfl (hj81 z9 M19)
set_option maxRecDepth 100000 in
set_option maxHeartbeats 4000000 in
theorem fx_X10_waits_L23_ok {X : tp_X} {Y : tp_Y} (G : tp_Ok X Y 64 cX10_waits 5 RX10 (some .int))  {c1 : Int}    (n : Nat) : ∀ (z5 z6 : Int) (M7 : tp_M), tp_J X Y LC 64 5 4 1 (tp_lp2 (fx_X10_waits_L23  c1 ) n z5 z6 M7) M7 [(0, vR X 0), (1, vI c1), (2, vI z5), (3, vI z6)] [] 23 := by
  refine tp_lp2_ok (P := fun o z5 z6 M7 => tp_J X Y LC 64 5 4 1 (o) M7 [(0, vR X 0), (1, vI c1), (2, vI z5), (3, vI z6)] [] 23) (fun z5 z6 M7 => tj_none) (fun rec hrec z5 z6 M7 => ?_) n
  unfold fx_X10_waits_L23
  refine tj_iload_n (pc := 23) G 3 dX10_waits_23 rfl rfl ?_
  refine tj_bipush (pc := 24) G dX10_waits_24 rfl ?_
  refine tj_icmp_gt (pc := 26) G (tgt := 93) (a2 := w32 z6) (b2 := 9) dX10_waits_26 (by decide) rfl rfl ?_ ?_
  · refine tj_iload_n (pc := 93) G 2 dX10_waits_93 rfl rfl ?_
    exact tj_iret (pc := 94) G dX10_waits_94
  refine tj_iconst (pc := 29) G dX10_waits_29 ?_
  refine tj_istore (pc := 30) G (fun x8 => [(4, vI x8), (0, vR X 0), (1, vI c1), (2, vI z5), (3, vI z6)]) dX10_waits_30 (by decide) (fun _ => rfl) (fun x8 => ?_)
  refine tj_sub [1, 2, 3, 4, 0] rfl (fx_X10_waits_L32_ok G    (fun y12 M24 => ?_) tp_F z5 x8 M7)
  refine tj_iinc (pc := 87) G 3 (fun x25 => [(3, vI x25), (0, vR X 0), (1, vI c1), (2, vI y12)]) dX10_waits_87 rfl (by decide) (fun _ => rfl) (fun x25 => ?_)
  refine tj_goto (pc := 90) G (tgt := 23) dX10_waits_90 (by decide) ?_
  exact tj_sub [1, 2, 3, 0] rfl (hrec y12 x25 M24)
set_option maxRecDepth 100000 in
set_option maxHeartbeats 4000000 in
theorem ok_X10_waits (X : tp_X)  {a1 : Int}  {M : tp_M} {res : Int × tp_M} (h : fx_X10_waits  a1 M = some res) : tp_Ret X LC 64 1 yX10_waits (Cond.code yX10_waits cX10_waits 5 (some .int)) 4 [vR X 0, vI a1] M res := by
  refine tp_ofW (by decide +kernel) rfl rfl (by show _ ≤ 5; exact Nat.le_of_ble_eq_true rfl) h (fun Y G => ?_)
  show tp_J X Y LC 64 5 4 1 (fx_X10_waits  a1 M) M [(0, vR X 0), (1, vI a1)] [] 0
  unfold fx_X10_waits
  refine tj_iload_n (pc := 0) G 1 dX10_waits_0 rfl rfl ?_
  refine tj_if_lt (pc := 1) G (tgt := 10) (a2 := w32 a1) dX10_waits_1 (by decide) rfl ?_ ?_
  · refine tj_iconst (pc := 10) G dX10_waits_10 ?_
    exact tj_iret (pc := 11) G dX10_waits_11
  refine tj_iload_n (pc := 4) G 1 dX10_waits_4 rfl rfl ?_
  refine tj_bipush (pc := 5) G dX10_waits_5 rfl ?_
  refine tj_icmp_le (pc := 7) G (tgt := 12) (a2 := w32 a1) (b2 := 9) dX10_waits_7 (by decide) rfl rfl ?_ ?_
  · refine tj_iconst (pc := 12) G dX10_waits_12 ?_
    refine tj_istore_n (pc := 13) G (fun x1 => [(2, vI x1), (0, vR X 0), (1, vI a1)]) dX10_waits_13 rfl (by decide) (fun _ => rfl) (fun x1 => ?_)
    refine tj_aload_n (pc := 14) G 1 dX10_waits_14 rfl rfl ?_
    refine tj_getR (pc := 15) G (k := 0) (j := 1) (j2 := 1) tk_X10 (by decide) lc_0 rfl (by decide) rfl fl_X10_19 dX10_waits_15 ?_
    refine tj_callVv (pc := 18) G [] mf_X8_tell (k := 3) (by decide) lc_3 rfl rfl ml_X10_342 (by decide) rfl rfl (Nat.le_of_ble_eq_true rfl) (fun _ h9 => ok_X8_tell X  h9) dX10_waits_18 (fun r2 M3 => ?_)
    refine tj_iconst (pc := 21) G dX10_waits_21 ?_
    refine tj_istore_n (pc := 22) G (fun x4 => [(3, vI x4), (2, vI x1), (0, vR X 0), (1, vI a1)]) dX10_waits_22 rfl (by decide) (fun _ => rfl) (fun x4 => ?_)
    refine tj_sub [2, 3, 1, 0] rfl (fx_X10_waits_L23_ok G     tp_F x1 x4 M3)
  refine tj_iconst (pc := 10) G dX10_waits_10 ?_
  exact tj_iret (pc := 11) G dX10_waits_11
