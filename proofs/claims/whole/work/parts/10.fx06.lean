def fx_X10_leastNext_L2 (c1 : Int) (c2 : Int) (rec : Int → tp_M → tp_O) (z2 : Int) (M3 : tp_M) : tp_O :=
(tp_bd (fx_X4_crossings 5 M3) (fun r4 M5 =>
(if w32 z2 < w32 r4 then
(tp_ck (w32 z2) 8 (tp_jn0 (fun M6 => 
(tp_lt (z2 + 1) (fun x7 =>
(rec x7 M6)))) (fun jk37 =>
(if w32 (M5 61 (w32 z2)) = w32 c2 then
(tp_bd (fx_X4_waysTo 5 c1 z2 M5) (fun r8 M9 =>
(if w32 r8 ≤ 0 then
(jk37 M9)
else
(some (z2, M9)))))
else
(jk37 M5)))))
else
(some (0, M5)))))
def fx_X10_leastNext  (a1 : Int) (a2 : Int) (M : tp_M) : tp_O :=
(tp_lt 0 (fun x1 =>
(tp_lp1 (fx_X10_leastNext_L2 a1 a2 ) tp_F x1 M)))
set_option maxRecDepth 100000 in
set_option maxHeartbeats 4000000 in
theorem fx_X10_leastNext_L2_ok {X : tp_X} {Y : tp_Y} (G : tp_Ok X Y 64 cX10_leastNext 4 RX10 (some .int))  {c1 : Int} {c2 : Int}    (n : Nat) : ∀ (z2 : Int) (M3 : tp_M), tp_J X Y LC 64 4 4 1 (tp_lp1 (fx_X10_leastNext_L2  c1 c2 ) n z2 M3) M3 [(0, vR X 0), (1, vI c1), (2, vI c2), (3, vI z2)] [] 2 := by
  refine tp_lp1_ok (P := fun o z2 M3 => tp_J X Y LC 64 4 4 1 (o) M3 [(0, vR X 0), (1, vI c1), (2, vI c2), (3, vI z2)] [] 2) (fun z2 M3 => tj_none) (fun rec hrec z2 M3 => ?_) n
  unfold fx_X10_leastNext_L2
  refine tj_iload_n (pc := 2) G 3 dX10_leastNext_2 rfl rfl ?_
  refine tj_aload_n (pc := 3) G 0 dX10_leastNext_3 rfl rfl ?_
  refine tj_getR (pc := 4) G (k := 0) (j := 2) (j2 := 2) tk_X10 (by decide) lc_0 rfl (by decide) rfl fl_X10_26 dX10_leastNext_4 ?_
  refine tj_callVi (pc := 7) G [] mf_X4_crossings (k := 5) (by decide) lc_5 rfl rfl ml_X10_275 (by decide) rfl rfl (Nat.le_of_ble_eq_true rfl) (fun _ h9 => ok_X4_crossings X gg_Paths_5 h9) dX10_leastNext_7 (fun r4 M5 => ?_)
  refine tj_icmp_ge (pc := 10) G (tgt := 43) (a2 := w32 z2) (b2 := w32 r4) dX10_leastNext_10 (by decide) rfl rfl ?_ ?_
  · refine tj_iconst (pc := 43) G dX10_leastNext_43 ?_
    exact tj_iret (pc := 44) G dX10_leastNext_44
  refine tj_aload_n (pc := 13) G 0 dX10_leastNext_13 rfl rfl ?_
  refine tj_getR (pc := 14) G (k := 0) (j := 16) (j2 := 16) tk_X10 (by decide) lc_0 rfl (by decide) rfl fl_X10_98 dX10_leastNext_14 ?_
  refine tj_iload_n (pc := 17) G 3 dX10_leastNext_17 rfl rfl ?_
  refine tj_iald (pc := 18) G (k := 61) (i2 := w32 z2) (n2 := 8) (by decide) lc_61 rfl rfl dX10_leastNext_18 ?_
  refine tj_iload_n (pc := 19) G 2 dX10_leastNext_19 rfl rfl ?_
  refine tj_jn0 [(0, vR X 0), (1, vI c1), (2, vI c2), (3, vI z2)] [] 37 (fun M6 => ?_) (fun jk37 hj37 => ?_)
  · refine tj_iinc (pc := 37) G 3 (fun x7 => [(3, vI x7), (0, vR X 0), (1, vI c1), (2, vI c2)]) dX10_leastNext_37 rfl (by decide) (fun _ => rfl) (fun x7 => ?_)
    refine tj_goto (pc := 40) G (tgt := 2) dX10_leastNext_40 (by decide) ?_
    exact tj_sub [1, 2, 3, 0] rfl (hrec x7 M6)
  refine tj_icmp_ne (pc := 20) G (tgt := 37) (a2 := w32 (M5 61 (w32 z2))) (b2 := w32 c2) dX10_leastNext_20 (by decide) rfl rfl ?_ ?_
  · exact tj_sub [0, 1, 2, 3] rfl (hj37  M5)
  refine tj_aload_n (pc := 23) G 0 dX10_leastNext_23 rfl rfl ?_
  refine tj_getR (pc := 24) G (k := 0) (j := 2) (j2 := 2) tk_X10 (by decide) lc_0 rfl (by decide) rfl fl_X10_26 dX10_leastNext_24 ?_
  refine tj_iload_n (pc := 27) G 1 dX10_leastNext_27 rfl rfl ?_
  refine tj_iload_n (pc := 28) G 3 dX10_leastNext_28 rfl rfl ?_
  refine tj_callVi (pc := 29) G [vI c1, vI z2] mf_X4_waysTo (k := 5) (by decide) lc_5 rfl rfl ml_X10_284 (by decide) rfl rfl (Nat.le_of_ble_eq_true rfl) (fun _ h9 => ok_X4_waysTo X gg_Paths_5 h9) dX10_leastNext_29 (fun r8 M9 => ?_)
  refine tj_if_le (pc := 32) G (tgt := 37) (a2 := w32 r8) dX10_leastNext_32 (by decide) rfl ?_ ?_
  · exact tj_sub [0, 1, 2, 3] rfl (hj37  M9)
  refine tj_iload_n (pc := 35) G 3 dX10_leastNext_35 rfl rfl ?_
  exact tj_iret (pc := 36) G dX10_leastNext_36
set_option maxRecDepth 100000 in
set_option maxHeartbeats 4000000 in
theorem ok_X10_leastNext (X : tp_X)  {a1 : Int} {a2 : Int}  {M : tp_M} {res : Int × tp_M} (h : fx_X10_leastNext  a1 a2 M = some res) : tp_Ret X LC 64 1 yX10_leastNext (Cond.code yX10_leastNext cX10_leastNext 4 (some .int)) 4 [vR X 0, vI a1, vI a2] M res := by
  refine tp_ofW (by decide +kernel) rfl rfl (by show _ ≤ 4; exact Nat.le_of_ble_eq_true rfl) h (fun Y G => ?_)
  show tp_J X Y LC 64 4 4 1 (fx_X10_leastNext  a1 a2 M) M [(0, vR X 0), (1, vI a1), (2, vI a2)] [] 0
  unfold fx_X10_leastNext
  refine tj_iconst (pc := 0) G dX10_leastNext_0 ?_
  refine tj_istore_n (pc := 1) G (fun x1 => [(3, vI x1), (0, vR X 0), (1, vI a1), (2, vI a2)]) dX10_leastNext_1 rfl (by decide) (fun _ => rfl) (fun x1 => ?_)
  refine tj_sub [1, 2, 3, 0] rfl (fx_X10_leastNext_L2_ok G     tp_F x1 M)

def fx_X10_route_L65 (c3 : Int) (rec : Int → Int → tp_M → tp_O) (z12 z13 : Int) (M14 : tp_M) : tp_O :=
(if w32 z13 < 0 then
(some (c3, M14))
else
(tp_bd (fx_X10_leastNext z12 z13 M14) (fun r15 M16 =>
(tp_lt r15 (fun x17 =>
(tp_bd (fx_X8_add (w32 x17) M16) (fun r18 M19 =>
(tp_lt (z13 + (-1)) (fun x20 =>
(rec x17 x20 M19))))))))))
def fx_X10_route  (a1 : Int) (a2 : Int) (M : tp_M) : tp_O :=
(tp_bd (fx_X4_has 5 a1 M) (fun r1 M2 =>
(if w32 r1 = 0 then
(some ((-1), M2))
else
(tp_bd (fx_X4_has 5 a2 M2) (fun r3 M4 =>
(if w32 r3 = 0 then
(some ((-1), M4))
else
(tp_bd (fx_X4_measure 5 a2 61 8 M4) (fun r5 M6 =>
(tp_ck (w32 a1) 8 (tp_lt (M6 61 (w32 a1)) (fun x7 =>
(if w32 x7 < 0 then
(some ((-2), M6))
else
(tp_bd (fx_X8_tell  M6) (fun r8 M9 =>
(tp_lt a1 (fun x10 =>
(tp_lt (x7 - 1) (fun x11 =>
(tp_lp2 (fx_X10_route_L65 x7 ) tp_F x10 x11 M9)))))))))))))))))))
set_option maxRecDepth 100000 in
set_option maxHeartbeats 4000000 in
theorem fx_X10_route_L65_ok {X : tp_X} {Y : tp_Y} (G : tp_Ok X Y 64 cX10_route 6 RX10 (some .int))  {c3 : Int}    (n : Nat) : ∀ (z12 z13 : Int) (M14 : tp_M), tp_J X Y LC 64 6 5 1 (tp_lp2 (fx_X10_route_L65  c3 ) n z12 z13 M14) M14 [(0, vR X 0), (3, vI c3), (4, vI z12), (5, vI z13)] [] 65 := by
  refine tp_lp2_ok (P := fun o z12 z13 M14 => tp_J X Y LC 64 6 5 1 (o) M14 [(0, vR X 0), (3, vI c3), (4, vI z12), (5, vI z13)] [] 65) (fun z12 z13 M14 => tj_none) (fun rec hrec z12 z13 M14 => ?_) n
  unfold fx_X10_route_L65
  refine tj_iload (pc := 65) G 3 dX10_route_65 rfl ?_
  refine tj_if_lt (pc := 67) G (tgt := 96) (a2 := w32 z13) dX10_route_67 (by decide) rfl ?_ ?_
  · refine tj_iload_n (pc := 96) G 1 dX10_route_96 rfl rfl ?_
    exact tj_iret (pc := 97) G dX10_route_97
  refine tj_aload_n (pc := 70) G 0 dX10_route_70 rfl rfl ?_
  refine tj_iload (pc := 71) G 2 dX10_route_71 rfl ?_
  refine tj_iload (pc := 73) G 3 dX10_route_73 rfl ?_
  refine tj_callVi (pc := 75) G [vI z12, vI z13] mf_X10_leastNext (k := 0) (by decide) lc_0 rfl rfl ml_X10_344 (by decide) rfl rfl (Nat.le_of_ble_eq_true rfl) (fun _ h9 => ok_X10_leastNext X  h9) dX10_route_75 (fun r15 M16 => ?_)
  refine tj_istore (pc := 78) G (fun x17 => [(4, vI x17), (0, vR X 0), (3, vI c3), (5, vI z13)]) dX10_route_78 (by decide) (fun _ => rfl) (fun x17 => ?_)
  refine tj_aload_n (pc := 80) G 1 dX10_route_80 rfl rfl ?_
  refine tj_getR (pc := 81) G (k := 0) (j := 1) (j2 := 1) tk_X10 (by decide) lc_0 rfl (by decide) rfl fl_X10_19 dX10_route_81 ?_
  refine tj_iload (pc := 84) G 0 dX10_route_84 rfl ?_
  refine tj_i2l (pc := 86) G (b := w32 x17) dX10_route_86 rfl ?_
  refine tj_callVv (pc := 87) G [vL (w32 x17)] mf_X8_add (k := 3) (by decide) lc_3 rfl rfl ml_X10_347 (by decide) rfl rfl (Nat.le_of_ble_eq_true rfl) (fun _ h9 => ok_X8_add X  h9) dX10_route_87 (fun r18 M19 => ?_)
  refine tj_iinc (pc := 90) G 3 (fun x20 => [(5, vI x20), (4, vI x17), (0, vR X 0), (3, vI c3)]) dX10_route_90 rfl (by decide) (fun _ => rfl) (fun x20 => ?_)
  refine tj_goto (pc := 93) G (tgt := 65) dX10_route_93 (by decide) ?_
  exact tj_sub [2, 3, 1, 0] rfl (hrec x17 x20 M19)
set_option maxRecDepth 100000 in
set_option maxHeartbeats 4000000 in
theorem ok_X10_route (X : tp_X)  {a1 : Int} {a2 : Int}  {M : tp_M} {res : Int × tp_M} (h : fx_X10_route  a1 a2 M = some res) : tp_Ret X LC 64 1 yX10_route (Cond.code yX10_route cX10_route 6 (some .int)) 5 [vR X 0, vI a1, vI a2] M res := by
  refine tp_ofW (by decide +kernel) rfl rfl (by show _ ≤ 6; exact Nat.le_of_ble_eq_true rfl) h (fun Y G => ?_)
  show tp_J X Y LC 64 6 5 1 (fx_X10_route  a1 a2 M) M [(0, vR X 0), (1, vI a1), (2, vI a2)] [] 0
  unfold fx_X10_route
  refine tj_aload_n (pc := 0) G 0 dX10_route_0 rfl rfl ?_
  refine tj_getR (pc := 1) G (k := 0) (j := 2) (j2 := 2) tk_X10 (by decide) lc_0 rfl (by decide) rfl fl_X10_26 dX10_route_1 ?_
  refine tj_iload_n (pc := 4) G 1 dX10_route_4 rfl rfl ?_
  refine tj_callVi (pc := 5) G [vI a1] mf_X4_has (k := 5) (by decide) lc_5 rfl rfl ml_X10_145 (by decide) rfl rfl (Nat.le_of_ble_eq_true rfl) (fun _ h9 => ok_X4_has X gg_Paths_5 h9) dX10_route_5 (fun r1 M2 => ?_)
  refine tj_if_eq (pc := 8) G (tgt := 22) (a2 := w32 r1) dX10_route_8 (by decide) rfl ?_ ?_
  · refine tj_iconst (pc := 22) G dX10_route_22 ?_
    exact tj_iret (pc := 23) G dX10_route_23
  refine tj_aload_n (pc := 11) G 0 dX10_route_11 rfl rfl ?_
  refine tj_getR (pc := 12) G (k := 0) (j := 2) (j2 := 2) tk_X10 (by decide) lc_0 rfl (by decide) rfl fl_X10_26 dX10_route_12 ?_
  refine tj_iload_n (pc := 15) G 2 dX10_route_15 rfl rfl ?_
  refine tj_callVi (pc := 16) G [vI a2] mf_X4_has (k := 5) (by decide) lc_5 rfl rfl ml_X10_145 (by decide) rfl rfl (Nat.le_of_ble_eq_true rfl) (fun _ h9 => ok_X4_has X gg_Paths_5 h9) dX10_route_16 (fun r3 M4 => ?_)
  refine tj_if_ne (pc := 19) G (tgt := 24) (a2 := w32 r3) dX10_route_19 (by decide) rfl ?_ ?_
  · refine tj_aload_n (pc := 24) G 0 dX10_route_24 rfl rfl ?_
    refine tj_getR (pc := 25) G (k := 0) (j := 2) (j2 := 2) tk_X10 (by decide) lc_0 rfl (by decide) rfl fl_X10_26 dX10_route_25 ?_
    refine tj_iload_n (pc := 28) G 2 dX10_route_28 rfl rfl ?_
    refine tj_aload_n (pc := 29) G 0 dX10_route_29 rfl rfl ?_
    refine tj_getR (pc := 30) G (k := 0) (j := 16) (j2 := 16) tk_X10 (by decide) lc_0 rfl (by decide) rfl fl_X10_98 dX10_route_30 ?_
    refine tj_callVv (pc := 33) G [vI a2, vR X 61] mf_X4_measure (k := 5) (by decide) lc_5 rfl rfl ml_X10_338 (by decide) rfl rfl (Nat.le_of_ble_eq_true rfl) (fun _ h9 => ok_X4_measure X gg_Paths_5 ⟨by decide, lc_61⟩ h9) dX10_route_33 (fun r5 M6 => ?_)
    refine tj_aload_n (pc := 36) G 0 dX10_route_36 rfl rfl ?_
    refine tj_getR (pc := 37) G (k := 0) (j := 16) (j2 := 16) tk_X10 (by decide) lc_0 rfl (by decide) rfl fl_X10_98 dX10_route_37 ?_
    refine tj_iload_n (pc := 40) G 1 dX10_route_40 rfl rfl ?_
    refine tj_iald (pc := 41) G (k := 61) (i2 := w32 a1) (n2 := 8) (by decide) lc_61 rfl rfl dX10_route_41 ?_
    refine tj_istore_n (pc := 42) G (fun x7 => [(3, vI x7), (0, vR X 0), (1, vI a1), (2, vI a2)]) dX10_route_42 rfl (by decide) (fun _ => rfl) (fun x7 => ?_)
    refine tj_iload_n (pc := 43) G 0 dX10_route_43 rfl rfl ?_
    refine tj_if_ge (pc := 44) G (tgt := 50) (a2 := w32 x7) dX10_route_44 (by decide) rfl ?_ ?_
    · refine tj_aload_n (pc := 50) G 1 dX10_route_50 rfl rfl ?_
      refine tj_getR (pc := 51) G (k := 0) (j := 1) (j2 := 1) tk_X10 (by decide) lc_0 rfl (by decide) rfl fl_X10_19 dX10_route_51 ?_
      refine tj_callVv (pc := 54) G [] mf_X8_tell (k := 3) (by decide) lc_3 rfl rfl ml_X10_342 (by decide) rfl rfl (Nat.le_of_ble_eq_true rfl) (fun _ h9 => ok_X8_tell X  h9) dX10_route_54 (fun r8 M9 => ?_)
      refine tj_iload_n (pc := 57) G 2 dX10_route_57 rfl rfl ?_
      refine tj_istore (pc := 58) G (fun x10 => [(4, vI x10), (3, vI x7), (0, vR X 0), (1, vI a1), (2, vI a2)]) dX10_route_58 (by decide) (fun _ => rfl) (fun x10 => ?_)
      refine tj_iload_n (pc := 60) G 1 dX10_route_60 rfl rfl ?_
      refine tj_iconst (pc := 61) G dX10_route_61 ?_
      refine tj_isub (pc := 62) G dX10_route_62 ?_
      refine tj_istore (pc := 63) G (fun x11 => [(5, vI x11), (4, vI x10), (3, vI x7), (0, vR X 0), (1, vI a1), (2, vI a2)]) dX10_route_63 (by decide) (fun _ => rfl) (fun x11 => ?_)
      refine tj_sub [3, 2, 1, 0] rfl (fx_X10_route_L65_ok G     tp_F x10 x11 M9)
    refine tj_bipush (pc := 47) G dX10_route_47 rfl ?_
    exact tj_iret (pc := 49) G dX10_route_49
  refine tj_iconst (pc := 22) G dX10_route_22 ?_
  exact tj_iret (pc := 23) G dX10_route_23

def fx_X10_gates_L17 (c1 : Int) (K59 : Int → tp_M → tp_O) (rec : Int → Int → tp_M → tp_O) (z5 z6 : Int) (M7 : tp_M) : tp_O :=
(tp_bd (fx_X4_crossings 5 M7) (fun r9 M10 =>
(if w32 z6 < w32 r9 then
(tp_jn1 (fun y11 M12 => 
(tp_lt (z6 + 1) (fun x13 =>
(rec y11 x13 M12)))) (fun jk53 =>
(if w32 z6 = w32 c1 then
(jk53 z5 M10)
else
(tp_bd (fx_X4_reach 5 c1 z6 M10) (fun r14 M15 =>
(if w32 (x_and r14 1) = 0 then
(tp_lt (x_or z5 (x_shl 1 z6)) (fun x16 =>
(jk53 x16 M15)))
else
(jk53 z5 M15)))))))
else
(K59 z5 M10))))
def fx_X10_gates  (a1 : Int) (M : tp_M) : tp_O :=
(tp_bd (fx_X4_hasPost 5 a1 M) (fun r1 M2 =>
(if w32 r1 = 0 then
(some ((-1), M2))
else
(tp_lt 0 (fun x3 =>
(tp_lt 1 (fun x4 =>
(tp_lp2 (fx_X10_gates_L17 a1 (fun y8 M17 =>
(tp_bd (fx_J6_bitCount_0f7a4 y8 M17) (fun r18 M19 =>
(tp_bd (fx_X8_tell_ (w32 r18) M19) (fun r20 M21 =>
(some (y8, M21)))))))) tp_F x3 x4 M2))))))))
set_option maxRecDepth 100000 in
set_option maxHeartbeats 4000000 in
theorem fx_X10_gates_L17_ok {X : tp_X} {Y : tp_Y} (G : tp_Ok X Y 64 cX10_gates 4 RX10 (some .int))  {c1 : Int} {K59 : Int → tp_M → tp_O}   (hK59 : ∀ (y8 : Int) (M9 : tp_M), tp_J X Y LC 64 4 3 1 (K59 y8 M9) M9 [(0, vR X 0), (2, vI y8)] [] 59) (n : Nat) : ∀ (z5 z6 : Int) (M7 : tp_M), tp_J X Y LC 64 4 3 1 (tp_lp2 (fx_X10_gates_L17  c1 K59) n z5 z6 M7) M7 [(0, vR X 0), (1, vI c1), (2, vI z5), (3, vI z6)] [] 17 := by
  refine tp_lp2_ok (P := fun o z5 z6 M7 => tp_J X Y LC 64 4 3 1 (o) M7 [(0, vR X 0), (1, vI c1), (2, vI z5), (3, vI z6)] [] 17) (fun z5 z6 M7 => tj_none) (fun rec hrec z5 z6 M7 => ?_) n
  unfold fx_X10_gates_L17
  refine tj_iload_n (pc := 17) G 3 dX10_gates_17 rfl rfl ?_
  refine tj_aload_n (pc := 18) G 0 dX10_gates_18 rfl rfl ?_
  refine tj_getR (pc := 19) G (k := 0) (j := 2) (j2 := 2) tk_X10 (by decide) lc_0 rfl (by decide) rfl fl_X10_26 dX10_gates_19 ?_
  refine tj_callVi (pc := 22) G [] mf_X4_crossings (k := 5) (by decide) lc_5 rfl rfl ml_X10_275 (by decide) rfl rfl (Nat.le_of_ble_eq_true rfl) (fun _ h9 => ok_X4_crossings X gg_Paths_5 h9) dX10_gates_22 (fun r9 M10 => ?_)
  refine tj_icmp_ge (pc := 25) G (tgt := 59) (a2 := w32 z6) (b2 := w32 r9) dX10_gates_25 (by decide) rfl rfl ?_ ?_
  · exact tj_sub [0, 2] rfl (hK59 z5 M10)
  refine tj_iload_n (pc := 28) G 3 dX10_gates_28 rfl rfl ?_
  refine tj_iload_n (pc := 29) G 1 dX10_gates_29 rfl rfl ?_
  refine tj_jn1 (fun y11 => [(0, vR X 0), (1, vI c1), (2, vI y11), (3, vI z6)]) (fun y11 => []) 53 (fun y11 M12 => ?_) (fun jk53 hj53 => ?_)
  · refine tj_iinc (pc := 53) G 3 (fun x13 => [(3, vI x13), (0, vR X 0), (1, vI c1), (2, vI y11)]) dX10_gates_53 rfl (by decide) (fun _ => rfl) (fun x13 => ?_)
    refine tj_goto (pc := 56) G (tgt := 17) dX10_gates_56 (by decide) ?_
    exact tj_sub [1, 2, 3, 0] rfl (hrec y11 x13 M12)
  refine tj_icmp_eq (pc := 30) G (tgt := 53) (a2 := w32 z6) (b2 := w32 c1) dX10_gates_30 (by decide) rfl rfl ?_ ?_
  · exact tj_sub [0, 1, 2, 3] rfl (hj53 z5 M10)
  refine tj_aload_n (pc := 33) G 0 dX10_gates_33 rfl rfl ?_
  refine tj_getR (pc := 34) G (k := 0) (j := 2) (j2 := 2) tk_X10 (by decide) lc_0 rfl (by decide) rfl fl_X10_26 dX10_gates_34 ?_
  refine tj_iload_n (pc := 37) G 1 dX10_gates_37 rfl rfl ?_
  refine tj_iload_n (pc := 38) G 3 dX10_gates_38 rfl rfl ?_
  refine tj_callVi (pc := 39) G [vI c1, vI z6] mf_X4_reach (k := 5) (by decide) lc_5 rfl rfl ml_X10_349 (by decide) rfl rfl (Nat.le_of_ble_eq_true rfl) (fun _ h9 => ok_X4_reach X gg_Paths_5 h9) dX10_gates_39 (fun r14 M15 => ?_)
  refine tj_iconst (pc := 42) G dX10_gates_42 ?_
  refine tj_iand (pc := 43) G dX10_gates_43 ?_
  refine tj_if_ne (pc := 44) G (tgt := 53) (a2 := w32 (x_and r14 1)) dX10_gates_44 (by decide) rfl ?_ ?_
  · exact tj_sub [0, 1, 2, 3] rfl (hj53 z5 M15)
  refine tj_iload_n (pc := 47) G 2 dX10_gates_47 rfl rfl ?_
  refine tj_iconst (pc := 48) G dX10_gates_48 ?_
  refine tj_iload_n (pc := 49) G 3 dX10_gates_49 rfl rfl ?_
  refine tj_ishl (pc := 50) G dX10_gates_50 ?_
  refine tj_ior (pc := 51) G dX10_gates_51 ?_
  refine tj_istore_n (pc := 52) G (fun x16 => [(2, vI x16), (0, vR X 0), (1, vI c1), (3, vI z6)]) dX10_gates_52 rfl (by decide) (fun _ => rfl) (fun x16 => ?_)
  exact tj_sub [1, 2, 0, 3] rfl (hj53 x16 M15)
set_option maxRecDepth 100000 in
set_option maxHeartbeats 4000000 in
theorem ok_X10_gates (X : tp_X)  {a1 : Int}  {M : tp_M} {res : Int × tp_M} (h : fx_X10_gates  a1 M = some res) : tp_Ret X LC 64 1 yX10_gates (Cond.code yX10_gates cX10_gates 4 (some .int)) 3 [vR X 0, vI a1] M res := by
  refine tp_ofW (by decide +kernel) rfl rfl (by show _ ≤ 4; exact Nat.le_of_ble_eq_true rfl) h (fun Y G => ?_)
  show tp_J X Y LC 64 4 3 1 (fx_X10_gates  a1 M) M [(0, vR X 0), (1, vI a1)] [] 0
  unfold fx_X10_gates
  refine tj_aload_n (pc := 0) G 0 dX10_gates_0 rfl rfl ?_
  refine tj_getR (pc := 1) G (k := 0) (j := 2) (j2 := 2) tk_X10 (by decide) lc_0 rfl (by decide) rfl fl_X10_26 dX10_gates_1 ?_
  refine tj_iload_n (pc := 4) G 1 dX10_gates_4 rfl rfl ?_
  refine tj_callVi (pc := 5) G [vI a1] mf_X4_hasPost (k := 5) (by decide) lc_5 rfl rfl ml_X10_176 (by decide) rfl rfl (Nat.le_of_ble_eq_true rfl) (fun _ h9 => ok_X4_hasPost X gg_Paths_5 h9) dX10_gates_5 (fun r1 M2 => ?_)
  refine tj_if_ne (pc := 8) G (tgt := 13) (a2 := w32 r1) dX10_gates_8 (by decide) rfl ?_ ?_
  · refine tj_iconst (pc := 13) G dX10_gates_13 ?_
    refine tj_istore_n (pc := 14) G (fun x3 => [(2, vI x3), (0, vR X 0), (1, vI a1)]) dX10_gates_14 rfl (by decide) (fun _ => rfl) (fun x3 => ?_)
    refine tj_iconst (pc := 15) G dX10_gates_15 ?_
    refine tj_istore_n (pc := 16) G (fun x4 => [(3, vI x4), (2, vI x3), (0, vR X 0), (1, vI a1)]) dX10_gates_16 rfl (by decide) (fun _ => rfl) (fun x4 => ?_)
    refine tj_sub [2, 3, 1, 0] rfl (fx_X10_gates_L17_ok G    (fun y8 M17 => ?_) tp_F x3 x4 M2)
    refine tj_aload_n (pc := 59) G 0 dX10_gates_59 rfl rfl ?_
    refine tj_getR (pc := 60) G (k := 0) (j := 1) (j2 := 1) tk_X10 (by decide) lc_0 rfl (by decide) rfl fl_X10_19 dX10_gates_60 ?_
    refine tj_iload_n (pc := 63) G 1 dX10_gates_63 rfl rfl ?_
    refine tj_callSi (pc := 64) G [vI y8] mf_J6_bitCount_0f7a4 ml_X10_316 (by decide) rfl rfl (Nat.le_of_ble_eq_true rfl) (fun _ h9 => ok_J6_bitCount_0f7a4 X  h9) dX10_gates_64 (fun r18 M19 => ?_)
    refine tj_i2l (pc := 67) G (b := w32 r18) dX10_gates_67 rfl ?_
    refine tj_callVv (pc := 68) G [vL (w32 r18)] mf_X8_tell_ (k := 3) (by decide) lc_3 rfl rfl ml_X10_258 (by decide) rfl rfl (Nat.le_of_ble_eq_true rfl) (fun _ h9 => ok_X8_tell_ X  h9) dX10_gates_68 (fun r20 M21 => ?_)
    refine tj_iload_n (pc := 71) G 1 dX10_gates_71 rfl rfl ?_
    exact tj_iret (pc := 72) G dX10_gates_72
  refine tj_iconst (pc := 11) G dX10_gates_11 ?_
  exact tj_iret (pc := 12) G dX10_gates_12

def fx_X10_parish_L17 (c1 : Int) (K54 : Int → tp_M → tp_O) (rec : Int → Int → tp_M → tp_O) (z5 z6 : Int) (M7 : tp_M) : tp_O :=
(tp_bd (fx_X4_crossings 5 M7) (fun r9 M10 =>
(if w32 z6 < w32 r9 then
(tp_bd (fx_X4_parishOf 5 z6 M10) (fun r11 M12 =>
(tp_jn1 (fun y13 M14 => 
(tp_lt (z6 + 1) (fun x15 =>
(rec y13 x15 M14)))) (fun jk48 =>
(if w32 (x_and r11 ((x_shl 1 z6) - 1)) = 0 then
(tp_lt (z5 + 1) (fun x16 =>
(jk48 x16 M12)))
else
(jk48 z5 M12))))))
else
(K54 z5 M10))))
def fx_X10_parish  (a1 : Int) (M : tp_M) : tp_O :=
(tp_bd (fx_X4_has 5 a1 M) (fun r1 M2 =>
(if w32 r1 = 0 then
(some ((-1), M2))
else
(tp_lt 0 (fun x3 =>
(tp_lt 0 (fun x4 =>
(tp_lp2 (fx_X10_parish_L17 a1 (fun y8 M17 =>
(tp_bd (fx_X8_tell_ (w32 y8) M17) (fun r18 M19 =>
(tp_bd (fx_X4_parishOf 5 a1 M19) (fun r20 M21 =>
(some (r20, M21)))))))) tp_F x3 x4 M2))))))))
set_option maxRecDepth 100000 in
set_option maxHeartbeats 4000000 in
theorem fx_X10_parish_L17_ok {X : tp_X} {Y : tp_Y} (G : tp_Ok X Y 64 cX10_parish 4 RX10 (some .int))  {c1 : Int} {K54 : Int → tp_M → tp_O}   (hK54 : ∀ (y8 : Int) (M9 : tp_M), tp_J X Y LC 64 4 3 1 (K54 y8 M9) M9 [(0, vR X 0), (1, vI c1), (2, vI y8)] [] 54) (n : Nat) : ∀ (z5 z6 : Int) (M7 : tp_M), tp_J X Y LC 64 4 3 1 (tp_lp2 (fx_X10_parish_L17  c1 K54) n z5 z6 M7) M7 [(0, vR X 0), (1, vI c1), (2, vI z5), (3, vI z6)] [] 17 := by
  refine tp_lp2_ok (P := fun o z5 z6 M7 => tp_J X Y LC 64 4 3 1 (o) M7 [(0, vR X 0), (1, vI c1), (2, vI z5), (3, vI z6)] [] 17) (fun z5 z6 M7 => tj_none) (fun rec hrec z5 z6 M7 => ?_) n
  unfold fx_X10_parish_L17
  refine tj_iload_n (pc := 17) G 3 dX10_parish_17 rfl rfl ?_
  refine tj_aload_n (pc := 18) G 0 dX10_parish_18 rfl rfl ?_
  refine tj_getR (pc := 19) G (k := 0) (j := 2) (j2 := 2) tk_X10 (by decide) lc_0 rfl (by decide) rfl fl_X10_26 dX10_parish_19 ?_
  refine tj_callVi (pc := 22) G [] mf_X4_crossings (k := 5) (by decide) lc_5 rfl rfl ml_X10_275 (by decide) rfl rfl (Nat.le_of_ble_eq_true rfl) (fun _ h9 => ok_X4_crossings X gg_Paths_5 h9) dX10_parish_22 (fun r9 M10 => ?_)
  refine tj_icmp_ge (pc := 25) G (tgt := 54) (a2 := w32 z6) (b2 := w32 r9) dX10_parish_25 (by decide) rfl rfl ?_ ?_
  · exact tj_sub [0, 1, 2] rfl (hK54 z5 M10)
  refine tj_aload_n (pc := 28) G 0 dX10_parish_28 rfl rfl ?_
  refine tj_getR (pc := 29) G (k := 0) (j := 2) (j2 := 2) tk_X10 (by decide) lc_0 rfl (by decide) rfl fl_X10_26 dX10_parish_29 ?_
  refine tj_iload_n (pc := 32) G 3 dX10_parish_32 rfl rfl ?_
  refine tj_callVi (pc := 33) G [vI z6] mf_X4_parishOf (k := 5) (by decide) lc_5 rfl rfl ml_X10_352 (by decide) rfl rfl (Nat.le_of_ble_eq_true rfl) (fun _ h9 => ok_X4_parishOf X gg_Paths_5 h9) dX10_parish_33 (fun r11 M12 => ?_)
  refine tj_iconst (pc := 36) G dX10_parish_36 ?_
  refine tj_iload_n (pc := 37) G 3 dX10_parish_37 rfl rfl ?_
  refine tj_ishl (pc := 38) G dX10_parish_38 ?_
  refine tj_iconst (pc := 39) G dX10_parish_39 ?_
  refine tj_isub (pc := 40) G dX10_parish_40 ?_
  refine tj_iand (pc := 41) G dX10_parish_41 ?_
  refine tj_jn1 (fun y13 => [(0, vR X 0), (1, vI c1), (2, vI y13), (3, vI z6)]) (fun y13 => []) 48 (fun y13 M14 => ?_) (fun jk48 hj48 => ?_)
  · refine tj_iinc (pc := 48) G 3 (fun x15 => [(3, vI x15), (0, vR X 0), (1, vI c1), (2, vI y13)]) dX10_parish_48 rfl (by decide) (fun _ => rfl) (fun x15 => ?_)
    refine tj_goto (pc := 51) G (tgt := 17) dX10_parish_51 (by decide) ?_
    exact tj_sub [1, 2, 3, 0] rfl (hrec y13 x15 M14)
  refine tj_if_ne (pc := 42) G (tgt := 48) (a2 := w32 (x_and r11 ((x_shl 1 z6) - 1))) dX10_parish_42 (by decide) rfl ?_ ?_
  · exact tj_sub [0, 1, 2, 3] rfl (hj48 z5 M12)
  refine tj_iinc (pc := 45) G 2 (fun x16 => [(2, vI x16), (0, vR X 0), (1, vI c1), (3, vI z6)]) dX10_parish_45 rfl (by decide) (fun _ => rfl) (fun x16 => ?_)
  exact tj_sub [1, 2, 0, 3] rfl (hj48 x16 M12)
set_option maxRecDepth 100000 in
set_option maxHeartbeats 4000000 in
theorem ok_X10_parish (X : tp_X)  {a1 : Int}  {M : tp_M} {res : Int × tp_M} (h : fx_X10_parish  a1 M = some res) : tp_Ret X LC 64 1 yX10_parish (Cond.code yX10_parish cX10_parish 4 (some .int)) 3 [vR X 0, vI a1] M res := by
  refine tp_ofW (by decide +kernel) rfl rfl (by show _ ≤ 4; exact Nat.le_of_ble_eq_true rfl) h (fun Y G => ?_)
  show tp_J X Y LC 64 4 3 1 (fx_X10_parish  a1 M) M [(0, vR X 0), (1, vI a1)] [] 0
  unfold fx_X10_parish
  refine tj_aload_n (pc := 0) G 0 dX10_parish_0 rfl rfl ?_
  refine tj_getR (pc := 1) G (k := 0) (j := 2) (j2 := 2) tk_X10 (by decide) lc_0 rfl (by decide) rfl fl_X10_26 dX10_parish_1 ?_
  refine tj_iload_n (pc := 4) G 1 dX10_parish_4 rfl rfl ?_
  refine tj_callVi (pc := 5) G [vI a1] mf_X4_has (k := 5) (by decide) lc_5 rfl rfl ml_X10_145 (by decide) rfl rfl (Nat.le_of_ble_eq_true rfl) (fun _ h9 => ok_X4_has X gg_Paths_5 h9) dX10_parish_5 (fun r1 M2 => ?_)
  refine tj_if_ne (pc := 8) G (tgt := 13) (a2 := w32 r1) dX10_parish_8 (by decide) rfl ?_ ?_
  · refine tj_iconst (pc := 13) G dX10_parish_13 ?_
    refine tj_istore_n (pc := 14) G (fun x3 => [(2, vI x3), (0, vR X 0), (1, vI a1)]) dX10_parish_14 rfl (by decide) (fun _ => rfl) (fun x3 => ?_)
    refine tj_iconst (pc := 15) G dX10_parish_15 ?_
    refine tj_istore_n (pc := 16) G (fun x4 => [(3, vI x4), (2, vI x3), (0, vR X 0), (1, vI a1)]) dX10_parish_16 rfl (by decide) (fun _ => rfl) (fun x4 => ?_)
    refine tj_sub [2, 3, 1, 0] rfl (fx_X10_parish_L17_ok G    (fun y8 M17 => ?_) tp_F x3 x4 M2)
    refine tj_aload_n (pc := 54) G 0 dX10_parish_54 rfl rfl ?_
    refine tj_getR (pc := 55) G (k := 0) (j := 1) (j2 := 1) tk_X10 (by decide) lc_0 rfl (by decide) rfl fl_X10_19 dX10_parish_55 ?_
    refine tj_iload_n (pc := 58) G 2 dX10_parish_58 rfl rfl ?_
    refine tj_i2l (pc := 59) G (b := w32 y8) dX10_parish_59 rfl ?_
    refine tj_callVv (pc := 60) G [vL (w32 y8)] mf_X8_tell_ (k := 3) (by decide) lc_3 rfl rfl ml_X10_258 (by decide) rfl rfl (Nat.le_of_ble_eq_true rfl) (fun _ h9 => ok_X8_tell_ X  h9) dX10_parish_60 (fun r18 M19 => ?_)
    refine tj_aload_n (pc := 63) G 0 dX10_parish_63 rfl rfl ?_
    refine tj_getR (pc := 64) G (k := 0) (j := 2) (j2 := 2) tk_X10 (by decide) lc_0 rfl (by decide) rfl fl_X10_26 dX10_parish_64 ?_
    refine tj_iload_n (pc := 67) G 1 dX10_parish_67 rfl rfl ?_
    refine tj_callVi (pc := 68) G [vI a1] mf_X4_parishOf (k := 5) (by decide) lc_5 rfl rfl ml_X10_352 (by decide) rfl rfl (Nat.le_of_ble_eq_true rfl) (fun _ h9 => ok_X4_parishOf X gg_Paths_5 h9) dX10_parish_68 (fun r20 M21 => ?_)
    exact tj_iret (pc := 71) G dX10_parish_71
  refine tj_iconst (pc := 11) G dX10_parish_11 ?_
  exact tj_iret (pc := 12) G dX10_parish_12

def fx_X10_mean  (a1 : Int) (M : tp_M) : tp_O :=
(tp_bd (fx_X4_hasPost 5 a1 M) (fun r1 M2 =>
(if w32 r1 = 0 then
(some ((-1), M2))
else
(tp_bd (fx_X0_solve a1 0 M2) (fun r3 M4 =>
(tp_bd (fx_X8_tell__ (M4 40 3) (M4 40 4) M4) (fun r5 M6 =>
(if x_lcmp (M6 40 4) 0 ≤ 0 then
(some (0, M6))
else
(tp_nz (w64 (M6 40 4)) (some (x_ldiv (M6 40 3) (M6 40 4), M6)))))))))))
set_option maxRecDepth 100000 in
set_option maxHeartbeats 4000000 in
theorem ok_X10_mean (X : tp_X)  {a1 : Int}  {M : tp_M} {res : Int × tp_M} (h : fx_X10_mean  a1 M = some res) : tp_Ret X LC 64 1 yX10_mean (Cond.code yX10_mean cX10_mean 2 (some .int)) 4 [vR X 0, vI a1] M res := by
  refine tp_ofW (by decide +kernel) rfl rfl (by show _ ≤ 2; exact Nat.le_of_ble_eq_true rfl) h (fun Y G => ?_)
  show tp_J X Y LC 64 2 4 1 (fx_X10_mean  a1 M) M [(0, vR X 0), (1, vI a1)] [] 0
  unfold fx_X10_mean
  refine tj_aload_n (pc := 0) G 0 dX10_mean_0 rfl rfl ?_
  refine tj_getR (pc := 1) G (k := 0) (j := 2) (j2 := 2) tk_X10 (by decide) lc_0 rfl (by decide) rfl fl_X10_26 dX10_mean_1 ?_
  refine tj_iload_n (pc := 4) G 1 dX10_mean_4 rfl rfl ?_
  refine tj_callVi (pc := 5) G [vI a1] mf_X4_hasPost (k := 5) (by decide) lc_5 rfl rfl ml_X10_176 (by decide) rfl rfl (Nat.le_of_ble_eq_true rfl) (fun _ h9 => ok_X4_hasPost X gg_Paths_5 h9) dX10_mean_5 (fun r1 M2 => ?_)
  refine tj_if_ne (pc := 8) G (tgt := 13) (a2 := w32 r1) dX10_mean_8 (by decide) rfl ?_ ?_
  · refine tj_aload_n (pc := 13) G 0 dX10_mean_13 rfl rfl ?_
    refine tj_getR (pc := 14) G (k := 0) (j := 11) (j2 := 11) tk_X10 (by decide) lc_0 rfl (by decide) rfl fl_X10_73 dX10_mean_14 ?_
    refine tj_aload_n (pc := 17) G 0 dX10_mean_17 rfl rfl ?_
    refine tj_getR (pc := 18) G (k := 0) (j := 2) (j2 := 2) tk_X10 (by decide) lc_0 rfl (by decide) rfl fl_X10_26 dX10_mean_18 ?_
    refine tj_iload_n (pc := 21) G 1 dX10_mean_21 rfl rfl ?_
    refine tj_iconst (pc := 22) G dX10_mean_22 ?_
    refine tj_callVv (pc := 23) G [vR X 5, vI a1, vI 0] mf_X0_solve (k := 40) (by decide) lc_40 rfl rfl ml_X10_355 (by decide) rfl rfl (Nat.le_of_ble_eq_true rfl) (fun _ h9 => ok_X0_solve X  h9) dX10_mean_23 (fun r3 M4 => ?_)
    refine tj_aload_n (pc := 26) G 0 dX10_mean_26 rfl rfl ?_
    refine tj_getR (pc := 27) G (k := 0) (j := 1) (j2 := 1) tk_X10 (by decide) lc_0 rfl (by decide) rfl fl_X10_19 dX10_mean_27 ?_
    refine tj_aload_n (pc := 30) G 0 dX10_mean_30 rfl rfl ?_
    refine tj_getR (pc := 31) G (k := 0) (j := 11) (j2 := 11) tk_X10 (by decide) lc_0 rfl (by decide) rfl fl_X10_73 dX10_mean_31 ?_
    refine tj_getLN (pc := 34) G (k := 40) (j := 3) (j2 := 3) tk_X0 (by decide) lc_40 rfl (by decide) rfl fn_X10_359 dX10_mean_34 ?_
    refine tj_aload_n (pc := 37) G 0 dX10_mean_37 rfl rfl ?_
    refine tj_getR (pc := 38) G (k := 0) (j := 11) (j2 := 11) tk_X10 (by decide) lc_0 rfl (by decide) rfl fl_X10_73 dX10_mean_38 ?_
    refine tj_getLN (pc := 41) G (k := 40) (j := 4) (j2 := 4) tk_X0 (by decide) lc_40 rfl (by decide) rfl fn_X10_363 dX10_mean_41 ?_
    refine tj_callVv (pc := 44) G [vL (M4 40 3), vL (M4 40 4)] mf_X8_tell__ (k := 3) (by decide) lc_3 rfl rfl ml_X10_241 (by decide) rfl rfl (Nat.le_of_ble_eq_true rfl) (fun _ h9 => ok_X8_tell__ X  h9) dX10_mean_44 (fun r5 M6 => ?_)
    refine tj_aload_n (pc := 47) G 0 dX10_mean_47 rfl rfl ?_
    refine tj_getR (pc := 48) G (k := 0) (j := 11) (j2 := 11) tk_X10 (by decide) lc_0 rfl (by decide) rfl fl_X10_73 dX10_mean_48 ?_
    refine tj_getLN (pc := 51) G (k := 40) (j := 4) (j2 := 4) tk_X0 (by decide) lc_40 rfl (by decide) rfl fn_X10_363 dX10_mean_51 ?_
    refine tj_lconst (pc := 54) G (v := 0) dX10_mean_54 rfl ?_
    refine tj_lcmp (pc := 55) G dX10_mean_55 ?_
    refine tj_if_le (pc := 56) G (tgt := 78) (a2 := x_lcmp (M6 40 4) 0) dX10_mean_56 (by decide) (w32_lcmp _ _) ?_ ?_
    · refine tj_iconst (pc := 78) G dX10_mean_78 ?_
      exact tj_iret (pc := 79) G dX10_mean_79
    refine tj_aload_n (pc := 59) G 0 dX10_mean_59 rfl rfl ?_
    refine tj_getR (pc := 60) G (k := 0) (j := 11) (j2 := 11) tk_X10 (by decide) lc_0 rfl (by decide) rfl fl_X10_73 dX10_mean_60 ?_
    refine tj_getLN (pc := 63) G (k := 40) (j := 3) (j2 := 3) tk_X0 (by decide) lc_40 rfl (by decide) rfl fn_X10_359 dX10_mean_63 ?_
    refine tj_aload_n (pc := 66) G 0 dX10_mean_66 rfl rfl ?_
    refine tj_getR (pc := 67) G (k := 0) (j := 11) (j2 := 11) tk_X10 (by decide) lc_0 rfl (by decide) rfl fl_X10_73 dX10_mean_67 ?_
    refine tj_getLN (pc := 70) G (k := 40) (j := 4) (j2 := 4) tk_X0 (by decide) lc_40 rfl (by decide) rfl fn_X10_363 dX10_mean_70 ?_
    refine tj_ldiv (pc := 73) G (b2 := w64 (M6 40 4)) dX10_mean_73 rfl ?_
    refine tj_l2i (pc := 74) G dX10_mean_74 ?_
    refine tj_goto (pc := 75) G (tgt := 79) dX10_mean_75 (by decide) ?_
    exact tj_iret (pc := 79) G dX10_mean_79
  refine tj_iconst (pc := 11) G dX10_mean_11 ?_
  exact tj_iret (pc := 12) G dX10_mean_12

def fx_X10_meets  (a1 : Int) (a2 : Int) (M : tp_M) : tp_O :=
(tp_bd (fx_X4_hasPost 5 a1 M) (fun r1 M2 =>
(if w32 r1 = 0 then
(some ((-1), M2))
else
(tp_bd (fx_X4_hasPost 5 a2 M2) (fun r3 M4 =>
(if w32 r3 = 0 then
(some ((-1), M4))
else
(tp_bd (fx_X0_solve a1 a2 M4) (fun r5 M6 =>
(tp_bd (fx_X8_tell__ (M6 40 3) (M6 40 4) M6) (fun r7 M8 =>
(some (0, M8))))))))))))
set_option maxRecDepth 100000 in
set_option maxHeartbeats 4000000 in
theorem ok_X10_meets (X : tp_X)  {a1 : Int} {a2 : Int}  {M : tp_M} {res : Int × tp_M} (h : fx_X10_meets  a1 a2 M = some res) : tp_Ret X LC 64 1 yX10_meets (Cond.code yX10_meets cX10_meets 3 (some .int)) 4 [vR X 0, vI a1, vI a2] M res := by
  refine tp_ofW (by decide +kernel) rfl rfl (by show _ ≤ 3; exact Nat.le_of_ble_eq_true rfl) h (fun Y G => ?_)
  show tp_J X Y LC 64 3 4 1 (fx_X10_meets  a1 a2 M) M [(0, vR X 0), (1, vI a1), (2, vI a2)] [] 0
  unfold fx_X10_meets
  refine tj_aload_n (pc := 0) G 0 dX10_meets_0 rfl rfl ?_
  refine tj_getR (pc := 1) G (k := 0) (j := 2) (j2 := 2) tk_X10 (by decide) lc_0 rfl (by decide) rfl fl_X10_26 dX10_meets_1 ?_
  refine tj_iload_n (pc := 4) G 1 dX10_meets_4 rfl rfl ?_
  refine tj_callVi (pc := 5) G [vI a1] mf_X4_hasPost (k := 5) (by decide) lc_5 rfl rfl ml_X10_176 (by decide) rfl rfl (Nat.le_of_ble_eq_true rfl) (fun _ h9 => ok_X4_hasPost X gg_Paths_5 h9) dX10_meets_5 (fun r1 M2 => ?_)
  refine tj_if_eq (pc := 8) G (tgt := 22) (a2 := w32 r1) dX10_meets_8 (by decide) rfl ?_ ?_
  · refine tj_iconst (pc := 22) G dX10_meets_22 ?_
    exact tj_iret (pc := 23) G dX10_meets_23
  refine tj_aload_n (pc := 11) G 0 dX10_meets_11 rfl rfl ?_
  refine tj_getR (pc := 12) G (k := 0) (j := 2) (j2 := 2) tk_X10 (by decide) lc_0 rfl (by decide) rfl fl_X10_26 dX10_meets_12 ?_
  refine tj_iload_n (pc := 15) G 2 dX10_meets_15 rfl rfl ?_
  refine tj_callVi (pc := 16) G [vI a2] mf_X4_hasPost (k := 5) (by decide) lc_5 rfl rfl ml_X10_176 (by decide) rfl rfl (Nat.le_of_ble_eq_true rfl) (fun _ h9 => ok_X4_hasPost X gg_Paths_5 h9) dX10_meets_16 (fun r3 M4 => ?_)
  refine tj_if_ne (pc := 19) G (tgt := 24) (a2 := w32 r3) dX10_meets_19 (by decide) rfl ?_ ?_
  · refine tj_aload_n (pc := 24) G 0 dX10_meets_24 rfl rfl ?_
    refine tj_getR (pc := 25) G (k := 0) (j := 11) (j2 := 11) tk_X10 (by decide) lc_0 rfl (by decide) rfl fl_X10_73 dX10_meets_25 ?_
    refine tj_aload_n (pc := 28) G 0 dX10_meets_28 rfl rfl ?_
    refine tj_getR (pc := 29) G (k := 0) (j := 2) (j2 := 2) tk_X10 (by decide) lc_0 rfl (by decide) rfl fl_X10_26 dX10_meets_29 ?_
    refine tj_iload_n (pc := 32) G 1 dX10_meets_32 rfl rfl ?_
    refine tj_iload_n (pc := 33) G 2 dX10_meets_33 rfl rfl ?_
    refine tj_callVv (pc := 34) G [vR X 5, vI a1, vI a2] mf_X0_solve (k := 40) (by decide) lc_40 rfl rfl ml_X10_355 (by decide) rfl rfl (Nat.le_of_ble_eq_true rfl) (fun _ h9 => ok_X0_solve X  h9) dX10_meets_34 (fun r5 M6 => ?_)
    refine tj_aload_n (pc := 37) G 0 dX10_meets_37 rfl rfl ?_
    refine tj_getR (pc := 38) G (k := 0) (j := 1) (j2 := 1) tk_X10 (by decide) lc_0 rfl (by decide) rfl fl_X10_19 dX10_meets_38 ?_
    refine tj_aload_n (pc := 41) G 0 dX10_meets_41 rfl rfl ?_
    refine tj_getR (pc := 42) G (k := 0) (j := 11) (j2 := 11) tk_X10 (by decide) lc_0 rfl (by decide) rfl fl_X10_73 dX10_meets_42 ?_
    refine tj_getLN (pc := 45) G (k := 40) (j := 3) (j2 := 3) tk_X0 (by decide) lc_40 rfl (by decide) rfl fn_X10_359 dX10_meets_45 ?_
    refine tj_aload_n (pc := 48) G 0 dX10_meets_48 rfl rfl ?_
    refine tj_getR (pc := 49) G (k := 0) (j := 11) (j2 := 11) tk_X10 (by decide) lc_0 rfl (by decide) rfl fl_X10_73 dX10_meets_49 ?_
    refine tj_getLN (pc := 52) G (k := 40) (j := 4) (j2 := 4) tk_X0 (by decide) lc_40 rfl (by decide) rfl fn_X10_363 dX10_meets_52 ?_
    refine tj_callVv (pc := 55) G [vL (M6 40 3), vL (M6 40 4)] mf_X8_tell__ (k := 3) (by decide) lc_3 rfl rfl ml_X10_241 (by decide) rfl rfl (Nat.le_of_ble_eq_true rfl) (fun _ h9 => ok_X8_tell__ X  h9) dX10_meets_55 (fun r7 M8 => ?_)
    refine tj_iconst (pc := 58) G dX10_meets_58 ?_
    exact tj_iret (pc := 59) G dX10_meets_59
  refine tj_iconst (pc := 22) G dX10_meets_22 ?_
  exact tj_iret (pc := 23) G dX10_meets_23

def fx_X10_odds  (a1 : Int) (a2 : Int) (a3 : Int) (M : tp_M) : tp_O :=
(tp_bd (fx_X4_hasPost 5 a1 M) (fun r1 M2 =>
(if w32 r1 = 0 then
(some ((-1), M2))
else
(tp_bd (fx_X4_has 5 a3 M2) (fun r3 M4 =>
(if w32 r3 = 0 then
(some ((-1), M4))
else
(if w32 a2 < 0 then
(some ((-1), M4))
else
(if w32 a2 ≤ 8 then
(tp_bd (fx_X0_spread a1 a2 a3 M4) (fun r5 M6 =>
(tp_bd (fx_X8_tell__ (M6 40 3) (M6 40 4) M6) (fun r7 M8 =>
(some (0, M8))))))
else
(some ((-1), M4))))))))))
set_option maxRecDepth 100000 in
set_option maxHeartbeats 4000000 in
theorem ok_X10_odds (X : tp_X)  {a1 : Int} {a2 : Int} {a3 : Int}  {M : tp_M} {res : Int × tp_M} (h : fx_X10_odds  a1 a2 a3 M = some res) : tp_Ret X LC 64 1 yX10_odds (Cond.code yX10_odds cX10_odds 4 (some .int)) 5 [vR X 0, vI a1, vI a2, vI a3] M res := by
  refine tp_ofW (by decide +kernel) rfl rfl (by show _ ≤ 4; exact Nat.le_of_ble_eq_true rfl) h (fun Y G => ?_)
  show tp_J X Y LC 64 4 5 1 (fx_X10_odds  a1 a2 a3 M) M [(0, vR X 0), (1, vI a1), (2, vI a2), (3, vI a3)] [] 0
  unfold fx_X10_odds
  refine tj_aload_n (pc := 0) G 0 dX10_odds_0 rfl rfl ?_
  refine tj_getR (pc := 1) G (k := 0) (j := 2) (j2 := 2) tk_X10 (by decide) lc_0 rfl (by decide) rfl fl_X10_26 dX10_odds_1 ?_
  refine tj_iload_n (pc := 4) G 1 dX10_odds_4 rfl rfl ?_
  refine tj_callVi (pc := 5) G [vI a1] mf_X4_hasPost (k := 5) (by decide) lc_5 rfl rfl ml_X10_176 (by decide) rfl rfl (Nat.le_of_ble_eq_true rfl) (fun _ h9 => ok_X4_hasPost X gg_Paths_5 h9) dX10_odds_5 (fun r1 M2 => ?_)
  refine tj_if_eq (pc := 8) G (tgt := 32) (a2 := w32 r1) dX10_odds_8 (by decide) rfl ?_ ?_
  · refine tj_iconst (pc := 32) G dX10_odds_32 ?_
    exact tj_iret (pc := 33) G dX10_odds_33
  refine tj_aload_n (pc := 11) G 0 dX10_odds_11 rfl rfl ?_
  refine tj_getR (pc := 12) G (k := 0) (j := 2) (j2 := 2) tk_X10 (by decide) lc_0 rfl (by decide) rfl fl_X10_26 dX10_odds_12 ?_
  refine tj_iload_n (pc := 15) G 3 dX10_odds_15 rfl rfl ?_
  refine tj_callVi (pc := 16) G [vI a3] mf_X4_has (k := 5) (by decide) lc_5 rfl rfl ml_X10_145 (by decide) rfl rfl (Nat.le_of_ble_eq_true rfl) (fun _ h9 => ok_X4_has X gg_Paths_5 h9) dX10_odds_16 (fun r3 M4 => ?_)
  refine tj_if_eq (pc := 19) G (tgt := 32) (a2 := w32 r3) dX10_odds_19 (by decide) rfl ?_ ?_
  · refine tj_iconst (pc := 32) G dX10_odds_32 ?_
    exact tj_iret (pc := 33) G dX10_odds_33
  refine tj_iload_n (pc := 22) G 2 dX10_odds_22 rfl rfl ?_
  refine tj_if_lt (pc := 23) G (tgt := 32) (a2 := w32 a2) dX10_odds_23 (by decide) rfl ?_ ?_
  · refine tj_iconst (pc := 32) G dX10_odds_32 ?_
    exact tj_iret (pc := 33) G dX10_odds_33
  refine tj_iload_n (pc := 26) G 2 dX10_odds_26 rfl rfl ?_
  refine tj_bipush (pc := 27) G dX10_odds_27 rfl ?_
  refine tj_icmp_le (pc := 29) G (tgt := 34) (a2 := w32 a2) (b2 := 8) dX10_odds_29 (by decide) rfl rfl ?_ ?_
  · refine tj_aload_n (pc := 34) G 0 dX10_odds_34 rfl rfl ?_
    refine tj_getR (pc := 35) G (k := 0) (j := 11) (j2 := 11) tk_X10 (by decide) lc_0 rfl (by decide) rfl fl_X10_73 dX10_odds_35 ?_
    refine tj_aload_n (pc := 38) G 0 dX10_odds_38 rfl rfl ?_
    refine tj_getR (pc := 39) G (k := 0) (j := 2) (j2 := 2) tk_X10 (by decide) lc_0 rfl (by decide) rfl fl_X10_26 dX10_odds_39 ?_
    refine tj_iload_n (pc := 42) G 1 dX10_odds_42 rfl rfl ?_
    refine tj_iload_n (pc := 43) G 2 dX10_odds_43 rfl rfl ?_
    refine tj_iload_n (pc := 44) G 3 dX10_odds_44 rfl rfl ?_
    refine tj_callVv (pc := 45) G [vR X 5, vI a1, vI a2, vI a3] mf_X0_spread (k := 40) (by decide) lc_40 rfl rfl ml_X10_366 (by decide) rfl rfl (Nat.le_of_ble_eq_true rfl) (fun _ h9 => ok_X0_spread X  h9) dX10_odds_45 (fun r5 M6 => ?_)
    refine tj_aload_n (pc := 48) G 0 dX10_odds_48 rfl rfl ?_
    refine tj_getR (pc := 49) G (k := 0) (j := 1) (j2 := 1) tk_X10 (by decide) lc_0 rfl (by decide) rfl fl_X10_19 dX10_odds_49 ?_
    refine tj_aload_n (pc := 52) G 0 dX10_odds_52 rfl rfl ?_
    refine tj_getR (pc := 53) G (k := 0) (j := 11) (j2 := 11) tk_X10 (by decide) lc_0 rfl (by decide) rfl fl_X10_73 dX10_odds_53 ?_
    refine tj_getLN (pc := 56) G (k := 40) (j := 3) (j2 := 3) tk_X0 (by decide) lc_40 rfl (by decide) rfl fn_X10_359 dX10_odds_56 ?_
    refine tj_aload_n (pc := 59) G 0 dX10_odds_59 rfl rfl ?_
    refine tj_getR (pc := 60) G (k := 0) (j := 11) (j2 := 11) tk_X10 (by decide) lc_0 rfl (by decide) rfl fl_X10_73 dX10_odds_60 ?_
    refine tj_getLN (pc := 63) G (k := 40) (j := 4) (j2 := 4) tk_X0 (by decide) lc_40 rfl (by decide) rfl fn_X10_363 dX10_odds_63 ?_
    refine tj_callVv (pc := 66) G [vL (M6 40 3), vL (M6 40 4)] mf_X8_tell__ (k := 3) (by decide) lc_3 rfl rfl ml_X10_241 (by decide) rfl rfl (Nat.le_of_ble_eq_true rfl) (fun _ h9 => ok_X8_tell__ X  h9) dX10_odds_66 (fun r7 M8 => ?_)
    refine tj_iconst (pc := 69) G dX10_odds_69 ?_
    exact tj_iret (pc := 70) G dX10_odds_70
  refine tj_iconst (pc := 32) G dX10_odds_32 ?_
  exact tj_iret (pc := 33) G dX10_odds_33

def fx_X10_ready_L4  (K39 : Int → tp_M → tp_O) (rec : Int → Int → tp_M → tp_O) (z3 z4 : Int) (M5 : tp_M) : tp_O :=
(tp_bd (fx_X4_crossings 5 M5) (fun r7 M8 =>
(if w32 z4 < w32 r7 then
(tp_bd (fx_X10_canBurst 25 z4 M8) (fun r9 M10 =>
(tp_jn1 (fun y11 M12 => 
(tp_lt (z4 + 1) (fun x13 =>
(rec y11 x13 M12)))) (fun jk33 =>
(if w32 r9 = 0 then
(jk33 z3 M10)
else
(tp_lt (x_or z3 (x_shl 1 z4)) (fun x14 =>
(jk33 x14 M10))))))))
else
(K39 z3 M8))))
def fx_X10_ready   (M : tp_M) : tp_O :=
(tp_lt 0 (fun x1 =>
(tp_lt 1 (fun x2 =>
(tp_lp2 (fx_X10_ready_L4  (fun y6 M15 =>
(tp_bd (fx_J6_bitCount_0f7a4 y6 M15) (fun r16 M17 =>
(tp_bd (fx_X2_walkers 25 M17) (fun r18 M19 =>
(tp_bd (fx_X8_tell__ (w32 r16) (w32 r18) M19) (fun r20 M21 =>
(some (y6, M21)))))))))) tp_F x1 x2 M)))))
set_option maxRecDepth 100000 in
set_option maxHeartbeats 4000000 in
theorem fx_X10_ready_L4_ok {X : tp_X} {Y : tp_Y} (G : tp_Ok X Y 64 cX10_ready 3 RX10 (some .int))  {K39 : Int → tp_M → tp_O}   (hK39 : ∀ (y6 : Int) (M9 : tp_M), tp_J X Y LC 64 3 4 1 (K39 y6 M9) M9 [(0, vR X 0), (1, vI y6)] [] 39) (n : Nat) : ∀ (z3 z4 : Int) (M5 : tp_M), tp_J X Y LC 64 3 4 1 (tp_lp2 (fx_X10_ready_L4   K39) n z3 z4 M5) M5 [(0, vR X 0), (1, vI z3), (2, vI z4)] [] 4 := by
  refine tp_lp2_ok (P := fun o z3 z4 M5 => tp_J X Y LC 64 3 4 1 (o) M5 [(0, vR X 0), (1, vI z3), (2, vI z4)] [] 4) (fun z3 z4 M5 => tj_none) (fun rec hrec z3 z4 M5 => ?_) n
  unfold fx_X10_ready_L4
  refine tj_iload_n (pc := 4) G 2 dX10_ready_4 rfl rfl ?_
  refine tj_aload_n (pc := 5) G 0 dX10_ready_5 rfl rfl ?_
  refine tj_getR (pc := 6) G (k := 0) (j := 2) (j2 := 2) tk_X10 (by decide) lc_0 rfl (by decide) rfl fl_X10_26 dX10_ready_6 ?_
  refine tj_callVi (pc := 9) G [] mf_X4_crossings (k := 5) (by decide) lc_5 rfl rfl ml_X10_275 (by decide) rfl rfl (Nat.le_of_ble_eq_true rfl) (fun _ h9 => ok_X4_crossings X gg_Paths_5 h9) dX10_ready_9 (fun r7 M8 => ?_)
  refine tj_icmp_ge (pc := 12) G (tgt := 39) (a2 := w32 z4) (b2 := w32 r7) dX10_ready_12 (by decide) rfl rfl ?_ ?_
  · exact tj_sub [0, 1] rfl (hK39 z3 M8)
  refine tj_aload_n (pc := 15) G 0 dX10_ready_15 rfl rfl ?_
  refine tj_aload_n (pc := 16) G 0 dX10_ready_16 rfl rfl ?_
  refine tj_getR (pc := 17) G (k := 0) (j := 6) (j2 := 6) tk_X10 (by decide) lc_0 rfl (by decide) rfl fl_X10_46 dX10_ready_17 ?_
  refine tj_iload_n (pc := 20) G 2 dX10_ready_20 rfl rfl ?_
  refine tj_callVi (pc := 21) G [vR X 25, vI z4] mf_X10_canBurst (k := 0) (by decide) lc_0 rfl rfl ml_X10_261 (by decide) rfl rfl (Nat.le_of_ble_eq_true rfl) (fun _ h9 => ok_X10_canBurst X gg_Moor_25 h9) dX10_ready_21 (fun r9 M10 => ?_)
  refine tj_jn1 (fun y11 => [(0, vR X 0), (1, vI y11), (2, vI z4)]) (fun y11 => []) 33 (fun y11 M12 => ?_) (fun jk33 hj33 => ?_)
  · refine tj_iinc (pc := 33) G 2 (fun x13 => [(2, vI x13), (0, vR X 0), (1, vI y11)]) dX10_ready_33 rfl (by decide) (fun _ => rfl) (fun x13 => ?_)
    refine tj_goto (pc := 36) G (tgt := 4) dX10_ready_36 (by decide) ?_
    exact tj_sub [1, 2, 0] rfl (hrec y11 x13 M12)
  refine tj_if_eq (pc := 24) G (tgt := 33) (a2 := w32 r9) dX10_ready_24 (by decide) rfl ?_ ?_
  · exact tj_sub [0, 1, 2] rfl (hj33 z3 M10)
  refine tj_iload_n (pc := 27) G 1 dX10_ready_27 rfl rfl ?_
  refine tj_iconst (pc := 28) G dX10_ready_28 ?_
  refine tj_iload_n (pc := 29) G 2 dX10_ready_29 rfl rfl ?_
  refine tj_ishl (pc := 30) G dX10_ready_30 ?_
  refine tj_ior (pc := 31) G dX10_ready_31 ?_
  refine tj_istore_n (pc := 32) G (fun x14 => [(1, vI x14), (0, vR X 0), (2, vI z4)]) dX10_ready_32 rfl (by decide) (fun _ => rfl) (fun x14 => ?_)
  exact tj_sub [1, 0, 2] rfl (hj33 x14 M10)
set_option maxRecDepth 100000 in
set_option maxHeartbeats 4000000 in
theorem ok_X10_ready (X : tp_X)    {M : tp_M} {res : Int × tp_M} (h : fx_X10_ready   M = some res) : tp_Ret X LC 64 1 yX10_ready (Cond.code yX10_ready cX10_ready 3 (some .int)) 4 [vR X 0] M res := by
  refine tp_ofW (by decide +kernel) rfl rfl (by show _ ≤ 3; exact Nat.le_of_ble_eq_true rfl) h (fun Y G => ?_)
  show tp_J X Y LC 64 3 4 1 (fx_X10_ready   M) M [(0, vR X 0)] [] 0
  unfold fx_X10_ready
  refine tj_iconst (pc := 0) G dX10_ready_0 ?_
  refine tj_istore_n (pc := 1) G (fun x1 => [(1, vI x1), (0, vR X 0)]) dX10_ready_1 rfl (by decide) (fun _ => rfl) (fun x1 => ?_)
  refine tj_iconst (pc := 2) G dX10_ready_2 ?_
  refine tj_istore_n (pc := 3) G (fun x2 => [(2, vI x2), (1, vI x1), (0, vR X 0)]) dX10_ready_3 rfl (by decide) (fun _ => rfl) (fun x2 => ?_)
  refine tj_sub [2, 1, 0] rfl (fx_X10_ready_L4_ok G    (fun y6 M15 => ?_) tp_F x1 x2 M)
  refine tj_aload_n (pc := 39) G 0 dX10_ready_39 rfl rfl ?_
  refine tj_getR (pc := 40) G (k := 0) (j := 1) (j2 := 1) tk_X10 (by decide) lc_0 rfl (by decide) rfl fl_X10_19 dX10_ready_40 ?_
  refine tj_iload_n (pc := 43) G 1 dX10_ready_43 rfl rfl ?_
  refine tj_callSi (pc := 44) G [vI y6] mf_J6_bitCount_0f7a4 ml_X10_316 (by decide) rfl rfl (Nat.le_of_ble_eq_true rfl) (fun _ h9 => ok_J6_bitCount_0f7a4 X  h9) dX10_ready_44 (fun r16 M17 => ?_)
  refine tj_i2l (pc := 47) G (b := w32 r16) dX10_ready_47 rfl ?_
  refine tj_aload_n (pc := 48) G 0 dX10_ready_48 rfl rfl ?_
  refine tj_getR (pc := 49) G (k := 0) (j := 6) (j2 := 6) tk_X10 (by decide) lc_0 rfl (by decide) rfl fl_X10_46 dX10_ready_49 ?_
  refine tj_callVi (pc := 52) G [] mf_X2_walkers (k := 25) (by decide) lc_25 rfl rfl ml_X10_190 (by decide) rfl rfl (Nat.le_of_ble_eq_true rfl) (fun _ h9 => ok_X2_walkers X gg_Moor_25 h9) dX10_ready_52 (fun r18 M19 => ?_)
  refine tj_i2l (pc := 55) G (b := w32 r18) dX10_ready_55 rfl ?_
  refine tj_callVv (pc := 56) G [vL (w32 r16), vL (w32 r18)] mf_X8_tell__ (k := 3) (by decide) lc_3 rfl rfl ml_X10_241 (by decide) rfl rfl (Nat.le_of_ble_eq_true rfl) (fun _ h9 => ok_X8_tell__ X  h9) dX10_ready_56 (fun r20 M21 => ?_)
  refine tj_iload_n (pc := 59) G 1 dX10_ready_59 rfl rfl ?_
  exact tj_iret (pc := 60) G dX10_ready_60

def fx_X10_unit   (M : tp_M) : tp_O :=
(tp_bd (fx_X5_makeUnit  M) (fun r1 M2 =>
(tp_lt r1 (fun x3 =>
(if w32 x3 < 0 then
(some (x3, M2))
else
(tp_bd (fx_X4_crossings 5 M2) (fun r4 M5 =>
(tp_bd (fx_X8_tellRow 39 8 r4 M5) (fun r6 M7 =>
(some (x3, M7)))))))))))
set_option maxRecDepth 100000 in
set_option maxHeartbeats 4000000 in
theorem ok_X10_unit (X : tp_X)    {M : tp_M} {res : Int × tp_M} (h : fx_X10_unit   M = some res) : tp_Ret X LC 64 1 yX10_unit (Cond.code yX10_unit cX10_unit 2 (some .int)) 6 [vR X 0] M res := by
  refine tp_ofW (by decide +kernel) rfl rfl (by show _ ≤ 2; exact Nat.le_of_ble_eq_true rfl) h (fun Y G => ?_)
  show tp_J X Y LC 64 2 6 1 (fx_X10_unit   M) M [(0, vR X 0)] [] 0
  unfold fx_X10_unit
  refine tj_aload_n (pc := 0) G 0 dX10_unit_0 rfl rfl ?_
  refine tj_getR (pc := 1) G (k := 0) (j := 10) (j2 := 10) tk_X10 (by decide) lc_0 rfl (by decide) rfl fl_X10_66 dX10_unit_1 ?_
  refine tj_aload_n (pc := 4) G 0 dX10_unit_4 rfl rfl ?_
  refine tj_getR (pc := 5) G (k := 0) (j := 2) (j2 := 2) tk_X10 (by decide) lc_0 rfl (by decide) rfl fl_X10_26 dX10_unit_5 ?_
  refine tj_callVi (pc := 8) G [vR X 5] mf_X5_makeUnit (k := 36) (by decide) lc_36 rfl rfl ml_X10_370 (by decide) rfl rfl (Nat.le_of_ble_eq_true rfl) (fun _ h9 => ok_X5_makeUnit X  h9) dX10_unit_8 (fun r1 M2 => ?_)
  refine tj_istore_n (pc := 11) G (fun x3 => [(1, vI x3), (0, vR X 0)]) dX10_unit_11 rfl (by decide) (fun _ => rfl) (fun x3 => ?_)
  refine tj_iload_n (pc := 12) G 0 dX10_unit_12 rfl rfl ?_
  refine tj_if_lt (pc := 13) G (tgt := 37) (a2 := w32 x3) dX10_unit_13 (by decide) rfl ?_ ?_
  · refine tj_iload_n (pc := 37) G 0 dX10_unit_37 rfl rfl ?_
    exact tj_iret (pc := 38) G dX10_unit_38
  refine tj_aload_n (pc := 16) G 1 dX10_unit_16 rfl rfl ?_
  refine tj_getR (pc := 17) G (k := 0) (j := 1) (j2 := 1) tk_X10 (by decide) lc_0 rfl (by decide) rfl fl_X10_19 dX10_unit_17 ?_
  refine tj_aload_n (pc := 20) G 1 dX10_unit_20 rfl rfl ?_
  refine tj_getR (pc := 21) G (k := 0) (j := 10) (j2 := 10) tk_X10 (by decide) lc_0 rfl (by decide) rfl fl_X10_66 dX10_unit_21 ?_
  refine tj_getRN (pc := 24) G (k := 36) (j := 2) (j2 := 2) tk_X5 (by decide) lc_36 rfl (by decide) rfl fn_X10_373 dX10_unit_24 ?_
  refine tj_aload_n (pc := 27) G 1 dX10_unit_27 rfl rfl ?_
  refine tj_getR (pc := 28) G (k := 0) (j := 2) (j2 := 2) tk_X10 (by decide) lc_0 rfl (by decide) rfl fl_X10_26 dX10_unit_28 ?_
  refine tj_callVi (pc := 31) G [] mf_X4_crossings (k := 5) (by decide) lc_5 rfl rfl ml_X10_275 (by decide) rfl rfl (Nat.le_of_ble_eq_true rfl) (fun _ h9 => ok_X4_crossings X gg_Paths_5 h9) dX10_unit_31 (fun r4 M5 => ?_)
  refine tj_callVv (pc := 34) G [vR X 39, vI r4] mf_X8_tellRow (k := 3) (by decide) lc_3 rfl rfl ml_X10_290 (by decide) rfl rfl (Nat.le_of_ble_eq_true rfl) (fun _ h9 => ok_X8_tellRow X ⟨by decide, lc_39⟩ h9) dX10_unit_34 (fun r6 M7 => ?_)
  refine tj_iload_n (pc := 37) G 0 dX10_unit_37 rfl rfl ?_
  exact tj_iret (pc := 38) G dX10_unit_38

def fx_X10_someCanBurst_L2  (rec : Int → tp_M → tp_O) (z2 : Int) (M3 : tp_M) : tp_O :=
(tp_bd (fx_X4_crossings 5 M3) (fun r4 M5 =>
(if w32 z2 < w32 r4 then
(tp_bd (fx_X10_canBurst 25 z2 M5) (fun r6 M7 =>
(if w32 r6 = 0 then
(tp_lt (z2 + 1) (fun x8 =>
(rec x8 M7)))
else
(some (1, M7)))))
else
(some (0, M5)))))
def fx_X10_someCanBurst   (M : tp_M) : tp_O :=
(tp_lt 1 (fun x1 =>
(tp_lp1 (fx_X10_someCanBurst_L2  ) tp_F x1 M)))
set_option maxRecDepth 100000 in
set_option maxHeartbeats 4000000 in
theorem fx_X10_someCanBurst_L2_ok {X : tp_X} {Y : tp_Y} (G : tp_Ok X Y 64 cX10_someCanBurst 2 RX10 (some .boolean))      (n : Nat) : ∀ (z2 : Int) (M3 : tp_M), tp_J X Y LC 64 2 4 1 (tp_lp1 (fx_X10_someCanBurst_L2   ) n z2 M3) M3 [(0, vR X 0), (1, vI z2)] [] 2 := by
  refine tp_lp1_ok (P := fun o z2 M3 => tp_J X Y LC 64 2 4 1 (o) M3 [(0, vR X 0), (1, vI z2)] [] 2) (fun z2 M3 => tj_none) (fun rec hrec z2 M3 => ?_) n
  unfold fx_X10_someCanBurst_L2
  refine tj_iload_n (pc := 2) G 1 dX10_someCanBurst_2 rfl rfl ?_
  refine tj_aload_n (pc := 3) G 0 dX10_someCanBurst_3 rfl rfl ?_
  refine tj_getR (pc := 4) G (k := 0) (j := 2) (j2 := 2) tk_X10 (by decide) lc_0 rfl (by decide) rfl fl_X10_26 dX10_someCanBurst_4 ?_
  refine tj_callVi (pc := 7) G [] mf_X4_crossings (k := 5) (by decide) lc_5 rfl rfl ml_X10_275 (by decide) rfl rfl (Nat.le_of_ble_eq_true rfl) (fun _ h9 => ok_X4_crossings X gg_Paths_5 h9) dX10_someCanBurst_7 (fun r4 M5 => ?_)
  refine tj_icmp_ge (pc := 10) G (tgt := 33) (a2 := w32 z2) (b2 := w32 r4) dX10_someCanBurst_10 (by decide) rfl rfl ?_ ?_
  · refine tj_iconst (pc := 33) G dX10_someCanBurst_33 ?_
    exact tj_zret (pc := 34) G (by decide) dX10_someCanBurst_34
  refine tj_aload_n (pc := 13) G 0 dX10_someCanBurst_13 rfl rfl ?_
  refine tj_aload_n (pc := 14) G 0 dX10_someCanBurst_14 rfl rfl ?_
  refine tj_getR (pc := 15) G (k := 0) (j := 6) (j2 := 6) tk_X10 (by decide) lc_0 rfl (by decide) rfl fl_X10_46 dX10_someCanBurst_15 ?_
  refine tj_iload_n (pc := 18) G 1 dX10_someCanBurst_18 rfl rfl ?_
  refine tj_callVi (pc := 19) G [vR X 25, vI z2] mf_X10_canBurst (k := 0) (by decide) lc_0 rfl rfl ml_X10_261 (by decide) rfl rfl (Nat.le_of_ble_eq_true rfl) (fun _ h9 => ok_X10_canBurst X gg_Moor_25 h9) dX10_someCanBurst_19 (fun r6 M7 => ?_)
  refine tj_if_eq (pc := 22) G (tgt := 27) (a2 := w32 r6) dX10_someCanBurst_22 (by decide) rfl ?_ ?_
  · refine tj_iinc (pc := 27) G 1 (fun x8 => [(1, vI x8), (0, vR X 0)]) dX10_someCanBurst_27 rfl (by decide) (fun _ => rfl) (fun x8 => ?_)
    refine tj_goto (pc := 30) G (tgt := 2) dX10_someCanBurst_30 (by decide) ?_
    exact tj_sub [1, 0] rfl (hrec x8 M7)
  refine tj_iconst (pc := 25) G dX10_someCanBurst_25 ?_
  exact tj_zret (pc := 26) G (by decide) dX10_someCanBurst_26
set_option maxRecDepth 100000 in
set_option maxHeartbeats 4000000 in
theorem ok_X10_someCanBurst (X : tp_X)    {M : tp_M} {res : Int × tp_M} (h : fx_X10_someCanBurst   M = some res) : tp_Ret X LC 64 1 yX10_someCanBurst (Cond.code yX10_someCanBurst cX10_someCanBurst 2 (some .boolean)) 4 [vR X 0] M res := by
  refine tp_ofW (by decide +kernel) rfl rfl (by show _ ≤ 2; exact Nat.le_of_ble_eq_true rfl) h (fun Y G => ?_)
  show tp_J X Y LC 64 2 4 1 (fx_X10_someCanBurst   M) M [(0, vR X 0)] [] 0
  unfold fx_X10_someCanBurst
  refine tj_iconst (pc := 0) G dX10_someCanBurst_0 ?_
  refine tj_istore_n (pc := 1) G (fun x1 => [(1, vI x1), (0, vR X 0)]) dX10_someCanBurst_1 rfl (by decide) (fun _ => rfl) (fun x1 => ?_)
  refine tj_sub [1, 0] rfl (fx_X10_someCanBurst_L2_ok G     tp_F x1 M)

def fx_X10_returns   (M : tp_M) : tp_O :=
(tp_bd (fx_X10_someCanBurst  M) (fun r1 M2 =>
(if w32 r1 = 0 then
(tp_bd (fx_X5_makeUnit  M2) (fun r3 M4 =>
(if w32 r3 < 0 then
(some ((-3), M4))
else
(tp_bd (fx_X5_load 27 8 M4) (fun r5 M6 =>
(tp_bd (fx_X5_pour 39 8 M6) (fun r7 M8 =>
(tp_bd (fx_X5_calm  M8) (fun r9 M10 =>
(if w32 r9 < 0 then
(some ((-3), M10))
else
(tp_bd (fx_X4_crossings 5 M10) (fun r11 M12 =>
(tp_bd (fx_X8_tellRow 37 8 r11 M12) (fun r13 M14 =>
(tp_bd (fx_X5_holds 27 8 M14) (fun r15 M16 =>
(if w32 r15 = 0 then
(some (0, M16))
else
(some (1, M16)))))))))))))))))))
else
(some ((-2), M2)))))
set_option maxRecDepth 100000 in
set_option maxHeartbeats 4000000 in
theorem ok_X10_returns (X : tp_X)    {M : tp_M} {res : Int × tp_M} (h : fx_X10_returns   M = some res) : tp_Ret X LC 64 1 yX10_returns (Cond.code yX10_returns cX10_returns 1 (some .int)) 6 [vR X 0] M res := by
  refine tp_ofW (by decide +kernel) rfl rfl (by show _ ≤ 1; exact Nat.le_of_ble_eq_true rfl) h (fun Y G => ?_)
  show tp_J X Y LC 64 1 6 1 (fx_X10_returns   M) M [(0, vR X 0)] [] 0
  unfold fx_X10_returns
  refine tj_aload_n (pc := 0) G 0 dX10_returns_0 rfl rfl ?_
  refine tj_callVi (pc := 1) G [] mf_X10_someCanBurst (k := 0) (by decide) lc_0 rfl rfl ml_X10_376 (by decide) rfl rfl (Nat.le_of_ble_eq_true rfl) (fun _ h9 => ok_X10_someCanBurst X  h9) dX10_returns_1 (fun r1 M2 => ?_)
  refine tj_if_eq (pc := 4) G (tgt := 10) (a2 := w32 r1) dX10_returns_4 (by decide) rfl ?_ ?_
  · refine tj_aload_n (pc := 10) G 0 dX10_returns_10 rfl rfl ?_
    refine tj_getR (pc := 11) G (k := 0) (j := 10) (j2 := 10) tk_X10 (by decide) lc_0 rfl (by decide) rfl fl_X10_66 dX10_returns_11 ?_
    refine tj_aload_n (pc := 14) G 0 dX10_returns_14 rfl rfl ?_
    refine tj_getR (pc := 15) G (k := 0) (j := 2) (j2 := 2) tk_X10 (by decide) lc_0 rfl (by decide) rfl fl_X10_26 dX10_returns_15 ?_
    refine tj_callVi (pc := 18) G [vR X 5] mf_X5_makeUnit (k := 36) (by decide) lc_36 rfl rfl ml_X10_370 (by decide) rfl rfl (Nat.le_of_ble_eq_true rfl) (fun _ h9 => ok_X5_makeUnit X  h9) dX10_returns_18 (fun r3 M4 => ?_)
    refine tj_if_ge (pc := 21) G (tgt := 27) (a2 := w32 r3) dX10_returns_21 (by decide) rfl ?_ ?_
    · refine tj_aload_n (pc := 27) G 0 dX10_returns_27 rfl rfl ?_
      refine tj_getR (pc := 28) G (k := 0) (j := 10) (j2 := 10) tk_X10 (by decide) lc_0 rfl (by decide) rfl fl_X10_66 dX10_returns_28 ?_
      refine tj_aload_n (pc := 31) G 0 dX10_returns_31 rfl rfl ?_
      refine tj_getR (pc := 32) G (k := 0) (j := 6) (j2 := 6) tk_X10 (by decide) lc_0 rfl (by decide) rfl fl_X10_46 dX10_returns_32 ?_
      refine tj_getRN (pc := 35) G (k := 25) (j := 1) (j2 := 1) tk_X2 (by decide) lc_25 rfl (by decide) rfl fn_X10_167 dX10_returns_35 ?_
      refine tj_callVv (pc := 38) G [vR X 27] mf_X5_load (k := 36) (by decide) lc_36 rfl rfl ml_X10_268 (by decide) rfl rfl (Nat.le_of_ble_eq_true rfl) (fun _ h9 => ok_X5_load X ⟨by decide, lc_27⟩ h9) dX10_returns_38 (fun r5 M6 => ?_)
      refine tj_aload_n (pc := 41) G 0 dX10_returns_41 rfl rfl ?_
      refine tj_getR (pc := 42) G (k := 0) (j := 10) (j2 := 10) tk_X10 (by decide) lc_0 rfl (by decide) rfl fl_X10_66 dX10_returns_42 ?_
      refine tj_aload_n (pc := 45) G 0 dX10_returns_45 rfl rfl ?_
      refine tj_getR (pc := 46) G (k := 0) (j := 10) (j2 := 10) tk_X10 (by decide) lc_0 rfl (by decide) rfl fl_X10_66 dX10_returns_46 ?_
      refine tj_getRN (pc := 49) G (k := 36) (j := 2) (j2 := 2) tk_X5 (by decide) lc_36 rfl (by decide) rfl fn_X10_373 dX10_returns_49 ?_
      refine tj_callVv (pc := 52) G [vR X 39] mf_X5_pour (k := 36) (by decide) lc_36 rfl rfl ml_X10_380 (by decide) rfl rfl (Nat.le_of_ble_eq_true rfl) (fun _ h9 => ok_X5_pour X ⟨by decide, lc_39⟩ h9) dX10_returns_52 (fun r7 M8 => ?_)
      refine tj_aload_n (pc := 55) G 0 dX10_returns_55 rfl rfl ?_
      refine tj_getR (pc := 56) G (k := 0) (j := 10) (j2 := 10) tk_X10 (by decide) lc_0 rfl (by decide) rfl fl_X10_66 dX10_returns_56 ?_
      refine tj_aload_n (pc := 59) G 0 dX10_returns_59 rfl rfl ?_
      refine tj_getR (pc := 60) G (k := 0) (j := 2) (j2 := 2) tk_X10 (by decide) lc_0 rfl (by decide) rfl fl_X10_26 dX10_returns_60 ?_
      refine tj_callVi (pc := 63) G [vR X 5] mf_X5_calm (k := 36) (by decide) lc_36 rfl rfl ml_X10_271 (by decide) rfl rfl (Nat.le_of_ble_eq_true rfl) (fun _ h9 => ok_X5_calm X  h9) dX10_returns_63 (fun r9 M10 => ?_)
      refine tj_if_ge (pc := 66) G (tgt := 72) (a2 := w32 r9) dX10_returns_66 (by decide) rfl ?_ ?_
      · refine tj_aload_n (pc := 72) G 0 dX10_returns_72 rfl rfl ?_
        refine tj_getR (pc := 73) G (k := 0) (j := 1) (j2 := 1) tk_X10 (by decide) lc_0 rfl (by decide) rfl fl_X10_19 dX10_returns_73 ?_
        refine tj_aload_n (pc := 76) G 0 dX10_returns_76 rfl rfl ?_
        refine tj_getR (pc := 77) G (k := 0) (j := 10) (j2 := 10) tk_X10 (by decide) lc_0 rfl (by decide) rfl fl_X10_66 dX10_returns_77 ?_
        refine tj_getRN (pc := 80) G (k := 36) (j := 0) (j2 := 0) tk_X5 (by decide) lc_36 rfl (by decide) rfl fn_X10_278 dX10_returns_80 ?_
        refine tj_aload_n (pc := 83) G 0 dX10_returns_83 rfl rfl ?_
        refine tj_getR (pc := 84) G (k := 0) (j := 2) (j2 := 2) tk_X10 (by decide) lc_0 rfl (by decide) rfl fl_X10_26 dX10_returns_84 ?_
        refine tj_callVi (pc := 87) G [] mf_X4_crossings (k := 5) (by decide) lc_5 rfl rfl ml_X10_275 (by decide) rfl rfl (Nat.le_of_ble_eq_true rfl) (fun _ h9 => ok_X4_crossings X gg_Paths_5 h9) dX10_returns_87 (fun r11 M12 => ?_)
        refine tj_callVv (pc := 90) G [vR X 37, vI r11] mf_X8_tellRow (k := 3) (by decide) lc_3 rfl rfl ml_X10_290 (by decide) rfl rfl (Nat.le_of_ble_eq_true rfl) (fun _ h9 => ok_X8_tellRow X ⟨by decide, lc_37⟩ h9) dX10_returns_90 (fun r13 M14 => ?_)
        refine tj_aload_n (pc := 93) G 0 dX10_returns_93 rfl rfl ?_
        refine tj_getR (pc := 94) G (k := 0) (j := 10) (j2 := 10) tk_X10 (by decide) lc_0 rfl (by decide) rfl fl_X10_66 dX10_returns_94 ?_
        refine tj_aload_n (pc := 97) G 0 dX10_returns_97 rfl rfl ?_
        refine tj_getR (pc := 98) G (k := 0) (j := 6) (j2 := 6) tk_X10 (by decide) lc_0 rfl (by decide) rfl fl_X10_46 dX10_returns_98 ?_
        refine tj_getRN (pc := 101) G (k := 25) (j := 1) (j2 := 1) tk_X2 (by decide) lc_25 rfl (by decide) rfl fn_X10_167 dX10_returns_101 ?_
        refine tj_callVi (pc := 104) G [vR X 27] mf_X5_holds (k := 36) (by decide) lc_36 rfl rfl ml_X10_383 (by decide) rfl rfl (Nat.le_of_ble_eq_true rfl) (fun _ h9 => ok_X5_holds X ⟨by decide, lc_27⟩ h9) dX10_returns_104 (fun r15 M16 => ?_)
        refine tj_if_eq (pc := 107) G (tgt := 114) (a2 := w32 r15) dX10_returns_107 (by decide) rfl ?_ ?_
        · refine tj_iconst (pc := 114) G dX10_returns_114 ?_
          exact tj_iret (pc := 115) G dX10_returns_115
        refine tj_iconst (pc := 110) G dX10_returns_110 ?_
        refine tj_goto (pc := 111) G (tgt := 115) dX10_returns_111 (by decide) ?_
        exact tj_iret (pc := 115) G dX10_returns_115
      refine tj_bipush (pc := 69) G dX10_returns_69 rfl ?_
      exact tj_iret (pc := 71) G dX10_returns_71
    refine tj_bipush (pc := 24) G dX10_returns_24 rfl ?_
    exact tj_iret (pc := 26) G dX10_returns_26
  refine tj_bipush (pc := 7) G dX10_returns_7 rfl ?_
  exact tj_iret (pc := 9) G dX10_returns_9

def fx_X10_joins  (a1 : Int) (M : tp_M) : tp_O :=
(tp_bd (fx_X3_isNumber a1 M) (fun r1 M2 =>
(if w32 r1 = 0 then
(some ((-1), M2))
else
(tp_bd (fx_X3_bring a1 28 M2) (fun r3 M4 =>
(if w32 r3 = 0 then
(some ((-2), M4))
else
(tp_bd (fx_X5_load 27 8 M4) (fun r5 M6 =>
(tp_bd (fx_X5_pour 30 8 M6) (fun r7 M8 =>
(tp_bd (fx_X5_calm  M8) (fun r9 M10 =>
(tp_lt r9 (fun x11 =>
(if w32 x11 < 0 then
(some (x11, M10))
else
(tp_bd (fx_X4_crossings 5 M10) (fun r12 M13 =>
(tp_bd (fx_X8_tellRow 37 8 r12 M13) (fun r14 M15 =>
(some (x11, M15)))))))))))))))))))))
set_option maxRecDepth 100000 in
set_option maxHeartbeats 4000000 in
theorem ok_X10_joins (X : tp_X)  {a1 : Int}  {M : tp_M} {res : Int × tp_M} (h : fx_X10_joins  a1 M = some res) : tp_Ret X LC 64 1 yX10_joins (Cond.code yX10_joins cX10_joins 3 (some .int)) 5 [vR X 0, vI a1] M res := by
  refine tp_ofW (by decide +kernel) rfl rfl (by show _ ≤ 3; exact Nat.le_of_ble_eq_true rfl) h (fun Y G => ?_)
  show tp_J X Y LC 64 3 5 1 (fx_X10_joins  a1 M) M [(0, vR X 0), (1, vI a1)] [] 0
  unfold fx_X10_joins
  refine tj_aload_n (pc := 0) G 0 dX10_joins_0 rfl rfl ?_
  refine tj_getR (pc := 1) G (k := 0) (j := 9) (j2 := 9) tk_X10 (by decide) lc_0 rfl (by decide) rfl fl_X10_59 dX10_joins_1 ?_
  refine tj_iload_n (pc := 4) G 1 dX10_joins_4 rfl rfl ?_
  refine tj_callVi (pc := 5) G [vI a1] mf_X3_isNumber (k := 34) (by decide) lc_34 rfl rfl ml_X10_387 (by decide) rfl rfl (Nat.le_of_ble_eq_true rfl) (fun _ h9 => ok_X3_isNumber X  h9) dX10_joins_5 (fun r1 M2 => ?_)
  refine tj_if_ne (pc := 8) G (tgt := 13) (a2 := w32 r1) dX10_joins_8 (by decide) rfl ?_ ?_
  · refine tj_aload_n (pc := 13) G 0 dX10_joins_13 rfl rfl ?_
    refine tj_getR (pc := 14) G (k := 0) (j := 9) (j2 := 9) tk_X10 (by decide) lc_0 rfl (by decide) rfl fl_X10_59 dX10_joins_14 ?_
    refine tj_iload_n (pc := 17) G 1 dX10_joins_17 rfl rfl ?_
    refine tj_aload_n (pc := 18) G 0 dX10_joins_18 rfl rfl ?_
    refine tj_getR (pc := 19) G (k := 0) (j := 7) (j2 := 7) tk_X10 (by decide) lc_0 rfl (by decide) rfl fl_X10_50 dX10_joins_19 ?_
    refine tj_callVi (pc := 22) G [vI a1, vR X 28] mf_X3_bring (k := 34) (by decide) lc_34 rfl rfl ml_X10_390 (by decide) rfl rfl (Nat.le_of_ble_eq_true rfl) (fun _ h9 => ok_X3_bring X gg_Moor_28 h9) dX10_joins_22 (fun r3 M4 => ?_)
    refine tj_if_ne (pc := 25) G (tgt := 31) (a2 := w32 r3) dX10_joins_25 (by decide) rfl ?_ ?_
    · refine tj_aload_n (pc := 31) G 0 dX10_joins_31 rfl rfl ?_
      refine tj_getR (pc := 32) G (k := 0) (j := 10) (j2 := 10) tk_X10 (by decide) lc_0 rfl (by decide) rfl fl_X10_66 dX10_joins_32 ?_
      refine tj_aload_n (pc := 35) G 0 dX10_joins_35 rfl rfl ?_
      refine tj_getR (pc := 36) G (k := 0) (j := 6) (j2 := 6) tk_X10 (by decide) lc_0 rfl (by decide) rfl fl_X10_46 dX10_joins_36 ?_
      refine tj_getRN (pc := 39) G (k := 25) (j := 1) (j2 := 1) tk_X2 (by decide) lc_25 rfl (by decide) rfl fn_X10_167 dX10_joins_39 ?_
      refine tj_callVv (pc := 42) G [vR X 27] mf_X5_load (k := 36) (by decide) lc_36 rfl rfl ml_X10_268 (by decide) rfl rfl (Nat.le_of_ble_eq_true rfl) (fun _ h9 => ok_X5_load X ⟨by decide, lc_27⟩ h9) dX10_joins_42 (fun r5 M6 => ?_)
      refine tj_aload_n (pc := 45) G 0 dX10_joins_45 rfl rfl ?_
      refine tj_getR (pc := 46) G (k := 0) (j := 10) (j2 := 10) tk_X10 (by decide) lc_0 rfl (by decide) rfl fl_X10_66 dX10_joins_46 ?_
      refine tj_aload_n (pc := 49) G 0 dX10_joins_49 rfl rfl ?_
      refine tj_getR (pc := 50) G (k := 0) (j := 7) (j2 := 7) tk_X10 (by decide) lc_0 rfl (by decide) rfl fl_X10_50 dX10_joins_50 ?_
      refine tj_getRN (pc := 53) G (k := 28) (j := 1) (j2 := 1) tk_X2 (by decide) lc_28 rfl (by decide) rfl fn_X10_167 dX10_joins_53 ?_
      refine tj_callVv (pc := 56) G [vR X 30] mf_X5_pour (k := 36) (by decide) lc_36 rfl rfl ml_X10_380 (by decide) rfl rfl (Nat.le_of_ble_eq_true rfl) (fun _ h9 => ok_X5_pour X ⟨by decide, lc_30⟩ h9) dX10_joins_56 (fun r7 M8 => ?_)
      refine tj_aload_n (pc := 59) G 0 dX10_joins_59 rfl rfl ?_
      refine tj_getR (pc := 60) G (k := 0) (j := 10) (j2 := 10) tk_X10 (by decide) lc_0 rfl (by decide) rfl fl_X10_66 dX10_joins_60 ?_
      refine tj_aload_n (pc := 63) G 0 dX10_joins_63 rfl rfl ?_
      refine tj_getR (pc := 64) G (k := 0) (j := 2) (j2 := 2) tk_X10 (by decide) lc_0 rfl (by decide) rfl fl_X10_26 dX10_joins_64 ?_
      refine tj_callVi (pc := 67) G [vR X 5] mf_X5_calm (k := 36) (by decide) lc_36 rfl rfl ml_X10_271 (by decide) rfl rfl (Nat.le_of_ble_eq_true rfl) (fun _ h9 => ok_X5_calm X  h9) dX10_joins_67 (fun r9 M10 => ?_)
      refine tj_istore_n (pc := 70) G (fun x11 => [(2, vI x11), (0, vR X 0), (1, vI a1)]) dX10_joins_70 rfl (by decide) (fun _ => rfl) (fun x11 => ?_)
      refine tj_iload_n (pc := 71) G 0 dX10_joins_71 rfl rfl ?_
      refine tj_if_lt (pc := 72) G (tgt := 96) (a2 := w32 x11) dX10_joins_72 (by decide) rfl ?_ ?_
      · refine tj_iload_n (pc := 96) G 0 dX10_joins_96 rfl rfl ?_
        exact tj_iret (pc := 97) G dX10_joins_97
      refine tj_aload_n (pc := 75) G 1 dX10_joins_75 rfl rfl ?_
      refine tj_getR (pc := 76) G (k := 0) (j := 1) (j2 := 1) tk_X10 (by decide) lc_0 rfl (by decide) rfl fl_X10_19 dX10_joins_76 ?_
      refine tj_aload_n (pc := 79) G 1 dX10_joins_79 rfl rfl ?_
      refine tj_getR (pc := 80) G (k := 0) (j := 10) (j2 := 10) tk_X10 (by decide) lc_0 rfl (by decide) rfl fl_X10_66 dX10_joins_80 ?_
      refine tj_getRN (pc := 83) G (k := 36) (j := 0) (j2 := 0) tk_X5 (by decide) lc_36 rfl (by decide) rfl fn_X10_278 dX10_joins_83 ?_
      refine tj_aload_n (pc := 86) G 1 dX10_joins_86 rfl rfl ?_
      refine tj_getR (pc := 87) G (k := 0) (j := 2) (j2 := 2) tk_X10 (by decide) lc_0 rfl (by decide) rfl fl_X10_26 dX10_joins_87 ?_
      refine tj_callVi (pc := 90) G [] mf_X4_crossings (k := 5) (by decide) lc_5 rfl rfl ml_X10_275 (by decide) rfl rfl (Nat.le_of_ble_eq_true rfl) (fun _ h9 => ok_X4_crossings X gg_Paths_5 h9) dX10_joins_90 (fun r12 M13 => ?_)
      refine tj_callVv (pc := 93) G [vR X 37, vI r12] mf_X8_tellRow (k := 3) (by decide) lc_3 rfl rfl ml_X10_290 (by decide) rfl rfl (Nat.le_of_ble_eq_true rfl) (fun _ h9 => ok_X8_tellRow X ⟨by decide, lc_37⟩ h9) dX10_joins_93 (fun r14 M15 => ?_)
      refine tj_iload_n (pc := 96) G 0 dX10_joins_96 rfl rfl ?_
      exact tj_iret (pc := 97) G dX10_joins_97
    refine tj_bipush (pc := 28) G dX10_joins_28 rfl ?_
    exact tj_iret (pc := 30) G dX10_joins_30
  refine tj_iconst (pc := 11) G dX10_joins_11 ?_
  exact tj_iret (pc := 12) G dX10_joins_12

def fx_X10_recurs_L41 (c1 : Int) (K104 : Int → Int → tp_M → tp_O) (rec : Int → Int → tp_M → tp_O) (z9 z10 : Int) (M11 : tp_M) : tp_O :=
(if w32 z10 ≤ 500 then
(tp_ck (w32 c1) 8 (tp_ck (w32 c1) 8 (tp_lm (tp_up M11 37 (w32 c1) ((M11 37 (w32 c1)) + 1)) (fun M14 =>
(tp_bd (fx_X5_calm  M14) (fun r15 M16 =>
(tp_lt r15 (fun x17 =>
(if w32 x17 < 0 then
(some (x17, M16))
else
(tp_lt (z9 + x17) (fun x18 =>
(tp_bd (fx_X5_holds 27 8 M16) (fun r19 M20 =>
(if w32 r19 = 0 then
(tp_lt (z10 + 1) (fun x21 =>
(rec x18 x21 M20)))
else
(K104 x18 z10 M20)))))))))))))))
else
(some ((-2), M11)))
def fx_X10_recurs  (a1 : Int) (M : tp_M) : tp_O :=
(tp_bd (fx_X4_hasPost 5 a1 M) (fun r1 M2 =>
(if w32 r1 = 0 then
(some ((-1), M2))
else
(tp_bd (fx_X10_someCanBurst  M2) (fun r3 M4 =>
(if w32 r3 = 0 then
(tp_bd (fx_X5_load 27 8 M4) (fun r5 M6 =>
(tp_lt 0 (fun x7 =>
(tp_lt 1 (fun x8 =>
(tp_lp2 (fx_X10_recurs_L41 a1 (fun y12 y13 M22 =>
(tp_bd (fx_X8_tell_ (w32 y12) M22) (fun r23 M24 =>
(some (y13, M24)))))) tp_F x7 x8 M6)))))))
else
(some ((-2), M4))))))))
set_option maxRecDepth 100000 in
set_option maxHeartbeats 4000000 in
theorem fx_X10_recurs_L41_ok {X : tp_X} {Y : tp_Y} (G : tp_Ok X Y 64 cX10_recurs 5 RX10 (some .int))  {c1 : Int} {K104 : Int → Int → tp_M → tp_O}   (hK104 : ∀ (y12 y13 : Int) (M9 : tp_M), tp_J X Y LC 64 5 5 1 (K104 y12 y13 M9) M9 [(0, vR X 0), (2, vI y12), (3, vI y13)] [] 104) (n : Nat) : ∀ (z9 z10 : Int) (M11 : tp_M), tp_J X Y LC 64 5 5 1 (tp_lp2 (fx_X10_recurs_L41  c1 K104) n z9 z10 M11) M11 [(0, vR X 0), (1, vI c1), (2, vI z9), (3, vI z10)] [] 41 := by
  refine tp_lp2_ok (P := fun o z9 z10 M11 => tp_J X Y LC 64 5 5 1 (o) M11 [(0, vR X 0), (1, vI c1), (2, vI z9), (3, vI z10)] [] 41) (fun z9 z10 M11 => tj_none) (fun rec hrec z9 z10 M11 => ?_) n
  unfold fx_X10_recurs_L41
  refine tj_iload_n (pc := 41) G 3 dX10_recurs_41 rfl rfl ?_
  refine tj_sipush (pc := 42) G dX10_recurs_42 rfl ?_
  refine tj_icmp_gt (pc := 45) G (tgt := 121) (a2 := w32 z10) (b2 := 500) dX10_recurs_45 (by decide) rfl rfl ?_ ?_
  · refine tj_bipush (pc := 121) G dX10_recurs_121 rfl ?_
    exact tj_iret (pc := 123) G dX10_recurs_123
  refine tj_aload_n (pc := 48) G 0 dX10_recurs_48 rfl rfl ?_
  refine tj_getR (pc := 49) G (k := 0) (j := 10) (j2 := 10) tk_X10 (by decide) lc_0 rfl (by decide) rfl fl_X10_66 dX10_recurs_49 ?_
  refine tj_getRN (pc := 52) G (k := 36) (j := 0) (j2 := 0) tk_X5 (by decide) lc_36 rfl (by decide) rfl fn_X10_278 dX10_recurs_52 ?_
  refine tj_iload_n (pc := 55) G 1 dX10_recurs_55 rfl rfl ?_
  refine tj_dup2 (pc := 56) G dX10_recurs_56 rfl rfl ?_
  refine tj_iald (pc := 57) G (k := 37) (i2 := w32 c1) (n2 := 8) (by decide) lc_37 rfl rfl dX10_recurs_57 ?_
  refine tj_iconst (pc := 58) G dX10_recurs_58 ?_
  refine tj_iadd (pc := 59) G dX10_recurs_59 ?_
  refine tj_iast (pc := 60) G (k := 37) (i2 := w32 c1) (n2 := 8) (by decide) lc_37 rfl rfl dX10_recurs_60 (fun M14 => ?_)
  refine tj_aload_n (pc := 61) G 0 dX10_recurs_61 rfl rfl ?_
  refine tj_getR (pc := 62) G (k := 0) (j := 10) (j2 := 10) tk_X10 (by decide) lc_0 rfl (by decide) rfl fl_X10_66 dX10_recurs_62 ?_
  refine tj_aload_n (pc := 65) G 0 dX10_recurs_65 rfl rfl ?_
  refine tj_getR (pc := 66) G (k := 0) (j := 2) (j2 := 2) tk_X10 (by decide) lc_0 rfl (by decide) rfl fl_X10_26 dX10_recurs_66 ?_
  refine tj_callVi (pc := 69) G [vR X 5] mf_X5_calm (k := 36) (by decide) lc_36 rfl rfl ml_X10_271 (by decide) rfl rfl (Nat.le_of_ble_eq_true rfl) (fun _ h9 => ok_X5_calm X  h9) dX10_recurs_69 (fun r15 M16 => ?_)
  refine tj_istore (pc := 72) G (fun x17 => [(4, vI x17), (0, vR X 0), (1, vI c1), (2, vI z9), (3, vI z10)]) dX10_recurs_72 (by decide) (fun _ => rfl) (fun x17 => ?_)
  refine tj_iload (pc := 74) G 0 dX10_recurs_74 rfl ?_
  refine tj_if_ge (pc := 76) G (tgt := 82) (a2 := w32 x17) dX10_recurs_76 (by decide) rfl ?_ ?_
  · refine tj_iload_n (pc := 82) G 3 dX10_recurs_82 rfl rfl ?_
    refine tj_iload (pc := 83) G 0 dX10_recurs_83 rfl ?_
    refine tj_iadd (pc := 85) G dX10_recurs_85 ?_
    refine tj_istore_n (pc := 86) G (fun x18 => [(2, vI x18), (4, vI x17), (0, vR X 0), (1, vI c1), (3, vI z10)]) dX10_recurs_86 rfl (by decide) (fun _ => rfl) (fun x18 => ?_)
    refine tj_aload_n (pc := 87) G 2 dX10_recurs_87 rfl rfl ?_
    refine tj_getR (pc := 88) G (k := 0) (j := 10) (j2 := 10) tk_X10 (by decide) lc_0 rfl (by decide) rfl fl_X10_66 dX10_recurs_88 ?_
    refine tj_aload_n (pc := 91) G 2 dX10_recurs_91 rfl rfl ?_
    refine tj_getR (pc := 92) G (k := 0) (j := 6) (j2 := 6) tk_X10 (by decide) lc_0 rfl (by decide) rfl fl_X10_46 dX10_recurs_92 ?_
    refine tj_getRN (pc := 95) G (k := 25) (j := 1) (j2 := 1) tk_X2 (by decide) lc_25 rfl (by decide) rfl fn_X10_167 dX10_recurs_95 ?_
    refine tj_callVi (pc := 98) G [vR X 27] mf_X5_holds (k := 36) (by decide) lc_36 rfl rfl ml_X10_383 (by decide) rfl rfl (Nat.le_of_ble_eq_true rfl) (fun _ h9 => ok_X5_holds X ⟨by decide, lc_27⟩ h9) dX10_recurs_98 (fun r19 M20 => ?_)
    refine tj_if_eq (pc := 101) G (tgt := 115) (a2 := w32 r19) dX10_recurs_101 (by decide) rfl ?_ ?_
    · refine tj_iinc (pc := 115) G 4 (fun x21 => [(3, vI x21), (2, vI x18), (4, vI x17), (0, vR X 0), (1, vI c1)]) dX10_recurs_115 rfl (by decide) (fun _ => rfl) (fun x21 => ?_)
      refine tj_goto (pc := 118) G (tgt := 41) dX10_recurs_118 (by decide) ?_
      exact tj_sub [3, 4, 1, 0] rfl (hrec x18 x21 M20)
    exact tj_sub [2, 0, 4] rfl (hK104 x18 z10 M20)
  refine tj_iload (pc := 79) G 0 dX10_recurs_79 rfl ?_
  exact tj_iret (pc := 81) G dX10_recurs_81
set_option maxRecDepth 100000 in
set_option maxHeartbeats 4000000 in
theorem ok_X10_recurs (X : tp_X)  {a1 : Int}  {M : tp_M} {res : Int × tp_M} (h : fx_X10_recurs  a1 M = some res) : tp_Ret X LC 64 1 yX10_recurs (Cond.code yX10_recurs cX10_recurs 5 (some .int)) 5 [vR X 0, vI a1] M res := by
  refine tp_ofW (by decide +kernel) rfl rfl (by show _ ≤ 5; exact Nat.le_of_ble_eq_true rfl) h (fun Y G => ?_)
  show tp_J X Y LC 64 5 5 1 (fx_X10_recurs  a1 M) M [(0, vR X 0), (1, vI a1)] [] 0
  unfold fx_X10_recurs
  refine tj_aload_n (pc := 0) G 0 dX10_recurs_0 rfl rfl ?_
  refine tj_getR (pc := 1) G (k := 0) (j := 2) (j2 := 2) tk_X10 (by decide) lc_0 rfl (by decide) rfl fl_X10_26 dX10_recurs_1 ?_
  refine tj_iload_n (pc := 4) G 1 dX10_recurs_4 rfl rfl ?_
  refine tj_callVi (pc := 5) G [vI a1] mf_X4_hasPost (k := 5) (by decide) lc_5 rfl rfl ml_X10_176 (by decide) rfl rfl (Nat.le_of_ble_eq_true rfl) (fun _ h9 => ok_X4_hasPost X gg_Paths_5 h9) dX10_recurs_5 (fun r1 M2 => ?_)
  refine tj_if_ne (pc := 8) G (tgt := 13) (a2 := w32 r1) dX10_recurs_8 (by decide) rfl ?_ ?_
  · refine tj_aload_n (pc := 13) G 0 dX10_recurs_13 rfl rfl ?_
    refine tj_callVi (pc := 14) G [] mf_X10_someCanBurst (k := 0) (by decide) lc_0 rfl rfl ml_X10_376 (by decide) rfl rfl (Nat.le_of_ble_eq_true rfl) (fun _ h9 => ok_X10_someCanBurst X  h9) dX10_recurs_14 (fun r3 M4 => ?_)
    refine tj_if_eq (pc := 17) G (tgt := 23) (a2 := w32 r3) dX10_recurs_17 (by decide) rfl ?_ ?_
    · refine tj_aload_n (pc := 23) G 0 dX10_recurs_23 rfl rfl ?_
      refine tj_getR (pc := 24) G (k := 0) (j := 10) (j2 := 10) tk_X10 (by decide) lc_0 rfl (by decide) rfl fl_X10_66 dX10_recurs_24 ?_
      refine tj_aload_n (pc := 27) G 0 dX10_recurs_27 rfl rfl ?_
      refine tj_getR (pc := 28) G (k := 0) (j := 6) (j2 := 6) tk_X10 (by decide) lc_0 rfl (by decide) rfl fl_X10_46 dX10_recurs_28 ?_
      refine tj_getRN (pc := 31) G (k := 25) (j := 1) (j2 := 1) tk_X2 (by decide) lc_25 rfl (by decide) rfl fn_X10_167 dX10_recurs_31 ?_
      refine tj_callVv (pc := 34) G [vR X 27] mf_X5_load (k := 36) (by decide) lc_36 rfl rfl ml_X10_268 (by decide) rfl rfl (Nat.le_of_ble_eq_true rfl) (fun _ h9 => ok_X5_load X ⟨by decide, lc_27⟩ h9) dX10_recurs_34 (fun r5 M6 => ?_)
      refine tj_iconst (pc := 37) G dX10_recurs_37 ?_
      refine tj_istore_n (pc := 38) G (fun x7 => [(2, vI x7), (0, vR X 0), (1, vI a1)]) dX10_recurs_38 rfl (by decide) (fun _ => rfl) (fun x7 => ?_)
      refine tj_iconst (pc := 39) G dX10_recurs_39 ?_
      refine tj_istore_n (pc := 40) G (fun x8 => [(3, vI x8), (2, vI x7), (0, vR X 0), (1, vI a1)]) dX10_recurs_40 rfl (by decide) (fun _ => rfl) (fun x8 => ?_)
      refine tj_sub [2, 3, 1, 0] rfl (fx_X10_recurs_L41_ok G    (fun y12 y13 M22 => ?_) tp_F x7 x8 M6)
      refine tj_aload_n (pc := 104) G 0 dX10_recurs_104 rfl rfl ?_
      refine tj_getR (pc := 105) G (k := 0) (j := 1) (j2 := 1) tk_X10 (by decide) lc_0 rfl (by decide) rfl fl_X10_19 dX10_recurs_105 ?_
      refine tj_iload_n (pc := 108) G 1 dX10_recurs_108 rfl rfl ?_
      refine tj_i2l (pc := 109) G (b := w32 y12) dX10_recurs_109 rfl ?_
      refine tj_callVv (pc := 110) G [vL (w32 y12)] mf_X8_tell_ (k := 3) (by decide) lc_3 rfl rfl ml_X10_258 (by decide) rfl rfl (Nat.le_of_ble_eq_true rfl) (fun _ h9 => ok_X8_tell_ X  h9) dX10_recurs_110 (fun r23 M24 => ?_)
      refine tj_iload_n (pc := 113) G 2 dX10_recurs_113 rfl rfl ?_
      exact tj_iret (pc := 114) G dX10_recurs_114
    refine tj_bipush (pc := 20) G dX10_recurs_20 rfl ?_
    exact tj_iret (pc := 22) G dX10_recurs_22
  refine tj_iconst (pc := 11) G dX10_recurs_11 ?_
  exact tj_iret (pc := 12) G dX10_recurs_12

def fx_X10_trigger_L16  (K92 : Int → Int → tp_M → tp_O) (rec : Int → Int → Int → tp_M → tp_O) (z6 z7 z8 : Int) (M9 : tp_M) : tp_O :=
(tp_bd (fx_X4_crossings 5 M9) (fun r12 M13 =>
(if w32 z8 < w32 r12 then
(tp_bd (fx_X5_load 27 8 M13) (fun r14 M15 =>
(tp_ck (w32 z8) 8 (tp_ck (w32 z8) 8 (tp_lm (tp_up M15 37 (w32 z8) ((M15 37 (w32 z8)) + 1)) (fun M16 =>
(tp_bd (fx_X5_calm  M16) (fun r17 M18 =>
(tp_lt r17 (fun x19 =>
(if w32 x19 < 0 then
(some (x19, M18))
else
(tp_jn2 (fun y20 y21 M22 => 
(tp_lt (z8 + 1) (fun x23 =>
(rec y20 y21 x23 M22)))) (fun jk86 =>
(if w32 x19 ≤ w32 z7 then
(jk86 z6 z7 M18)
else
(tp_lt x19 (fun x24 =>
(tp_lt z8 (fun x25 =>
(jk86 x25 x24 M18)))))))))))))))))))
else
(K92 z6 z7 M13))))
def fx_X10_trigger   (M : tp_M) : tp_O :=
(tp_bd (fx_X10_someCanBurst  M) (fun r1 M2 =>
(if w32 r1 = 0 then
(tp_lt 0 (fun x3 =>
(tp_lt (-1) (fun x4 =>
(tp_lt 1 (fun x5 =>
(tp_lp3 (fx_X10_trigger_L16  (fun y10 y11 M26 =>
(tp_bd (fx_X8_tell_ (w32 y11) M26) (fun r27 M28 =>
(some (y10, M28)))))) tp_F x3 x4 x5 M2)))))))
else
(some ((-2), M2)))))
set_option maxRecDepth 100000 in
set_option maxHeartbeats 4000000 in
theorem fx_X10_trigger_L16_ok {X : tp_X} {Y : tp_Y} (G : tp_Ok X Y 64 cX10_trigger 5 RX10 (some .int))  {K92 : Int → Int → tp_M → tp_O}   (hK92 : ∀ (y10 y11 : Int) (M9 : tp_M), tp_J X Y LC 64 5 5 1 (K92 y10 y11 M9) M9 [(0, vR X 0), (1, vI y10), (2, vI y11)] [] 92) (n : Nat) : ∀ (z6 z7 z8 : Int) (M9 : tp_M), tp_J X Y LC 64 5 5 1 (tp_lp3 (fx_X10_trigger_L16   K92) n z6 z7 z8 M9) M9 [(0, vR X 0), (1, vI z6), (2, vI z7), (3, vI z8)] [] 16 := by
  refine tp_lp3_ok (P := fun o z6 z7 z8 M9 => tp_J X Y LC 64 5 5 1 (o) M9 [(0, vR X 0), (1, vI z6), (2, vI z7), (3, vI z8)] [] 16) (fun z6 z7 z8 M9 => tj_none) (fun rec hrec z6 z7 z8 M9 => ?_) n
  unfold fx_X10_trigger_L16
  refine tj_iload_n (pc := 16) G 3 dX10_trigger_16 rfl rfl ?_
  refine tj_aload_n (pc := 17) G 0 dX10_trigger_17 rfl rfl ?_
  refine tj_getR (pc := 18) G (k := 0) (j := 2) (j2 := 2) tk_X10 (by decide) lc_0 rfl (by decide) rfl fl_X10_26 dX10_trigger_18 ?_
  refine tj_callVi (pc := 21) G [] mf_X4_crossings (k := 5) (by decide) lc_5 rfl rfl ml_X10_275 (by decide) rfl rfl (Nat.le_of_ble_eq_true rfl) (fun _ h9 => ok_X4_crossings X gg_Paths_5 h9) dX10_trigger_21 (fun r12 M13 => ?_)
  refine tj_icmp_ge (pc := 24) G (tgt := 92) (a2 := w32 z8) (b2 := w32 r12) dX10_trigger_24 (by decide) rfl rfl ?_ ?_
  · exact tj_sub [0, 1, 2] rfl (hK92 z6 z7 M13)
  refine tj_aload_n (pc := 27) G 0 dX10_trigger_27 rfl rfl ?_
  refine tj_getR (pc := 28) G (k := 0) (j := 10) (j2 := 10) tk_X10 (by decide) lc_0 rfl (by decide) rfl fl_X10_66 dX10_trigger_28 ?_
  refine tj_aload_n (pc := 31) G 0 dX10_trigger_31 rfl rfl ?_
  refine tj_getR (pc := 32) G (k := 0) (j := 6) (j2 := 6) tk_X10 (by decide) lc_0 rfl (by decide) rfl fl_X10_46 dX10_trigger_32 ?_
  refine tj_getRN (pc := 35) G (k := 25) (j := 1) (j2 := 1) tk_X2 (by decide) lc_25 rfl (by decide) rfl fn_X10_167 dX10_trigger_35 ?_
  refine tj_callVv (pc := 38) G [vR X 27] mf_X5_load (k := 36) (by decide) lc_36 rfl rfl ml_X10_268 (by decide) rfl rfl (Nat.le_of_ble_eq_true rfl) (fun _ h9 => ok_X5_load X ⟨by decide, lc_27⟩ h9) dX10_trigger_38 (fun r14 M15 => ?_)
  refine tj_aload_n (pc := 41) G 0 dX10_trigger_41 rfl rfl ?_
  refine tj_getR (pc := 42) G (k := 0) (j := 10) (j2 := 10) tk_X10 (by decide) lc_0 rfl (by decide) rfl fl_X10_66 dX10_trigger_42 ?_
  refine tj_getRN (pc := 45) G (k := 36) (j := 0) (j2 := 0) tk_X5 (by decide) lc_36 rfl (by decide) rfl fn_X10_278 dX10_trigger_45 ?_
  refine tj_iload_n (pc := 48) G 3 dX10_trigger_48 rfl rfl ?_
  refine tj_dup2 (pc := 49) G dX10_trigger_49 rfl rfl ?_
  refine tj_iald (pc := 50) G (k := 37) (i2 := w32 z8) (n2 := 8) (by decide) lc_37 rfl rfl dX10_trigger_50 ?_
  refine tj_iconst (pc := 51) G dX10_trigger_51 ?_
  refine tj_iadd (pc := 52) G dX10_trigger_52 ?_
  refine tj_iast (pc := 53) G (k := 37) (i2 := w32 z8) (n2 := 8) (by decide) lc_37 rfl rfl dX10_trigger_53 (fun M16 => ?_)
  refine tj_aload_n (pc := 54) G 0 dX10_trigger_54 rfl rfl ?_
  refine tj_getR (pc := 55) G (k := 0) (j := 10) (j2 := 10) tk_X10 (by decide) lc_0 rfl (by decide) rfl fl_X10_66 dX10_trigger_55 ?_
  refine tj_aload_n (pc := 58) G 0 dX10_trigger_58 rfl rfl ?_
  refine tj_getR (pc := 59) G (k := 0) (j := 2) (j2 := 2) tk_X10 (by decide) lc_0 rfl (by decide) rfl fl_X10_26 dX10_trigger_59 ?_
  refine tj_callVi (pc := 62) G [vR X 5] mf_X5_calm (k := 36) (by decide) lc_36 rfl rfl ml_X10_271 (by decide) rfl rfl (Nat.le_of_ble_eq_true rfl) (fun _ h9 => ok_X5_calm X  h9) dX10_trigger_62 (fun r17 M18 => ?_)
  refine tj_istore (pc := 65) G (fun x19 => [(4, vI x19), (0, vR X 0), (1, vI z6), (2, vI z7), (3, vI z8)]) dX10_trigger_65 (by decide) (fun _ => rfl) (fun x19 => ?_)
  refine tj_iload (pc := 67) G 0 dX10_trigger_67 rfl ?_
  refine tj_if_ge (pc := 69) G (tgt := 75) (a2 := w32 x19) dX10_trigger_69 (by decide) rfl ?_ ?_
  · refine tj_iload (pc := 75) G 0 dX10_trigger_75 rfl ?_
    refine tj_iload_n (pc := 77) G 3 dX10_trigger_77 rfl rfl ?_
    refine tj_jn2 (fun y20 y21 => [(0, vR X 0), (1, vI y20), (2, vI y21), (3, vI z8)]) (fun y20 y21 => []) 86 (fun y20 y21 M22 => ?_) (fun jk86 hj86 => ?_)
    · refine tj_iinc (pc := 86) G 3 (fun x23 => [(3, vI x23), (0, vR X 0), (1, vI y20), (2, vI y21)]) dX10_trigger_86 rfl (by decide) (fun _ => rfl) (fun x23 => ?_)
      refine tj_goto (pc := 89) G (tgt := 16) dX10_trigger_89 (by decide) ?_
      exact tj_sub [1, 2, 3, 0] rfl (hrec y20 y21 x23 M22)
    refine tj_icmp_le (pc := 78) G (tgt := 86) (a2 := w32 x19) (b2 := w32 z7) dX10_trigger_78 (by decide) rfl rfl ?_ ?_
    · exact tj_sub [1, 2, 3, 4] rfl (hj86 z6 z7 M18)
    refine tj_iload (pc := 81) G 0 dX10_trigger_81 rfl ?_
    refine tj_istore_n (pc := 83) G (fun x24 => [(2, vI x24), (4, vI x19), (0, vR X 0), (1, vI z6), (3, vI z8)]) dX10_trigger_83 rfl (by decide) (fun _ => rfl) (fun x24 => ?_)
    refine tj_iload_n (pc := 84) G 4 dX10_trigger_84 rfl rfl ?_
    refine tj_istore_n (pc := 85) G (fun x25 => [(1, vI x25), (2, vI x24), (4, vI x19), (0, vR X 0), (3, vI z8)]) dX10_trigger_85 rfl (by decide) (fun _ => rfl) (fun x25 => ?_)
    exact tj_sub [3, 0, 1, 4] rfl (hj86 x25 x24 M18)
  refine tj_iload (pc := 72) G 0 dX10_trigger_72 rfl ?_
  exact tj_iret (pc := 74) G dX10_trigger_74
set_option maxRecDepth 100000 in
set_option maxHeartbeats 4000000 in
theorem ok_X10_trigger (X : tp_X)    {M : tp_M} {res : Int × tp_M} (h : fx_X10_trigger   M = some res) : tp_Ret X LC 64 1 yX10_trigger (Cond.code yX10_trigger cX10_trigger 5 (some .int)) 5 [vR X 0] M res := by
  refine tp_ofW (by decide +kernel) rfl rfl (by show _ ≤ 5; exact Nat.le_of_ble_eq_true rfl) h (fun Y G => ?_)
  show tp_J X Y LC 64 5 5 1 (fx_X10_trigger   M) M [(0, vR X 0)] [] 0
  unfold fx_X10_trigger
  refine tj_aload_n (pc := 0) G 0 dX10_trigger_0 rfl rfl ?_
  refine tj_callVi (pc := 1) G [] mf_X10_someCanBurst (k := 0) (by decide) lc_0 rfl rfl ml_X10_376 (by decide) rfl rfl (Nat.le_of_ble_eq_true rfl) (fun _ h9 => ok_X10_someCanBurst X  h9) dX10_trigger_1 (fun r1 M2 => ?_)
  refine tj_if_eq (pc := 4) G (tgt := 10) (a2 := w32 r1) dX10_trigger_4 (by decide) rfl ?_ ?_
  · refine tj_iconst (pc := 10) G dX10_trigger_10 ?_
    refine tj_istore_n (pc := 11) G (fun x3 => [(1, vI x3), (0, vR X 0)]) dX10_trigger_11 rfl (by decide) (fun _ => rfl) (fun x3 => ?_)
    refine tj_iconst (pc := 12) G dX10_trigger_12 ?_
    refine tj_istore_n (pc := 13) G (fun x4 => [(2, vI x4), (1, vI x3), (0, vR X 0)]) dX10_trigger_13 rfl (by decide) (fun _ => rfl) (fun x4 => ?_)
    refine tj_iconst (pc := 14) G dX10_trigger_14 ?_
    refine tj_istore_n (pc := 15) G (fun x5 => [(3, vI x5), (2, vI x4), (1, vI x3), (0, vR X 0)]) dX10_trigger_15 rfl (by decide) (fun _ => rfl) (fun x5 => ?_)
    refine tj_sub [3, 2, 1, 0] rfl (fx_X10_trigger_L16_ok G    (fun y10 y11 M26 => ?_) tp_F x3 x4 x5 M2)
    refine tj_aload_n (pc := 92) G 0 dX10_trigger_92 rfl rfl ?_
    refine tj_getR (pc := 93) G (k := 0) (j := 1) (j2 := 1) tk_X10 (by decide) lc_0 rfl (by decide) rfl fl_X10_19 dX10_trigger_93 ?_
    refine tj_iload_n (pc := 96) G 2 dX10_trigger_96 rfl rfl ?_
    refine tj_i2l (pc := 97) G (b := w32 y11) dX10_trigger_97 rfl ?_
    refine tj_callVv (pc := 98) G [vL (w32 y11)] mf_X8_tell_ (k := 3) (by decide) lc_3 rfl rfl ml_X10_258 (by decide) rfl rfl (Nat.le_of_ble_eq_true rfl) (fun _ h9 => ok_X8_tell_ X  h9) dX10_trigger_98 (fun r27 M28 => ?_)
    refine tj_iload_n (pc := 101) G 1 dX10_trigger_101 rfl rfl ?_
    exact tj_iret (pc := 102) G dX10_trigger_102
  refine tj_bipush (pc := 7) G dX10_trigger_7 rfl ?_
  exact tj_iret (pc := 9) G dX10_trigger_9

def fx_X10_seen  (a1 : Int) (a2 : Int) (a3 : Int) (M : tp_M) : tp_O :=
(tp_bd (fx_X4_hasPost 5 a1 M) (fun r1 M2 =>
(if w32 r1 = 0 then
(some ((-1), M2))
else
(tp_bd (fx_X4_has 5 a3 M2) (fun r3 M4 =>
(if w32 r3 = 0 then
(some ((-1), M4))
else
(if w32 a2 < 0 then
(some ((-1), M4))
else
(if w32 a2 ≤ 20 then
(tp_bd (fx_X6_add a1 a2 a3 M4) (fun r5 M6 =>
(if w32 r5 = 0 then
(some ((-1), M6))
else
(tp_bd (fx_X6_size  M6) (fun r7 M8 =>
(some (r7, M8)))))))
else
(some ((-1), M4))))))))))
set_option maxRecDepth 100000 in
set_option maxHeartbeats 4000000 in
theorem ok_X10_seen (X : tp_X)  {a1 : Int} {a2 : Int} {a3 : Int}  {M : tp_M} {res : Int × tp_M} (h : fx_X10_seen  a1 a2 a3 M = some res) : tp_Ret X LC 64 1 yX10_seen (Cond.code yX10_seen cX10_seen 4 (some .int)) 2 [vR X 0, vI a1, vI a2, vI a3] M res := by
  refine tp_ofW (by decide +kernel) rfl rfl (by show _ ≤ 4; exact Nat.le_of_ble_eq_true rfl) h (fun Y G => ?_)
  show tp_J X Y LC 64 4 2 1 (fx_X10_seen  a1 a2 a3 M) M [(0, vR X 0), (1, vI a1), (2, vI a2), (3, vI a3)] [] 0
  unfold fx_X10_seen
  refine tj_aload_n (pc := 0) G 0 dX10_seen_0 rfl rfl ?_
  refine tj_getR (pc := 1) G (k := 0) (j := 2) (j2 := 2) tk_X10 (by decide) lc_0 rfl (by decide) rfl fl_X10_26 dX10_seen_1 ?_
  refine tj_iload_n (pc := 4) G 1 dX10_seen_4 rfl rfl ?_
  refine tj_callVi (pc := 5) G [vI a1] mf_X4_hasPost (k := 5) (by decide) lc_5 rfl rfl ml_X10_176 (by decide) rfl rfl (Nat.le_of_ble_eq_true rfl) (fun _ h9 => ok_X4_hasPost X gg_Paths_5 h9) dX10_seen_5 (fun r1 M2 => ?_)
  refine tj_if_eq (pc := 8) G (tgt := 32) (a2 := w32 r1) dX10_seen_8 (by decide) rfl ?_ ?_
  · refine tj_iconst (pc := 32) G dX10_seen_32 ?_
    exact tj_iret (pc := 33) G dX10_seen_33
  refine tj_aload_n (pc := 11) G 0 dX10_seen_11 rfl rfl ?_
  refine tj_getR (pc := 12) G (k := 0) (j := 2) (j2 := 2) tk_X10 (by decide) lc_0 rfl (by decide) rfl fl_X10_26 dX10_seen_12 ?_
  refine tj_iload_n (pc := 15) G 3 dX10_seen_15 rfl rfl ?_
  refine tj_callVi (pc := 16) G [vI a3] mf_X4_has (k := 5) (by decide) lc_5 rfl rfl ml_X10_145 (by decide) rfl rfl (Nat.le_of_ble_eq_true rfl) (fun _ h9 => ok_X4_has X gg_Paths_5 h9) dX10_seen_16 (fun r3 M4 => ?_)
  refine tj_if_eq (pc := 19) G (tgt := 32) (a2 := w32 r3) dX10_seen_19 (by decide) rfl ?_ ?_
  · refine tj_iconst (pc := 32) G dX10_seen_32 ?_
    exact tj_iret (pc := 33) G dX10_seen_33
  refine tj_iload_n (pc := 22) G 2 dX10_seen_22 rfl rfl ?_
  refine tj_if_lt (pc := 23) G (tgt := 32) (a2 := w32 a2) dX10_seen_23 (by decide) rfl ?_ ?_
  · refine tj_iconst (pc := 32) G dX10_seen_32 ?_
    exact tj_iret (pc := 33) G dX10_seen_33
  refine tj_iload_n (pc := 26) G 2 dX10_seen_26 rfl rfl ?_
  refine tj_bipush (pc := 27) G dX10_seen_27 rfl ?_
  refine tj_icmp_le (pc := 29) G (tgt := 34) (a2 := w32 a2) (b2 := 20) dX10_seen_29 (by decide) rfl rfl ?_ ?_
  · refine tj_aload_n (pc := 34) G 0 dX10_seen_34 rfl rfl ?_
    refine tj_getR (pc := 35) G (k := 0) (j := 12) (j2 := 12) tk_X10 (by decide) lc_0 rfl (by decide) rfl fl_X10_80 dX10_seen_35 ?_
    refine tj_iload_n (pc := 38) G 1 dX10_seen_38 rfl rfl ?_
    refine tj_iload_n (pc := 39) G 2 dX10_seen_39 rfl rfl ?_
    refine tj_iload_n (pc := 40) G 3 dX10_seen_40 rfl rfl ?_
    refine tj_callVi (pc := 41) G [vI a1, vI a2, vI a3] mf_X6_add (k := 52) (by decide) lc_52 rfl rfl ml_X10_394 (by decide) rfl rfl (Nat.le_of_ble_eq_true rfl) (fun _ h9 => ok_X6_add X  h9) dX10_seen_41 (fun r5 M6 => ?_)
    refine tj_if_eq (pc := 44) G (tgt := 57) (a2 := w32 r5) dX10_seen_44 (by decide) rfl ?_ ?_
    · refine tj_iconst (pc := 57) G dX10_seen_57 ?_
      exact tj_iret (pc := 58) G dX10_seen_58
    refine tj_aload_n (pc := 47) G 0 dX10_seen_47 rfl rfl ?_
    refine tj_getR (pc := 48) G (k := 0) (j := 12) (j2 := 12) tk_X10 (by decide) lc_0 rfl (by decide) rfl fl_X10_80 dX10_seen_48 ?_
    refine tj_callVi (pc := 51) G [] mf_X6_size (k := 52) (by decide) lc_52 rfl rfl ml_X10_397 (by decide) rfl rfl (Nat.le_of_ble_eq_true rfl) (fun _ h9 => ok_X6_size X  h9) dX10_seen_51 (fun r7 M8 => ?_)
    refine tj_goto (pc := 54) G (tgt := 58) dX10_seen_54 (by decide) ?_
    exact tj_iret (pc := 58) G dX10_seen_58
  refine tj_iconst (pc := 32) G dX10_seen_32 ?_
  exact tj_iret (pc := 33) G dX10_seen_33

def fx_X10_forget   (M : tp_M) : tp_O :=
(tp_bd (fx_X6_size  M) (fun r1 M2 =>
(tp_lt r1 (fun x3 =>
(tp_bd (fx_X6_clear  M2) (fun r4 M5 =>
(some (x3, M5))))))))
set_option maxRecDepth 100000 in
set_option maxHeartbeats 4000000 in
theorem ok_X10_forget (X : tp_X)    {M : tp_M} {res : Int × tp_M} (h : fx_X10_forget   M = some res) : tp_Ret X LC 64 1 yX10_forget (Cond.code yX10_forget cX10_forget 2 (some .int)) 2 [vR X 0] M res := by
  refine tp_ofW (by decide +kernel) rfl rfl (by show _ ≤ 2; exact Nat.le_of_ble_eq_true rfl) h (fun Y G => ?_)
  show tp_J X Y LC 64 2 2 1 (fx_X10_forget   M) M [(0, vR X 0)] [] 0
  unfold fx_X10_forget
  refine tj_aload_n (pc := 0) G 0 dX10_forget_0 rfl rfl ?_
  refine tj_getR (pc := 1) G (k := 0) (j := 12) (j2 := 12) tk_X10 (by decide) lc_0 rfl (by decide) rfl fl_X10_80 dX10_forget_1 ?_
  refine tj_callVi (pc := 4) G [] mf_X6_size (k := 52) (by decide) lc_52 rfl rfl ml_X10_397 (by decide) rfl rfl (Nat.le_of_ble_eq_true rfl) (fun _ h9 => ok_X6_size X  h9) dX10_forget_4 (fun r1 M2 => ?_)
  refine tj_istore_n (pc := 7) G (fun x3 => [(1, vI x3), (0, vR X 0)]) dX10_forget_7 rfl (by decide) (fun _ => rfl) (fun x3 => ?_)
  refine tj_aload_n (pc := 8) G 1 dX10_forget_8 rfl rfl ?_
  refine tj_getR (pc := 9) G (k := 0) (j := 12) (j2 := 12) tk_X10 (by decide) lc_0 rfl (by decide) rfl fl_X10_80 dX10_forget_9 ?_
  refine tj_callVv (pc := 12) G [] mf_X6_clear (k := 52) (by decide) lc_52 rfl rfl ml_X10_139 (by decide) rfl rfl (Nat.le_of_ble_eq_true rfl) (fun _ h9 => ok_X6_clear X  h9) dX10_forget_12 (fun r4 M5 => ?_)
  refine tj_iload_n (pc := 15) G 0 dX10_forget_15 rfl rfl ?_
  exact tj_iret (pc := 16) G dX10_forget_16

def fx_X10_fitsSights_L61 (c1 : Int) (c2 : Int) (c3 : Int) (K101 : Int → tp_M → tp_O) (rec : Int → Int → tp_M → tp_O) (z15 z16 : Int) (M17 : tp_M) : tp_O :=
(tp_bd (fx_X6_steps c3 M17) (fun r19 M20 =>
(if w32 z16 < w32 r19 then
(if w32 z15 = 0 then
(K101 z15 M20)
else
(tp_bd (fx_X10_stride 28 15 z15 M20) (fun r21 M22 =>
(tp_lt r21 (fun x23 =>
(tp_lt (z16 + 1) (fun x24 =>
(rec x23 x24 M22))))))))
else
(K101 z15 M20))))
def fx_X10_fitsSights_L16 (c1 : Int) (c2 : Int) (rec : Int → tp_M → tp_O) (z4 : Int) (M5 : tp_M) : tp_O :=
(tp_bd (fx_X6_size  M5) (fun r6 M7 =>
(if w32 z4 < w32 r6 then
(tp_bd (fx_X2_copyFrom 28 25 M7) (fun r8 M9 =>
(tp_ck (w32 c1) 8 (tp_lm (tp_up M9 29 (w32 c1) c2) (fun M10 =>
(tp_bd (fx_X6_start z4 M10) (fun r11 M12 =>
(tp_lt r11 (fun x13 =>
(tp_lt 0 (fun x14 =>
(tp_lp2 (fx_X10_fitsSights_L61 c1 c2 z4 (fun y18 M25 =>
(tp_bd (fx_X6_place z4 M25) (fun r26 M27 =>
(if w32 y18 = w32 r26 then
(tp_lt (z4 + 1) (fun x28 =>
(rec x28 M27)))
else
(some (0, M27))))))) tp_F x13 x14 M12))))))))))))
else
(some (1, M7)))))
def fx_X10_fitsSights  (a1 : Int) (a2 : Int) (M : tp_M) : tp_O :=
(tp_bd (fx_X4_hasWay 5 a1 a2 M) (fun r1 M2 =>
(if w32 r1 = 0 then
(some (0, M2))
else
(tp_lt 0 (fun x3 =>
(tp_lp1 (fx_X10_fitsSights_L16 a1 a2 ) tp_F x3 M2))))))
set_option maxRecDepth 100000 in
set_option maxHeartbeats 4000000 in
theorem fx_X10_fitsSights_L61_ok {X : tp_X} {Y : tp_Y} (G : tp_Ok X Y 64 cX10_fitsSights 6 RX10 (some .boolean))  {c1 : Int} {c2 : Int} {c3 : Int} {K101 : Int → tp_M → tp_O}   (hK101 : ∀ (y18 : Int) (M9 : tp_M), tp_J X Y LC 64 6 4 1 (K101 y18 M9) M9 [(0, vR X 0), (1, vI c1), (2, vI c2), (3, vI c3), (4, vI y18)] [] 101) (n : Nat) : ∀ (z15 z16 : Int) (M17 : tp_M), tp_J X Y LC 64 6 4 1 (tp_lp2 (fx_X10_fitsSights_L61  c1 c2 c3 K101) n z15 z16 M17) M17 [(0, vR X 0), (1, vI c1), (2, vI c2), (3, vI c3), (4, vI z15), (5, vI z16)] [] 61 := by
  refine tp_lp2_ok (P := fun o z15 z16 M17 => tp_J X Y LC 64 6 4 1 (o) M17 [(0, vR X 0), (1, vI c1), (2, vI c2), (3, vI c3), (4, vI z15), (5, vI z16)] [] 61) (fun z15 z16 M17 => tj_none) (fun rec hrec z15 z16 M17 => ?_) n
  unfold fx_X10_fitsSights_L61
  refine tj_iload (pc := 61) G 5 dX10_fitsSights_61 rfl ?_
  refine tj_aload_n (pc := 63) G 0 dX10_fitsSights_63 rfl rfl ?_
  refine tj_getR (pc := 64) G (k := 0) (j := 12) (j2 := 12) tk_X10 (by decide) lc_0 rfl (by decide) rfl fl_X10_80 dX10_fitsSights_64 ?_
  refine tj_iload_n (pc := 67) G 3 dX10_fitsSights_67 rfl rfl ?_
  refine tj_callVi (pc := 68) G [vI c3] mf_X6_steps (k := 52) (by decide) lc_52 rfl rfl ml_X10_414 (by decide) rfl rfl (Nat.le_of_ble_eq_true rfl) (fun _ h9 => ok_X6_steps X  h9) dX10_fitsSights_68 (fun r19 M20 => ?_)
  refine tj_icmp_ge (pc := 71) G (tgt := 101) (a2 := w32 z16) (b2 := w32 r19) dX10_fitsSights_71 (by decide) rfl rfl ?_ ?_
  · exact tj_sub [0, 1, 2, 3, 4] rfl (hK101 z15 M20)
  refine tj_iload (pc := 74) G 4 dX10_fitsSights_74 rfl ?_
  refine tj_if_eq (pc := 76) G (tgt := 101) (a2 := w32 z15) dX10_fitsSights_76 (by decide) rfl ?_ ?_
  · exact tj_sub [0, 1, 2, 3, 4] rfl (hK101 z15 M20)
  refine tj_aload_n (pc := 79) G 0 dX10_fitsSights_79 rfl rfl ?_
  refine tj_aload_n (pc := 80) G 0 dX10_fitsSights_80 rfl rfl ?_
  refine tj_getR (pc := 81) G (k := 0) (j := 7) (j2 := 7) tk_X10 (by decide) lc_0 rfl (by decide) rfl fl_X10_50 dX10_fitsSights_81 ?_
  refine tj_aload_n (pc := 84) G 0 dX10_fitsSights_84 rfl rfl ?_
  refine tj_getR (pc := 85) G (k := 0) (j := 4) (j2 := 4) tk_X10 (by decide) lc_0 rfl (by decide) rfl fl_X10_36 dX10_fitsSights_85 ?_
  refine tj_iload (pc := 88) G 4 dX10_fitsSights_88 rfl ?_
  refine tj_callVi (pc := 90) G [vR X 28, vR X 15, vI z15] mf_X10_stride (k := 0) (by decide) lc_0 rfl rfl ml_X10_303 (by decide) rfl rfl (Nat.le_of_ble_eq_true rfl) (fun _ h9 => ok_X10_stride X gg_Moor_28 gg_Turner_15 h9) dX10_fitsSights_90 (fun r21 M22 => ?_)
  refine tj_istore (pc := 93) G (fun x23 => [(4, vI x23), (0, vR X 0), (1, vI c1), (2, vI c2), (3, vI c3), (5, vI z16)]) dX10_fitsSights_93 (by decide) (fun _ => rfl) (fun x23 => ?_)
  refine tj_iinc (pc := 95) G 5 (fun x24 => [(5, vI x24), (4, vI x23), (0, vR X 0), (1, vI c1), (2, vI c2), (3, vI c3)]) dX10_fitsSights_95 rfl (by decide) (fun _ => rfl) (fun x24 => ?_)
  refine tj_goto (pc := 98) G (tgt := 61) dX10_fitsSights_98 (by decide) ?_
  exact tj_sub [2, 3, 4, 5, 1, 0] rfl (hrec x23 x24 M22)
set_option maxRecDepth 100000 in
set_option maxHeartbeats 4000000 in
theorem fx_X10_fitsSights_L16_ok {X : tp_X} {Y : tp_Y} (G : tp_Ok X Y 64 cX10_fitsSights 6 RX10 (some .boolean))  {c1 : Int} {c2 : Int}    (n : Nat) : ∀ (z4 : Int) (M5 : tp_M), tp_J X Y LC 64 6 4 1 (tp_lp1 (fx_X10_fitsSights_L16  c1 c2 ) n z4 M5) M5 [(0, vR X 0), (1, vI c1), (2, vI c2), (3, vI z4)] [] 16 := by
  refine tp_lp1_ok (P := fun o z4 M5 => tp_J X Y LC 64 6 4 1 (o) M5 [(0, vR X 0), (1, vI c1), (2, vI c2), (3, vI z4)] [] 16) (fun z4 M5 => tj_none) (fun rec hrec z4 M5 => ?_) n
  unfold fx_X10_fitsSights_L16
  refine tj_iload_n (pc := 16) G 3 dX10_fitsSights_16 rfl rfl ?_
  refine tj_aload_n (pc := 17) G 0 dX10_fitsSights_17 rfl rfl ?_
  refine tj_getR (pc := 18) G (k := 0) (j := 12) (j2 := 12) tk_X10 (by decide) lc_0 rfl (by decide) rfl fl_X10_80 dX10_fitsSights_18 ?_
  refine tj_callVi (pc := 21) G [] mf_X6_size (k := 52) (by decide) lc_52 rfl rfl ml_X10_397 (by decide) rfl rfl (Nat.le_of_ble_eq_true rfl) (fun _ h9 => ok_X6_size X  h9) dX10_fitsSights_21 (fun r6 M7 => ?_)
  refine tj_icmp_ge (pc := 24) G (tgt := 122) (a2 := w32 z4) (b2 := w32 r6) dX10_fitsSights_24 (by decide) rfl rfl ?_ ?_
  · refine tj_iconst (pc := 122) G dX10_fitsSights_122 ?_
    exact tj_zret (pc := 123) G (by decide) dX10_fitsSights_123
  refine tj_aload_n (pc := 27) G 0 dX10_fitsSights_27 rfl rfl ?_
  refine tj_getR (pc := 28) G (k := 0) (j := 7) (j2 := 7) tk_X10 (by decide) lc_0 rfl (by decide) rfl fl_X10_50 dX10_fitsSights_28 ?_
  refine tj_aload_n (pc := 31) G 0 dX10_fitsSights_31 rfl rfl ?_
  refine tj_getR (pc := 32) G (k := 0) (j := 6) (j2 := 6) tk_X10 (by decide) lc_0 rfl (by decide) rfl fl_X10_46 dX10_fitsSights_32 ?_
  refine tj_callVv (pc := 35) G [vR X 25] mf_X2_copyFrom (k := 28) (by decide) lc_28 rfl rfl ml_X10_201 (by decide) rfl rfl (Nat.le_of_ble_eq_true rfl) (fun _ h9 => ok_X2_copyFrom X gg_Moor_28 gg_Moor_25 h9) dX10_fitsSights_35 (fun r8 M9 => ?_)
  refine tj_aload_n (pc := 38) G 0 dX10_fitsSights_38 rfl rfl ?_
  refine tj_getR (pc := 39) G (k := 0) (j := 7) (j2 := 7) tk_X10 (by decide) lc_0 rfl (by decide) rfl fl_X10_50 dX10_fitsSights_39 ?_
  refine tj_getRN (pc := 42) G (k := 28) (j := 0) (j2 := 0) tk_X2 (by decide) lc_28 rfl (by decide) rfl fn_X10_160 dX10_fitsSights_42 ?_
  refine tj_iload_n (pc := 45) G 1 dX10_fitsSights_45 rfl rfl ?_
  refine tj_iload_n (pc := 46) G 2 dX10_fitsSights_46 rfl rfl ?_
  refine tj_iast (pc := 47) G (k := 29) (i2 := w32 c1) (n2 := 8) (by decide) lc_29 rfl rfl dX10_fitsSights_47 (fun M10 => ?_)
  refine tj_aload_n (pc := 48) G 0 dX10_fitsSights_48 rfl rfl ?_
  refine tj_getR (pc := 49) G (k := 0) (j := 12) (j2 := 12) tk_X10 (by decide) lc_0 rfl (by decide) rfl fl_X10_80 dX10_fitsSights_49 ?_
  refine tj_iload_n (pc := 52) G 3 dX10_fitsSights_52 rfl rfl ?_
  refine tj_callVi (pc := 53) G [vI z4] mf_X6_start (k := 52) (by decide) lc_52 rfl rfl ml_X10_411 (by decide) rfl rfl (Nat.le_of_ble_eq_true rfl) (fun _ h9 => ok_X6_start X  h9) dX10_fitsSights_53 (fun r11 M12 => ?_)
  refine tj_istore (pc := 56) G (fun x13 => [(4, vI x13), (0, vR X 0), (1, vI c1), (2, vI c2), (3, vI z4)]) dX10_fitsSights_56 (by decide) (fun _ => rfl) (fun x13 => ?_)
  refine tj_iconst (pc := 58) G dX10_fitsSights_58 ?_
  refine tj_istore (pc := 59) G (fun x14 => [(5, vI x14), (4, vI x13), (0, vR X 0), (1, vI c1), (2, vI c2), (3, vI z4)]) dX10_fitsSights_59 (by decide) (fun _ => rfl) (fun x14 => ?_)
  refine tj_sub [2, 3, 4, 5, 1, 0] rfl (fx_X10_fitsSights_L61_ok G    (fun y18 M25 => ?_) tp_F x13 x14 M12)
  refine tj_iload (pc := 101) G 4 dX10_fitsSights_101 rfl ?_
  refine tj_aload_n (pc := 103) G 0 dX10_fitsSights_103 rfl rfl ?_
  refine tj_getR (pc := 104) G (k := 0) (j := 12) (j2 := 12) tk_X10 (by decide) lc_0 rfl (by decide) rfl fl_X10_80 dX10_fitsSights_104 ?_
  refine tj_iload_n (pc := 107) G 3 dX10_fitsSights_107 rfl rfl ?_
  refine tj_callVi (pc := 108) G [vI z4] mf_X6_place (k := 52) (by decide) lc_52 rfl rfl ml_X10_416 (by decide) rfl rfl (Nat.le_of_ble_eq_true rfl) (fun _ h9 => ok_X6_place X  h9) dX10_fitsSights_108 (fun r26 M27 => ?_)
  refine tj_icmp_eq (pc := 111) G (tgt := 116) (a2 := w32 y18) (b2 := w32 r26) dX10_fitsSights_111 (by decide) rfl rfl ?_ ?_
  · refine tj_iinc (pc := 116) G 3 (fun x28 => [(3, vI x28), (0, vR X 0), (1, vI c1), (2, vI c2), (4, vI y18)]) dX10_fitsSights_116 rfl (by decide) (fun _ => rfl) (fun x28 => ?_)
    refine tj_goto (pc := 119) G (tgt := 16) dX10_fitsSights_119 (by decide) ?_
    exact tj_sub [1, 2, 3, 0] rfl (hrec x28 M27)
  refine tj_iconst (pc := 114) G dX10_fitsSights_114 ?_
  exact tj_zret (pc := 115) G (by decide) dX10_fitsSights_115
set_option maxRecDepth 100000 in
set_option maxHeartbeats 4000000 in
theorem ok_X10_fitsSights (X : tp_X)  {a1 : Int} {a2 : Int}  {M : tp_M} {res : Int × tp_M} (h : fx_X10_fitsSights  a1 a2 M = some res) : tp_Ret X LC 64 1 yX10_fitsSights (Cond.code yX10_fitsSights cX10_fitsSights 6 (some .boolean)) 4 [vR X 0, vI a1, vI a2] M res := by
  refine tp_ofW (by decide +kernel) rfl rfl (by show _ ≤ 6; exact Nat.le_of_ble_eq_true rfl) h (fun Y G => ?_)
  show tp_J X Y LC 64 6 4 1 (fx_X10_fitsSights  a1 a2 M) M [(0, vR X 0), (1, vI a1), (2, vI a2)] [] 0
  unfold fx_X10_fitsSights
  refine tj_aload_n (pc := 0) G 0 dX10_fitsSights_0 rfl rfl ?_
  refine tj_getR (pc := 1) G (k := 0) (j := 2) (j2 := 2) tk_X10 (by decide) lc_0 rfl (by decide) rfl fl_X10_26 dX10_fitsSights_1 ?_
  refine tj_iload_n (pc := 4) G 1 dX10_fitsSights_4 rfl rfl ?_
  refine tj_iload_n (pc := 5) G 2 dX10_fitsSights_5 rfl rfl ?_
  refine tj_callVi (pc := 6) G [vI a1, vI a2] mf_X4_hasWay (k := 5) (by decide) lc_5 rfl rfl ml_X10_183 (by decide) rfl rfl (Nat.le_of_ble_eq_true rfl) (fun _ h9 => ok_X4_hasWay X gg_Paths_5 h9) dX10_fitsSights_6 (fun r1 M2 => ?_)
  refine tj_if_ne (pc := 9) G (tgt := 14) (a2 := w32 r1) dX10_fitsSights_9 (by decide) rfl ?_ ?_
  · refine tj_iconst (pc := 14) G dX10_fitsSights_14 ?_
    refine tj_istore_n (pc := 15) G (fun x3 => [(3, vI x3), (0, vR X 0), (1, vI a1), (2, vI a2)]) dX10_fitsSights_15 rfl (by decide) (fun _ => rfl) (fun x3 => ?_)
    refine tj_sub [1, 2, 3, 0] rfl (fx_X10_fitsSights_L16_ok G     tp_F x3 M2)
  refine tj_iconst (pc := 12) G dX10_fitsSights_12 ?_
  exact tj_zret (pc := 13) G (by decide) dX10_fitsSights_13

def fx_X10_possibleNumbers_L4 (c1 : Int) (rec : Int → Int → tp_M → tp_O) (z3 z4 : Int) (M5 : tp_M) : tp_O :=
(tp_bd (fx_X4_degree 5 c1 M5) (fun r6 M7 =>
(if w32 z4 < w32 r6 then
(tp_bd (fx_X10_fitsSights c1 z4 M7) (fun r8 M9 =>
(tp_jn1 (fun y10 M11 => 
(tp_lt (z4 + 1) (fun x12 =>
(rec y10 x12 M11)))) (fun jk31 =>
(if w32 r8 = 0 then
(jk31 z3 M9)
else
(tp_lt (x_or z3 (x_shl 1 z4)) (fun x13 =>
(jk31 x13 M9))))))))
else
(some (z3, M7)))))
def fx_X10_possibleNumbers  (a1 : Int) (M : tp_M) : tp_O :=
(tp_lt 0 (fun x1 =>
(tp_lt 0 (fun x2 =>
(tp_lp2 (fx_X10_possibleNumbers_L4 a1 ) tp_F x1 x2 M)))))
set_option maxRecDepth 100000 in
set_option maxHeartbeats 4000000 in
theorem fx_X10_possibleNumbers_L4_ok {X : tp_X} {Y : tp_Y} (G : tp_Ok X Y 64 cX10_possibleNumbers 4 RX10 (some .int))  {c1 : Int}    (n : Nat) : ∀ (z3 z4 : Int) (M5 : tp_M), tp_J X Y LC 64 4 5 1 (tp_lp2 (fx_X10_possibleNumbers_L4  c1 ) n z3 z4 M5) M5 [(0, vR X 0), (1, vI c1), (2, vI z3), (3, vI z4)] [] 4 := by
  refine tp_lp2_ok (P := fun o z3 z4 M5 => tp_J X Y LC 64 4 5 1 (o) M5 [(0, vR X 0), (1, vI c1), (2, vI z3), (3, vI z4)] [] 4) (fun z3 z4 M5 => tj_none) (fun rec hrec z3 z4 M5 => ?_) n
  unfold fx_X10_possibleNumbers_L4
  refine tj_iload_n (pc := 4) G 3 dX10_possibleNumbers_4 rfl rfl ?_
  refine tj_aload_n (pc := 5) G 0 dX10_possibleNumbers_5 rfl rfl ?_
  refine tj_getR (pc := 6) G (k := 0) (j := 2) (j2 := 2) tk_X10 (by decide) lc_0 rfl (by decide) rfl fl_X10_26 dX10_possibleNumbers_6 ?_
  refine tj_iload_n (pc := 9) G 1 dX10_possibleNumbers_9 rfl rfl ?_
  refine tj_callVi (pc := 10) G [vI c1] mf_X4_degree (k := 5) (by decide) lc_5 rfl rfl ml_X10_156 (by decide) rfl rfl (Nat.le_of_ble_eq_true rfl) (fun _ h9 => ok_X4_degree X gg_Paths_5 h9) dX10_possibleNumbers_10 (fun r6 M7 => ?_)
  refine tj_icmp_ge (pc := 13) G (tgt := 37) (a2 := w32 z4) (b2 := w32 r6) dX10_possibleNumbers_13 (by decide) rfl rfl ?_ ?_
  · refine tj_iload_n (pc := 37) G 2 dX10_possibleNumbers_37 rfl rfl ?_
    exact tj_iret (pc := 38) G dX10_possibleNumbers_38
  refine tj_aload_n (pc := 16) G 0 dX10_possibleNumbers_16 rfl rfl ?_
  refine tj_iload_n (pc := 17) G 1 dX10_possibleNumbers_17 rfl rfl ?_
  refine tj_iload_n (pc := 18) G 3 dX10_possibleNumbers_18 rfl rfl ?_
  refine tj_callVi (pc := 19) G [vI c1, vI z4] mf_X10_fitsSights (k := 0) (by decide) lc_0 rfl rfl ml_X10_408 (by decide) rfl rfl (Nat.le_of_ble_eq_true rfl) (fun _ h9 => ok_X10_fitsSights X  h9) dX10_possibleNumbers_19 (fun r8 M9 => ?_)
  refine tj_jn1 (fun y10 => [(0, vR X 0), (1, vI c1), (2, vI y10), (3, vI z4)]) (fun y10 => []) 31 (fun y10 M11 => ?_) (fun jk31 hj31 => ?_)
  · refine tj_iinc (pc := 31) G 3 (fun x12 => [(3, vI x12), (0, vR X 0), (1, vI c1), (2, vI y10)]) dX10_possibleNumbers_31 rfl (by decide) (fun _ => rfl) (fun x12 => ?_)
    refine tj_goto (pc := 34) G (tgt := 4) dX10_possibleNumbers_34 (by decide) ?_
    exact tj_sub [1, 2, 3, 0] rfl (hrec y10 x12 M11)
  refine tj_if_eq (pc := 22) G (tgt := 31) (a2 := w32 r8) dX10_possibleNumbers_22 (by decide) rfl ?_ ?_
  · exact tj_sub [0, 1, 2, 3] rfl (hj31 z3 M9)
  refine tj_iload_n (pc := 25) G 2 dX10_possibleNumbers_25 rfl rfl ?_
  refine tj_iconst (pc := 26) G dX10_possibleNumbers_26 ?_
  refine tj_iload_n (pc := 27) G 3 dX10_possibleNumbers_27 rfl rfl ?_
  refine tj_ishl (pc := 28) G dX10_possibleNumbers_28 ?_
  refine tj_ior (pc := 29) G dX10_possibleNumbers_29 ?_
  refine tj_istore_n (pc := 30) G (fun x13 => [(2, vI x13), (0, vR X 0), (1, vI c1), (3, vI z4)]) dX10_possibleNumbers_30 rfl (by decide) (fun _ => rfl) (fun x13 => ?_)
  exact tj_sub [1, 2, 0, 3] rfl (hj31 x13 M9)
set_option maxRecDepth 100000 in
set_option maxHeartbeats 4000000 in
theorem ok_X10_possibleNumbers (X : tp_X)  {a1 : Int}  {M : tp_M} {res : Int × tp_M} (h : fx_X10_possibleNumbers  a1 M = some res) : tp_Ret X LC 64 1 yX10_possibleNumbers (Cond.code yX10_possibleNumbers cX10_possibleNumbers 4 (some .int)) 5 [vR X 0, vI a1] M res := by
  refine tp_ofW (by decide +kernel) rfl rfl (by show _ ≤ 4; exact Nat.le_of_ble_eq_true rfl) h (fun Y G => ?_)
  show tp_J X Y LC 64 4 5 1 (fx_X10_possibleNumbers  a1 M) M [(0, vR X 0), (1, vI a1)] [] 0
  unfold fx_X10_possibleNumbers
  refine tj_iconst (pc := 0) G dX10_possibleNumbers_0 ?_
  refine tj_istore_n (pc := 1) G (fun x1 => [(2, vI x1), (0, vR X 0), (1, vI a1)]) dX10_possibleNumbers_1 rfl (by decide) (fun _ => rfl) (fun x1 => ?_)
  refine tj_iconst (pc := 2) G dX10_possibleNumbers_2 ?_
  refine tj_istore_n (pc := 3) G (fun x2 => [(3, vI x2), (2, vI x1), (0, vR X 0), (1, vI a1)]) dX10_possibleNumbers_3 rfl (by decide) (fun _ => rfl) (fun x2 => ?_)
  refine tj_sub [2, 3, 1, 0] rfl (fx_X10_possibleNumbers_L4_ok G     tp_F x1 x2 M)

def fx_X10_guess  (a1 : Int) (M : tp_M) : tp_O :=
(tp_bd (fx_X4_hasPost 5 a1 M) (fun r1 M2 =>
(if w32 r1 = 0 then
(some ((-1), M2))
else
(tp_bd (fx_X10_possibleNumbers a1 M2) (fun r3 M4 =>
(tp_lt r3 (fun x5 =>
(tp_bd (fx_J6_bitCount_0f7a4 x5 M4) (fun r6 M7 =>
(tp_ck (w32 a1) 8 (tp_bd (fx_X8_tell__ (w32 r6) (w32 (x_and (x_shr x5 (M7 26 (w32 a1))) 1)) M7) (fun r8 M9 =>
(some (x5, M9))))))))))))))
set_option maxRecDepth 100000 in
set_option maxHeartbeats 4000000 in
theorem ok_X10_guess (X : tp_X)  {a1 : Int}  {M : tp_M} {res : Int × tp_M} (h : fx_X10_guess  a1 M = some res) : tp_Ret X LC 64 1 yX10_guess (Cond.code yX10_guess cX10_guess 3 (some .int)) 6 [vR X 0, vI a1] M res := by
  refine tp_ofW (by decide +kernel) rfl rfl (by show _ ≤ 3; exact Nat.le_of_ble_eq_true rfl) h (fun Y G => ?_)
  show tp_J X Y LC 64 3 6 1 (fx_X10_guess  a1 M) M [(0, vR X 0), (1, vI a1)] [] 0
  unfold fx_X10_guess
  refine tj_aload_n (pc := 0) G 0 dX10_guess_0 rfl rfl ?_
  refine tj_getR (pc := 1) G (k := 0) (j := 2) (j2 := 2) tk_X10 (by decide) lc_0 rfl (by decide) rfl fl_X10_26 dX10_guess_1 ?_
  refine tj_iload_n (pc := 4) G 1 dX10_guess_4 rfl rfl ?_
  refine tj_callVi (pc := 5) G [vI a1] mf_X4_hasPost (k := 5) (by decide) lc_5 rfl rfl ml_X10_176 (by decide) rfl rfl (Nat.le_of_ble_eq_true rfl) (fun _ h9 => ok_X4_hasPost X gg_Paths_5 h9) dX10_guess_5 (fun r1 M2 => ?_)
  refine tj_if_ne (pc := 8) G (tgt := 13) (a2 := w32 r1) dX10_guess_8 (by decide) rfl ?_ ?_
  · refine tj_aload_n (pc := 13) G 0 dX10_guess_13 rfl rfl ?_
    refine tj_iload_n (pc := 14) G 1 dX10_guess_14 rfl rfl ?_
    refine tj_callVi (pc := 15) G [vI a1] mf_X10_possibleNumbers (k := 0) (by decide) lc_0 rfl rfl ml_X10_398 (by decide) rfl rfl (Nat.le_of_ble_eq_true rfl) (fun _ h9 => ok_X10_possibleNumbers X  h9) dX10_guess_15 (fun r3 M4 => ?_)
    refine tj_istore_n (pc := 18) G (fun x5 => [(2, vI x5), (0, vR X 0), (1, vI a1)]) dX10_guess_18 rfl (by decide) (fun _ => rfl) (fun x5 => ?_)
    refine tj_aload_n (pc := 19) G 1 dX10_guess_19 rfl rfl ?_
    refine tj_getR (pc := 20) G (k := 0) (j := 1) (j2 := 1) tk_X10 (by decide) lc_0 rfl (by decide) rfl fl_X10_19 dX10_guess_20 ?_
    refine tj_iload_n (pc := 23) G 0 dX10_guess_23 rfl rfl ?_
    refine tj_callSi (pc := 24) G [vI x5] mf_J6_bitCount_0f7a4 ml_X10_316 (by decide) rfl rfl (Nat.le_of_ble_eq_true rfl) (fun _ h9 => ok_J6_bitCount_0f7a4 X  h9) dX10_guess_24 (fun r6 M7 => ?_)
    refine tj_i2l (pc := 27) G (b := w32 r6) dX10_guess_27 rfl ?_
    refine tj_iload_n (pc := 28) G 0 dX10_guess_28 rfl rfl ?_
    refine tj_aload_n (pc := 29) G 1 dX10_guess_29 rfl rfl ?_
    refine tj_getR (pc := 30) G (k := 0) (j := 6) (j2 := 6) tk_X10 (by decide) lc_0 rfl (by decide) rfl fl_X10_46 dX10_guess_30 ?_
    refine tj_getRN (pc := 33) G (k := 25) (j := 0) (j2 := 0) tk_X2 (by decide) lc_25 rfl (by decide) rfl fn_X10_160 dX10_guess_33 ?_
    refine tj_iload_n (pc := 36) G 2 dX10_guess_36 rfl rfl ?_
    refine tj_iald (pc := 37) G (k := 26) (i2 := w32 a1) (n2 := 8) (by decide) lc_26 rfl rfl dX10_guess_37 ?_
    refine tj_ishr (pc := 38) G dX10_guess_38 ?_
    refine tj_iconst (pc := 39) G dX10_guess_39 ?_
    refine tj_iand (pc := 40) G dX10_guess_40 ?_
    refine tj_i2l (pc := 41) G (b := w32 (x_and (x_shr x5 (M7 26 (w32 a1))) 1)) dX10_guess_41 rfl ?_
    refine tj_callVv (pc := 42) G [vL (w32 r6), vL (w32 (x_and (x_shr x5 (M7 26 (w32 a1))) 1))] mf_X8_tell__ (k := 3) (by decide) lc_3 rfl rfl ml_X10_241 (by decide) rfl rfl (Nat.le_of_ble_eq_true rfl) (fun _ h9 => ok_X8_tell__ X  h9) dX10_guess_42 (fun r8 M9 => ?_)
    refine tj_iload_n (pc := 45) G 0 dX10_guess_45 rfl rfl ?_
    exact tj_iret (pc := 46) G dX10_guess_46
  refine tj_iconst (pc := 11) G dX10_guess_11 ?_
  exact tj_iret (pc := 12) G dX10_guess_12
