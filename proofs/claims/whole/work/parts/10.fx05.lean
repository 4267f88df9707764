def fx_X10_later_L42 (c1 : Int) (c2 : Int) (K80 : Int → Int → Int → tp_M → tp_O) (rec : Int → Int → Int → tp_M → tp_O) (z8 z9 z10 : Int) (M11 : tp_M) : tp_O :=
(if w32 z9 < w32 c2 then
(if w32 z8 = 0 then
(K80 z8 z9 z10 M11)
else
(tp_bd (fx_X10_stride 28 15 z8 M11) (fun r15 M16 =>
(tp_lt r15 (fun x17 =>
(tp_lt (z9 + 1) (fun x18 =>
(if w32 x17 = w32 c1 then
(tp_lt (z10 + 1) (fun x19 =>
(rec x17 x18 x19 M16)))
else
(rec x17 x18 z10 M16)))))))))
else
(K80 z8 z9 z10 M11))
def fx_X10_later  (a1 : Int) (a2 : Int) (M : tp_M) : tp_O :=
(tp_bd (fx_X4_hasPost 5 a1 M) (fun r1 M2 =>
(if w32 r1 = 0 then
(some ((-1), M2))
else
(if w32 a2 < 0 then
(some ((-1), M2))
else
(if w32 a2 ≤ 99 then
(tp_bd (fx_X2_copyFrom 28 25 M2) (fun r3 M4 =>
(tp_lt a1 (fun x5 =>
(tp_lt 0 (fun x6 =>
(tp_lt 1 (fun x7 =>
(tp_lp3 (fx_X10_later_L42 a1 a2 (fun y12 y13 y14 M20 =>
(tp_bd (fx_X8_tell__ (w32 y13) (w32 y14) M20) (fun r21 M22 =>
(some (y12, M22)))))) tp_F x5 x6 x7 M4)))))))))
else
(some ((-1), M2)))))))
set_option maxRecDepth 100000 in
set_option maxHeartbeats 4000000 in
theorem fx_X10_later_L42_ok {X : tp_X} {Y : tp_Y} (G : tp_Ok X Y 64 cX10_later 6 RX10 (some .int))  {c1 : Int} {c2 : Int} {K80 : Int → Int → Int → tp_M → tp_O}   (hK80 : ∀ (y12 y13 y14 : Int) (M9 : tp_M), tp_J X Y LC 64 6 4 1 (K80 y12 y13 y14 M9) M9 [(0, vR X 0), (3, vI y12), (4, vI y13), (5, vI y14)] [] 80) (n : Nat) : ∀ (z8 z9 z10 : Int) (M11 : tp_M), tp_J X Y LC 64 6 4 1 (tp_lp3 (fx_X10_later_L42  c1 c2 K80) n z8 z9 z10 M11) M11 [(0, vR X 0), (1, vI c1), (2, vI c2), (3, vI z8), (4, vI z9), (5, vI z10)] [] 42 := by
  refine tp_lp3_ok (P := fun o z8 z9 z10 M11 => tp_J X Y LC 64 6 4 1 (o) M11 [(0, vR X 0), (1, vI c1), (2, vI c2), (3, vI z8), (4, vI z9), (5, vI z10)] [] 42) (fun z8 z9 z10 M11 => tj_none) (fun rec hrec z8 z9 z10 M11 => ?_) n
  unfold fx_X10_later_L42
  refine tj_iload (pc := 42) G 4 dX10_later_42 rfl ?_
  refine tj_iload_n (pc := 44) G 2 dX10_later_44 rfl rfl ?_
  refine tj_icmp_ge (pc := 45) G (tgt := 80) (a2 := w32 z9) (b2 := w32 c2) dX10_later_45 (by decide) rfl rfl ?_ ?_
  · exact tj_sub [0, 3, 4, 5] rfl (hK80 z8 z9 z10 M11)
  refine tj_iload_n (pc := 48) G 3 dX10_later_48 rfl rfl ?_
  refine tj_if_eq (pc := 49) G (tgt := 80) (a2 := w32 z8) dX10_later_49 (by decide) rfl ?_ ?_
  · exact tj_sub [0, 3, 4, 5] rfl (hK80 z8 z9 z10 M11)
  refine tj_aload_n (pc := 52) G 0 dX10_later_52 rfl rfl ?_
  refine tj_aload_n (pc := 53) G 0 dX10_later_53 rfl rfl ?_
  refine tj_getR (pc := 54) G (k := 0) (j := 7) (j2 := 7) tk_X10 (by decide) lc_0 rfl (by decide) rfl fl_X10_50 dX10_later_54 ?_
  refine tj_aload_n (pc := 57) G 0 dX10_later_57 rfl rfl ?_
  refine tj_getR (pc := 58) G (k := 0) (j := 4) (j2 := 4) tk_X10 (by decide) lc_0 rfl (by decide) rfl fl_X10_36 dX10_later_58 ?_
  refine tj_iload_n (pc := 61) G 3 dX10_later_61 rfl rfl ?_
  refine tj_callVi (pc := 62) G [vR X 28, vR X 15, vI z8] mf_X10_stride (k := 0) (by decide) lc_0 rfl rfl ml_X10_303 (by decide) rfl rfl (Nat.le_of_ble_eq_true rfl) (fun _ h9 => ok_X10_stride X gg_Moor_28 gg_Turner_15 h9) dX10_later_62 (fun r15 M16 => ?_)
  refine tj_istore_n (pc := 65) G (fun x17 => [(3, vI x17), (0, vR X 0), (1, vI c1), (2, vI c2), (4, vI z9), (5, vI z10)]) dX10_later_65 rfl (by decide) (fun _ => rfl) (fun x17 => ?_)
  refine tj_iinc (pc := 66) G 4 (fun x18 => [(4, vI x18), (3, vI x17), (0, vR X 0), (1, vI c1), (2, vI c2), (5, vI z10)]) dX10_later_66 rfl (by decide) (fun _ => rfl) (fun x18 => ?_)
  refine tj_iload_n (pc := 69) G 1 dX10_later_69 rfl rfl ?_
  refine tj_iload_n (pc := 70) G 3 dX10_later_70 rfl rfl ?_
  refine tj_icmp_ne (pc := 71) G (tgt := 42) (a2 := w32 x17) (b2 := w32 c1) dX10_later_71 (by decide) rfl rfl ?_ ?_
  · exact tj_sub [2, 3, 4, 1, 0, 5] rfl (hrec x17 x18 z10 M16)
  refine tj_iinc (pc := 74) G 5 (fun x19 => [(5, vI x19), (4, vI x18), (3, vI x17), (0, vR X 0), (1, vI c1), (2, vI c2)]) dX10_later_74 rfl (by decide) (fun _ => rfl) (fun x19 => ?_)
  refine tj_goto (pc := 77) G (tgt := 42) dX10_later_77 (by decide) ?_
  exact tj_sub [3, 4, 5, 2, 1, 0] rfl (hrec x17 x18 x19 M16)
set_option maxRecDepth 100000 in
set_option maxHeartbeats 4000000 in
theorem ok_X10_later (X : tp_X)  {a1 : Int} {a2 : Int}  {M : tp_M} {res : Int × tp_M} (h : fx_X10_later  a1 a2 M = some res) : tp_Ret X LC 64 1 yX10_later (Cond.code yX10_later cX10_later 6 (some .int)) 4 [vR X 0, vI a1, vI a2] M res := by
  refine tp_ofW (by decide +kernel) rfl rfl (by show _ ≤ 6; exact Nat.le_of_ble_eq_true rfl) h (fun Y G => ?_)
  show tp_J X Y LC 64 6 4 1 (fx_X10_later  a1 a2 M) M [(0, vR X 0), (1, vI a1), (2, vI a2)] [] 0
  unfold fx_X10_later
  refine tj_aload_n (pc := 0) G 0 dX10_later_0 rfl rfl ?_
  refine tj_getR (pc := 1) G (k := 0) (j := 2) (j2 := 2) tk_X10 (by decide) lc_0 rfl (by decide) rfl fl_X10_26 dX10_later_1 ?_
  refine tj_iload_n (pc := 4) G 1 dX10_later_4 rfl rfl ?_
  refine tj_callVi (pc := 5) G [vI a1] mf_X4_hasPost (k := 5) (by decide) lc_5 rfl rfl ml_X10_176 (by decide) rfl rfl (Nat.le_of_ble_eq_true rfl) (fun _ h9 => ok_X4_hasPost X gg_Paths_5 h9) dX10_later_5 (fun r1 M2 => ?_)
  refine tj_if_eq (pc := 8) G (tgt := 21) (a2 := w32 r1) dX10_later_8 (by decide) rfl ?_ ?_
  · refine tj_iconst (pc := 21) G dX10_later_21 ?_
    exact tj_iret (pc := 22) G dX10_later_22
  refine tj_iload_n (pc := 11) G 2 dX10_later_11 rfl rfl ?_
  refine tj_if_lt (pc := 12) G (tgt := 21) (a2 := w32 a2) dX10_later_12 (by decide) rfl ?_ ?_
  · refine tj_iconst (pc := 21) G dX10_later_21 ?_
    exact tj_iret (pc := 22) G dX10_later_22
  refine tj_iload_n (pc := 15) G 2 dX10_later_15 rfl rfl ?_
  refine tj_bipush (pc := 16) G dX10_later_16 rfl ?_
  refine tj_icmp_le (pc := 18) G (tgt := 23) (a2 := w32 a2) (b2 := 99) dX10_later_18 (by decide) rfl rfl ?_ ?_
  · refine tj_aload_n (pc := 23) G 0 dX10_later_23 rfl rfl ?_
    refine tj_getR (pc := 24) G (k := 0) (j := 7) (j2 := 7) tk_X10 (by decide) lc_0 rfl (by decide) rfl fl_X10_50 dX10_later_24 ?_
    refine tj_aload_n (pc := 27) G 0 dX10_later_27 rfl rfl ?_
    refine tj_getR (pc := 28) G (k := 0) (j := 6) (j2 := 6) tk_X10 (by decide) lc_0 rfl (by decide) rfl fl_X10_46 dX10_later_28 ?_
    refine tj_callVv (pc := 31) G [vR X 25] mf_X2_copyFrom (k := 28) (by decide) lc_28 rfl rfl ml_X10_201 (by decide) rfl rfl (Nat.le_of_ble_eq_true rfl) (fun _ h9 => ok_X2_copyFrom X gg_Moor_28 gg_Moor_25 h9) dX10_later_31 (fun r3 M4 => ?_)
    refine tj_iload_n (pc := 34) G 1 dX10_later_34 rfl rfl ?_
    refine tj_istore_n (pc := 35) G (fun x5 => [(3, vI x5), (0, vR X 0), (1, vI a1), (2, vI a2)]) dX10_later_35 rfl (by decide) (fun _ => rfl) (fun x5 => ?_)
    refine tj_iconst (pc := 36) G dX10_later_36 ?_
    refine tj_istore (pc := 37) G (fun x6 => [(4, vI x6), (3, vI x5), (0, vR X 0), (1, vI a1), (2, vI a2)]) dX10_later_37 (by decide) (fun _ => rfl) (fun x6 => ?_)
    refine tj_iconst (pc := 39) G dX10_later_39 ?_
    refine tj_istore (pc := 40) G (fun x7 => [(5, vI x7), (4, vI x6), (3, vI x5), (0, vR X 0), (1, vI a1), (2, vI a2)]) dX10_later_40 (by decide) (fun _ => rfl) (fun x7 => ?_)
    refine tj_sub [3, 4, 5, 2, 1, 0] rfl (fx_X10_later_L42_ok G    (fun y12 y13 y14 M20 => ?_) tp_F x5 x6 x7 M4)
    refine tj_aload_n (pc := 80) G 0 dX10_later_80 rfl rfl ?_
    refine tj_getR (pc := 81) G (k := 0) (j := 1) (j2 := 1) tk_X10 (by decide) lc_0 rfl (by decide) rfl fl_X10_19 dX10_later_81 ?_
    refine tj_iload (pc := 84) G 2 dX10_later_84 rfl ?_
    refine tj_i2l (pc := 86) G (b := w32 y13) dX10_later_86 rfl ?_
    refine tj_iload (pc := 87) G 3 dX10_later_87 rfl ?_
    refine tj_i2l (pc := 89) G (b := w32 y14) dX10_later_89 rfl ?_
    refine tj_callVv (pc := 90) G [vL (w32 y13), vL (w32 y14)] mf_X8_tell__ (k := 3) (by decide) lc_3 rfl rfl ml_X10_241 (by decide) rfl rfl (Nat.le_of_ble_eq_true rfl) (fun _ h9 => ok_X8_tell__ X  h9) dX10_later_90 (fun r21 M22 => ?_)
    refine tj_iload_n (pc := 93) G 1 dX10_later_93 rfl rfl ?_
    exact tj_iret (pc := 94) G dX10_later_94
  refine tj_iconst (pc := 21) G dX10_later_21 ?_
  exact tj_iret (pc := 22) G dX10_later_22

def fx_X10_home  (a1 : Int) (M : tp_M) : tp_O :=
(tp_bd (fx_X4_hasPost 5 a1 M) (fun r1 M2 =>
(if w32 r1 = 0 then
(some ((-1), M2))
else
(tp_bd (fx_X2_copyFrom 28 25 M2) (fun r3 M4 =>
(tp_bd (fx_X10_walkHome 28 15 a1 M4) (fun r5 M6 =>
(tp_lt r5 (fun x7 =>
(if w32 x7 < 0 then
(some (x7, M6))
else
(tp_bd (fx_X4_crossings 5 M6) (fun r8 M9 =>
(tp_bd (fx_X8_tellRow 59 8 r8 M9) (fun r10 M11 =>
(some (x7, M11))))))))))))))))
set_option maxRecDepth 100000 in
set_option maxHeartbeats 4000000 in
theorem ok_X10_home (X : tp_X)  {a1 : Int}  {M : tp_M} {res : Int × tp_M} (h : fx_X10_home  a1 M = some res) : tp_Ret X LC 64 1 yX10_home (Cond.code yX10_home cX10_home 3 (some .int)) 5 [vR X 0, vI a1] M res := by
  refine tp_ofW (by decide +kernel) rfl rfl (by show _ ≤ 3; exact Nat.le_of_ble_eq_true rfl) h (fun Y G => ?_)
  show tp_J X Y LC 64 3 5 1 (fx_X10_home  a1 M) M [(0, vR X 0), (1, vI a1)] [] 0
  unfold fx_X10_home
  refine tj_aload_n (pc := 0) G 0 dX10_home_0 rfl rfl ?_
  refine tj_getR (pc := 1) G (k := 0) (j := 2) (j2 := 2) tk_X10 (by decide) lc_0 rfl (by decide) rfl fl_X10_26 dX10_home_1 ?_
  refine tj_iload_n (pc := 4) G 1 dX10_home_4 rfl rfl ?_
  refine tj_callVi (pc := 5) G [vI a1] mf_X4_hasPost (k := 5) (by decide) lc_5 rfl rfl ml_X10_176 (by decide) rfl rfl (Nat.le_of_ble_eq_true rfl) (fun _ h9 => ok_X4_hasPost X gg_Paths_5 h9) dX10_home_5 (fun r1 M2 => ?_)
  refine tj_if_ne (pc := 8) G (tgt := 13) (a2 := w32 r1) dX10_home_8 (by decide) rfl ?_ ?_
  · refine tj_aload_n (pc := 13) G 0 dX10_home_13 rfl rfl ?_
    refine tj_getR (pc := 14) G (k := 0) (j := 7) (j2 := 7) tk_X10 (by decide) lc_0 rfl (by decide) rfl fl_X10_50 dX10_home_14 ?_
    refine tj_aload_n (pc := 17) G 0 dX10_home_17 rfl rfl ?_
    refine tj_getR (pc := 18) G (k := 0) (j := 6) (j2 := 6) tk_X10 (by decide) lc_0 rfl (by decide) rfl fl_X10_46 dX10_home_18 ?_
    refine tj_callVv (pc := 21) G [vR X 25] mf_X2_copyFrom (k := 28) (by decide) lc_28 rfl rfl ml_X10_201 (by decide) rfl rfl (Nat.le_of_ble_eq_true rfl) (fun _ h9 => ok_X2_copyFrom X gg_Moor_28 gg_Moor_25 h9) dX10_home_21 (fun r3 M4 => ?_)
    refine tj_aload_n (pc := 24) G 0 dX10_home_24 rfl rfl ?_
    refine tj_aload_n (pc := 25) G 0 dX10_home_25 rfl rfl ?_
    refine tj_getR (pc := 26) G (k := 0) (j := 7) (j2 := 7) tk_X10 (by decide) lc_0 rfl (by decide) rfl fl_X10_50 dX10_home_26 ?_
    refine tj_aload_n (pc := 29) G 0 dX10_home_29 rfl rfl ?_
    refine tj_getR (pc := 30) G (k := 0) (j := 4) (j2 := 4) tk_X10 (by decide) lc_0 rfl (by decide) rfl fl_X10_36 dX10_home_30 ?_
    refine tj_iload_n (pc := 33) G 1 dX10_home_33 rfl rfl ?_
    refine tj_callVi (pc := 34) G [vR X 28, vR X 15, vI a1] mf_X10_walkHome (k := 0) (by decide) lc_0 rfl rfl ml_X10_254 (by decide) rfl rfl (Nat.le_of_ble_eq_true rfl) (fun _ h9 => ok_X10_walkHome X gg_Moor_28 gg_Turner_15 h9) dX10_home_34 (fun r5 M6 => ?_)
    refine tj_istore_n (pc := 37) G (fun x7 => [(2, vI x7), (0, vR X 0), (1, vI a1)]) dX10_home_37 rfl (by decide) (fun _ => rfl) (fun x7 => ?_)
    refine tj_iload_n (pc := 38) G 0 dX10_home_38 rfl rfl ?_
    refine tj_if_lt (pc := 39) G (tgt := 60) (a2 := w32 x7) dX10_home_39 (by decide) rfl ?_ ?_
    · refine tj_iload_n (pc := 60) G 0 dX10_home_60 rfl rfl ?_
      exact tj_iret (pc := 61) G dX10_home_61
    refine tj_aload_n (pc := 42) G 1 dX10_home_42 rfl rfl ?_
    refine tj_getR (pc := 43) G (k := 0) (j := 1) (j2 := 1) tk_X10 (by decide) lc_0 rfl (by decide) rfl fl_X10_19 dX10_home_43 ?_
    refine tj_aload_n (pc := 46) G 1 dX10_home_46 rfl rfl ?_
    refine tj_getR (pc := 47) G (k := 0) (j := 14) (j2 := 14) tk_X10 (by decide) lc_0 rfl (by decide) rfl fl_X10_91 dX10_home_47 ?_
    refine tj_aload_n (pc := 50) G 1 dX10_home_50 rfl rfl ?_
    refine tj_getR (pc := 51) G (k := 0) (j := 2) (j2 := 2) tk_X10 (by decide) lc_0 rfl (by decide) rfl fl_X10_26 dX10_home_51 ?_
    refine tj_callVi (pc := 54) G [] mf_X4_crossings (k := 5) (by decide) lc_5 rfl rfl ml_X10_275 (by decide) rfl rfl (Nat.le_of_ble_eq_true rfl) (fun _ h9 => ok_X4_crossings X gg_Paths_5 h9) dX10_home_54 (fun r8 M9 => ?_)
    refine tj_callVv (pc := 57) G [vR X 59, vI r8] mf_X8_tellRow (k := 3) (by decide) lc_3 rfl rfl ml_X10_290 (by decide) rfl rfl (Nat.le_of_ble_eq_true rfl) (fun _ h9 => ok_X8_tellRow X ⟨by decide, lc_59⟩ h9) dX10_home_57 (fun r10 M11 => ?_)
    refine tj_iload_n (pc := 60) G 0 dX10_home_60 rfl rfl ?_
    exact tj_iret (pc := 61) G dX10_home_61
  refine tj_iconst (pc := 11) G dX10_home_11 ?_
  exact tj_iret (pc := 12) G dX10_home_12

def fx_X10_pass_L55 (c1 : Int) (c2 : Int) (c3 : Int) (K109 : Int → Int → tp_M → tp_O) (rec : Int → Int → Int → tp_M → tp_O) (z10 z11 z12 : Int) (M13 : tp_M) : tp_O :=
(if w32 z12 < w32 c3 then
(tp_bd (fx_X10_walkHome 28 15 c1 M13) (fun r16 M17 =>
(tp_lt r16 (fun x18 =>
(if w32 x18 < 0 then
(some (x18, M17))
else
(tp_lt (z11 + x18) (fun x19 =>
(tp_ck (w32 c2) 8 (tp_jn1 (fun y20 M21 => 
(tp_lt (z12 + 1) (fun x22 =>
(rec y20 x19 x22 M21)))) (fun jk103 =>
(if w32 (M17 59 (w32 c2)) ≤ 0 then
(jk103 z10 M17)
else
(tp_lt (z10 + 1) (fun x23 =>
(jk103 x23 M17))))))))))))))
else
(K109 z10 z11 M13))
def fx_X10_pass  (a1 : Int) (a2 : Int) (a3 : Int) (M : tp_M) : tp_O :=
(tp_bd (fx_X4_hasPost 5 a1 M) (fun r1 M2 =>
(if w32 r1 = 0 then
(some ((-1), M2))
else
(tp_bd (fx_X4_hasPost 5 a2 M2) (fun r3 M4 =>
(if w32 r3 = 0 then
(some ((-1), M4))
else
(if w32 a3 < 1 then
(some ((-1), M4))
else
(if w32 a3 ≤ 60 then
(tp_bd (fx_X2_copyFrom 28 25 M4) (fun r5 M6 =>
(tp_lt 0 (fun x7 =>
(tp_lt 0 (fun x8 =>
(tp_lt 0 (fun x9 =>
(tp_lp3 (fx_X10_pass_L55 a1 a2 a3 (fun y14 y15 M24 =>
(tp_bd (fx_X8_tell_ (w32 y15) M24) (fun r25 M26 =>
(some (y14, M26)))))) tp_F x7 x8 x9 M6)))))))))
else
(some ((-1), M4))))))))))
set_option maxRecDepth 100000 in
set_option maxHeartbeats 4000000 in
theorem fx_X10_pass_L55_ok {X : tp_X} {Y : tp_Y} (G : tp_Ok X Y 64 cX10_pass 8 RX10 (some .int))  {c1 : Int} {c2 : Int} {c3 : Int} {K109 : Int → Int → tp_M → tp_O}   (hK109 : ∀ (y14 y15 : Int) (M9 : tp_M), tp_J X Y LC 64 8 5 1 (K109 y14 y15 M9) M9 [(0, vR X 0), (4, vI y14), (5, vI y15)] [] 109) (n : Nat) : ∀ (z10 z11 z12 : Int) (M13 : tp_M), tp_J X Y LC 64 8 5 1 (tp_lp3 (fx_X10_pass_L55  c1 c2 c3 K109) n z10 z11 z12 M13) M13 [(0, vR X 0), (1, vI c1), (2, vI c2), (3, vI c3), (4, vI z10), (5, vI z11), (6, vI z12)] [] 55 := by
  refine tp_lp3_ok (P := fun o z10 z11 z12 M13 => tp_J X Y LC 64 8 5 1 (o) M13 [(0, vR X 0), (1, vI c1), (2, vI c2), (3, vI c3), (4, vI z10), (5, vI z11), (6, vI z12)] [] 55) (fun z10 z11 z12 M13 => tj_none) (fun rec hrec z10 z11 z12 M13 => ?_) n
  unfold fx_X10_pass_L55
  refine tj_iload (pc := 55) G 6 dX10_pass_55 rfl ?_
  refine tj_iload_n (pc := 57) G 3 dX10_pass_57 rfl rfl ?_
  refine tj_icmp_ge (pc := 58) G (tgt := 109) (a2 := w32 z12) (b2 := w32 c3) dX10_pass_58 (by decide) rfl rfl ?_ ?_
  · exact tj_sub [0, 4, 5] rfl (hK109 z10 z11 M13)
  refine tj_aload_n (pc := 61) G 0 dX10_pass_61 rfl rfl ?_
  refine tj_aload_n (pc := 62) G 0 dX10_pass_62 rfl rfl ?_
  refine tj_getR (pc := 63) G (k := 0) (j := 7) (j2 := 7) tk_X10 (by decide) lc_0 rfl (by decide) rfl fl_X10_50 dX10_pass_63 ?_
  refine tj_aload_n (pc := 66) G 0 dX10_pass_66 rfl rfl ?_
  refine tj_getR (pc := 67) G (k := 0) (j := 4) (j2 := 4) tk_X10 (by decide) lc_0 rfl (by decide) rfl fl_X10_36 dX10_pass_67 ?_
  refine tj_iload_n (pc := 70) G 1 dX10_pass_70 rfl rfl ?_
  refine tj_callVi (pc := 71) G [vR X 28, vR X 15, vI c1] mf_X10_walkHome (k := 0) (by decide) lc_0 rfl rfl ml_X10_254 (by decide) rfl rfl (Nat.le_of_ble_eq_true rfl) (fun _ h9 => ok_X10_walkHome X gg_Moor_28 gg_Turner_15 h9) dX10_pass_71 (fun r16 M17 => ?_)
  refine tj_istore (pc := 74) G (fun x18 => [(7, vI x18), (0, vR X 0), (1, vI c1), (2, vI c2), (3, vI c3), (4, vI z10), (5, vI z11), (6, vI z12)]) dX10_pass_74 (by decide) (fun _ => rfl) (fun x18 => ?_)
  refine tj_iload (pc := 76) G 0 dX10_pass_76 rfl ?_
  refine tj_if_ge (pc := 78) G (tgt := 84) (a2 := w32 x18) dX10_pass_78 (by decide) rfl ?_ ?_
  · refine tj_iload (pc := 84) G 6 dX10_pass_84 rfl ?_
    refine tj_iload (pc := 86) G 0 dX10_pass_86 rfl ?_
    refine tj_iadd (pc := 88) G dX10_pass_88 ?_
    refine tj_istore (pc := 89) G (fun x19 => [(5, vI x19), (7, vI x18), (0, vR X 0), (1, vI c1), (2, vI c2), (3, vI c3), (4, vI z10), (6, vI z12)]) dX10_pass_89 (by decide) (fun _ => rfl) (fun x19 => ?_)
    refine tj_aload_n (pc := 91) G 2 dX10_pass_91 rfl rfl ?_
    refine tj_getR (pc := 92) G (k := 0) (j := 14) (j2 := 14) tk_X10 (by decide) lc_0 rfl (by decide) rfl fl_X10_91 dX10_pass_92 ?_
    refine tj_iload_n (pc := 95) G 4 dX10_pass_95 rfl rfl ?_
    refine tj_iald (pc := 96) G (k := 59) (i2 := w32 c2) (n2 := 8) (by decide) lc_59 rfl rfl dX10_pass_96 ?_
    refine tj_jn1 (fun y20 => [(0, vR X 0), (1, vI c1), (2, vI c2), (3, vI c3), (4, vI y20), (5, vI x19), (6, vI z12)]) (fun y20 => []) 103 (fun y20 M21 => ?_) (fun jk103 hj103 => ?_)
    · refine tj_iinc (pc := 103) G 6 (fun x22 => [(6, vI x22), (0, vR X 0), (1, vI c1), (2, vI c2), (3, vI c3), (4, vI y20), (5, vI x19)]) dX10_pass_103 rfl (by decide) (fun _ => rfl) (fun x22 => ?_)
      refine tj_goto (pc := 106) G (tgt := 55) dX10_pass_106 (by decide) ?_
      exact tj_sub [1, 2, 3, 4, 5, 6, 0] rfl (hrec y20 x19 x22 M21)
    refine tj_if_le (pc := 97) G (tgt := 103) (a2 := w32 (M17 59 (w32 c2))) dX10_pass_97 (by decide) rfl ?_ ?_
    · exact tj_sub [2, 3, 4, 5, 6, 0, 7] rfl (hj103 z10 M17)
    refine tj_iinc (pc := 100) G 6 (fun x23 => [(4, vI x23), (5, vI x19), (7, vI x18), (0, vR X 0), (1, vI c1), (2, vI c2), (3, vI c3), (6, vI z12)]) dX10_pass_100 rfl (by decide) (fun _ => rfl) (fun x23 => ?_)
    exact tj_sub [3, 4, 5, 6, 0, 1, 7] rfl (hj103 x23 M17)
  refine tj_iload (pc := 81) G 0 dX10_pass_81 rfl ?_
  exact tj_iret (pc := 83) G dX10_pass_83
set_option maxRecDepth 100000 in
set_option maxHeartbeats 4000000 in
theorem ok_X10_pass (X : tp_X)  {a1 : Int} {a2 : Int} {a3 : Int}  {M : tp_M} {res : Int × tp_M} (h : fx_X10_pass  a1 a2 a3 M = some res) : tp_Ret X LC 64 1 yX10_pass (Cond.code yX10_pass cX10_pass 8 (some .int)) 5 [vR X 0, vI a1, vI a2, vI a3] M res := by
  refine tp_ofW (by decide +kernel) rfl rfl (by show _ ≤ 8; exact Nat.le_of_ble_eq_true rfl) h (fun Y G => ?_)
  show tp_J X Y LC 64 8 5 1 (fx_X10_pass  a1 a2 a3 M) M [(0, vR X 0), (1, vI a1), (2, vI a2), (3, vI a3)] [] 0
  unfold fx_X10_pass
  refine tj_aload_n (pc := 0) G 0 dX10_pass_0 rfl rfl ?_
  refine tj_getR (pc := 1) G (k := 0) (j := 2) (j2 := 2) tk_X10 (by decide) lc_0 rfl (by decide) rfl fl_X10_26 dX10_pass_1 ?_
  refine tj_iload_n (pc := 4) G 1 dX10_pass_4 rfl rfl ?_
  refine tj_callVi (pc := 5) G [vI a1] mf_X4_hasPost (k := 5) (by decide) lc_5 rfl rfl ml_X10_176 (by decide) rfl rfl (Nat.le_of_ble_eq_true rfl) (fun _ h9 => ok_X4_hasPost X gg_Paths_5 h9) dX10_pass_5 (fun r1 M2 => ?_)
  refine tj_if_eq (pc := 8) G (tgt := 33) (a2 := w32 r1) dX10_pass_8 (by decide) rfl ?_ ?_
  · refine tj_iconst (pc := 33) G dX10_pass_33 ?_
    exact tj_iret (pc := 34) G dX10_pass_34
  refine tj_aload_n (pc := 11) G 0 dX10_pass_11 rfl rfl ?_
  refine tj_getR (pc := 12) G (k := 0) (j := 2) (j2 := 2) tk_X10 (by decide) lc_0 rfl (by decide) rfl fl_X10_26 dX10_pass_12 ?_
  refine tj_iload_n (pc := 15) G 2 dX10_pass_15 rfl rfl ?_
  refine tj_callVi (pc := 16) G [vI a2] mf_X4_hasPost (k := 5) (by decide) lc_5 rfl rfl ml_X10_176 (by decide) rfl rfl (Nat.le_of_ble_eq_true rfl) (fun _ h9 => ok_X4_hasPost X gg_Paths_5 h9) dX10_pass_16 (fun r3 M4 => ?_)
  refine tj_if_eq (pc := 19) G (tgt := 33) (a2 := w32 r3) dX10_pass_19 (by decide) rfl ?_ ?_
  · refine tj_iconst (pc := 33) G dX10_pass_33 ?_
    exact tj_iret (pc := 34) G dX10_pass_34
  refine tj_iload_n (pc := 22) G 3 dX10_pass_22 rfl rfl ?_
  refine tj_iconst (pc := 23) G dX10_pass_23 ?_
  refine tj_icmp_lt (pc := 24) G (tgt := 33) (a2 := w32 a3) (b2 := 1) dX10_pass_24 (by decide) rfl rfl ?_ ?_
  · refine tj_iconst (pc := 33) G dX10_pass_33 ?_
    exact tj_iret (pc := 34) G dX10_pass_34
  refine tj_iload_n (pc := 27) G 3 dX10_pass_27 rfl rfl ?_
  refine tj_bipush (pc := 28) G dX10_pass_28 rfl ?_
  refine tj_icmp_le (pc := 30) G (tgt := 35) (a2 := w32 a3) (b2 := 60) dX10_pass_30 (by decide) rfl rfl ?_ ?_
  · refine tj_aload_n (pc := 35) G 0 dX10_pass_35 rfl rfl ?_
    refine tj_getR (pc := 36) G (k := 0) (j := 7) (j2 := 7) tk_X10 (by decide) lc_0 rfl (by decide) rfl fl_X10_50 dX10_pass_36 ?_
    refine tj_aload_n (pc := 39) G 0 dX10_pass_39 rfl rfl ?_
    refine tj_getR (pc := 40) G (k := 0) (j := 6) (j2 := 6) tk_X10 (by decide) lc_0 rfl (by decide) rfl fl_X10_46 dX10_pass_40 ?_
    refine tj_callVv (pc := 43) G [vR X 25] mf_X2_copyFrom (k := 28) (by decide) lc_28 rfl rfl ml_X10_201 (by decide) rfl rfl (Nat.le_of_ble_eq_true rfl) (fun _ h9 => ok_X2_copyFrom X gg_Moor_28 gg_Moor_25 h9) dX10_pass_43 (fun r5 M6 => ?_)
    refine tj_iconst (pc := 46) G dX10_pass_46 ?_
    refine tj_istore (pc := 47) G (fun x7 => [(4, vI x7), (0, vR X 0), (1, vI a1), (2, vI a2), (3, vI a3)]) dX10_pass_47 (by decide) (fun _ => rfl) (fun x7 => ?_)
    refine tj_iconst (pc := 49) G dX10_pass_49 ?_
    refine tj_istore (pc := 50) G (fun x8 => [(5, vI x8), (4, vI x7), (0, vR X 0), (1, vI a1), (2, vI a2), (3, vI a3)]) dX10_pass_50 (by decide) (fun _ => rfl) (fun x8 => ?_)
    refine tj_iconst (pc := 52) G dX10_pass_52 ?_
    refine tj_istore (pc := 53) G (fun x9 => [(6, vI x9), (5, vI x8), (4, vI x7), (0, vR X 0), (1, vI a1), (2, vI a2), (3, vI a3)]) dX10_pass_53 (by decide) (fun _ => rfl) (fun x9 => ?_)
    refine tj_sub [3, 4, 5, 6, 2, 1, 0] rfl (fx_X10_pass_L55_ok G    (fun y14 y15 M24 => ?_) tp_F x7 x8 x9 M6)
    refine tj_aload_n (pc := 109) G 0 dX10_pass_109 rfl rfl ?_
    refine tj_getR (pc := 110) G (k := 0) (j := 1) (j2 := 1) tk_X10 (by decide) lc_0 rfl (by decide) rfl fl_X10_19 dX10_pass_110 ?_
    refine tj_iload (pc := 113) G 2 dX10_pass_113 rfl ?_
    refine tj_i2l (pc := 115) G (b := w32 y15) dX10_pass_115 rfl ?_
    refine tj_callVv (pc := 116) G [vL (w32 y15)] mf_X8_tell_ (k := 3) (by decide) lc_3 rfl rfl ml_X10_258 (by decide) rfl rfl (Nat.le_of_ble_eq_true rfl) (fun _ h9 => ok_X8_tell_ X  h9) dX10_pass_116 (fun r25 M26 => ?_)
    refine tj_iload (pc := 119) G 1 dX10_pass_119 rfl ?_
    exact tj_iret (pc := 121) G dX10_pass_121
  refine tj_iconst (pc := 33) G dX10_pass_33 ?_
  exact tj_iret (pc := 34) G dX10_pass_34

def fx_X10_round_L28 (c1 : Int) (K77 : Int → Int → tp_M → tp_O) (rec : Int → Int → tp_M → tp_O) (z7 z8 : Int) (M9 : tp_M) : tp_O :=
(if w32 z8 ≤ 300 then
(tp_bd (fx_X10_walkHome 28 15 c1 M9) (fun r12 M13 =>
(tp_lt r12 (fun x14 =>
(if w32 x14 < 0 then
(some (x14, M13))
else
(tp_lt (z7 + x14) (fun x15 =>
(tp_bd (fx_X2_hasPostsOf 28 25 M13) (fun r16 M17 =>
(if w32 r16 = 0 then
(tp_lt (z8 + 1) (fun x18 =>
(rec x15 x18 M17)))
else
(K77 x15 z8 M17)))))))))))
else
(some ((-2), M9)))
def fx_X10_round  (a1 : Int) (M : tp_M) : tp_O :=
(tp_bd (fx_X4_hasPost 5 a1 M) (fun r1 M2 =>
(if w32 r1 = 0 then
(some ((-1), M2))
else
(tp_bd (fx_X2_copyFrom 28 25 M2) (fun r3 M4 =>
(tp_lt 0 (fun x5 =>
(tp_lt 1 (fun x6 =>
(tp_lp2 (fx_X10_round_L28 a1 (fun y10 y11 M19 =>
(tp_bd (fx_X8_tell_ (w32 y10) M19) (fun r20 M21 =>
(some (y11, M21)))))) tp_F x5 x6 M4))))))))))
set_option maxRecDepth 100000 in
set_option maxHeartbeats 4000000 in
theorem fx_X10_round_L28_ok {X : tp_X} {Y : tp_Y} (G : tp_Ok X Y 64 cX10_round 5 RX10 (some .int))  {c1 : Int} {K77 : Int → Int → tp_M → tp_O}   (hK77 : ∀ (y10 y11 : Int) (M9 : tp_M), tp_J X Y LC 64 5 5 1 (K77 y10 y11 M9) M9 [(0, vR X 0), (2, vI y10), (3, vI y11)] [] 77) (n : Nat) : ∀ (z7 z8 : Int) (M9 : tp_M), tp_J X Y LC 64 5 5 1 (tp_lp2 (fx_X10_round_L28  c1 K77) n z7 z8 M9) M9 [(0, vR X 0), (1, vI c1), (2, vI z7), (3, vI z8)] [] 28 := by
  refine tp_lp2_ok (P := fun o z7 z8 M9 => tp_J X Y LC 64 5 5 1 (o) M9 [(0, vR X 0), (1, vI c1), (2, vI z7), (3, vI z8)] [] 28) (fun z7 z8 M9 => tj_none) (fun rec hrec z7 z8 M9 => ?_) n
  unfold fx_X10_round_L28
  refine tj_iload_n (pc := 28) G 3 dX10_round_28 rfl rfl ?_
  refine tj_sipush (pc := 29) G dX10_round_29 rfl ?_
  refine tj_icmp_gt (pc := 32) G (tgt := 94) (a2 := w32 z8) (b2 := 300) dX10_round_32 (by decide) rfl rfl ?_ ?_
  · refine tj_bipush (pc := 94) G dX10_round_94 rfl ?_
    exact tj_iret (pc := 96) G dX10_round_96
  refine tj_aload_n (pc := 35) G 0 dX10_round_35 rfl rfl ?_
  refine tj_aload_n (pc := 36) G 0 dX10_round_36 rfl rfl ?_
  refine tj_getR (pc := 37) G (k := 0) (j := 7) (j2 := 7) tk_X10 (by decide) lc_0 rfl (by decide) rfl fl_X10_50 dX10_round_37 ?_
  refine tj_aload_n (pc := 40) G 0 dX10_round_40 rfl rfl ?_
  refine tj_getR (pc := 41) G (k := 0) (j := 4) (j2 := 4) tk_X10 (by decide) lc_0 rfl (by decide) rfl fl_X10_36 dX10_round_41 ?_
  refine tj_iload_n (pc := 44) G 1 dX10_round_44 rfl rfl ?_
  refine tj_callVi (pc := 45) G [vR X 28, vR X 15, vI c1] mf_X10_walkHome (k := 0) (by decide) lc_0 rfl rfl ml_X10_254 (by decide) rfl rfl (Nat.le_of_ble_eq_true rfl) (fun _ h9 => ok_X10_walkHome X gg_Moor_28 gg_Turner_15 h9) dX10_round_45 (fun r12 M13 => ?_)
  refine tj_istore (pc := 48) G (fun x14 => [(4, vI x14), (0, vR X 0), (1, vI c1), (2, vI z7), (3, vI z8)]) dX10_round_48 (by decide) (fun _ => rfl) (fun x14 => ?_)
  refine tj_iload (pc := 50) G 0 dX10_round_50 rfl ?_
  refine tj_if_ge (pc := 52) G (tgt := 58) (a2 := w32 x14) dX10_round_52 (by decide) rfl ?_ ?_
  · refine tj_iload_n (pc := 58) G 3 dX10_round_58 rfl rfl ?_
    refine tj_iload (pc := 59) G 0 dX10_round_59 rfl ?_
    refine tj_iadd (pc := 61) G dX10_round_61 ?_
    refine tj_istore_n (pc := 62) G (fun x15 => [(2, vI x15), (4, vI x14), (0, vR X 0), (1, vI c1), (3, vI z8)]) dX10_round_62 rfl (by decide) (fun _ => rfl) (fun x15 => ?_)
    refine tj_aload_n (pc := 63) G 2 dX10_round_63 rfl rfl ?_
    refine tj_getR (pc := 64) G (k := 0) (j := 7) (j2 := 7) tk_X10 (by decide) lc_0 rfl (by decide) rfl fl_X10_50 dX10_round_64 ?_
    refine tj_aload_n (pc := 67) G 2 dX10_round_67 rfl rfl ?_
    refine tj_getR (pc := 68) G (k := 0) (j := 6) (j2 := 6) tk_X10 (by decide) lc_0 rfl (by decide) rfl fl_X10_46 dX10_round_68 ?_
    refine tj_callVi (pc := 71) G [vR X 25] mf_X2_hasPostsOf (k := 28) (by decide) lc_28 rfl rfl ml_X10_310 (by decide) rfl rfl (Nat.le_of_ble_eq_true rfl) (fun _ h9 => ok_X2_hasPostsOf X gg_Moor_28 gg_Moor_25 h9) dX10_round_71 (fun r16 M17 => ?_)
    refine tj_if_eq (pc := 74) G (tgt := 88) (a2 := w32 r16) dX10_round_74 (by decide) rfl ?_ ?_
    · refine tj_iinc (pc := 88) G 4 (fun x18 => [(3, vI x18), (2, vI x15), (4, vI x14), (0, vR X 0), (1, vI c1)]) dX10_round_88 rfl (by decide) (fun _ => rfl) (fun x18 => ?_)
      refine tj_goto (pc := 91) G (tgt := 28) dX10_round_91 (by decide) ?_
      exact tj_sub [3, 4, 1, 0] rfl (hrec x15 x18 M17)
    exact tj_sub [2, 0, 4] rfl (hK77 x15 z8 M17)
  refine tj_iload (pc := 55) G 0 dX10_round_55 rfl ?_
  exact tj_iret (pc := 57) G dX10_round_57
set_option maxRecDepth 100000 in
set_option maxHeartbeats 4000000 in
theorem ok_X10_round (X : tp_X)  {a1 : Int}  {M : tp_M} {res : Int × tp_M} (h : fx_X10_round  a1 M = some res) : tp_Ret X LC 64 1 yX10_round (Cond.code yX10_round cX10_round 5 (some .int)) 5 [vR X 0, vI a1] M res := by
  refine tp_ofW (by decide +kernel) rfl rfl (by show _ ≤ 5; exact Nat.le_of_ble_eq_true rfl) h (fun Y G => ?_)
  show tp_J X Y LC 64 5 5 1 (fx_X10_round  a1 M) M [(0, vR X 0), (1, vI a1)] [] 0
  unfold fx_X10_round
  refine tj_aload_n (pc := 0) G 0 dX10_round_0 rfl rfl ?_
  refine tj_getR (pc := 1) G (k := 0) (j := 2) (j2 := 2) tk_X10 (by decide) lc_0 rfl (by decide) rfl fl_X10_26 dX10_round_1 ?_
  refine tj_iload_n (pc := 4) G 1 dX10_round_4 rfl rfl ?_
  refine tj_callVi (pc := 5) G [vI a1] mf_X4_hasPost (k := 5) (by decide) lc_5 rfl rfl ml_X10_176 (by decide) rfl rfl (Nat.le_of_ble_eq_true rfl) (fun _ h9 => ok_X4_hasPost X gg_Paths_5 h9) dX10_round_5 (fun r1 M2 => ?_)
  refine tj_if_ne (pc := 8) G (tgt := 13) (a2 := w32 r1) dX10_round_8 (by decide) rfl ?_ ?_
  · refine tj_aload_n (pc := 13) G 0 dX10_round_13 rfl rfl ?_
    refine tj_getR (pc := 14) G (k := 0) (j := 7) (j2 := 7) tk_X10 (by decide) lc_0 rfl (by decide) rfl fl_X10_50 dX10_round_14 ?_
    refine tj_aload_n (pc := 17) G 0 dX10_round_17 rfl rfl ?_
    refine tj_getR (pc := 18) G (k := 0) (j := 6) (j2 := 6) tk_X10 (by decide) lc_0 rfl (by decide) rfl fl_X10_46 dX10_round_18 ?_
    refine tj_callVv (pc := 21) G [vR X 25] mf_X2_copyFrom (k := 28) (by decide) lc_28 rfl rfl ml_X10_201 (by decide) rfl rfl (Nat.le_of_ble_eq_true rfl) (fun _ h9 => ok_X2_copyFrom X gg_Moor_28 gg_Moor_25 h9) dX10_round_21 (fun r3 M4 => ?_)
    refine tj_iconst (pc := 24) G dX10_round_24 ?_
    refine tj_istore_n (pc := 25) G (fun x5 => [(2, vI x5), (0, vR X 0), (1, vI a1)]) dX10_round_25 rfl (by decide) (fun _ => rfl) (fun x5 => ?_)
    refine tj_iconst (pc := 26) G dX10_round_26 ?_
    refine tj_istore_n (pc := 27) G (fun x6 => [(3, vI x6), (2, vI x5), (0, vR X 0), (1, vI a1)]) dX10_round_27 rfl (by decide) (fun _ => rfl) (fun x6 => ?_)
    refine tj_sub [2, 3, 1, 0] rfl (fx_X10_round_L28_ok G    (fun y10 y11 M19 => ?_) tp_F x5 x6 M4)
    refine tj_aload_n (pc := 77) G 0 dX10_round_77 rfl rfl ?_
    refine tj_getR (pc := 78) G (k := 0) (j := 1) (j2 := 1) tk_X10 (by decide) lc_0 rfl (by decide) rfl fl_X10_19 dX10_round_78 ?_
    refine tj_iload_n (pc := 81) G 1 dX10_round_81 rfl rfl ?_
    refine tj_i2l (pc := 82) G (b := w32 y10) dX10_round_82 rfl ?_
    refine tj_callVv (pc := 83) G [vL (w32 y10)] mf_X8_tell_ (k := 3) (by decide) lc_3 rfl rfl ml_X10_258 (by decide) rfl rfl (Nat.le_of_ble_eq_true rfl) (fun _ h9 => ok_X8_tell_ X  h9) dX10_round_83 (fun r20 M21 => ?_)
    refine tj_iload_n (pc := 86) G 2 dX10_round_86 rfl rfl ?_
    exact tj_iret (pc := 87) G dX10_round_87
  refine tj_iconst (pc := 11) G dX10_round_11 ?_
  exact tj_iret (pc := 12) G dX10_round_12

def fx_J6_bitCount_0f7a4  (a1 : Int) (M : tp_M) : tp_O :=
(tp_lt (a1 - (x_and (x_ushr a1 1) 1431655765)) (fun x1 =>
(tp_lt ((x_and x1 858993459) + (x_and (x_ushr x1 2) 858993459)) (fun x2 =>
(tp_lt (x_and (x2 + (x_ushr x2 4)) 252645135) (fun x3 =>
(tp_lt (x3 + (x_ushr x3 8)) (fun x4 =>
(tp_lt (x4 + (x_ushr x4 16)) (fun x5 =>
(some (x_and x5 63, M))))))))))))
set_option maxRecDepth 100000 in
set_option maxHeartbeats 4000000 in
theorem ok_J6_bitCount_0f7a4 {L : Nat → tp_K} {N : Nat} (X : tp_X)  {a1 : Int}  {M : tp_M} {res : Int × tp_M} (h : fx_J6_bitCount_0f7a4  a1 M = some res) : tp_Ret X L N 1 yJ6_bitCount_0f7a4 (Cond.code yJ6_bitCount_0f7a4 cJ6_bitCount_0f7a4 1 (some .int)) 1 [vI a1] M res := by
  refine tp_ofW (by decide +kernel) rfl rfl (by show _ ≤ 1; exact Nat.le_of_ble_eq_true rfl) h (fun Y G => ?_)
  show tp_J X Y L N 1 1 1 (fx_J6_bitCount_0f7a4  a1 M) M [(0, vI a1)] [] 0
  unfold fx_J6_bitCount_0f7a4
  refine tj_iload_n (pc := 0) G 0 dJ6_bitCount_0f7a4_0 rfl rfl ?_
  refine tj_iload_n (pc := 1) G 0 dJ6_bitCount_0f7a4_1 rfl rfl ?_
  refine tj_iconst (pc := 2) G dJ6_bitCount_0f7a4_2 ?_
  refine tj_iushr (pc := 3) G dJ6_bitCount_0f7a4_3 ?_
  refine tj_ldcw (pc := 4) G (v := 1431655765) dJ6_bitCount_0f7a4_4 ct_J6_265 rfl ?_
  refine tj_iand (pc := 7) G dJ6_bitCount_0f7a4_7 ?_
  refine tj_isub (pc := 8) G dJ6_bitCount_0f7a4_8 ?_
  refine tj_istore_n (pc := 9) G (fun x1 => [(0, vI x1)]) dJ6_bitCount_0f7a4_9 rfl (by decide) (fun _ => rfl) (fun x1 => ?_)
  refine tj_iload_n (pc := 10) G 0 dJ6_bitCount_0f7a4_10 rfl rfl ?_
  refine tj_ldcw (pc := 11) G (v := 858993459) dJ6_bitCount_0f7a4_11 ct_J6_266 rfl ?_
  refine tj_iand (pc := 14) G dJ6_bitCount_0f7a4_14 ?_
  refine tj_iload_n (pc := 15) G 0 dJ6_bitCount_0f7a4_15 rfl rfl ?_
  refine tj_iconst (pc := 16) G dJ6_bitCount_0f7a4_16 ?_
  refine tj_iushr (pc := 17) G dJ6_bitCount_0f7a4_17 ?_
  refine tj_ldcw (pc := 18) G (v := 858993459) dJ6_bitCount_0f7a4_18 ct_J6_266 rfl ?_
  refine tj_iand (pc := 21) G dJ6_bitCount_0f7a4_21 ?_
  refine tj_iadd (pc := 22) G dJ6_bitCount_0f7a4_22 ?_
  refine tj_istore_n (pc := 23) G (fun x2 => [(0, vI x2)]) dJ6_bitCount_0f7a4_23 rfl (by decide) (fun _ => rfl) (fun x2 => ?_)
  refine tj_iload_n (pc := 24) G 0 dJ6_bitCount_0f7a4_24 rfl rfl ?_
  refine tj_iload_n (pc := 25) G 0 dJ6_bitCount_0f7a4_25 rfl rfl ?_
  refine tj_iconst (pc := 26) G dJ6_bitCount_0f7a4_26 ?_
  refine tj_iushr (pc := 27) G dJ6_bitCount_0f7a4_27 ?_
  refine tj_iadd (pc := 28) G dJ6_bitCount_0f7a4_28 ?_
  refine tj_ldcw (pc := 29) G (v := 252645135) dJ6_bitCount_0f7a4_29 ct_J6_267 rfl ?_
  refine tj_iand (pc := 32) G dJ6_bitCount_0f7a4_32 ?_
  refine tj_istore_n (pc := 33) G (fun x3 => [(0, vI x3)]) dJ6_bitCount_0f7a4_33 rfl (by decide) (fun _ => rfl) (fun x3 => ?_)
  refine tj_iload_n (pc := 34) G 0 dJ6_bitCount_0f7a4_34 rfl rfl ?_
  refine tj_iload_n (pc := 35) G 0 dJ6_bitCount_0f7a4_35 rfl rfl ?_
  refine tj_bipush (pc := 36) G dJ6_bitCount_0f7a4_36 rfl ?_
  refine tj_iushr (pc := 38) G dJ6_bitCount_0f7a4_38 ?_
  refine tj_iadd (pc := 39) G dJ6_bitCount_0f7a4_39 ?_
  refine tj_istore_n (pc := 40) G (fun x4 => [(0, vI x4)]) dJ6_bitCount_0f7a4_40 rfl (by decide) (fun _ => rfl) (fun x4 => ?_)
  refine tj_iload_n (pc := 41) G 0 dJ6_bitCount_0f7a4_41 rfl rfl ?_
  refine tj_iload_n (pc := 42) G 0 dJ6_bitCount_0f7a4_42 rfl rfl ?_
  refine tj_bipush (pc := 43) G dJ6_bitCount_0f7a4_43 rfl ?_
  refine tj_iushr (pc := 45) G dJ6_bitCount_0f7a4_45 ?_
  refine tj_iadd (pc := 46) G dJ6_bitCount_0f7a4_46 ?_
  refine tj_istore_n (pc := 47) G (fun x5 => [(0, vI x5)]) dJ6_bitCount_0f7a4_47 rfl (by decide) (fun _ => rfl) (fun x5 => ?_)
  refine tj_iload_n (pc := 48) G 0 dJ6_bitCount_0f7a4_48 rfl rfl ?_
  refine tj_bipush (pc := 49) G dJ6_bitCount_0f7a4_49 rfl ?_
  refine tj_iand (pc := 51) G dJ6_bitCount_0f7a4_51 ?_
  exact tj_iret (pc := 52) G dJ6_bitCount_0f7a4_52

def fx_X10_trackOf_L7  (rec : Int → Int → Int → tp_M → tp_O) (z4 z5 z6 : Int) (M7 : tp_M) : tp_O :=
(if w32 z6 < 8 then
(if w32 (x_and z4 (x_shl 1 z5)) = 0 then
(tp_lt (x_or z4 (x_shl 1 z5)) (fun x8 =>
(tp_bd (fx_X4_hasPost 5 z5 M7) (fun r9 M10 =>
(tp_jn1 (fun y11 M12 => 
(tp_lt (z6 + 1) (fun x13 =>
(rec x8 y11 x13 M12)))) (fun jk57 =>
(if w32 r9 = 0 then
(jk57 z5 M10)
else
(tp_ck (w32 z5) 8 (tp_bd (fx_X4_goal 5 z5 (M10 26 (w32 z5)) M10) (fun r14 M15 =>
(tp_lt r14 (fun x16 =>
(jk57 x16 M15)))))))))))))
else
(some (z4, M7)))
else
(some (z4, M7)))
def fx_X10_trackOf  (a1 : Int) (M : tp_M) : tp_O :=
(tp_lt 0 (fun x1 =>
(tp_lt a1 (fun x2 =>
(tp_lt 0 (fun x3 =>
(tp_lp3 (fx_X10_trackOf_L7  ) tp_F x1 x2 x3 M)))))))
set_option maxRecDepth 100000 in
set_option maxHeartbeats 4000000 in
theorem fx_X10_trackOf_L7_ok {X : tp_X} {Y : tp_Y} (G : tp_Ok X Y 64 cX10_trackOf 5 RX10 (some .int))      (n : Nat) : ∀ (z4 z5 z6 : Int) (M7 : tp_M), tp_J X Y LC 64 5 3 1 (tp_lp3 (fx_X10_trackOf_L7   ) n z4 z5 z6 M7) M7 [(0, vR X 0), (2, vI z4), (3, vI z5), (4, vI z6)] [] 7 := by
  refine tp_lp3_ok (P := fun o z4 z5 z6 M7 => tp_J X Y LC 64 5 3 1 (o) M7 [(0, vR X 0), (2, vI z4), (3, vI z5), (4, vI z6)] [] 7) (fun z4 z5 z6 M7 => tj_none) (fun rec hrec z4 z5 z6 M7 => ?_) n
  unfold fx_X10_trackOf_L7
  refine tj_iload (pc := 7) G 3 dX10_trackOf_7 rfl ?_
  refine tj_bipush (pc := 9) G dX10_trackOf_9 rfl ?_
  refine tj_icmp_ge (pc := 11) G (tgt := 63) (a2 := w32 z6) (b2 := 8) dX10_trackOf_11 (by decide) rfl rfl ?_ ?_
  · refine tj_iload_n (pc := 63) G 1 dX10_trackOf_63 rfl rfl ?_
    exact tj_iret (pc := 64) G dX10_trackOf_64
  refine tj_iload_n (pc := 14) G 1 dX10_trackOf_14 rfl rfl ?_
  refine tj_iconst (pc := 15) G dX10_trackOf_15 ?_
  refine tj_iload_n (pc := 16) G 2 dX10_trackOf_16 rfl rfl ?_
  refine tj_ishl (pc := 17) G dX10_trackOf_17 ?_
  refine tj_iand (pc := 18) G dX10_trackOf_18 ?_
  refine tj_if_ne (pc := 19) G (tgt := 63) (a2 := w32 (x_and z4 (x_shl 1 z5))) dX10_trackOf_19 (by decide) rfl ?_ ?_
  · refine tj_iload_n (pc := 63) G 1 dX10_trackOf_63 rfl rfl ?_
    exact tj_iret (pc := 64) G dX10_trackOf_64
  refine tj_iload_n (pc := 22) G 1 dX10_trackOf_22 rfl rfl ?_
  refine tj_iconst (pc := 23) G dX10_trackOf_23 ?_
  refine tj_iload_n (pc := 24) G 2 dX10_trackOf_24 rfl rfl ?_
  refine tj_ishl (pc := 25) G dX10_trackOf_25 ?_
  refine tj_ior (pc := 26) G dX10_trackOf_26 ?_
  refine tj_istore_n (pc := 27) G (fun x8 => [(2, vI x8), (0, vR X 0), (3, vI z5), (4, vI z6)]) dX10_trackOf_27 rfl (by decide) (fun _ => rfl) (fun x8 => ?_)
  refine tj_aload_n (pc := 28) G 1 dX10_trackOf_28 rfl rfl ?_
  refine tj_getR (pc := 29) G (k := 0) (j := 2) (j2 := 2) tk_X10 (by decide) lc_0 rfl (by decide) rfl fl_X10_26 dX10_trackOf_29 ?_
  refine tj_iload_n (pc := 32) G 2 dX10_trackOf_32 rfl rfl ?_
  refine tj_callVi (pc := 33) G [vI z5] mf_X4_hasPost (k := 5) (by decide) lc_5 rfl rfl ml_X10_176 (by decide) rfl rfl (Nat.le_of_ble_eq_true rfl) (fun _ h9 => ok_X4_hasPost X gg_Paths_5 h9) dX10_trackOf_33 (fun r9 M10 => ?_)
  refine tj_jn1 (fun y11 => [(0, vR X 0), (2, vI x8), (3, vI y11), (4, vI z6)]) (fun y11 => []) 57 (fun y11 M12 => ?_) (fun jk57 hj57 => ?_)
  · refine tj_iinc (pc := 57) G 3 (fun x13 => [(4, vI x13), (0, vR X 0), (2, vI x8), (3, vI y11)]) dX10_trackOf_57 rfl (by decide) (fun _ => rfl) (fun x13 => ?_)
    refine tj_goto (pc := 60) G (tgt := 7) dX10_trackOf_60 (by decide) ?_
    exact tj_sub [1, 2, 3, 0] rfl (hrec x8 y11 x13 M12)
  refine tj_if_eq (pc := 36) G (tgt := 57) (a2 := w32 r9) dX10_trackOf_36 (by decide) rfl ?_ ?_
  · exact tj_sub [1, 0, 2, 3] rfl (hj57 z5 M10)
  refine tj_aload_n (pc := 39) G 1 dX10_trackOf_39 rfl rfl ?_
  refine tj_getR (pc := 40) G (k := 0) (j := 2) (j2 := 2) tk_X10 (by decide) lc_0 rfl (by decide) rfl fl_X10_26 dX10_trackOf_40 ?_
  refine tj_iload_n (pc := 43) G 2 dX10_trackOf_43 rfl rfl ?_
  refine tj_aload_n (pc := 44) G 1 dX10_trackOf_44 rfl rfl ?_
  refine tj_getR (pc := 45) G (k := 0) (j := 6) (j2 := 6) tk_X10 (by decide) lc_0 rfl (by decide) rfl fl_X10_46 dX10_trackOf_45 ?_
  refine tj_getRN (pc := 48) G (k := 25) (j := 0) (j2 := 0) tk_X2 (by decide) lc_25 rfl (by decide) rfl fn_X10_160 dX10_trackOf_48 ?_
  refine tj_iload_n (pc := 51) G 2 dX10_trackOf_51 rfl rfl ?_
  refine tj_iald (pc := 52) G (k := 26) (i2 := w32 z5) (n2 := 8) (by decide) lc_26 rfl rfl dX10_trackOf_52 ?_
  refine tj_callVi (pc := 53) G [vI z5, vI (M10 26 (w32 z5))] mf_X4_goal (k := 5) (by decide) lc_5 rfl rfl ml_X10_163 (by decide) rfl rfl (Nat.le_of_ble_eq_true rfl) (fun _ h9 => ok_X4_goal X gg_Paths_5 h9) dX10_trackOf_53 (fun r14 M15 => ?_)
  refine tj_istore_n (pc := 56) G (fun x16 => [(3, vI x16), (2, vI x8), (0, vR X 0), (4, vI z6)]) dX10_trackOf_56 rfl (by decide) (fun _ => rfl) (fun x16 => ?_)
  exact tj_sub [2, 1, 0, 3] rfl (hj57 x16 M15)
set_option maxRecDepth 100000 in
set_option maxHeartbeats 4000000 in
theorem ok_X10_trackOf (X : tp_X)  {a1 : Int}  {M : tp_M} {res : Int × tp_M} (h : fx_X10_trackOf  a1 M = some res) : tp_Ret X LC 64 1 yX10_trackOf (Cond.code yX10_trackOf cX10_trackOf 5 (some .int)) 3 [vR X 0, vI a1] M res := by
  refine tp_ofW (by decide +kernel) rfl rfl (by show _ ≤ 5; exact Nat.le_of_ble_eq_true rfl) h (fun Y G => ?_)
  show tp_J X Y LC 64 5 3 1 (fx_X10_trackOf  a1 M) M [(0, vR X 0), (1, vI a1)] [] 0
  unfold fx_X10_trackOf
  refine tj_iconst (pc := 0) G dX10_trackOf_0 ?_
  refine tj_istore_n (pc := 1) G (fun x1 => [(2, vI x1), (0, vR X 0), (1, vI a1)]) dX10_trackOf_1 rfl (by decide) (fun _ => rfl) (fun x1 => ?_)
  refine tj_iload_n (pc := 2) G 2 dX10_trackOf_2 rfl rfl ?_
  refine tj_istore_n (pc := 3) G (fun x2 => [(3, vI x2), (2, vI x1), (0, vR X 0), (1, vI a1)]) dX10_trackOf_3 rfl (by decide) (fun _ => rfl) (fun x2 => ?_)
  refine tj_iconst (pc := 4) G dX10_trackOf_4 ?_
  refine tj_istore (pc := 5) G (fun x3 => [(4, vI x3), (3, vI x2), (2, vI x1), (0, vR X 0), (1, vI a1)]) dX10_trackOf_5 (by decide) (fun _ => rfl) (fun x3 => ?_)
  refine tj_sub [3, 2, 1, 0] rfl (fx_X10_trackOf_L7_ok G     tp_F x1 x2 x3 M)

def fx_X10_follows  (a1 : Int) (M : tp_M) : tp_O :=
(tp_bd (fx_X4_hasPost 5 a1 M) (fun r1 M2 =>
(if w32 r1 = 0 then
(some ((-1), M2))
else
(tp_bd (fx_X10_trackOf a1 M2) (fun r3 M4 =>
(tp_lt r3 (fun x5 =>
(tp_lt (x_and x5 1) (fun x6 =>
(tp_bd (fx_J6_bitCount_0f7a4 x5 M4) (fun r7 M8 =>
(tp_lt (r7 - x6) (fun x9 =>
(tp_bd (fx_X8_tell__ (w32 x6) (w32 x9) M8) (fun r10 M11 =>
(some (x5, M11)))))))))))))))))
set_option maxRecDepth 100000 in
set_option maxHeartbeats 4000000 in
theorem ok_X10_follows (X : tp_X)  {a1 : Int}  {M : tp_M} {res : Int × tp_M} (h : fx_X10_follows  a1 M = some res) : tp_Ret X LC 64 1 yX10_follows (Cond.code yX10_follows cX10_follows 5 (some .int)) 4 [vR X 0, vI a1] M res := by
  refine tp_ofW (by decide +kernel) rfl rfl (by show _ ≤ 5; exact Nat.le_of_ble_eq_true rfl) h (fun Y G => ?_)
  show tp_J X Y LC 64 5 4 1 (fx_X10_follows  a1 M) M [(0, vR X 0), (1, vI a1)] [] 0
  unfold fx_X10_follows
  refine tj_aload_n (pc := 0) G 0 dX10_follows_0 rfl rfl ?_
  refine tj_getR (pc := 1) G (k := 0) (j := 2) (j2 := 2) tk_X10 (by decide) lc_0 rfl (by decide) rfl fl_X10_26 dX10_follows_1 ?_
  refine tj_iload_n (pc := 4) G 1 dX10_follows_4 rfl rfl ?_
  refine tj_callVi (pc := 5) G [vI a1] mf_X4_hasPost (k := 5) (by decide) lc_5 rfl rfl ml_X10_176 (by decide) rfl rfl (Nat.le_of_ble_eq_true rfl) (fun _ h9 => ok_X4_hasPost X gg_Paths_5 h9) dX10_follows_5 (fun r1 M2 => ?_)
  refine tj_if_ne (pc := 8) G (tgt := 13) (a2 := w32 r1) dX10_follows_8 (by decide) rfl ?_ ?_
  · refine tj_aload_n (pc := 13) G 0 dX10_follows_13 rfl rfl ?_
    refine tj_iload_n (pc := 14) G 1 dX10_follows_14 rfl rfl ?_
    refine tj_callVi (pc := 15) G [vI a1] mf_X10_trackOf (k := 0) (by decide) lc_0 rfl rfl ml_X10_313 (by decide) rfl rfl (Nat.le_of_ble_eq_true rfl) (fun _ h9 => ok_X10_trackOf X  h9) dX10_follows_15 (fun r3 M4 => ?_)
    refine tj_istore_n (pc := 18) G (fun x5 => [(2, vI x5), (0, vR X 0), (1, vI a1)]) dX10_follows_18 rfl (by decide) (fun _ => rfl) (fun x5 => ?_)
    refine tj_iload_n (pc := 19) G 0 dX10_follows_19 rfl rfl ?_
    refine tj_iconst (pc := 20) G dX10_follows_20 ?_
    refine tj_iand (pc := 21) G dX10_follows_21 ?_
    refine tj_istore_n (pc := 22) G (fun x6 => [(3, vI x6), (2, vI x5), (0, vR X 0), (1, vI a1)]) dX10_follows_22 rfl (by decide) (fun _ => rfl) (fun x6 => ?_)
    refine tj_iload_n (pc := 23) G 1 dX10_follows_23 rfl rfl ?_
    refine tj_callSi (pc := 24) G [vI x5] mf_J6_bitCount_0f7a4 ml_X10_316 (by decide) rfl rfl (Nat.le_of_ble_eq_true rfl) (fun _ h9 => ok_J6_bitCount_0f7a4 X  h9) dX10_follows_24 (fun r7 M8 => ?_)
    refine tj_iload_n (pc := 27) G 0 dX10_follows_27 rfl rfl ?_
    refine tj_isub (pc := 28) G dX10_follows_28 ?_
    refine tj_istore (pc := 29) G (fun x9 => [(4, vI x9), (3, vI x6), (2, vI x5), (0, vR X 0), (1, vI a1)]) dX10_follows_29 (by decide) (fun _ => rfl) (fun x9 => ?_)
    refine tj_aload_n (pc := 31) G 3 dX10_follows_31 rfl rfl ?_
    refine tj_getR (pc := 32) G (k := 0) (j := 1) (j2 := 1) tk_X10 (by decide) lc_0 rfl (by decide) rfl fl_X10_19 dX10_follows_32 ?_
    refine tj_iload_n (pc := 35) G 1 dX10_follows_35 rfl rfl ?_
    refine tj_i2l (pc := 36) G (b := w32 x6) dX10_follows_36 rfl ?_
    refine tj_iload (pc := 37) G 0 dX10_follows_37 rfl ?_
    refine tj_i2l (pc := 39) G (b := w32 x9) dX10_follows_39 rfl ?_
    refine tj_callVv (pc := 40) G [vL (w32 x6), vL (w32 x9)] mf_X8_tell__ (k := 3) (by decide) lc_3 rfl rfl ml_X10_241 (by decide) rfl rfl (Nat.le_of_ble_eq_true rfl) (fun _ h9 => ok_X8_tell__ X  h9) dX10_follows_40 (fun r10 M11 => ?_)
    refine tj_iload_n (pc := 43) G 2 dX10_follows_43 rfl rfl ?_
    exact tj_iret (pc := 44) G dX10_follows_44
  refine tj_iconst (pc := 11) G dX10_follows_11 ?_
  exact tj_iret (pc := 12) G dX10_follows_12

def fx_X10_isFirstOfRing_L20 (c1 : Int) (K55 : Int → tp_M → tp_O) (rec : Int → Int → tp_M → tp_O) (z5 z6 : Int) (M7 : tp_M) : tp_O :=
(if w32 z6 < 8 then
(if w32 z5 ≤ w32 c1 then
(K55 z5 M7)
else
(tp_ck (w32 z5) 8 (tp_bd (fx_X4_goal 5 z5 (M7 26 (w32 z5)) M7) (fun r9 M10 =>
(tp_lt r9 (fun x11 =>
(tp_lt (z6 + 1) (fun x12 =>
(rec x11 x12 M10)))))))))
else
(K55 z5 M7))
def fx_X10_isFirstOfRing  (a1 : Int) (M : tp_M) : tp_O :=
(tp_ck (w32 a1) 8 (tp_bd (fx_X4_goal 5 a1 (M 26 (w32 a1)) M) (fun r1 M2 =>
(tp_lt r1 (fun x3 =>
(tp_lt 1 (fun x4 =>
(tp_lp2 (fx_X10_isFirstOfRing_L20 a1 (fun y8 M13 =>
(if w32 y8 = w32 a1 then
(some (1, M13))
else
(some (0, M13))))) tp_F x3 x4 M2))))))))
set_option maxRecDepth 100000 in
set_option maxHeartbeats 4000000 in
theorem fx_X10_isFirstOfRing_L20_ok {X : tp_X} {Y : tp_Y} (G : tp_Ok X Y 64 cX10_isFirstOfRing 4 RX10 (some .boolean))  {c1 : Int} {K55 : Int → tp_M → tp_O}   (hK55 : ∀ (y8 : Int) (M9 : tp_M), tp_J X Y LC 64 4 3 1 (K55 y8 M9) M9 [(1, vI c1), (2, vI y8)] [] 55) (n : Nat) : ∀ (z5 z6 : Int) (M7 : tp_M), tp_J X Y LC 64 4 3 1 (tp_lp2 (fx_X10_isFirstOfRing_L20  c1 K55) n z5 z6 M7) M7 [(0, vR X 0), (1, vI c1), (2, vI z5), (3, vI z6)] [] 20 := by
  refine tp_lp2_ok (P := fun o z5 z6 M7 => tp_J X Y LC 64 4 3 1 (o) M7 [(0, vR X 0), (1, vI c1), (2, vI z5), (3, vI z6)] [] 20) (fun z5 z6 M7 => tj_none) (fun rec hrec z5 z6 M7 => ?_) n
  unfold fx_X10_isFirstOfRing_L20
  refine tj_iload_n (pc := 20) G 3 dX10_isFirstOfRing_20 rfl rfl ?_
  refine tj_bipush (pc := 21) G dX10_isFirstOfRing_21 rfl ?_
  refine tj_icmp_ge (pc := 23) G (tgt := 55) (a2 := w32 z6) (b2 := 8) dX10_isFirstOfRing_23 (by decide) rfl rfl ?_ ?_
  · exact tj_sub [1, 2] rfl (hK55 z5 M7)
  refine tj_iload_n (pc := 26) G 2 dX10_isFirstOfRing_26 rfl rfl ?_
  refine tj_iload_n (pc := 27) G 1 dX10_isFirstOfRing_27 rfl rfl ?_
  refine tj_icmp_le (pc := 28) G (tgt := 55) (a2 := w32 z5) (b2 := w32 c1) dX10_isFirstOfRing_28 (by decide) rfl rfl ?_ ?_
  · exact tj_sub [1, 2] rfl (hK55 z5 M7)
  refine tj_aload_n (pc := 31) G 0 dX10_isFirstOfRing_31 rfl rfl ?_
  refine tj_getR (pc := 32) G (k := 0) (j := 2) (j2 := 2) tk_X10 (by decide) lc_0 rfl (by decide) rfl fl_X10_26 dX10_isFirstOfRing_32 ?_
  refine tj_iload_n (pc := 35) G 2 dX10_isFirstOfRing_35 rfl rfl ?_
  refine tj_aload_n (pc := 36) G 0 dX10_isFirstOfRing_36 rfl rfl ?_
  refine tj_getR (pc := 37) G (k := 0) (j := 6) (j2 := 6) tk_X10 (by decide) lc_0 rfl (by decide) rfl fl_X10_46 dX10_isFirstOfRing_37 ?_
  refine tj_getRN (pc := 40) G (k := 25) (j := 0) (j2 := 0) tk_X2 (by decide) lc_25 rfl (by decide) rfl fn_X10_160 dX10_isFirstOfRing_40 ?_
  refine tj_iload_n (pc := 43) G 2 dX10_isFirstOfRing_43 rfl rfl ?_
  refine tj_iald (pc := 44) G (k := 26) (i2 := w32 z5) (n2 := 8) (by decide) lc_26 rfl rfl dX10_isFirstOfRing_44 ?_
  refine tj_callVi (pc := 45) G [vI z5, vI (M7 26 (w32 z5))] mf_X4_goal (k := 5) (by decide) lc_5 rfl rfl ml_X10_163 (by decide) rfl rfl (Nat.le_of_ble_eq_true rfl) (fun _ h9 => ok_X4_goal X gg_Paths_5 h9) dX10_isFirstOfRing_45 (fun r9 M10 => ?_)
  refine tj_istore_n (pc := 48) G (fun x11 => [(2, vI x11), (0, vR X 0), (1, vI c1), (3, vI z6)]) dX10_isFirstOfRing_48 rfl (by decide) (fun _ => rfl) (fun x11 => ?_)
  refine tj_iinc (pc := 49) G 3 (fun x12 => [(3, vI x12), (2, vI x11), (0, vR X 0), (1, vI c1)]) dX10_isFirstOfRing_49 rfl (by decide) (fun _ => rfl) (fun x12 => ?_)
  refine tj_goto (pc := 52) G (tgt := 20) dX10_isFirstOfRing_52 (by decide) ?_
  exact tj_sub [2, 3, 1, 0] rfl (hrec x11 x12 M10)
set_option maxRecDepth 100000 in
set_option maxHeartbeats 4000000 in
theorem ok_X10_isFirstOfRing (X : tp_X)  {a1 : Int}  {M : tp_M} {res : Int × tp_M} (h : fx_X10_isFirstOfRing  a1 M = some res) : tp_Ret X LC 64 1 yX10_isFirstOfRing (Cond.code yX10_isFirstOfRing cX10_isFirstOfRing 4 (some .boolean)) 3 [vR X 0, vI a1] M res := by
  refine tp_ofW (by decide +kernel) rfl rfl (by show _ ≤ 4; exact Nat.le_of_ble_eq_true rfl) h (fun Y G => ?_)
  show tp_J X Y LC 64 4 3 1 (fx_X10_isFirstOfRing  a1 M) M [(0, vR X 0), (1, vI a1)] [] 0
  unfold fx_X10_isFirstOfRing
  refine tj_aload_n (pc := 0) G 0 dX10_isFirstOfRing_0 rfl rfl ?_
  refine tj_getR (pc := 1) G (k := 0) (j := 2) (j2 := 2) tk_X10 (by decide) lc_0 rfl (by decide) rfl fl_X10_26 dX10_isFirstOfRing_1 ?_
  refine tj_iload_n (pc := 4) G 1 dX10_isFirstOfRing_4 rfl rfl ?_
  refine tj_aload_n (pc := 5) G 0 dX10_isFirstOfRing_5 rfl rfl ?_
  refine tj_getR (pc := 6) G (k := 0) (j := 6) (j2 := 6) tk_X10 (by decide) lc_0 rfl (by decide) rfl fl_X10_46 dX10_isFirstOfRing_6 ?_
  refine tj_getRN (pc := 9) G (k := 25) (j := 0) (j2 := 0) tk_X2 (by decide) lc_25 rfl (by decide) rfl fn_X10_160 dX10_isFirstOfRing_9 ?_
  refine tj_iload_n (pc := 12) G 1 dX10_isFirstOfRing_12 rfl rfl ?_
  refine tj_iald (pc := 13) G (k := 26) (i2 := w32 a1) (n2 := 8) (by decide) lc_26 rfl rfl dX10_isFirstOfRing_13 ?_
  refine tj_callVi (pc := 14) G [vI a1, vI (M 26 (w32 a1))] mf_X4_goal (k := 5) (by decide) lc_5 rfl rfl ml_X10_163 (by decide) rfl rfl (Nat.le_of_ble_eq_true rfl) (fun _ h9 => ok_X4_goal X gg_Paths_5 h9) dX10_isFirstOfRing_14 (fun r1 M2 => ?_)
  refine tj_istore_n (pc := 17) G (fun x3 => [(2, vI x3), (0, vR X 0), (1, vI a1)]) dX10_isFirstOfRing_17 rfl (by decide) (fun _ => rfl) (fun x3 => ?_)
  refine tj_iconst (pc := 18) G dX10_isFirstOfRing_18 ?_
  refine tj_istore_n (pc := 19) G (fun x4 => [(3, vI x4), (2, vI x3), (0, vR X 0), (1, vI a1)]) dX10_isFirstOfRing_19 rfl (by decide) (fun _ => rfl) (fun x4 => ?_)
  refine tj_sub [2, 3, 1, 0] rfl (fx_X10_isFirstOfRing_L20_ok G    (fun y8 M13 => ?_) tp_F x3 x4 M2)
  refine tj_iload_n (pc := 55) G 1 dX10_isFirstOfRing_55 rfl rfl ?_
  refine tj_iload_n (pc := 56) G 0 dX10_isFirstOfRing_56 rfl rfl ?_
  refine tj_icmp_ne (pc := 57) G (tgt := 64) (a2 := w32 y8) (b2 := w32 a1) dX10_isFirstOfRing_57 (by decide) rfl rfl ?_ ?_
  · refine tj_iconst (pc := 64) G dX10_isFirstOfRing_64 ?_
    exact tj_zret (pc := 65) G (by decide) dX10_isFirstOfRing_65
  refine tj_iconst (pc := 60) G dX10_isFirstOfRing_60 ?_
  refine tj_goto (pc := 61) G (tgt := 65) dX10_isFirstOfRing_61 (by decide) ?_
  exact tj_zret (pc := 65) G (by decide) dX10_isFirstOfRing_65

def fx_X10_tree_L6  (K48 : Int → Int → tp_M → tp_O) (rec : Int → Int → Int → tp_M → tp_O) (z4 z5 z6 : Int) (M7 : tp_M) : tp_O :=
(tp_bd (fx_X4_crossings 5 M7) (fun r10 M11 =>
(if w32 z6 < w32 r10 then
(tp_bd (fx_X10_trackOf z6 M11) (fun r12 M13 =>
(tp_jn1 (fun y14 M15 => 
(tp_bd (fx_X10_isFirstOfRing z6 M15) (fun r16 M17 =>
(tp_jn1 (fun y18 M19 => 
(tp_lt (z6 + 1) (fun x20 =>
(rec y14 y18 x20 M19)))) (fun jk42 =>
(if w32 r16 = 0 then
(jk42 z5 M17)
else
(tp_lt (z5 + 1) (fun x21 =>
(jk42 x21 M17))))))))) (fun jk31 =>
(if w32 (x_and r12 1) = 1 then
(tp_lt (z4 + 1) (fun x22 =>
(jk31 x22 M13)))
else
(jk31 z4 M13))))))
else
(K48 z4 z5 M11))))
def fx_X10_tree   (M : tp_M) : tp_O :=
(tp_lt 0 (fun x1 =>
(tp_lt 0 (fun x2 =>
(tp_lt 1 (fun x3 =>
(tp_lp3 (fx_X10_tree_L6  (fun y8 y9 M23 =>
(tp_bd (fx_X4_crossings 5 M23) (fun r24 M25 =>
(tp_jn1 (fun y26 M27 => 
(tp_bd (fx_X8_tell__ y26 (w32 y9) M27) (fun r28 M29 =>
(some (y8, M29))))) (fun jk70 =>
(if w32 y8 = w32 (r24 - 1) then
(jk70 1 M25)
else
(jk70 0 M25)))))))) tp_F x1 x2 x3 M)))))))
set_option maxRecDepth 100000 in
set_option maxHeartbeats 4000000 in
theorem fx_X10_tree_L6_ok {X : tp_X} {Y : tp_Y} (G : tp_Ok X Y 64 cX10_tree 4 RX10 (some .int))  {K48 : Int → Int → tp_M → tp_O}   (hK48 : ∀ (y8 y9 : Int) (M9 : tp_M), tp_J X Y LC 64 4 4 1 (K48 y8 y9 M9) M9 [(0, vR X 0), (1, vI y8), (2, vI y9)] [] 48) (n : Nat) : ∀ (z4 z5 z6 : Int) (M7 : tp_M), tp_J X Y LC 64 4 4 1 (tp_lp3 (fx_X10_tree_L6   K48) n z4 z5 z6 M7) M7 [(0, vR X 0), (1, vI z4), (2, vI z5), (3, vI z6)] [] 6 := by
  refine tp_lp3_ok (P := fun o z4 z5 z6 M7 => tp_J X Y LC 64 4 4 1 (o) M7 [(0, vR X 0), (1, vI z4), (2, vI z5), (3, vI z6)] [] 6) (fun z4 z5 z6 M7 => tj_none) (fun rec hrec z4 z5 z6 M7 => ?_) n
  unfold fx_X10_tree_L6
  refine tj_iload_n (pc := 6) G 3 dX10_tree_6 rfl rfl ?_
  refine tj_aload_n (pc := 7) G 0 dX10_tree_7 rfl rfl ?_
  refine tj_getR (pc := 8) G (k := 0) (j := 2) (j2 := 2) tk_X10 (by decide) lc_0 rfl (by decide) rfl fl_X10_26 dX10_tree_8 ?_
  refine tj_callVi (pc := 11) G [] mf_X4_crossings (k := 5) (by decide) lc_5 rfl rfl ml_X10_275 (by decide) rfl rfl (Nat.le_of_ble_eq_true rfl) (fun _ h9 => ok_X4_crossings X gg_Paths_5 h9) dX10_tree_11 (fun r10 M11 => ?_)
  refine tj_icmp_ge (pc := 14) G (tgt := 48) (a2 := w32 z6) (b2 := w32 r10) dX10_tree_14 (by decide) rfl rfl ?_ ?_
  · exact tj_sub [0, 1, 2] rfl (hK48 z4 z5 M11)
  refine tj_aload_n (pc := 17) G 0 dX10_tree_17 rfl rfl ?_
  refine tj_iload_n (pc := 18) G 3 dX10_tree_18 rfl rfl ?_
  refine tj_callVi (pc := 19) G [vI z6] mf_X10_trackOf (k := 0) (by decide) lc_0 rfl rfl ml_X10_313 (by decide) rfl rfl (Nat.le_of_ble_eq_true rfl) (fun _ h9 => ok_X10_trackOf X  h9) dX10_tree_19 (fun r12 M13 => ?_)
  refine tj_iconst (pc := 22) G dX10_tree_22 ?_
  refine tj_iand (pc := 23) G dX10_tree_23 ?_
  refine tj_iconst (pc := 24) G dX10_tree_24 ?_
  refine tj_jn1 (fun y14 => [(0, vR X 0), (1, vI y14), (2, vI z5), (3, vI z6)]) (fun y14 => []) 31 (fun y14 M15 => ?_) (fun jk31 hj31 => ?_)
  · refine tj_aload_n (pc := 31) G 0 dX10_tree_31 rfl rfl ?_
    refine tj_iload_n (pc := 32) G 3 dX10_tree_32 rfl rfl ?_
    refine tj_callVi (pc := 33) G [vI z6] mf_X10_isFirstOfRing (k := 0) (by decide) lc_0 rfl rfl ml_X10_321 (by decide) rfl rfl (Nat.le_of_ble_eq_true rfl) (fun _ h9 => ok_X10_isFirstOfRing X  h9) dX10_tree_33 (fun r16 M17 => ?_)
    refine tj_jn1 (fun y18 => [(0, vR X 0), (1, vI y14), (2, vI y18), (3, vI z6)]) (fun y18 => []) 42 (fun y18 M19 => ?_) (fun jk42 hj42 => ?_)
    · refine tj_iinc (pc := 42) G 3 (fun x20 => [(3, vI x20), (0, vR X 0), (1, vI y14), (2, vI y18)]) dX10_tree_42 rfl (by decide) (fun _ => rfl) (fun x20 => ?_)
      refine tj_goto (pc := 45) G (tgt := 6) dX10_tree_45 (by decide) ?_
      exact tj_sub [1, 2, 3, 0] rfl (hrec y14 y18 x20 M19)
    refine tj_if_eq (pc := 36) G (tgt := 42) (a2 := w32 r16) dX10_tree_36 (by decide) rfl ?_ ?_
    · exact tj_sub [0, 1, 2, 3] rfl (hj42 z5 M17)
    refine tj_iinc (pc := 39) G 2 (fun x21 => [(2, vI x21), (0, vR X 0), (1, vI y14), (3, vI z6)]) dX10_tree_39 rfl (by decide) (fun _ => rfl) (fun x21 => ?_)
    exact tj_sub [1, 2, 0, 3] rfl (hj42 x21 M17)
  refine tj_icmp_ne (pc := 25) G (tgt := 31) (a2 := w32 (x_and r12 1)) (b2 := 1) dX10_tree_25 (by decide) rfl rfl ?_ ?_
  · exact tj_sub [0, 1, 2, 3] rfl (hj31 z4 M13)
  refine tj_iinc (pc := 28) G 1 (fun x22 => [(1, vI x22), (0, vR X 0), (2, vI z5), (3, vI z6)]) dX10_tree_28 rfl (by decide) (fun _ => rfl) (fun x22 => ?_)
  exact tj_sub [1, 0, 2, 3] rfl (hj31 x22 M13)
set_option maxRecDepth 100000 in
set_option maxHeartbeats 4000000 in
theorem ok_X10_tree (X : tp_X)    {M : tp_M} {res : Int × tp_M} (h : fx_X10_tree   M = some res) : tp_Ret X LC 64 1 yX10_tree (Cond.code yX10_tree cX10_tree 4 (some .int)) 4 [vR X 0] M res := by
  refine tp_ofW (by decide +kernel) rfl rfl (by show _ ≤ 4; exact Nat.le_of_ble_eq_true rfl) h (fun Y G => ?_)
  show tp_J X Y LC 64 4 4 1 (fx_X10_tree   M) M [(0, vR X 0)] [] 0
  unfold fx_X10_tree
  refine tj_iconst (pc := 0) G dX10_tree_0 ?_
  refine tj_istore_n (pc := 1) G (fun x1 => [(1, vI x1), (0, vR X 0)]) dX10_tree_1 rfl (by decide) (fun _ => rfl) (fun x1 => ?_)
  refine tj_iconst (pc := 2) G dX10_tree_2 ?_
  refine tj_istore_n (pc := 3) G (fun x2 => [(2, vI x2), (1, vI x1), (0, vR X 0)]) dX10_tree_3 rfl (by decide) (fun _ => rfl) (fun x2 => ?_)
  refine tj_iconst (pc := 4) G dX10_tree_4 ?_
  refine tj_istore_n (pc := 5) G (fun x3 => [(3, vI x3), (2, vI x2), (1, vI x1), (0, vR X 0)]) dX10_tree_5 rfl (by decide) (fun _ => rfl) (fun x3 => ?_)
  refine tj_sub [3, 2, 1, 0] rfl (fx_X10_tree_L6_ok G    (fun y8 y9 M23 => ?_) tp_F x1 x2 x3 M)
  refine tj_aload_n (pc := 48) G 0 dX10_tree_48 rfl rfl ?_
  refine tj_getR (pc := 49) G (k := 0) (j := 1) (j2 := 1) tk_X10 (by decide) lc_0 rfl (by decide) rfl fl_X10_19 dX10_tree_49 ?_
  refine tj_iload_n (pc := 52) G 1 dX10_tree_52 rfl rfl ?_
  refine tj_aload_n (pc := 53) G 0 dX10_tree_53 rfl rfl ?_
  refine tj_getR (pc := 54) G (k := 0) (j := 2) (j2 := 2) tk_X10 (by decide) lc_0 rfl (by decide) rfl fl_X10_26 dX10_tree_54 ?_
  refine tj_callVi (pc := 57) G [] mf_X4_crossings (k := 5) (by decide) lc_5 rfl rfl ml_X10_275 (by decide) rfl rfl (Nat.le_of_ble_eq_true rfl) (fun _ h9 => ok_X4_crossings X gg_Paths_5 h9) dX10_tree_57 (fun r24 M25 => ?_)
  refine tj_iconst (pc := 60) G dX10_tree_60 ?_
  refine tj_isub (pc := 61) G dX10_tree_61 ?_
  refine tj_jn1 (fun y26 => [(1, vI y8), (2, vI y9)]) (fun y26 => [vL y26, vR X 3]) 70 (fun y26 M27 => ?_) (fun jk70 hj70 => ?_)
  · refine tj_iload_n (pc := 70) G 1 dX10_tree_70 rfl rfl ?_
    refine tj_i2l (pc := 71) G (b := w32 y9) dX10_tree_71 rfl ?_
    refine tj_callVv (pc := 72) G [vL y26, vL (w32 y9)] mf_X8_tell__ (k := 3) (by decide) lc_3 rfl rfl ml_X10_241 (by decide) rfl rfl (Nat.le_of_ble_eq_true rfl) (fun _ h9 => ok_X8_tell__ X  h9) dX10_tree_72 (fun r28 M29 => ?_)
    refine tj_iload_n (pc := 75) G 0 dX10_tree_75 rfl rfl ?_
    exact tj_iret (pc := 76) G dX10_tree_76
  refine tj_icmp_ne (pc := 62) G (tgt := 69) (a2 := w32 y8) (b2 := w32 (r24 - 1)) dX10_tree_62 (by decide) rfl rfl ?_ ?_
  · refine tj_lconst (pc := 69) G (v := 0) dX10_tree_69 rfl ?_
    exact tj_sub [1, 2] rfl (hj70 0 M25)
  refine tj_lconst (pc := 65) G (v := 1) dX10_tree_65 rfl ?_
  refine tj_goto (pc := 66) G (tgt := 70) dX10_tree_66 (by decide) ?_
  exact tj_sub [1, 2] rfl (hj70 1 M25)

def fx_X10_trees_L4  (K32 : Int → tp_M → tp_O) (rec : Int → Int → tp_M → tp_O) (z3 z4 : Int) (M5 : tp_M) : tp_O :=
(tp_bd (fx_X4_crossings 5 M5) (fun r7 M8 =>
(if w32 z4 < w32 r7 then
(tp_bd (fx_X4_degree 5 z4 M8) (fun r9 M10 =>
(tp_lt (z3 * r9) (fun x11 =>
(tp_lt (z4 + 1) (fun x12 =>
(rec x11 x12 M10)))))))
else
(K32 z3 M8))))
def fx_X10_trees   (M : tp_M) : tp_O :=
(tp_lt 1 (fun x1 =>
(tp_lt 1 (fun x2 =>
(tp_lp2 (fx_X10_trees_L4  (fun y6 M13 =>
(tp_bd (fx_X8_tell_ (w32 y6) M13) (fun r14 M15 =>
(tp_bd (fx_X0_treesWith 60 8 0 M15) (fun r16 M17 =>
(some (r16, M17)))))))) tp_F x1 x2 M)))))
set_option maxRecDepth 100000 in
set_option maxHeartbeats 4000000 in
theorem fx_X10_trees_L4_ok {X : tp_X} {Y : tp_Y} (G : tp_Ok X Y 64 cX10_trees 3 RX10 (some .int))  {K32 : Int → tp_M → tp_O}   (hK32 : ∀ (y6 : Int) (M9 : tp_M), tp_J X Y LC 64 3 4 1 (K32 y6 M9) M9 [(0, vR X 0), (1, vI y6)] [] 32) (n : Nat) : ∀ (z3 z4 : Int) (M5 : tp_M), tp_J X Y LC 64 3 4 1 (tp_lp2 (fx_X10_trees_L4   K32) n z3 z4 M5) M5 [(0, vR X 0), (1, vI z3), (2, vI z4)] [] 4 := by
  refine tp_lp2_ok (P := fun o z3 z4 M5 => tp_J X Y LC 64 3 4 1 (o) M5 [(0, vR X 0), (1, vI z3), (2, vI z4)] [] 4) (fun z3 z4 M5 => tj_none) (fun rec hrec z3 z4 M5 => ?_) n
  unfold fx_X10_trees_L4
  refine tj_iload_n (pc := 4) G 2 dX10_trees_4 rfl rfl ?_
  refine tj_aload_n (pc := 5) G 0 dX10_trees_5 rfl rfl ?_
  refine tj_getR (pc := 6) G (k := 0) (j := 2) (j2 := 2) tk_X10 (by decide) lc_0 rfl (by decide) rfl fl_X10_26 dX10_trees_6 ?_
  refine tj_callVi (pc := 9) G [] mf_X4_crossings (k := 5) (by decide) lc_5 rfl rfl ml_X10_275 (by decide) rfl rfl (Nat.le_of_ble_eq_true rfl) (fun _ h9 => ok_X4_crossings X gg_Paths_5 h9) dX10_trees_9 (fun r7 M8 => ?_)
  refine tj_icmp_ge (pc := 12) G (tgt := 32) (a2 := w32 z4) (b2 := w32 r7) dX10_trees_12 (by decide) rfl rfl ?_ ?_
  · exact tj_sub [0, 1] rfl (hK32 z3 M8)
  refine tj_iload_n (pc := 15) G 1 dX10_trees_15 rfl rfl ?_
  refine tj_aload_n (pc := 16) G 0 dX10_trees_16 rfl rfl ?_
  refine tj_getR (pc := 17) G (k := 0) (j := 2) (j2 := 2) tk_X10 (by decide) lc_0 rfl (by decide) rfl fl_X10_26 dX10_trees_17 ?_
  refine tj_iload_n (pc := 20) G 2 dX10_trees_20 rfl rfl ?_
  refine tj_callVi (pc := 21) G [vI z4] mf_X4_degree (k := 5) (by decide) lc_5 rfl rfl ml_X10_156 (by decide) rfl rfl (Nat.le_of_ble_eq_true rfl) (fun _ h9 => ok_X4_degree X gg_Paths_5 h9) dX10_trees_21 (fun r9 M10 => ?_)
  refine tj_imul (pc := 24) G dX10_trees_24 ?_
  refine tj_istore_n (pc := 25) G (fun x11 => [(1, vI x11), (0, vR X 0), (2, vI z4)]) dX10_trees_25 rfl (by decide) (fun _ => rfl) (fun x11 => ?_)
  refine tj_iinc (pc := 26) G 2 (fun x12 => [(2, vI x12), (1, vI x11), (0, vR X 0)]) dX10_trees_26 rfl (by decide) (fun _ => rfl) (fun x12 => ?_)
  refine tj_goto (pc := 29) G (tgt := 4) dX10_trees_29 (by decide) ?_
  exact tj_sub [2, 1, 0] rfl (hrec x11 x12 M10)
set_option maxRecDepth 100000 in
set_option maxHeartbeats 4000000 in
theorem ok_X10_trees (X : tp_X)    {M : tp_M} {res : Int × tp_M} (h : fx_X10_trees   M = some res) : tp_Ret X LC 64 1 yX10_trees (Cond.code yX10_trees cX10_trees 3 (some .int)) 4 [vR X 0] M res := by
  refine tp_ofW (by decide +kernel) rfl rfl (by show _ ≤ 3; exact Nat.le_of_ble_eq_true rfl) h (fun Y G => ?_)
  show tp_J X Y LC 64 3 4 1 (fx_X10_trees   M) M [(0, vR X 0)] [] 0
  unfold fx_X10_trees
  refine tj_iconst (pc := 0) G dX10_trees_0 ?_
  refine tj_istore_n (pc := 1) G (fun x1 => [(1, vI x1), (0, vR X 0)]) dX10_trees_1 rfl (by decide) (fun _ => rfl) (fun x1 => ?_)
  refine tj_iconst (pc := 2) G dX10_trees_2 ?_
  refine tj_istore_n (pc := 3) G (fun x2 => [(2, vI x2), (1, vI x1), (0, vR X 0)]) dX10_trees_3 rfl (by decide) (fun _ => rfl) (fun x2 => ?_)
  refine tj_sub [2, 1, 0] rfl (fx_X10_trees_L4_ok G    (fun y6 M13 => ?_) tp_F x1 x2 M)
  refine tj_aload_n (pc := 32) G 0 dX10_trees_32 rfl rfl ?_
  refine tj_getR (pc := 33) G (k := 0) (j := 1) (j2 := 1) tk_X10 (by decide) lc_0 rfl (by decide) rfl fl_X10_19 dX10_trees_33 ?_
  refine tj_iload_n (pc := 36) G 1 dX10_trees_36 rfl rfl ?_
  refine tj_i2l (pc := 37) G (b := w32 y6) dX10_trees_37 rfl ?_
  refine tj_callVv (pc := 38) G [vL (w32 y6)] mf_X8_tell_ (k := 3) (by decide) lc_3 rfl rfl ml_X10_258 (by decide) rfl rfl (Nat.le_of_ble_eq_true rfl) (fun _ h9 => ok_X8_tell_ X  h9) dX10_trees_38 (fun r14 M15 => ?_)
  refine tj_aload_n (pc := 41) G 0 dX10_trees_41 rfl rfl ?_
  refine tj_getR (pc := 42) G (k := 0) (j := 11) (j2 := 11) tk_X10 (by decide) lc_0 rfl (by decide) rfl fl_X10_73 dX10_trees_42 ?_
  refine tj_aload_n (pc := 45) G 0 dX10_trees_45 rfl rfl ?_
  refine tj_getR (pc := 46) G (k := 0) (j := 2) (j2 := 2) tk_X10 (by decide) lc_0 rfl (by decide) rfl fl_X10_26 dX10_trees_46 ?_
  refine tj_aload_n (pc := 49) G 0 dX10_trees_49 rfl rfl ?_
  refine tj_getR (pc := 50) G (k := 0) (j := 15) (j2 := 15) tk_X10 (by decide) lc_0 rfl (by decide) rfl fl_X10_95 dX10_trees_50 ?_
  refine tj_iconst (pc := 53) G dX10_trees_53 ?_
  refine tj_callVi (pc := 54) G [vR X 5, vR X 60, vI 0] mf_X0_treesWith (k := 40) (by decide) lc_40 rfl rfl ml_X10_324 (by decide) rfl rfl (Nat.le_of_ble_eq_true rfl) (fun _ h9 => ok_X0_treesWith X ⟨by decide, lc_60⟩ h9) dX10_trees_54 (fun r16 M17 => ?_)
  exact tj_iret (pc := 57) G dX10_trees_57

def fx_X10_plants_L76 (c3 : Int) (K137 : Int → tp_M → tp_O) (rec : Int → Int → tp_M → tp_O) (z14 z15 : Int) (M16 : tp_M) : tp_O :=
(if w32 z14 < w32 z15 then
(K137 z14 M16)
else
(tp_ck (w32 c3) 8 (tp_bd (fx_X4_degree 5 c3 M16) (fun r18 M19 =>
(if w32 (M16 60 (w32 c3)) < w32 (r18 - 1) then
(tp_lt (z14 - z15) (fun x20 =>
(tp_ck (w32 c3) 8 (tp_ck (w32 c3) 8 (tp_lm (tp_up M19 60 (w32 c3) ((M19 60 (w32 c3)) + 1)) (fun M21 =>
(tp_bd (fx_X0_treesWith 60 8 c3 M21) (fun r22 M23 =>
(tp_lt r22 (fun x24 =>
(rec x20 x24 M23)))))))))))
else
(K137 z14 M19))))))
def fx_X10_plants_L40  (K143 : tp_M → tp_O) (rec : Int → Int → tp_M → tp_O) (z5 z6 : Int) (M7 : tp_M) : tp_O :=
(tp_bd (fx_X4_crossings 5 M7) (fun r8 M9 =>
(if w32 z6 < w32 r8 then
(tp_ck (w32 z6) 8 (tp_lm (tp_up M9 60 (w32 z6) 0) (fun M10 =>
(tp_bd (fx_X0_treesWith 60 8 z6 M10) (fun r11 M12 =>
(tp_lt r11 (fun x13 =>
(tp_lp2 (fx_X10_plants_L76 z6 (fun y17 M25 =>
(tp_lt (z6 + 1) (fun x26 =>
(rec y17 x26 M25))))) tp_F z5 x13 M12))))))))
else
(K143 M9))))
def fx_X10_plants  (a1 : Int) (M : tp_M) : tp_O :=
(if w32 a1 < 0 then
(some ((-1), M))
else
(if w32 a1 ≤ 999 then
(tp_bd (fx_X0_treesWith 60 8 0 M) (fun r1 M2 =>
(if w32 a1 < w32 r1 then
(tp_lt a1 (fun x3 =>
(tp_lt 1 (fun x4 =>
(tp_lp2 (fx_X10_plants_L40  (fun M27 =>
(tp_bd (fx_X4_crossings 5 M27) (fun r28 M29 =>
(tp_bd (fx_X8_tellRow 60 8 r28 M29) (fun r30 M31 =>
(some (0, M31)))))))) tp_F x3 x4 M2)))))
else
(some ((-2), M2)))))
else
(some ((-1), M))))
set_option maxRecDepth 100000 in
set_option maxHeartbeats 4000000 in
theorem fx_X10_plants_L76_ok {X : tp_X} {Y : tp_Y} (G : tp_Ok X Y 64 cX10_plants 5 RX10 (some .int))  {c3 : Int} {K137 : Int → tp_M → tp_O}   (hK137 : ∀ (y17 : Int) (M9 : tp_M), tp_J X Y LC 64 5 4 1 (K137 y17 M9) M9 [(0, vR X 0), (2, vI y17), (3, vI c3)] [] 137) (n : Nat) : ∀ (z14 z15 : Int) (M16 : tp_M), tp_J X Y LC 64 5 4 1 (tp_lp2 (fx_X10_plants_L76  c3 K137) n z14 z15 M16) M16 [(0, vR X 0), (2, vI z14), (3, vI c3), (4, vI z15)] [] 76 := by
  refine tp_lp2_ok (P := fun o z14 z15 M16 => tp_J X Y LC 64 5 4 1 (o) M16 [(0, vR X 0), (2, vI z14), (3, vI c3), (4, vI z15)] [] 76) (fun z14 z15 M16 => tj_none) (fun rec hrec z14 z15 M16 => ?_) n
  unfold fx_X10_plants_L76
  refine tj_iload_n (pc := 76) G 1 dX10_plants_76 rfl rfl ?_
  refine tj_iload (pc := 77) G 3 dX10_plants_77 rfl ?_
  refine tj_icmp_lt (pc := 79) G (tgt := 137) (a2 := w32 z14) (b2 := w32 z15) dX10_plants_79 (by decide) rfl rfl ?_ ?_
  · exact tj_sub [0, 1, 2] rfl (hK137 z14 M16)
  refine tj_aload_n (pc := 82) G 0 dX10_plants_82 rfl rfl ?_
  refine tj_getR (pc := 83) G (k := 0) (j := 15) (j2 := 15) tk_X10 (by decide) lc_0 rfl (by decide) rfl fl_X10_95 dX10_plants_83 ?_
  refine tj_iload_n (pc := 86) G 2 dX10_plants_86 rfl rfl ?_
  refine tj_iald (pc := 87) G (k := 60) (i2 := w32 c3) (n2 := 8) (by decide) lc_60 rfl rfl dX10_plants_87 ?_
  refine tj_aload_n (pc := 88) G 0 dX10_plants_88 rfl rfl ?_
  refine tj_getR (pc := 89) G (k := 0) (j := 2) (j2 := 2) tk_X10 (by decide) lc_0 rfl (by decide) rfl fl_X10_26 dX10_plants_89 ?_
  refine tj_iload_n (pc := 92) G 2 dX10_plants_92 rfl rfl ?_
  refine tj_callVi (pc := 93) G [vI c3] mf_X4_degree (k := 5) (by decide) lc_5 rfl rfl ml_X10_156 (by decide) rfl rfl (Nat.le_of_ble_eq_true rfl) (fun _ h9 => ok_X4_degree X gg_Paths_5 h9) dX10_plants_93 (fun r18 M19 => ?_)
  refine tj_iconst (pc := 96) G dX10_plants_96 ?_
  refine tj_isub (pc := 97) G dX10_plants_97 ?_
  refine tj_icmp_ge (pc := 98) G (tgt := 137) (a2 := w32 (M16 60 (w32 c3))) (b2 := w32 (r18 - 1)) dX10_plants_98 (by decide) rfl rfl ?_ ?_
  · exact tj_sub [0, 1, 2] rfl (hK137 z14 M19)
  refine tj_iload_n (pc := 101) G 1 dX10_plants_101 rfl rfl ?_
  refine tj_iload (pc := 102) G 3 dX10_plants_102 rfl ?_
  refine tj_isub (pc := 104) G dX10_plants_104 ?_
  refine tj_istore_n (pc := 105) G (fun x20 => [(2, vI x20), (0, vR X 0), (3, vI c3), (4, vI z15)]) dX10_plants_105 rfl (by decide) (fun _ => rfl) (fun x20 => ?_)
  refine tj_aload_n (pc := 106) G 1 dX10_plants_106 rfl rfl ?_
  refine tj_getR (pc := 107) G (k := 0) (j := 15) (j2 := 15) tk_X10 (by decide) lc_0 rfl (by decide) rfl fl_X10_95 dX10_plants_107 ?_
  refine tj_iload_n (pc := 110) G 2 dX10_plants_110 rfl rfl ?_
  refine tj_dup2 (pc := 111) G dX10_plants_111 rfl rfl ?_
  refine tj_iald (pc := 112) G (k := 60) (i2 := w32 c3) (n2 := 8) (by decide) lc_60 rfl rfl dX10_plants_112 ?_
  refine tj_iconst (pc := 113) G dX10_plants_113 ?_
  refine tj_iadd (pc := 114) G dX10_plants_114 ?_
  refine tj_iast (pc := 115) G (k := 60) (i2 := w32 c3) (n2 := 8) (by decide) lc_60 rfl rfl dX10_plants_115 (fun M21 => ?_)
  refine tj_aload_n (pc := 116) G 1 dX10_plants_116 rfl rfl ?_
  refine tj_getR (pc := 117) G (k := 0) (j := 11) (j2 := 11) tk_X10 (by decide) lc_0 rfl (by decide) rfl fl_X10_73 dX10_plants_117 ?_
  refine tj_aload_n (pc := 120) G 1 dX10_plants_120 rfl rfl ?_
  refine tj_getR (pc := 121) G (k := 0) (j := 2) (j2 := 2) tk_X10 (by decide) lc_0 rfl (by decide) rfl fl_X10_26 dX10_plants_121 ?_
  refine tj_aload_n (pc := 124) G 1 dX10_plants_124 rfl rfl ?_
  refine tj_getR (pc := 125) G (k := 0) (j := 15) (j2 := 15) tk_X10 (by decide) lc_0 rfl (by decide) rfl fl_X10_95 dX10_plants_125 ?_
  refine tj_iload_n (pc := 128) G 2 dX10_plants_128 rfl rfl ?_
  refine tj_callVi (pc := 129) G [vR X 5, vR X 60, vI c3] mf_X0_treesWith (k := 40) (by decide) lc_40 rfl rfl ml_X10_324 (by decide) rfl rfl (Nat.le_of_ble_eq_true rfl) (fun _ h9 => ok_X0_treesWith X ⟨by decide, lc_60⟩ h9) dX10_plants_129 (fun r22 M23 => ?_)
  refine tj_istore (pc := 132) G (fun x24 => [(4, vI x24), (2, vI x20), (0, vR X 0), (3, vI c3)]) dX10_plants_132 (by decide) (fun _ => rfl) (fun x24 => ?_)
  refine tj_goto (pc := 134) G (tgt := 76) dX10_plants_134 (by decide) ?_
  exact tj_sub [2, 1, 3, 0] rfl (hrec x20 x24 M23)
set_option maxRecDepth 100000 in
set_option maxHeartbeats 4000000 in
theorem fx_X10_plants_L40_ok {X : tp_X} {Y : tp_Y} (G : tp_Ok X Y 64 cX10_plants 5 RX10 (some .int))  {K143 : tp_M → tp_O}   (hK143 : ∀ (M9 : tp_M), tp_J X Y LC 64 5 4 1 (K143  M9) M9 [(0, vR X 0)] [] 143) (n : Nat) : ∀ (z5 z6 : Int) (M7 : tp_M), tp_J X Y LC 64 5 4 1 (tp_lp2 (fx_X10_plants_L40   K143) n z5 z6 M7) M7 [(0, vR X 0), (2, vI z5), (3, vI z6)] [] 40 := by
  refine tp_lp2_ok (P := fun o z5 z6 M7 => tp_J X Y LC 64 5 4 1 (o) M7 [(0, vR X 0), (2, vI z5), (3, vI z6)] [] 40) (fun z5 z6 M7 => tj_none) (fun rec hrec z5 z6 M7 => ?_) n
  unfold fx_X10_plants_L40
  refine tj_iload_n (pc := 40) G 2 dX10_plants_40 rfl rfl ?_
  refine tj_aload_n (pc := 41) G 0 dX10_plants_41 rfl rfl ?_
  refine tj_getR (pc := 42) G (k := 0) (j := 2) (j2 := 2) tk_X10 (by decide) lc_0 rfl (by decide) rfl fl_X10_26 dX10_plants_42 ?_
  refine tj_callVi (pc := 45) G [] mf_X4_crossings (k := 5) (by decide) lc_5 rfl rfl ml_X10_275 (by decide) rfl rfl (Nat.le_of_ble_eq_true rfl) (fun _ h9 => ok_X4_crossings X gg_Paths_5 h9) dX10_plants_45 (fun r8 M9 => ?_)
  refine tj_icmp_ge (pc := 48) G (tgt := 143) (a2 := w32 z6) (b2 := w32 r8) dX10_plants_48 (by decide) rfl rfl ?_ ?_
  · exact tj_sub [0] rfl (hK143  M9)
  refine tj_aload_n (pc := 51) G 0 dX10_plants_51 rfl rfl ?_
  refine tj_getR (pc := 52) G (k := 0) (j := 15) (j2 := 15) tk_X10 (by decide) lc_0 rfl (by decide) rfl fl_X10_95 dX10_plants_52 ?_
  refine tj_iload_n (pc := 55) G 2 dX10_plants_55 rfl rfl ?_
  refine tj_iconst (pc := 56) G dX10_plants_56 ?_
  refine tj_iast (pc := 57) G (k := 60) (i2 := w32 z6) (n2 := 8) (by decide) lc_60 rfl rfl dX10_plants_57 (fun M10 => ?_)
  refine tj_aload_n (pc := 58) G 0 dX10_plants_58 rfl rfl ?_
  refine tj_getR (pc := 59) G (k := 0) (j := 11) (j2 := 11) tk_X10 (by decide) lc_0 rfl (by decide) rfl fl_X10_73 dX10_plants_59 ?_
  refine tj_aload_n (pc := 62) G 0 dX10_plants_62 rfl rfl ?_
  refine tj_getR (pc := 63) G (k := 0) (j := 2) (j2 := 2) tk_X10 (by decide) lc_0 rfl (by decide) rfl fl_X10_26 dX10_plants_63 ?_
  refine tj_aload_n (pc := 66) G 0 dX10_plants_66 rfl rfl ?_
  refine tj_getR (pc := 67) G (k := 0) (j := 15) (j2 := 15) tk_X10 (by decide) lc_0 rfl (by decide) rfl fl_X10_95 dX10_plants_67 ?_
  refine tj_iload_n (pc := 70) G 2 dX10_plants_70 rfl rfl ?_
  refine tj_callVi (pc := 71) G [vR X 5, vR X 60, vI z6] mf_X0_treesWith (k := 40) (by decide) lc_40 rfl rfl ml_X10_324 (by decide) rfl rfl (Nat.le_of_ble_eq_true rfl) (fun _ h9 => ok_X0_treesWith X ⟨by decide, lc_60⟩ h9) dX10_plants_71 (fun r11 M12 => ?_)
  refine tj_istore (pc := 74) G (fun x13 => [(4, vI x13), (0, vR X 0), (2, vI z5), (3, vI z6)]) dX10_plants_74 (by decide) (fun _ => rfl) (fun x13 => ?_)
  refine tj_sub [1, 2, 3, 0] rfl (fx_X10_plants_L76_ok G    (fun y17 M25 => ?_) tp_F z5 x13 M12)
  refine tj_iinc (pc := 137) G 2 (fun x26 => [(3, vI x26), (0, vR X 0), (2, vI y17)]) dX10_plants_137 rfl (by decide) (fun _ => rfl) (fun x26 => ?_)
  refine tj_goto (pc := 140) G (tgt := 40) dX10_plants_140 (by decide) ?_
  exact tj_sub [1, 2, 0] rfl (hrec y17 x26 M25)
set_option maxRecDepth 100000 in
set_option maxHeartbeats 4000000 in
theorem ok_X10_plants (X : tp_X)  {a1 : Int}  {M : tp_M} {res : Int × tp_M} (h : fx_X10_plants  a1 M = some res) : tp_Ret X LC 64 1 yX10_plants (Cond.code yX10_plants cX10_plants 5 (some .int)) 4 [vR X 0, vI a1] M res := by
  refine tp_ofW (by decide +kernel) rfl rfl (by show _ ≤ 5; exact Nat.le_of_ble_eq_true rfl) h (fun Y G => ?_)
  show tp_J X Y LC 64 5 4 1 (fx_X10_plants  a1 M) M [(0, vR X 0), (1, vI a1)] [] 0
  unfold fx_X10_plants
  refine tj_iload_n (pc := 0) G 1 dX10_plants_0 rfl rfl ?_
  refine tj_if_lt (pc := 1) G (tgt := 11) (a2 := w32 a1) dX10_plants_1 (by decide) rfl ?_ ?_
  · refine tj_iconst (pc := 11) G dX10_plants_11 ?_
    exact tj_iret (pc := 12) G dX10_plants_12
  refine tj_iload_n (pc := 4) G 1 dX10_plants_4 rfl rfl ?_
  refine tj_sipush (pc := 5) G dX10_plants_5 rfl ?_
  refine tj_icmp_le (pc := 8) G (tgt := 13) (a2 := w32 a1) (b2 := 999) dX10_plants_8 (by decide) rfl rfl ?_ ?_
  · refine tj_iload_n (pc := 13) G 1 dX10_plants_13 rfl rfl ?_
    refine tj_aload_n (pc := 14) G 0 dX10_plants_14 rfl rfl ?_
    refine tj_getR (pc := 15) G (k := 0) (j := 11) (j2 := 11) tk_X10 (by decide) lc_0 rfl (by decide) rfl fl_X10_73 dX10_plants_15 ?_
    refine tj_aload_n (pc := 18) G 0 dX10_plants_18 rfl rfl ?_
    refine tj_getR (pc := 19) G (k := 0) (j := 2) (j2 := 2) tk_X10 (by decide) lc_0 rfl (by decide) rfl fl_X10_26 dX10_plants_19 ?_
    refine tj_aload_n (pc := 22) G 0 dX10_plants_22 rfl rfl ?_
    refine tj_getR (pc := 23) G (k := 0) (j := 15) (j2 := 15) tk_X10 (by decide) lc_0 rfl (by decide) rfl fl_X10_95 dX10_plants_23 ?_
    refine tj_iconst (pc := 26) G dX10_plants_26 ?_
    refine tj_callVi (pc := 27) G [vR X 5, vR X 60, vI 0] mf_X0_treesWith (k := 40) (by decide) lc_40 rfl rfl ml_X10_324 (by decide) rfl rfl (Nat.le_of_ble_eq_true rfl) (fun _ h9 => ok_X0_treesWith X ⟨by decide, lc_60⟩ h9) dX10_plants_27 (fun r1 M2 => ?_)
    refine tj_icmp_lt (pc := 30) G (tgt := 36) (a2 := w32 a1) (b2 := w32 r1) dX10_plants_30 (by decide) rfl rfl ?_ ?_
    · refine tj_iload_n (pc := 36) G 1 dX10_plants_36 rfl rfl ?_
      refine tj_istore_n (pc := 37) G (fun x3 => [(2, vI x3), (0, vR X 0), (1, vI a1)]) dX10_plants_37 rfl (by decide) (fun _ => rfl) (fun x3 => ?_)
      refine tj_iconst (pc := 38) G dX10_plants_38 ?_
      refine tj_istore_n (pc := 39) G (fun x4 => [(3, vI x4), (2, vI x3), (0, vR X 0), (1, vI a1)]) dX10_plants_39 rfl (by decide) (fun _ => rfl) (fun x4 => ?_)
      refine tj_sub [2, 1, 0] rfl (fx_X10_plants_L40_ok G    (fun M27 => ?_) tp_F x3 x4 M2)
      refine tj_aload_n (pc := 143) G 0 dX10_plants_143 rfl rfl ?_
      refine tj_getR (pc := 144) G (k := 0) (j := 1) (j2 := 1) tk_X10 (by decide) lc_0 rfl (by decide) rfl fl_X10_19 dX10_plants_144 ?_
      refine tj_aload_n (pc := 147) G 0 dX10_plants_147 rfl rfl ?_
      refine tj_getR (pc := 148) G (k := 0) (j := 15) (j2 := 15) tk_X10 (by decide) lc_0 rfl (by decide) rfl fl_X10_95 dX10_plants_148 ?_
      refine tj_aload_n (pc := 151) G 0 dX10_plants_151 rfl rfl ?_
      refine tj_getR (pc := 152) G (k := 0) (j := 2) (j2 := 2) tk_X10 (by decide) lc_0 rfl (by decide) rfl fl_X10_26 dX10_plants_152 ?_
      refine tj_callVi (pc := 155) G [] mf_X4_crossings (k := 5) (by decide) lc_5 rfl rfl ml_X10_275 (by decide) rfl rfl (Nat.le_of_ble_eq_true rfl) (fun _ h9 => ok_X4_crossings X gg_Paths_5 h9) dX10_plants_155 (fun r28 M29 => ?_)
      refine tj_callVv (pc := 158) G [vR X 60, vI r28] mf_X8_tellRow (k := 3) (by decide) lc_3 rfl rfl ml_X10_290 (by decide) rfl rfl (Nat.le_of_ble_eq_true rfl) (fun _ h9 => ok_X8_tellRow X ⟨by decide, lc_60⟩ h9) dX10_plants_158 (fun r30 M31 => ?_)
      refine tj_iconst (pc := 161) G dX10_plants_161 ?_
      exact tj_iret (pc := 162) G dX10_plants_162
    refine tj_bipush (pc := 33) G dX10_plants_33 rfl ?_
    exact tj_iret (pc := 35) G dX10_plants_35
  refine tj_iconst (pc := 11) G dX10_plants_11 ?_
  exact tj_iret (pc := 12) G dX10_plants_12

def fx_X10_grown_L17 (c2 : Int) (K62 : Int → tp_M → tp_O) (rec : Int → Int → tp_M → tp_O) (z10 z11 : Int) (M12 : tp_M) : tp_O :=
(tp_ck (w32 c2) 8 (if w32 z11 < w32 (M12 26 (w32 c2)) then
(tp_ck (w32 c2) 8 (tp_lm (tp_up M12 60 (w32 c2) z11) (fun M14 =>
(tp_bd (fx_X0_treesWith 60 8 c2 M14) (fun r15 M16 =>
(tp_lt (z10 + r15) (fun x17 =>
(tp_lt (z11 + 1) (fun x18 =>
(rec x17 x18 M16))))))))))
else
(K62 z10 M12)))
def fx_X10_grown_L4  (K83 : Int → tp_M → tp_O) (rec : Int → Int → tp_M → tp_O) (z3 z4 : Int) (M5 : tp_M) : tp_O :=
(tp_bd (fx_X4_crossings 5 M5) (fun r7 M8 =>
(if w32 z4 < w32 r7 then
(tp_lt 0 (fun x9 =>
(tp_lp2 (fx_X10_grown_L17 z4 (fun y13 M19 =>
(tp_ck (w32 z4) 8 (tp_ck (w32 z4) 8 (tp_lm (tp_up M19 60 (w32 z4) (M19 26 (w32 z4))) (fun M20 =>
(tp_lt (z4 + 1) (fun x21 =>
(rec y13 x21 M20))))))))) tp_F z3 x9 M8)))
else
(K83 z3 M8))))
def fx_X10_grown   (M : tp_M) : tp_O :=
(tp_lt 0 (fun x1 =>
(tp_lt 1 (fun x2 =>
(tp_lp2 (fx_X10_grown_L4  (fun y6 M22 =>
(tp_bd (fx_X4_crossings 5 M22) (fun r23 M24 =>
(tp_bd (fx_X0_treesWith 60 8 (r23 - 1) M24) (fun r25 M26 =>
(if w32 r25 = 1 then
(some (y6, M26))
else
(some ((-2), M26))))))))) tp_F x1 x2 M)))))
set_option maxRecDepth 100000 in
set_option maxHeartbeats 4000000 in
theorem fx_X10_grown_L17_ok {X : tp_X} {Y : tp_Y} (G : tp_Ok X Y 64 cX10_grown 4 RX10 (some .int))  {c2 : Int} {K62 : Int → tp_M → tp_O}   (hK62 : ∀ (y13 : Int) (M9 : tp_M), tp_J X Y LC 64 4 4 1 (K62 y13 M9) M9 [(0, vR X 0), (1, vI y13), (2, vI c2)] [] 62) (n : Nat) : ∀ (z10 z11 : Int) (M12 : tp_M), tp_J X Y LC 64 4 4 1 (tp_lp2 (fx_X10_grown_L17  c2 K62) n z10 z11 M12) M12 [(0, vR X 0), (1, vI z10), (2, vI c2), (3, vI z11)] [] 17 := by
  refine tp_lp2_ok (P := fun o z10 z11 M12 => tp_J X Y LC 64 4 4 1 (o) M12 [(0, vR X 0), (1, vI z10), (2, vI c2), (3, vI z11)] [] 17) (fun z10 z11 M12 => tj_none) (fun rec hrec z10 z11 M12 => ?_) n
  unfold fx_X10_grown_L17
  refine tj_iload_n (pc := 17) G 3 dX10_grown_17 rfl rfl ?_
  refine tj_aload_n (pc := 18) G 0 dX10_grown_18 rfl rfl ?_
  refine tj_getR (pc := 19) G (k := 0) (j := 6) (j2 := 6) tk_X10 (by decide) lc_0 rfl (by decide) rfl fl_X10_46 dX10_grown_19 ?_
  refine tj_getRN (pc := 22) G (k := 25) (j := 0) (j2 := 0) tk_X2 (by decide) lc_25 rfl (by decide) rfl fn_X10_160 dX10_grown_22 ?_
  refine tj_iload_n (pc := 25) G 2 dX10_grown_25 rfl rfl ?_
  refine tj_iald (pc := 26) G (k := 26) (i2 := w32 c2) (n2 := 8) (by decide) lc_26 rfl rfl dX10_grown_26 ?_
  refine tj_icmp_ge (pc := 27) G (tgt := 62) (a2 := w32 z11) (b2 := w32 (M12 26 (w32 c2))) dX10_grown_27 (by decide) rfl rfl ?_ ?_
  · exact tj_sub [0, 1, 2] rfl (hK62 z10 M12)
  refine tj_aload_n (pc := 30) G 0 dX10_grown_30 rfl rfl ?_
  refine tj_getR (pc := 31) G (k := 0) (j := 15) (j2 := 15) tk_X10 (by decide) lc_0 rfl (by decide) rfl fl_X10_95 dX10_grown_31 ?_
  refine tj_iload_n (pc := 34) G 2 dX10_grown_34 rfl rfl ?_
  refine tj_iload_n (pc := 35) G 3 dX10_grown_35 rfl rfl ?_
  refine tj_iast (pc := 36) G (k := 60) (i2 := w32 c2) (n2 := 8) (by decide) lc_60 rfl rfl dX10_grown_36 (fun M14 => ?_)
  refine tj_iload_n (pc := 37) G 1 dX10_grown_37 rfl rfl ?_
  refine tj_aload_n (pc := 38) G 0 dX10_grown_38 rfl rfl ?_
  refine tj_getR (pc := 39) G (k := 0) (j := 11) (j2 := 11) tk_X10 (by decide) lc_0 rfl (by decide) rfl fl_X10_73 dX10_grown_39 ?_
  refine tj_aload_n (pc := 42) G 0 dX10_grown_42 rfl rfl ?_
  refine tj_getR (pc := 43) G (k := 0) (j := 2) (j2 := 2) tk_X10 (by decide) lc_0 rfl (by decide) rfl fl_X10_26 dX10_grown_43 ?_
  refine tj_aload_n (pc := 46) G 0 dX10_grown_46 rfl rfl ?_
  refine tj_getR (pc := 47) G (k := 0) (j := 15) (j2 := 15) tk_X10 (by decide) lc_0 rfl (by decide) rfl fl_X10_95 dX10_grown_47 ?_
  refine tj_iload_n (pc := 50) G 2 dX10_grown_50 rfl rfl ?_
  refine tj_callVi (pc := 51) G [vR X 5, vR X 60, vI c2] mf_X0_treesWith (k := 40) (by decide) lc_40 rfl rfl ml_X10_324 (by decide) rfl rfl (Nat.le_of_ble_eq_true rfl) (fun _ h9 => ok_X0_treesWith X ⟨by decide, lc_60⟩ h9) dX10_grown_51 (fun r15 M16 => ?_)
  refine tj_iadd (pc := 54) G dX10_grown_54 ?_
  refine tj_istore_n (pc := 55) G (fun x17 => [(1, vI x17), (0, vR X 0), (2, vI c2), (3, vI z11)]) dX10_grown_55 rfl (by decide) (fun _ => rfl) (fun x17 => ?_)
  refine tj_iinc (pc := 56) G 3 (fun x18 => [(3, vI x18), (1, vI x17), (0, vR X 0), (2, vI c2)]) dX10_grown_56 rfl (by decide) (fun _ => rfl) (fun x18 => ?_)
  refine tj_goto (pc := 59) G (tgt := 17) dX10_grown_59 (by decide) ?_
  exact tj_sub [2, 1, 3, 0] rfl (hrec x17 x18 M16)
set_option maxRecDepth 100000 in
set_option maxHeartbeats 4000000 in
theorem fx_X10_grown_L4_ok {X : tp_X} {Y : tp_Y} (G : tp_Ok X Y 64 cX10_grown 4 RX10 (some .int))  {K83 : Int → tp_M → tp_O}   (hK83 : ∀ (y6 : Int) (M9 : tp_M), tp_J X Y LC 64 4 4 1 (K83 y6 M9) M9 [(0, vR X 0), (1, vI y6)] [] 83) (n : Nat) : ∀ (z3 z4 : Int) (M5 : tp_M), tp_J X Y LC 64 4 4 1 (tp_lp2 (fx_X10_grown_L4   K83) n z3 z4 M5) M5 [(0, vR X 0), (1, vI z3), (2, vI z4)] [] 4 := by
  refine tp_lp2_ok (P := fun o z3 z4 M5 => tp_J X Y LC 64 4 4 1 (o) M5 [(0, vR X 0), (1, vI z3), (2, vI z4)] [] 4) (fun z3 z4 M5 => tj_none) (fun rec hrec z3 z4 M5 => ?_) n
  unfold fx_X10_grown_L4
  refine tj_iload_n (pc := 4) G 2 dX10_grown_4 rfl rfl ?_
  refine tj_aload_n (pc := 5) G 0 dX10_grown_5 rfl rfl ?_
  refine tj_getR (pc := 6) G (k := 0) (j := 2) (j2 := 2) tk_X10 (by decide) lc_0 rfl (by decide) rfl fl_X10_26 dX10_grown_6 ?_
  refine tj_callVi (pc := 9) G [] mf_X4_crossings (k := 5) (by decide) lc_5 rfl rfl ml_X10_275 (by decide) rfl rfl (Nat.le_of_ble_eq_true rfl) (fun _ h9 => ok_X4_crossings X gg_Paths_5 h9) dX10_grown_9 (fun r7 M8 => ?_)
  refine tj_icmp_ge (pc := 12) G (tgt := 83) (a2 := w32 z4) (b2 := w32 r7) dX10_grown_12 (by decide) rfl rfl ?_ ?_
  · exact tj_sub [0, 1] rfl (hK83 z3 M8)
  refine tj_iconst (pc := 15) G dX10_grown_15 ?_
  refine tj_istore_n (pc := 16) G (fun x9 => [(3, vI x9), (0, vR X 0), (1, vI z3), (2, vI z4)]) dX10_grown_16 rfl (by decide) (fun _ => rfl) (fun x9 => ?_)
  refine tj_sub [1, 2, 3, 0] rfl (fx_X10_grown_L17_ok G    (fun y13 M19 => ?_) tp_F z3 x9 M8)
  refine tj_aload_n (pc := 62) G 0 dX10_grown_62 rfl rfl ?_
  refine tj_getR (pc := 63) G (k := 0) (j := 15) (j2 := 15) tk_X10 (by decide) lc_0 rfl (by decide) rfl fl_X10_95 dX10_grown_63 ?_
  refine tj_iload_n (pc := 66) G 2 dX10_grown_66 rfl rfl ?_
  refine tj_aload_n (pc := 67) G 0 dX10_grown_67 rfl rfl ?_
  refine tj_getR (pc := 68) G (k := 0) (j := 6) (j2 := 6) tk_X10 (by decide) lc_0 rfl (by decide) rfl fl_X10_46 dX10_grown_68 ?_
  refine tj_getRN (pc := 71) G (k := 25) (j := 0) (j2 := 0) tk_X2 (by decide) lc_25 rfl (by decide) rfl fn_X10_160 dX10_grown_71 ?_
  refine tj_iload_n (pc := 74) G 2 dX10_grown_74 rfl rfl ?_
  refine tj_iald (pc := 75) G (k := 26) (i2 := w32 z4) (n2 := 8) (by decide) lc_26 rfl rfl dX10_grown_75 ?_
  refine tj_iast (pc := 76) G (k := 60) (i2 := w32 z4) (n2 := 8) (by decide) lc_60 rfl rfl dX10_grown_76 (fun M20 => ?_)
  refine tj_iinc (pc := 77) G 2 (fun x21 => [(2, vI x21), (0, vR X 0), (1, vI y13)]) dX10_grown_77 rfl (by decide) (fun _ => rfl) (fun x21 => ?_)
  refine tj_goto (pc := 80) G (tgt := 4) dX10_grown_80 (by decide) ?_
  exact tj_sub [1, 2, 0] rfl (hrec y13 x21 M20)
set_option maxRecDepth 100000 in
set_option maxHeartbeats 4000000 in
theorem ok_X10_grown (X : tp_X)    {M : tp_M} {res : Int × tp_M} (h : fx_X10_grown   M = some res) : tp_Ret X LC 64 1 yX10_grown (Cond.code yX10_grown cX10_grown 4 (some .int)) 4 [vR X 0] M res := by
  refine tp_ofW (by decide +kernel) rfl rfl (by show _ ≤ 4; exact Nat.le_of_ble_eq_true rfl) h (fun Y G => ?_)
  show tp_J X Y LC 64 4 4 1 (fx_X10_grown   M) M [(0, vR X 0)] [] 0
  unfold fx_X10_grown
  refine tj_iconst (pc := 0) G dX10_grown_0 ?_
  refine tj_istore_n (pc := 1) G (fun x1 => [(1, vI x1), (0, vR X 0)]) dX10_grown_1 rfl (by decide) (fun _ => rfl) (fun x1 => ?_)
  refine tj_iconst (pc := 2) G dX10_grown_2 ?_
  refine tj_istore_n (pc := 3) G (fun x2 => [(2, vI x2), (1, vI x1), (0, vR X 0)]) dX10_grown_3 rfl (by decide) (fun _ => rfl) (fun x2 => ?_)
  refine tj_sub [2, 1, 0] rfl (fx_X10_grown_L4_ok G    (fun y6 M22 => ?_) tp_F x1 x2 M)
  refine tj_aload_n (pc := 83) G 0 dX10_grown_83 rfl rfl ?_
  refine tj_getR (pc := 84) G (k := 0) (j := 11) (j2 := 11) tk_X10 (by decide) lc_0 rfl (by decide) rfl fl_X10_73 dX10_grown_84 ?_
  refine tj_aload_n (pc := 87) G 0 dX10_grown_87 rfl rfl ?_
  refine tj_getR (pc := 88) G (k := 0) (j := 2) (j2 := 2) tk_X10 (by decide) lc_0 rfl (by decide) rfl fl_X10_26 dX10_grown_88 ?_
  refine tj_aload_n (pc := 91) G 0 dX10_grown_91 rfl rfl ?_
  refine tj_getR (pc := 92) G (k := 0) (j := 15) (j2 := 15) tk_X10 (by decide) lc_0 rfl (by decide) rfl fl_X10_95 dX10_grown_92 ?_
  refine tj_aload_n (pc := 95) G 0 dX10_grown_95 rfl rfl ?_
  refine tj_getR (pc := 96) G (k := 0) (j := 2) (j2 := 2) tk_X10 (by decide) lc_0 rfl (by decide) rfl fl_X10_26 dX10_grown_96 ?_
  refine tj_callVi (pc := 99) G [] mf_X4_crossings (k := 5) (by decide) lc_5 rfl rfl ml_X10_275 (by decide) rfl rfl (Nat.le_of_ble_eq_true rfl) (fun _ h9 => ok_X4_crossings X gg_Paths_5 h9) dX10_grown_99 (fun r23 M24 => ?_)
  refine tj_iconst (pc := 102) G dX10_grown_102 ?_
  refine tj_isub (pc := 103) G dX10_grown_103 ?_
  refine tj_callVi (pc := 104) G [vR X 5, vR X 60, vI (r23 - 1)] mf_X0_treesWith (k := 40) (by decide) lc_40 rfl rfl ml_X10_324 (by decide) rfl rfl (Nat.le_of_ble_eq_true rfl) (fun _ h9 => ok_X0_treesWith X ⟨by decide, lc_60⟩ h9) dX10_grown_104 (fun r25 M26 => ?_)
  refine tj_iconst (pc := 107) G dX10_grown_107 ?_
  refine tj_icmp_ne (pc := 108) G (tgt := 115) (a2 := w32 r25) (b2 := 1) dX10_grown_108 (by decide) rfl rfl ?_ ?_
  · refine tj_bipush (pc := 115) G dX10_grown_115 rfl ?_
    exact tj_iret (pc := 117) G dX10_grown_117
  refine tj_iload_n (pc := 111) G 1 dX10_grown_111 rfl rfl ?_
  refine tj_goto (pc := 112) G (tgt := 117) dX10_grown_112 (by decide) ?_
  exact tj_iret (pc := 117) G dX10_grown_117

def fx_X10_changedUpTo_L4 (c1 : Int) (rec : Int → Int → tp_M → tp_O) (z3 z4 : Int) (M5 : tp_M) : tp_O :=
(if w32 z4 ≤ w32 c1 then
(tp_ck (w32 z4) 8 (tp_ck (w32 z4) 8 (tp_jn1 (fun y6 M7 => 
(tp_lt (z4 + 1) (fun x8 =>
(rec y6 x8 M7)))) (fun jk30 =>
(if w32 (M5 60 (w32 z4)) = w32 (M5 26 (w32 z4)) then
(jk30 z3 M5)
else
(tp_lt (z3 + 1) (fun x9 =>
(jk30 x9 M5))))))))
else
(some (z3, M5)))
def fx_X10_changedUpTo  (a1 : Int) (M : tp_M) : tp_O :=
(tp_lt 0 (fun x1 =>
(tp_lt 1 (fun x2 =>
(tp_lp2 (fx_X10_changedUpTo_L4 a1 ) tp_F x1 x2 M)))))
set_option maxRecDepth 100000 in
set_option maxHeartbeats 4000000 in
theorem fx_X10_changedUpTo_L4_ok {X : tp_X} {Y : tp_Y} (G : tp_Ok X Y 64 cX10_changedUpTo 4 RX10 (some .int))  {c1 : Int}    (n : Nat) : ∀ (z3 z4 : Int) (M5 : tp_M), tp_J X Y LC 64 4 1 1 (tp_lp2 (fx_X10_changedUpTo_L4  c1 ) n z3 z4 M5) M5 [(0, vR X 0), (1, vI c1), (2, vI z3), (3, vI z4)] [] 4 := by
  refine tp_lp2_ok (P := fun o z3 z4 M5 => tp_J X Y LC 64 4 1 1 (o) M5 [(0, vR X 0), (1, vI c1), (2, vI z3), (3, vI z4)] [] 4) (fun z3 z4 M5 => tj_none) (fun rec hrec z3 z4 M5 => ?_) n
  unfold fx_X10_changedUpTo_L4
  refine tj_iload_n (pc := 4) G 3 dX10_changedUpTo_4 rfl rfl ?_
  refine tj_iload_n (pc := 5) G 1 dX10_changedUpTo_5 rfl rfl ?_
  refine tj_icmp_gt (pc := 6) G (tgt := 36) (a2 := w32 z4) (b2 := w32 c1) dX10_changedUpTo_6 (by decide) rfl rfl ?_ ?_
  · refine tj_iload_n (pc := 36) G 2 dX10_changedUpTo_36 rfl rfl ?_
    exact tj_iret (pc := 37) G dX10_changedUpTo_37
  refine tj_aload_n (pc := 9) G 0 dX10_changedUpTo_9 rfl rfl ?_
  refine tj_getR (pc := 10) G (k := 0) (j := 15) (j2 := 15) tk_X10 (by decide) lc_0 rfl (by decide) rfl fl_X10_95 dX10_changedUpTo_10 ?_
  refine tj_iload_n (pc := 13) G 3 dX10_changedUpTo_13 rfl rfl ?_
  refine tj_iald (pc := 14) G (k := 60) (i2 := w32 z4) (n2 := 8) (by decide) lc_60 rfl rfl dX10_changedUpTo_14 ?_
  refine tj_aload_n (pc := 15) G 0 dX10_changedUpTo_15 rfl rfl ?_
  refine tj_getR (pc := 16) G (k := 0) (j := 6) (j2 := 6) tk_X10 (by decide) lc_0 rfl (by decide) rfl fl_X10_46 dX10_changedUpTo_16 ?_
  refine tj_getRN (pc := 19) G (k := 25) (j := 0) (j2 := 0) tk_X2 (by decide) lc_25 rfl (by decide) rfl fn_X10_160 dX10_changedUpTo_19 ?_
  refine tj_iload_n (pc := 22) G 3 dX10_changedUpTo_22 rfl rfl ?_
  refine tj_iald (pc := 23) G (k := 26) (i2 := w32 z4) (n2 := 8) (by decide) lc_26 rfl rfl dX10_changedUpTo_23 ?_
  refine tj_jn1 (fun y6 => [(0, vR X 0), (1, vI c1), (2, vI y6), (3, vI z4)]) (fun y6 => []) 30 (fun y6 M7 => ?_) (fun jk30 hj30 => ?_)
  · refine tj_iinc (pc := 30) G 3 (fun x8 => [(3, vI x8), (0, vR X 0), (1, vI c1), (2, vI y6)]) dX10_changedUpTo_30 rfl (by decide) (fun _ => rfl) (fun x8 => ?_)
    refine tj_goto (pc := 33) G (tgt := 4) dX10_changedUpTo_33 (by decide) ?_
    exact tj_sub [1, 2, 3, 0] rfl (hrec y6 x8 M7)
  refine tj_icmp_eq (pc := 24) G (tgt := 30) (a2 := w32 (M5 60 (w32 z4))) (b2 := w32 (M5 26 (w32 z4))) dX10_changedUpTo_24 (by decide) rfl rfl ?_ ?_
  · exact tj_sub [0, 1, 2, 3] rfl (hj30 z3 M5)
  refine tj_iinc (pc := 27) G 2 (fun x9 => [(2, vI x9), (0, vR X 0), (1, vI c1), (3, vI z4)]) dX10_changedUpTo_27 rfl (by decide) (fun _ => rfl) (fun x9 => ?_)
  exact tj_sub [1, 2, 0, 3] rfl (hj30 x9 M5)
set_option maxRecDepth 100000 in
set_option maxHeartbeats 4000000 in
theorem ok_X10_changedUpTo (X : tp_X)  {a1 : Int}  {M : tp_M} {res : Int × tp_M} (h : fx_X10_changedUpTo  a1 M = some res) : tp_Ret X LC 64 1 yX10_changedUpTo (Cond.code yX10_changedUpTo cX10_changedUpTo 4 (some .int)) 1 [vR X 0, vI a1] M res := by
  refine tp_ofW (by decide +kernel) rfl rfl (by show _ ≤ 4; exact Nat.le_of_ble_eq_true rfl) h (fun Y G => ?_)
  show tp_J X Y LC 64 4 1 1 (fx_X10_changedUpTo  a1 M) M [(0, vR X 0), (1, vI a1)] [] 0
  unfold fx_X10_changedUpTo
  refine tj_iconst (pc := 0) G dX10_changedUpTo_0 ?_
  refine tj_istore_n (pc := 1) G (fun x1 => [(2, vI x1), (0, vR X 0), (1, vI a1)]) dX10_changedUpTo_1 rfl (by decide) (fun _ => rfl) (fun x1 => ?_)
  refine tj_iconst (pc := 2) G dX10_changedUpTo_2 ?_
  refine tj_istore_n (pc := 3) G (fun x2 => [(3, vI x2), (2, vI x1), (0, vR X 0), (1, vI a1)]) dX10_changedUpTo_3 rfl (by decide) (fun _ => rfl) (fun x2 => ?_)
  refine tj_sub [2, 3, 1, 0] rfl (fx_X10_changedUpTo_L4_ok G     tp_F x1 x2 M)

def fx_X10_closesRing_L17 (c1 : Int) (K53 : Int → tp_M → tp_O) (rec : Int → Int → tp_M → tp_O) (z5 z6 : Int) (M7 : tp_M) : tp_O :=
(if w32 z6 < 8 then
(if w32 z5 ≤ 0 then
(K53 z5 M7)
else
(if w32 z5 < w32 c1 then
(tp_ck (w32 z5) 8 (tp_bd (fx_X4_goal 5 z5 (M7 60 (w32 z5)) M7) (fun r9 M10 =>
(tp_lt r9 (fun x11 =>
(tp_lt (z6 + 1) (fun x12 =>
(rec x11 x12 M10))))))))
else
(K53 z5 M7)))
else
(K53 z5 M7))
def fx_X10_closesRing  (a1 : Int) (M : tp_M) : tp_O :=
(tp_ck (w32 a1) 8 (tp_bd (fx_X4_goal 5 a1 (M 60 (w32 a1)) M) (fun r1 M2 =>
(tp_lt r1 (fun x3 =>
(tp_lt 1 (fun x4 =>
(tp_lp2 (fx_X10_closesRing_L17 a1 (fun y8 M13 =>
(if w32 y8 = w32 a1 then
(some (1, M13))
else
(some (0, M13))))) tp_F x3 x4 M2))))))))
set_option maxRecDepth 100000 in
set_option maxHeartbeats 4000000 in
theorem fx_X10_closesRing_L17_ok {X : tp_X} {Y : tp_Y} (G : tp_Ok X Y 64 cX10_closesRing 4 RX10 (some .boolean))  {c1 : Int} {K53 : Int → tp_M → tp_O}   (hK53 : ∀ (y8 : Int) (M9 : tp_M), tp_J X Y LC 64 4 3 1 (K53 y8 M9) M9 [(1, vI c1), (2, vI y8)] [] 53) (n : Nat) : ∀ (z5 z6 : Int) (M7 : tp_M), tp_J X Y LC 64 4 3 1 (tp_lp2 (fx_X10_closesRing_L17  c1 K53) n z5 z6 M7) M7 [(0, vR X 0), (1, vI c1), (2, vI z5), (3, vI z6)] [] 17 := by
  refine tp_lp2_ok (P := fun o z5 z6 M7 => tp_J X Y LC 64 4 3 1 (o) M7 [(0, vR X 0), (1, vI c1), (2, vI z5), (3, vI z6)] [] 17) (fun z5 z6 M7 => tj_none) (fun rec hrec z5 z6 M7 => ?_) n
  unfold fx_X10_closesRing_L17
  refine tj_iload_n (pc := 17) G 3 dX10_closesRing_17 rfl rfl ?_
  refine tj_bipush (pc := 18) G dX10_closesRing_18 rfl ?_
  refine tj_icmp_ge (pc := 20) G (tgt := 53) (a2 := w32 z6) (b2 := 8) dX10_closesRing_20 (by decide) rfl rfl ?_ ?_
  · exact tj_sub [1, 2] rfl (hK53 z5 M7)
  refine tj_iload_n (pc := 23) G 2 dX10_closesRing_23 rfl rfl ?_
  refine tj_if_le (pc := 24) G (tgt := 53) (a2 := w32 z5) dX10_closesRing_24 (by decide) rfl ?_ ?_
  · exact tj_sub [1, 2] rfl (hK53 z5 M7)
  refine tj_iload_n (pc := 27) G 2 dX10_closesRing_27 rfl rfl ?_
  refine tj_iload_n (pc := 28) G 1 dX10_closesRing_28 rfl rfl ?_
  refine tj_icmp_ge (pc := 29) G (tgt := 53) (a2 := w32 z5) (b2 := w32 c1) dX10_closesRing_29 (by decide) rfl rfl ?_ ?_
  · exact tj_sub [1, 2] rfl (hK53 z5 M7)
  refine tj_aload_n (pc := 32) G 0 dX10_closesRing_32 rfl rfl ?_
  refine tj_getR (pc := 33) G (k := 0) (j := 2) (j2 := 2) tk_X10 (by decide) lc_0 rfl (by decide) rfl fl_X10_26 dX10_closesRing_33 ?_
  refine tj_iload_n (pc := 36) G 2 dX10_closesRing_36 rfl rfl ?_
  refine tj_aload_n (pc := 37) G 0 dX10_closesRing_37 rfl rfl ?_
  refine tj_getR (pc := 38) G (k := 0) (j := 15) (j2 := 15) tk_X10 (by decide) lc_0 rfl (by decide) rfl fl_X10_95 dX10_closesRing_38 ?_
  refine tj_iload_n (pc := 41) G 2 dX10_closesRing_41 rfl rfl ?_
  refine tj_iald (pc := 42) G (k := 60) (i2 := w32 z5) (n2 := 8) (by decide) lc_60 rfl rfl dX10_closesRing_42 ?_
  refine tj_callVi (pc := 43) G [vI z5, vI (M7 60 (w32 z5))] mf_X4_goal (k := 5) (by decide) lc_5 rfl rfl ml_X10_163 (by decide) rfl rfl (Nat.le_of_ble_eq_true rfl) (fun _ h9 => ok_X4_goal X gg_Paths_5 h9) dX10_closesRing_43 (fun r9 M10 => ?_)
  refine tj_istore_n (pc := 46) G (fun x11 => [(2, vI x11), (0, vR X 0), (1, vI c1), (3, vI z6)]) dX10_closesRing_46 rfl (by decide) (fun _ => rfl) (fun x11 => ?_)
  refine tj_iinc (pc := 47) G 3 (fun x12 => [(3, vI x12), (2, vI x11), (0, vR X 0), (1, vI c1)]) dX10_closesRing_47 rfl (by decide) (fun _ => rfl) (fun x12 => ?_)
  refine tj_goto (pc := 50) G (tgt := 17) dX10_closesRing_50 (by decide) ?_
  exact tj_sub [2, 3, 1, 0] rfl (hrec x11 x12 M10)
set_option maxRecDepth 100000 in
set_option maxHeartbeats 4000000 in
theorem ok_X10_closesRing (X : tp_X)  {a1 : Int}  {M : tp_M} {res : Int × tp_M} (h : fx_X10_closesRing  a1 M = some res) : tp_Ret X LC 64 1 yX10_closesRing (Cond.code yX10_closesRing cX10_closesRing 4 (some .boolean)) 3 [vR X 0, vI a1] M res := by
  refine tp_ofW (by decide +kernel) rfl rfl (by show _ ≤ 4; exact Nat.le_of_ble_eq_true rfl) h (fun Y G => ?_)
  show tp_J X Y LC 64 4 3 1 (fx_X10_closesRing  a1 M) M [(0, vR X 0), (1, vI a1)] [] 0
  unfold fx_X10_closesRing
  refine tj_aload_n (pc := 0) G 0 dX10_closesRing_0 rfl rfl ?_
  refine tj_getR (pc := 1) G (k := 0) (j := 2) (j2 := 2) tk_X10 (by decide) lc_0 rfl (by decide) rfl fl_X10_26 dX10_closesRing_1 ?_
  refine tj_iload_n (pc := 4) G 1 dX10_closesRing_4 rfl rfl ?_
  refine tj_aload_n (pc := 5) G 0 dX10_closesRing_5 rfl rfl ?_
  refine tj_getR (pc := 6) G (k := 0) (j := 15) (j2 := 15) tk_X10 (by decide) lc_0 rfl (by decide) rfl fl_X10_95 dX10_closesRing_6 ?_
  refine tj_iload_n (pc := 9) G 1 dX10_closesRing_9 rfl rfl ?_
  refine tj_iald (pc := 10) G (k := 60) (i2 := w32 a1) (n2 := 8) (by decide) lc_60 rfl rfl dX10_closesRing_10 ?_
  refine tj_callVi (pc := 11) G [vI a1, vI (M 60 (w32 a1))] mf_X4_goal (k := 5) (by decide) lc_5 rfl rfl ml_X10_163 (by decide) rfl rfl (Nat.le_of_ble_eq_true rfl) (fun _ h9 => ok_X4_goal X gg_Paths_5 h9) dX10_closesRing_11 (fun r1 M2 => ?_)
  refine tj_istore_n (pc := 14) G (fun x3 => [(2, vI x3), (0, vR X 0), (1, vI a1)]) dX10_closesRing_14 rfl (by decide) (fun _ => rfl) (fun x3 => ?_)
  refine tj_iconst (pc := 15) G dX10_closesRing_15 ?_
  refine tj_istore_n (pc := 16) G (fun x4 => [(3, vI x4), (2, vI x3), (0, vR X 0), (1, vI a1)]) dX10_closesRing_16 rfl (by decide) (fun _ => rfl) (fun x4 => ?_)
  refine tj_sub [2, 3, 1, 0] rfl (fx_X10_closesRing_L17_ok G    (fun y8 M13 => ?_) tp_F x3 x4 M2)
  refine tj_iload_n (pc := 53) G 1 dX10_closesRing_53 rfl rfl ?_
  refine tj_iload_n (pc := 54) G 0 dX10_closesRing_54 rfl rfl ?_
  refine tj_icmp_ne (pc := 55) G (tgt := 62) (a2 := w32 y8) (b2 := w32 a1) dX10_closesRing_55 (by decide) rfl rfl ?_ ?_
  · refine tj_iconst (pc := 62) G dX10_closesRing_62 ?_
    exact tj_zret (pc := 63) G (by decide) dX10_closesRing_63
  refine tj_iconst (pc := 58) G dX10_closesRing_58 ?_
  refine tj_goto (pc := 59) G (tgt := 63) dX10_closesRing_59 (by decide) ?_
  exact tj_zret (pc := 63) G (by decide) dX10_closesRing_63

def fx_X10_mendsWith_L22 (c1 : Int) (c2 : Int) (rec : Int → Int → tp_M → tp_O) (z7 z8 : Int) (M9 : tp_M) : tp_O :=
(if w32 z8 < 1000000 then
(if w32 z7 < 1 then
(some (0, M9))
else
(if w32 z7 ≤ w32 c2 then
(tp_ck (w32 z7) 8 (tp_ck (w32 z7) 8 (tp_lm (tp_up M9 60 (w32 z7) ((M9 60 (w32 z7)) + 1)) (fun M10 =>
(tp_ck (w32 z7) 8 (tp_bd (fx_X4_degree 5 z7 M10) (fun r11 M12 =>
(tp_jn1 (fun y13 M14 => 
(tp_lt (z8 + 1) (fun x15 =>
(rec y13 x15 M14)))) (fun jk107 =>
(if w32 (M10 60 (w32 z7)) < w32 r11 then
(tp_bd (fx_X10_changedUpTo z7 M12) (fun r16 M17 =>
(if w32 r16 ≤ w32 c1 then
(tp_bd (fx_X10_closesRing z7 M17) (fun r18 M19 =>
(if w32 r18 = 0 then
(if w32 z7 = w32 c2 then
(some (1, M19))
else
(tp_lt (z7 + 1) (fun x20 =>
(tp_ck (w32 x20) 8 (tp_lm (tp_up M19 60 (w32 x20) (-1)) (fun M21 =>
(jk107 x20 M21)))))))
else
(jk107 z7 M19))))
else
(jk107 z7 M17))))
else
(tp_lt (z7 + (-1)) (fun x22 =>
(jk107 x22 M12)))))))))))))
else
(some (0, M9))))
else
(some (0, M9)))
def fx_X10_mendsWith  (a1 : Int) (M : tp_M) : tp_O :=
(tp_bd (fx_X4_crossings 5 M) (fun r1 M2 =>
(tp_lt (r1 - 1) (fun x3 =>
(tp_lt 1 (fun x4 =>
(tp_lm (tp_up M2 60 1 (-1)) (fun M5 =>
(tp_lt 0 (fun x6 =>
(tp_lp2 (fx_X10_mendsWith_L22 a1 x3 ) tp_F x4 x6 M5)))))))))))
set_option maxRecDepth 100000 in
set_option maxHeartbeats 4000000 in
theorem fx_X10_mendsWith_L22_ok {X : tp_X} {Y : tp_Y} (G : tp_Ok X Y 64 cX10_mendsWith 5 RX10 (some .boolean))  {c1 : Int} {c2 : Int}    (n : Nat) : ∀ (z7 z8 : Int) (M9 : tp_M), tp_J X Y LC 64 5 4 1 (tp_lp2 (fx_X10_mendsWith_L22  c1 c2 ) n z7 z8 M9) M9 [(0, vR X 0), (1, vI c1), (2, vI c2), (3, vI z7), (4, vI z8)] [] 22 := by
  refine tp_lp2_ok (P := fun o z7 z8 M9 => tp_J X Y LC 64 5 4 1 (o) M9 [(0, vR X 0), (1, vI c1), (2, vI c2), (3, vI z7), (4, vI z8)] [] 22) (fun z7 z8 M9 => tj_none) (fun rec hrec z7 z8 M9 => ?_) n
  unfold fx_X10_mendsWith_L22
  refine tj_iload (pc := 22) G 4 dX10_mendsWith_22 rfl ?_
  refine tj_ldcw (pc := 24) G (v := 1000000) dX10_mendsWith_24 ct_X10_331 rfl ?_
  refine tj_icmp_ge (pc := 27) G (tgt := 113) (a2 := w32 z8) (b2 := 1000000) dX10_mendsWith_27 (by decide) rfl rfl ?_ ?_
  · refine tj_iconst (pc := 113) G dX10_mendsWith_113 ?_
    exact tj_zret (pc := 114) G (by decide) dX10_mendsWith_114
  refine tj_iload_n (pc := 30) G 3 dX10_mendsWith_30 rfl rfl ?_
  refine tj_iconst (pc := 31) G dX10_mendsWith_31 ?_
  refine tj_icmp_lt (pc := 32) G (tgt := 113) (a2 := w32 z7) (b2 := 1) dX10_mendsWith_32 (by decide) rfl rfl ?_ ?_
  · refine tj_iconst (pc := 113) G dX10_mendsWith_113 ?_
    exact tj_zret (pc := 114) G (by decide) dX10_mendsWith_114
  refine tj_iload_n (pc := 35) G 3 dX10_mendsWith_35 rfl rfl ?_
  refine tj_iload_n (pc := 36) G 2 dX10_mendsWith_36 rfl rfl ?_
  refine tj_icmp_gt (pc := 37) G (tgt := 113) (a2 := w32 z7) (b2 := w32 c2) dX10_mendsWith_37 (by decide) rfl rfl ?_ ?_
  · refine tj_iconst (pc := 113) G dX10_mendsWith_113 ?_
    exact tj_zret (pc := 114) G (by decide) dX10_mendsWith_114
  refine tj_aload_n (pc := 40) G 0 dX10_mendsWith_40 rfl rfl ?_
  refine tj_getR (pc := 41) G (k := 0) (j := 15) (j2 := 15) tk_X10 (by decide) lc_0 rfl (by decide) rfl fl_X10_95 dX10_mendsWith_41 ?_
  refine tj_iload_n (pc := 44) G 3 dX10_mendsWith_44 rfl rfl ?_
  refine tj_dup2 (pc := 45) G dX10_mendsWith_45 rfl rfl ?_
  refine tj_iald (pc := 46) G (k := 60) (i2 := w32 z7) (n2 := 8) (by decide) lc_60 rfl rfl dX10_mendsWith_46 ?_
  refine tj_iconst (pc := 47) G dX10_mendsWith_47 ?_
  refine tj_iadd (pc := 48) G dX10_mendsWith_48 ?_
  refine tj_iast (pc := 49) G (k := 60) (i2 := w32 z7) (n2 := 8) (by decide) lc_60 rfl rfl dX10_mendsWith_49 (fun M10 => ?_)
  refine tj_aload_n (pc := 50) G 0 dX10_mendsWith_50 rfl rfl ?_
  refine tj_getR (pc := 51) G (k := 0) (j := 15) (j2 := 15) tk_X10 (by decide) lc_0 rfl (by decide) rfl fl_X10_95 dX10_mendsWith_51 ?_
  refine tj_iload_n (pc := 54) G 3 dX10_mendsWith_54 rfl rfl ?_
  refine tj_iald (pc := 55) G (k := 60) (i2 := w32 z7) (n2 := 8) (by decide) lc_60 rfl rfl dX10_mendsWith_55 ?_
  refine tj_aload_n (pc := 56) G 0 dX10_mendsWith_56 rfl rfl ?_
  refine tj_getR (pc := 57) G (k := 0) (j := 2) (j2 := 2) tk_X10 (by decide) lc_0 rfl (by decide) rfl fl_X10_26 dX10_mendsWith_57 ?_
  refine tj_iload_n (pc := 60) G 3 dX10_mendsWith_60 rfl rfl ?_
  refine tj_callVi (pc := 61) G [vI z7] mf_X4_degree (k := 5) (by decide) lc_5 rfl rfl ml_X10_156 (by decide) rfl rfl (Nat.le_of_ble_eq_true rfl) (fun _ h9 => ok_X4_degree X gg_Paths_5 h9) dX10_mendsWith_61 (fun r11 M12 => ?_)
  refine tj_jn1 (fun y13 => [(0, vR X 0), (1, vI c1), (2, vI c2), (3, vI y13), (4, vI z8)]) (fun y13 => []) 107 (fun y13 M14 => ?_) (fun jk107 hj107 => ?_)
  · refine tj_iinc (pc := 107) G 4 (fun x15 => [(4, vI x15), (0, vR X 0), (1, vI c1), (2, vI c2), (3, vI y13)]) dX10_mendsWith_107 rfl (by decide) (fun _ => rfl) (fun x15 => ?_)
    refine tj_goto (pc := 110) G (tgt := 22) dX10_mendsWith_110 (by decide) ?_
    exact tj_sub [1, 2, 3, 4, 0] rfl (hrec y13 x15 M14)
  refine tj_icmp_lt (pc := 64) G (tgt := 73) (a2 := w32 (M10 60 (w32 z7))) (b2 := w32 r11) dX10_mendsWith_64 (by decide) rfl rfl ?_ ?_
  · refine tj_aload_n (pc := 73) G 0 dX10_mendsWith_73 rfl rfl ?_
    refine tj_iload_n (pc := 74) G 3 dX10_mendsWith_74 rfl rfl ?_
    refine tj_callVi (pc := 75) G [vI z7] mf_X10_changedUpTo (k := 0) (by decide) lc_0 rfl rfl ml_X10_332 (by decide) rfl rfl (Nat.le_of_ble_eq_true rfl) (fun _ h9 => ok_X10_changedUpTo X  h9) dX10_mendsWith_75 (fun r16 M17 => ?_)
    refine tj_iload_n (pc := 78) G 1 dX10_mendsWith_78 rfl rfl ?_
    refine tj_icmp_gt (pc := 79) G (tgt := 107) (a2 := w32 r16) (b2 := w32 c1) dX10_mendsWith_79 (by decide) rfl rfl ?_ ?_
    · exact tj_sub [0, 1, 2, 3, 4] rfl (hj107 z7 M17)
    refine tj_aload_n (pc := 82) G 0 dX10_mendsWith_82 rfl rfl ?_
    refine tj_iload_n (pc := 83) G 3 dX10_mendsWith_83 rfl rfl ?_
    refine tj_callVi (pc := 84) G [vI z7] mf_X10_closesRing (k := 0) (by decide) lc_0 rfl rfl ml_X10_335 (by decide) rfl rfl (Nat.le_of_ble_eq_true rfl) (fun _ h9 => ok_X10_closesRing X  h9) dX10_mendsWith_84 (fun r18 M19 => ?_)
    refine tj_if_ne (pc := 87) G (tgt := 107) (a2 := w32 r18) dX10_mendsWith_87 (by decide) rfl ?_ ?_
    · exact tj_sub [0, 1, 2, 3, 4] rfl (hj107 z7 M19)
    refine tj_iload_n (pc := 90) G 3 dX10_mendsWith_90 rfl rfl ?_
    refine tj_iload_n (pc := 91) G 2 dX10_mendsWith_91 rfl rfl ?_
    refine tj_icmp_ne (pc := 92) G (tgt := 97) (a2 := w32 z7) (b2 := w32 c2) dX10_mendsWith_92 (by decide) rfl rfl ?_ ?_
    · refine tj_iinc (pc := 97) G 3 (fun x20 => [(3, vI x20), (0, vR X 0), (1, vI c1), (2, vI c2), (4, vI z8)]) dX10_mendsWith_97 rfl (by decide) (fun _ => rfl) (fun x20 => ?_)
      refine tj_aload_n (pc := 100) G 1 dX10_mendsWith_100 rfl rfl ?_
      refine tj_getR (pc := 101) G (k := 0) (j := 15) (j2 := 15) tk_X10 (by decide) lc_0 rfl (by decide) rfl fl_X10_95 dX10_mendsWith_101 ?_
      refine tj_iload_n (pc := 104) G 0 dX10_mendsWith_104 rfl rfl ?_
      refine tj_iconst (pc := 105) G dX10_mendsWith_105 ?_
      refine tj_iast (pc := 106) G (k := 60) (i2 := w32 x20) (n2 := 8) (by decide) lc_60 rfl rfl dX10_mendsWith_106 (fun M21 => ?_)
      exact tj_sub [1, 2, 3, 0, 4] rfl (hj107 x20 M21)
    refine tj_iconst (pc := 95) G dX10_mendsWith_95 ?_
    exact tj_zret (pc := 96) G (by decide) dX10_mendsWith_96
  refine tj_iinc (pc := 67) G 3 (fun x22 => [(3, vI x22), (0, vR X 0), (1, vI c1), (2, vI c2), (4, vI z8)]) dX10_mendsWith_67 rfl (by decide) (fun _ => rfl) (fun x22 => ?_)
  refine tj_goto (pc := 70) G (tgt := 107) dX10_mendsWith_70 (by decide) ?_
  exact tj_sub [1, 2, 3, 0, 4] rfl (hj107 x22 M12)
set_option maxRecDepth 100000 in
set_option maxHeartbeats 4000000 in
theorem ok_X10_mendsWith (X : tp_X)  {a1 : Int}  {M : tp_M} {res : Int × tp_M} (h : fx_X10_mendsWith  a1 M = some res) : tp_Ret X LC 64 1 yX10_mendsWith (Cond.code yX10_mendsWith cX10_mendsWith 5 (some .boolean)) 4 [vR X 0, vI a1] M res := by
  refine tp_ofW (by decide +kernel) rfl rfl (by show _ ≤ 5; exact Nat.le_of_ble_eq_true rfl) h (fun Y G => ?_)
  show tp_J X Y LC 64 5 4 1 (fx_X10_mendsWith  a1 M) M [(0, vR X 0), (1, vI a1)] [] 0
  unfold fx_X10_mendsWith
  refine tj_aload_n (pc := 0) G 0 dX10_mendsWith_0 rfl rfl ?_
  refine tj_getR (pc := 1) G (k := 0) (j := 2) (j2 := 2) tk_X10 (by decide) lc_0 rfl (by decide) rfl fl_X10_26 dX10_mendsWith_1 ?_
  refine tj_callVi (pc := 4) G [] mf_X4_crossings (k := 5) (by decide) lc_5 rfl rfl ml_X10_275 (by decide) rfl rfl (Nat.le_of_ble_eq_true rfl) (fun _ h9 => ok_X4_crossings X gg_Paths_5 h9) dX10_mendsWith_4 (fun r1 M2 => ?_)
  refine tj_iconst (pc := 7) G dX10_mendsWith_7 ?_
  refine tj_isub (pc := 8) G dX10_mendsWith_8 ?_
  refine tj_istore_n (pc := 9) G (fun x3 => [(2, vI x3), (0, vR X 0), (1, vI a1)]) dX10_mendsWith_9 rfl (by decide) (fun _ => rfl) (fun x3 => ?_)
  refine tj_iconst (pc := 10) G dX10_mendsWith_10 ?_
  refine tj_istore_n (pc := 11) G (fun x4 => [(3, vI x4), (2, vI x3), (0, vR X 0), (1, vI a1)]) dX10_mendsWith_11 rfl (by decide) (fun _ => rfl) (fun x4 => ?_)
  refine tj_aload_n (pc := 12) G 2 dX10_mendsWith_12 rfl rfl ?_
  refine tj_getR (pc := 13) G (k := 0) (j := 15) (j2 := 15) tk_X10 (by decide) lc_0 rfl (by decide) rfl fl_X10_95 dX10_mendsWith_13 ?_
  refine tj_iconst (pc := 16) G dX10_mendsWith_16 ?_
  refine tj_iconst (pc := 17) G dX10_mendsWith_17 ?_
  refine tj_iast1 (pc := 18) G (k := 60) (i2 := 1) (n2 := 0) (by decide) lc_60 rfl (by decide) dX10_mendsWith_18 (fun M5 => ?_)
  refine tj_iconst (pc := 19) G dX10_mendsWith_19 ?_
  refine tj_istore (pc := 20) G (fun x6 => [(4, vI x6), (3, vI x4), (2, vI x3), (0, vR X 0), (1, vI a1)]) dX10_mendsWith_20 (by decide) (fun _ => rfl) (fun x6 => ?_)
  refine tj_sub [3, 4, 2, 1, 0] rfl (fx_X10_mendsWith_L22_ok G     tp_F x4 x6 M5)

def fx_X10_mends_L2  (K21 : Int → tp_M → tp_O) (rec : Int → tp_M → tp_O) (z2 : Int) (M3 : tp_M) : tp_O :=
(tp_bd (fx_X4_crossings 5 M3) (fun r5 M6 =>
(if w32 z2 < w32 r5 then
(tp_bd (fx_X10_mendsWith z2 M6) (fun r7 M8 =>
(if w32 r7 = 0 then
(tp_lt (z2 + 1) (fun x9 =>
(rec x9 M8)))
else
(K21 z2 M8))))
else
(some ((-2), M6)))))
def fx_X10_mends   (M : tp_M) : tp_O :=
(tp_lt 0 (fun x1 =>
(tp_lp1 (fx_X10_mends_L2  (fun y4 M10 =>
(tp_bd (fx_X4_crossings 5 M10) (fun r11 M12 =>
(tp_bd (fx_X8_tellRow 60 8 r11 M12) (fun r13 M14 =>
(some (y4, M14)))))))) tp_F x1 M)))
set_option maxRecDepth 100000 in
set_option maxHeartbeats 4000000 in
theorem fx_X10_mends_L2_ok {X : tp_X} {Y : tp_Y} (G : tp_Ok X Y 64 cX10_mends 2 RX10 (some .int))  {K21 : Int → tp_M → tp_O}   (hK21 : ∀ (y4 : Int) (M9 : tp_M), tp_J X Y LC 64 2 5 1 (K21 y4 M9) M9 [(0, vR X 0), (1, vI y4)] [] 21) (n : Nat) : ∀ (z2 : Int) (M3 : tp_M), tp_J X Y LC 64 2 5 1 (tp_lp1 (fx_X10_mends_L2   K21) n z2 M3) M3 [(0, vR X 0), (1, vI z2)] [] 2 := by
  refine tp_lp1_ok (P := fun o z2 M3 => tp_J X Y LC 64 2 5 1 (o) M3 [(0, vR X 0), (1, vI z2)] [] 2) (fun z2 M3 => tj_none) (fun rec hrec z2 M3 => ?_) n
  unfold fx_X10_mends_L2
  refine tj_iload_n (pc := 2) G 1 dX10_mends_2 rfl rfl ?_
  refine tj_aload_n (pc := 3) G 0 dX10_mends_3 rfl rfl ?_
  refine tj_getR (pc := 4) G (k := 0) (j := 2) (j2 := 2) tk_X10 (by decide) lc_0 rfl (by decide) rfl fl_X10_26 dX10_mends_4 ?_
  refine tj_callVi (pc := 7) G [] mf_X4_crossings (k := 5) (by decide) lc_5 rfl rfl ml_X10_275 (by decide) rfl rfl (Nat.le_of_ble_eq_true rfl) (fun _ h9 => ok_X4_crossings X gg_Paths_5 h9) dX10_mends_7 (fun r5 M6 => ?_)
  refine tj_icmp_ge (pc := 10) G (tgt := 47) (a2 := w32 z2) (b2 := w32 r5) dX10_mends_10 (by decide) rfl rfl ?_ ?_
  · refine tj_bipush (pc := 47) G dX10_mends_47 rfl ?_
    exact tj_iret (pc := 49) G dX10_mends_49
  refine tj_aload_n (pc := 13) G 0 dX10_mends_13 rfl rfl ?_
  refine tj_iload_n (pc := 14) G 1 dX10_mends_14 rfl rfl ?_
  refine tj_callVi (pc := 15) G [vI z2] mf_X10_mendsWith (k := 0) (by decide) lc_0 rfl rfl ml_X10_328 (by decide) rfl rfl (Nat.le_of_ble_eq_true rfl) (fun _ h9 => ok_X10_mendsWith X  h9) dX10_mends_15 (fun r7 M8 => ?_)
  refine tj_if_eq (pc := 18) G (tgt := 41) (a2 := w32 r7) dX10_mends_18 (by decide) rfl ?_ ?_
  · refine tj_iinc (pc := 41) G 1 (fun x9 => [(1, vI x9), (0, vR X 0)]) dX10_mends_41 rfl (by decide) (fun _ => rfl) (fun x9 => ?_)
    refine tj_goto (pc := 44) G (tgt := 2) dX10_mends_44 (by decide) ?_
    exact tj_sub [1, 0] rfl (hrec x9 M8)
  exact tj_sub [0, 1] rfl (hK21 z2 M8)
set_option maxRecDepth 100000 in
set_option maxHeartbeats 4000000 in
theorem ok_X10_mends (X : tp_X)    {M : tp_M} {res : Int × tp_M} (h : fx_X10_mends   M = some res) : tp_Ret X LC 64 1 yX10_mends (Cond.code yX10_mends cX10_mends 2 (some .int)) 5 [vR X 0] M res := by
  refine tp_ofW (by decide +kernel) rfl rfl (by show _ ≤ 2; exact Nat.le_of_ble_eq_true rfl) h (fun Y G => ?_)
  show tp_J X Y LC 64 2 5 1 (fx_X10_mends   M) M [(0, vR X 0)] [] 0
  unfold fx_X10_mends
  refine tj_iconst (pc := 0) G dX10_mends_0 ?_
  refine tj_istore_n (pc := 1) G (fun x1 => [(1, vI x1), (0, vR X 0)]) dX10_mends_1 rfl (by decide) (fun _ => rfl) (fun x1 => ?_)
  refine tj_sub [1, 0] rfl (fx_X10_mends_L2_ok G    (fun y4 M10 => ?_) tp_F x1 M)
  refine tj_aload_n (pc := 21) G 0 dX10_mends_21 rfl rfl ?_
  refine tj_getR (pc := 22) G (k := 0) (j := 1) (j2 := 1) tk_X10 (by decide) lc_0 rfl (by decide) rfl fl_X10_19 dX10_mends_22 ?_
  refine tj_aload_n (pc := 25) G 0 dX10_mends_25 rfl rfl ?_
  refine tj_getR (pc := 26) G (k := 0) (j := 15) (j2 := 15) tk_X10 (by decide) lc_0 rfl (by decide) rfl fl_X10_95 dX10_mends_26 ?_
  refine tj_aload_n (pc := 29) G 0 dX10_mends_29 rfl rfl ?_
  refine tj_getR (pc := 30) G (k := 0) (j := 2) (j2 := 2) tk_X10 (by decide) lc_0 rfl (by decide) rfl fl_X10_26 dX10_mends_30 ?_
  refine tj_callVi (pc := 33) G [] mf_X4_crossings (k := 5) (by decide) lc_5 rfl rfl ml_X10_275 (by decide) rfl rfl (Nat.le_of_ble_eq_true rfl) (fun _ h9 => ok_X4_crossings X gg_Paths_5 h9) dX10_mends_33 (fun r11 M12 => ?_)
  refine tj_callVv (pc := 36) G [vR X 60, vI r11] mf_X8_tellRow (k := 3) (by decide) lc_3 rfl rfl ml_X10_290 (by decide) rfl rfl (Nat.le_of_ble_eq_true rfl) (fun _ h9 => ok_X8_tellRow X ⟨by decide, lc_60⟩ h9) dX10_mends_36 (fun r13 M14 => ?_)
  refine tj_iload_n (pc := 39) G 1 dX10_mends_39 rfl rfl ?_
  exact tj_iret (pc := 40) G dX10_mends_40
