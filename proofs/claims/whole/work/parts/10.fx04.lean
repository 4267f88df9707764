def fx_X10_stepOf  (k1 : Nat) (a2 : Int) (M : tp_M) : tp_O :=
(tp_bd (fx_X4_hasPost 5 a2 M) (fun r1 M2 =>
(if w32 r1 = 0 then
(some (0, M2))
else
(tp_ck (w32 a2) 8 (tp_ck (w32 a2) 8 (tp_lm (tp_up M2 (k1 + 2) (w32 a2) ((M2 (k1 + 2) (w32 a2)) - 1)) (fun M3 =>
(tp_bd (fx_X10_stride k1 15 a2 M3) (fun r4 M5 =>
(tp_lt r4 (fun x6 =>
(tp_bd (fx_X4_hasPost 5 x6 M5) (fun r7 M8 =>
(if w32 r7 = 0 then
(some (x6, M8))
else
(tp_ck (w32 x6) 8 (tp_ck (w32 x6) 8 (tp_lm (tp_up M8 (k1 + 2) (w32 x6) ((M8 (k1 + 2) (w32 x6)) + 1)) (fun M9 =>
(some (x6, M9))))))))))))))))))))
set_option maxRecDepth 100000 in
set_option maxHeartbeats 4000000 in
theorem ok_X10_stepOf (X : tp_X)  {k1 : Nat} {a2 : Int} (hk1 : tg_Moor LC 64 k1) {M : tp_M} {res : Int × tp_M} (h : fx_X10_stepOf  k1 a2 M = some res) : tp_Ret X LC 64 1 yX10_stepOf (Cond.code yX10_stepOf cX10_stepOf 4 (some .int)) 4 [vR X 0, vR X k1, vI a2] M res := by
  refine tp_ofW (by decide +kernel) rfl rfl (by show _ ≤ 4; exact Nat.le_of_ble_eq_true rfl) h (fun Y G => ?_)
  show tp_J X Y LC 64 4 4 1 (fx_X10_stepOf  k1 a2 M) M [(0, vR X 0), (1, vR X k1), (2, vI a2)] [] 0
  unfold fx_X10_stepOf
  refine tj_aload_n (pc := 0) G 0 dX10_stepOf_0 rfl rfl ?_
  refine tj_getR (pc := 1) G (k := 0) (j := 2) (j2 := 2) tk_X10 (by decide) lc_0 rfl (by decide) rfl fl_X10_26 dX10_stepOf_1 ?_
  refine tj_iload_n (pc := 4) G 2 dX10_stepOf_4 rfl rfl ?_
  refine tj_callVi (pc := 5) G [vI a2] mf_X4_hasPost (k := 5) (by decide) lc_5 rfl rfl ml_X10_176 (by decide) rfl rfl (Nat.le_of_ble_eq_true rfl) (fun _ h9 => ok_X4_hasPost X gg_Paths_5 h9) dX10_stepOf_5 (fun r1 M2 => ?_)
  refine tj_if_ne (pc := 8) G (tgt := 13) (a2 := w32 r1) dX10_stepOf_8 (by decide) rfl ?_ ?_
  · refine tj_aload_n (pc := 13) G 1 dX10_stepOf_13 rfl rfl ?_
    refine tj_getRN (pc := 14) G (k := k1) (j := 1) (j2 := 1) tk_X2 (tg_Moor_l0 hk1) hk1.2.1 rfl (by decide) rfl fn_X10_167 dX10_stepOf_14 ?_
    refine tj_iload_n (pc := 17) G 2 dX10_stepOf_17 rfl rfl ?_
    refine tj_dup2 (pc := 18) G dX10_stepOf_18 rfl rfl ?_
    refine tj_iald (pc := 19) G (k := (k1 + 2)) (i2 := w32 a2) (n2 := 8) (tg_Moor_l2 hk1) hk1.2.2.2 rfl rfl dX10_stepOf_19 ?_
    refine tj_iconst (pc := 20) G dX10_stepOf_20 ?_
    refine tj_isub (pc := 21) G dX10_stepOf_21 ?_
    refine tj_iast (pc := 22) G (k := (k1 + 2)) (i2 := w32 a2) (n2 := 8) (tg_Moor_l2 hk1) hk1.2.2.2 rfl rfl dX10_stepOf_22 (fun M3 => ?_)
    refine tj_aload_n (pc := 23) G 0 dX10_stepOf_23 rfl rfl ?_
    refine tj_aload_n (pc := 24) G 1 dX10_stepOf_24 rfl rfl ?_
    refine tj_aload_n (pc := 25) G 0 dX10_stepOf_25 rfl rfl ?_
    refine tj_getR (pc := 26) G (k := 0) (j := 4) (j2 := 4) tk_X10 (by decide) lc_0 rfl (by decide) rfl fl_X10_36 dX10_stepOf_26 ?_
    refine tj_iload_n (pc := 29) G 2 dX10_stepOf_29 rfl rfl ?_
    refine tj_callVi (pc := 30) G [vR X k1, vR X 15, vI a2] mf_X10_stride (k := 0) (by decide) lc_0 rfl rfl ml_X10_303 (by decide) rfl rfl (Nat.le_of_ble_eq_true rfl) (fun _ h9 => ok_X10_stride X hk1 gg_Turner_15 h9) dX10_stepOf_30 (fun r4 M5 => ?_)
    refine tj_istore_n (pc := 33) G (fun x6 => [(3, vI x6), (0, vR X 0), (1, vR X k1), (2, vI a2)]) dX10_stepOf_33 rfl (by decide) (fun _ => rfl) (fun x6 => ?_)
    refine tj_aload_n (pc := 34) G 1 dX10_stepOf_34 rfl rfl ?_
    refine tj_getR (pc := 35) G (k := 0) (j := 2) (j2 := 2) tk_X10 (by decide) lc_0 rfl (by decide) rfl fl_X10_26 dX10_stepOf_35 ?_
    refine tj_iload_n (pc := 38) G 0 dX10_stepOf_38 rfl rfl ?_
    refine tj_callVi (pc := 39) G [vI x6] mf_X4_hasPost (k := 5) (by decide) lc_5 rfl rfl ml_X10_176 (by decide) rfl rfl (Nat.le_of_ble_eq_true rfl) (fun _ h9 => ok_X4_hasPost X gg_Paths_5 h9) dX10_stepOf_39 (fun r7 M8 => ?_)
    refine tj_if_eq (pc := 42) G (tgt := 55) (a2 := w32 r7) dX10_stepOf_42 (by decide) rfl ?_ ?_
    · refine tj_iload_n (pc := 55) G 0 dX10_stepOf_55 rfl rfl ?_
      exact tj_iret (pc := 56) G dX10_stepOf_56
    refine tj_aload_n (pc := 45) G 2 dX10_stepOf_45 rfl rfl ?_
    refine tj_getRN (pc := 46) G (k := k1) (j := 1) (j2 := 1) tk_X2 (tg_Moor_l0 hk1) hk1.2.1 rfl (by decide) rfl fn_X10_167 dX10_stepOf_46 ?_
    refine tj_iload_n (pc := 49) G 0 dX10_stepOf_49 rfl rfl ?_
    refine tj_dup2 (pc := 50) G dX10_stepOf_50 rfl rfl ?_
    refine tj_iald (pc := 51) G (k := (k1 + 2)) (i2 := w32 x6) (n2 := 8) (tg_Moor_l2 hk1) hk1.2.2.2 rfl rfl dX10_stepOf_51 ?_
    refine tj_iconst (pc := 52) G dX10_stepOf_52 ?_
    refine tj_iadd (pc := 53) G dX10_stepOf_53 ?_
    refine tj_iast (pc := 54) G (k := (k1 + 2)) (i2 := w32 x6) (n2 := 8) (tg_Moor_l2 hk1) hk1.2.2.2 rfl rfl dX10_stepOf_54 (fun M9 => ?_)
    refine tj_iload_n (pc := 55) G 0 dX10_stepOf_55 rfl rfl ?_
    exact tj_iret (pc := 56) G dX10_stepOf_56
  refine tj_iconst (pc := 11) G dX10_stepOf_11 ?_
  exact tj_iret (pc := 12) G dX10_stepOf_12

def fx_X10_actGoes  (a1 : Int) (M : tp_M) : tp_O :=
(tp_bd (fx_X4_hasPost 5 a1 M) (fun r1 M2 =>
(if w32 r1 = 0 then
(some ((-1), M2))
else
(tp_ck (w32 a1) 8 (if w32 (M2 27 (w32 a1)) < 1 then
(some ((-2), M2))
else
(tp_bd (fx_X10_stepOf 25 a1 M2) (fun r3 M4 =>
(tp_lt r3 (fun x5 =>
(tp_ck (w32 a1) 8 (tp_ck (w32 a1) 8 (tp_bd (fx_X8_tell__ (w32 (M4 26 (w32 a1))) (w32 (M4 27 (w32 a1))) M4) (fun r6 M7 =>
(some (x5, M7)))))))))))))))
set_option maxRecDepth 100000 in
set_option maxHeartbeats 4000000 in
theorem ok_X10_actGoes (X : tp_X)  {a1 : Int}  {M : tp_M} {res : Int × tp_M} (h : fx_X10_actGoes  a1 M = some res) : tp_Ret X LC 64 1 yX10_actGoes (Cond.code yX10_actGoes cX10_actGoes 3 (some .int)) 5 [vR X 0, vI a1] M res := by
  refine tp_ofW (by decide +kernel) rfl rfl (by show _ ≤ 3; exact Nat.le_of_ble_eq_true rfl) h (fun Y G => ?_)
  show tp_J X Y LC 64 3 5 1 (fx_X10_actGoes  a1 M) M [(0, vR X 0), (1, vI a1)] [] 0
  unfold fx_X10_actGoes
  refine tj_aload_n (pc := 0) G 0 dX10_actGoes_0 rfl rfl ?_
  refine tj_getR (pc := 1) G (k := 0) (j := 2) (j2 := 2) tk_X10 (by decide) lc_0 rfl (by decide) rfl fl_X10_26 dX10_actGoes_1 ?_
  refine tj_iload_n (pc := 4) G 1 dX10_actGoes_4 rfl rfl ?_
  refine tj_callVi (pc := 5) G [vI a1] mf_X4_hasPost (k := 5) (by decide) lc_5 rfl rfl ml_X10_176 (by decide) rfl rfl (Nat.le_of_ble_eq_true rfl) (fun _ h9 => ok_X4_hasPost X gg_Paths_5 h9) dX10_actGoes_5 (fun r1 M2 => ?_)
  refine tj_if_ne (pc := 8) G (tgt := 13) (a2 := w32 r1) dX10_actGoes_8 (by decide) rfl ?_ ?_
  · refine tj_aload_n (pc := 13) G 0 dX10_actGoes_13 rfl rfl ?_
    refine tj_getR (pc := 14) G (k := 0) (j := 6) (j2 := 6) tk_X10 (by decide) lc_0 rfl (by decide) rfl fl_X10_46 dX10_actGoes_14 ?_
    refine tj_getRN (pc := 17) G (k := 25) (j := 1) (j2 := 1) tk_X2 (by decide) lc_25 rfl (by decide) rfl fn_X10_167 dX10_actGoes_17 ?_
    refine tj_iload_n (pc := 20) G 1 dX10_actGoes_20 rfl rfl ?_
    refine tj_iald (pc := 21) G (k := 27) (i2 := w32 a1) (n2 := 8) (by decide) lc_27 rfl rfl dX10_actGoes_21 ?_
    refine tj_iconst (pc := 22) G dX10_actGoes_22 ?_
    refine tj_icmp_ge (pc := 23) G (tgt := 29) (a2 := w32 (M2 27 (w32 a1))) (b2 := 1) dX10_actGoes_23 (by decide) rfl rfl ?_ ?_
    · refine tj_aload_n (pc := 29) G 0 dX10_actGoes_29 rfl rfl ?_
      refine tj_aload_n (pc := 30) G 0 dX10_actGoes_30 rfl rfl ?_
      refine tj_getR (pc := 31) G (k := 0) (j := 6) (j2 := 6) tk_X10 (by decide) lc_0 rfl (by decide) rfl fl_X10_46 dX10_actGoes_31 ?_
      refine tj_iload_n (pc := 34) G 1 dX10_actGoes_34 rfl rfl ?_
      refine tj_callVi (pc := 35) G [vR X 25, vI a1] mf_X10_stepOf (k := 0) (by decide) lc_0 rfl rfl ml_X10_250 (by decide) rfl rfl (Nat.le_of_ble_eq_true rfl) (fun _ h9 => ok_X10_stepOf X gg_Moor_25 h9) dX10_actGoes_35 (fun r3 M4 => ?_)
      refine tj_istore_n (pc := 38) G (fun x5 => [(2, vI x5), (0, vR X 0), (1, vI a1)]) dX10_actGoes_38 rfl (by decide) (fun _ => rfl) (fun x5 => ?_)
      refine tj_aload_n (pc := 39) G 1 dX10_actGoes_39 rfl rfl ?_
      refine tj_getR (pc := 40) G (k := 0) (j := 1) (j2 := 1) tk_X10 (by decide) lc_0 rfl (by decide) rfl fl_X10_19 dX10_actGoes_40 ?_
      refine tj_aload_n (pc := 43) G 1 dX10_actGoes_43 rfl rfl ?_
      refine tj_getR (pc := 44) G (k := 0) (j := 6) (j2 := 6) tk_X10 (by decide) lc_0 rfl (by decide) rfl fl_X10_46 dX10_actGoes_44 ?_
      refine tj_getRN (pc := 47) G (k := 25) (j := 0) (j2 := 0) tk_X2 (by decide) lc_25 rfl (by decide) rfl fn_X10_160 dX10_actGoes_47 ?_
      refine tj_iload_n (pc := 50) G 2 dX10_actGoes_50 rfl rfl ?_
      refine tj_iald (pc := 51) G (k := 26) (i2 := w32 a1) (n2 := 8) (by decide) lc_26 rfl rfl dX10_actGoes_51 ?_
      refine tj_i2l (pc := 52) G (b := w32 (M4 26 (w32 a1))) dX10_actGoes_52 rfl ?_
      refine tj_aload_n (pc := 53) G 1 dX10_actGoes_53 rfl rfl ?_
      refine tj_getR (pc := 54) G (k := 0) (j := 6) (j2 := 6) tk_X10 (by decide) lc_0 rfl (by decide) rfl fl_X10_46 dX10_actGoes_54 ?_
      refine tj_getRN (pc := 57) G (k := 25) (j := 1) (j2 := 1) tk_X2 (by decide) lc_25 rfl (by decide) rfl fn_X10_167 dX10_actGoes_57 ?_
      refine tj_iload_n (pc := 60) G 2 dX10_actGoes_60 rfl rfl ?_
      refine tj_iald (pc := 61) G (k := 27) (i2 := w32 a1) (n2 := 8) (by decide) lc_27 rfl rfl dX10_actGoes_61 ?_
      refine tj_i2l (pc := 62) G (b := w32 (M4 27 (w32 a1))) dX10_actGoes_62 rfl ?_
      refine tj_callVv (pc := 63) G [vL (w32 (M4 26 (w32 a1))), vL (w32 (M4 27 (w32 a1)))] mf_X8_tell__ (k := 3) (by decide) lc_3 rfl rfl ml_X10_241 (by decide) rfl rfl (Nat.le_of_ble_eq_true rfl) (fun _ h9 => ok_X8_tell__ X  h9) dX10_actGoes_63 (fun r6 M7 => ?_)
      refine tj_iload_n (pc := 66) G 0 dX10_actGoes_66 rfl rfl ?_
      exact tj_iret (pc := 67) G dX10_actGoes_67
    refine tj_bipush (pc := 26) G dX10_actGoes_26 rfl ?_
    exact tj_iret (pc := 28) G dX10_actGoes_28
  refine tj_iconst (pc := 11) G dX10_actGoes_11 ?_
  exact tj_iret (pc := 12) G dX10_actGoes_12

def fx_X10_goes  (a1 : Int) (M : tp_M) : tp_O :=
(tp_bd (fx_X2_copyFrom 31 25 M) (fun r1 M2 =>
(tp_bd (fx_X10_actGoes a1 M2) (fun r3 M4 =>
(tp_bd (fx_X10_kept r3 M4) (fun r5 M6 =>
(some (r5, M6))))))))
set_option maxRecDepth 100000 in
set_option maxHeartbeats 4000000 in
theorem ok_X10_goes (X : tp_X)  {a1 : Int}  {M : tp_M} {res : Int × tp_M} (h : fx_X10_goes  a1 M = some res) : tp_Ret X LC 64 1 yX10_goes (Cond.code yX10_goes cX10_goes 2 (some .int)) 6 [vR X 0, vI a1] M res := by
  refine tp_ofW (by decide +kernel) rfl rfl (by show _ ≤ 2; exact Nat.le_of_ble_eq_true rfl) h (fun Y G => ?_)
  show tp_J X Y LC 64 2 6 1 (fx_X10_goes  a1 M) M [(0, vR X 0), (1, vI a1)] [] 0
  unfold fx_X10_goes
  refine tj_aload_n (pc := 0) G 0 dX10_goes_0 rfl rfl ?_
  refine tj_getR (pc := 1) G (k := 0) (j := 8) (j2 := 8) tk_X10 (by decide) lc_0 rfl (by decide) rfl fl_X10_53 dX10_goes_1 ?_
  refine tj_aload_n (pc := 4) G 0 dX10_goes_4 rfl rfl ?_
  refine tj_getR (pc := 5) G (k := 0) (j := 6) (j2 := 6) tk_X10 (by decide) lc_0 rfl (by decide) rfl fl_X10_46 dX10_goes_5 ?_
  refine tj_callVv (pc := 8) G [vR X 25] mf_X2_copyFrom (k := 31) (by decide) lc_31 rfl rfl ml_X10_201 (by decide) rfl rfl (Nat.le_of_ble_eq_true rfl) (fun _ h9 => ok_X2_copyFrom X gg_Moor_31 gg_Moor_25 h9) dX10_goes_8 (fun r1 M2 => ?_)
  refine tj_aload_n (pc := 11) G 0 dX10_goes_11 rfl rfl ?_
  refine tj_aload_n (pc := 12) G 0 dX10_goes_12 rfl rfl ?_
  refine tj_iload_n (pc := 13) G 1 dX10_goes_13 rfl rfl ?_
  refine tj_callVi (pc := 14) G [vI a1] mf_X10_actGoes (k := 0) (by decide) lc_0 rfl rfl ml_X10_210 (by decide) rfl rfl (Nat.le_of_ble_eq_true rfl) (fun _ h9 => ok_X10_actGoes X  h9) dX10_goes_14 (fun r3 M4 => ?_)
  refine tj_callVi (pc := 17) G [vI r3] mf_X10_kept (k := 0) (by decide) lc_0 rfl rfl ml_X10_207 (by decide) rfl rfl (Nat.le_of_ble_eq_true rfl) (fun _ h9 => ok_X10_kept X  h9) dX10_goes_17 (fun r5 M6 => ?_)
  exact tj_iret (pc := 20) G dX10_goes_20

def fx_X10_walkHome_L3 (k1 : Nat) (k2 : Nat) (c3 : Int) (K27 : tp_M → tp_O) (rec : Int → tp_M → tp_O) (z2 : Int) (M3 : tp_M) : tp_O :=
(if w32 z2 < 8 then
(tp_ck (w32 z2) 8 (tp_lm (tp_up M3 59 (w32 z2) 0) (fun M4 =>
(tp_lt (z2 + 1) (fun x5 =>
(rec x5 M4))))))
else
(K27 M3))
def fx_X10_walkHome_L33 (k1 : Nat) (k2 : Nat)  (rec : Int → Int → tp_M → tp_O) (z9 z10 : Int) (M11 : tp_M) : tp_O :=
(if w32 z10 ≤ 999 then
(tp_bd (fx_X4_hasPost 5 z9 M11) (fun r12 M13 =>
(if w32 r12 = 0 then
(some ((-3), M13))
else
(tp_ck (w32 z9) 8 (tp_ck (w32 z9) 8 (tp_lm (tp_up M13 59 (w32 z9) ((M13 59 (w32 z9)) + 1)) (fun M14 =>
(tp_bd (fx_X10_stride k1 k2 z9 M14) (fun r15 M16 =>
(tp_lt r15 (fun x17 =>
(if w32 x17 = 0 then
(some (z10, M16))
else
(tp_lt (z10 + 1) (fun x18 =>
(rec x17 x18 M16)))))))))))))))
else
(some ((-3), M11)))
def fx_X10_walkHome  (k1 : Nat) (k2 : Nat) (a3 : Int) (M : tp_M) : tp_O :=
(tp_lt 0 (fun x1 =>
(tp_lp1 (fx_X10_walkHome_L3 k1 k2 a3 (fun M6 =>
(tp_lt a3 (fun x7 =>
(tp_lt 1 (fun x8 =>
(tp_lp2 (fx_X10_walkHome_L33 k1 k2 ) tp_F x7 x8 M6))))))) tp_F x1 M)))
set_option maxRecDepth 100000 in
set_option maxHeartbeats 4000000 in
theorem fx_X10_walkHome_L3_ok {X : tp_X} {Y : tp_Y} (G : tp_Ok X Y 64 cX10_walkHome 6 RX10 (some .int))  {k1 : Nat} {k2 : Nat} {c3 : Int} {K27 : tp_M → tp_O} (hk1 : tg_Moor LC 64 k1) (hk2 : tg_Turner LC 64 k2)  (hK27 : ∀ (M9 : tp_M), tp_J X Y LC 64 6 4 1 (K27  M9) M9 [(0, vR X 0), (1, vR X k1), (2, vR X k2), (3, vI c3)] [] 27) (n : Nat) : ∀ (z2 : Int) (M3 : tp_M), tp_J X Y LC 64 6 4 1 (tp_lp1 (fx_X10_walkHome_L3 k1 k2 c3 K27) n z2 M3) M3 [(0, vR X 0), (1, vR X k1), (2, vR X k2), (3, vI c3), (4, vI z2)] [] 3 := by
  refine tp_lp1_ok (P := fun o z2 M3 => tp_J X Y LC 64 6 4 1 (o) M3 [(0, vR X 0), (1, vR X k1), (2, vR X k2), (3, vI c3), (4, vI z2)] [] 3) (fun z2 M3 => tj_none) (fun rec hrec z2 M3 => ?_) n
  unfold fx_X10_walkHome_L3
  refine tj_iload (pc := 3) G 4 dX10_walkHome_3 rfl ?_
  refine tj_aload_n (pc := 5) G 0 dX10_walkHome_5 rfl rfl ?_
  refine tj_getR (pc := 6) G (k := 0) (j := 14) (j2 := 14) tk_X10 (by decide) lc_0 rfl (by decide) rfl fl_X10_91 dX10_walkHome_6 ?_
  refine tj_alen (pc := 9) G (k := 59) (n2 := 8) (by decide) lc_59 rfl (by decide) dX10_walkHome_9 ?_
  refine tj_icmp_ge (pc := 10) G (tgt := 27) (a2 := w32 z2) (b2 := 8) dX10_walkHome_10 (by decide) rfl rfl ?_ ?_
  · exact tj_sub [0, 1, 2, 3] rfl (hK27  M3)
  refine tj_aload_n (pc := 13) G 0 dX10_walkHome_13 rfl rfl ?_
  refine tj_getR (pc := 14) G (k := 0) (j := 14) (j2 := 14) tk_X10 (by decide) lc_0 rfl (by decide) rfl fl_X10_91 dX10_walkHome_14 ?_
  refine tj_iload (pc := 17) G 4 dX10_walkHome_17 rfl ?_
  refine tj_iconst (pc := 19) G dX10_walkHome_19 ?_
  refine tj_iast (pc := 20) G (k := 59) (i2 := w32 z2) (n2 := 8) (by decide) lc_59 rfl rfl dX10_walkHome_20 (fun M4 => ?_)
  refine tj_iinc (pc := 21) G 4 (fun x5 => [(4, vI x5), (0, vR X 0), (1, vR X k1), (2, vR X k2), (3, vI c3)]) dX10_walkHome_21 rfl (by decide) (fun _ => rfl) (fun x5 => ?_)
  refine tj_goto (pc := 24) G (tgt := 3) dX10_walkHome_24 (by decide) ?_
  exact tj_sub [1, 2, 3, 4, 0] rfl (hrec x5 M4)
set_option maxRecDepth 100000 in
set_option maxHeartbeats 4000000 in
theorem fx_X10_walkHome_L33_ok {X : tp_X} {Y : tp_Y} (G : tp_Ok X Y 64 cX10_walkHome 6 RX10 (some .int))  {k1 : Nat} {k2 : Nat} (hk1 : tg_Moor LC 64 k1) (hk2 : tg_Turner LC 64 k2)   (n : Nat) : ∀ (z9 z10 : Int) (M11 : tp_M), tp_J X Y LC 64 6 4 1 (tp_lp2 (fx_X10_walkHome_L33 k1 k2  ) n z9 z10 M11) M11 [(0, vR X 0), (1, vR X k1), (2, vR X k2), (4, vI z9), (5, vI z10)] [] 33 := by
  refine tp_lp2_ok (P := fun o z9 z10 M11 => tp_J X Y LC 64 6 4 1 (o) M11 [(0, vR X 0), (1, vR X k1), (2, vR X k2), (4, vI z9), (5, vI z10)] [] 33) (fun z9 z10 M11 => tj_none) (fun rec hrec z9 z10 M11 => ?_) n
  unfold fx_X10_walkHome_L33
  refine tj_iload (pc := 33) G 4 dX10_walkHome_33 rfl ?_
  refine tj_sipush (pc := 35) G dX10_walkHome_35 rfl ?_
  refine tj_icmp_gt (pc := 38) G (tgt := 91) (a2 := w32 z10) (b2 := 999) dX10_walkHome_38 (by decide) rfl rfl ?_ ?_
  · refine tj_bipush (pc := 91) G dX10_walkHome_91 rfl ?_
    exact tj_iret (pc := 93) G dX10_walkHome_93
  refine tj_aload_n (pc := 41) G 0 dX10_walkHome_41 rfl rfl ?_
  refine tj_getR (pc := 42) G (k := 0) (j := 2) (j2 := 2) tk_X10 (by decide) lc_0 rfl (by decide) rfl fl_X10_26 dX10_walkHome_42 ?_
  refine tj_iload (pc := 45) G 3 dX10_walkHome_45 rfl ?_
  refine tj_callVi (pc := 47) G [vI z9] mf_X4_hasPost (k := 5) (by decide) lc_5 rfl rfl ml_X10_176 (by decide) rfl rfl (Nat.le_of_ble_eq_true rfl) (fun _ h9 => ok_X4_hasPost X gg_Paths_5 h9) dX10_walkHome_47 (fun r12 M13 => ?_)
  refine tj_if_ne (pc := 50) G (tgt := 56) (a2 := w32 r12) dX10_walkHome_50 (by decide) rfl ?_ ?_
  · refine tj_aload_n (pc := 56) G 0 dX10_walkHome_56 rfl rfl ?_
    refine tj_getR (pc := 57) G (k := 0) (j := 14) (j2 := 14) tk_X10 (by decide) lc_0 rfl (by decide) rfl fl_X10_91 dX10_walkHome_57 ?_
    refine tj_iload (pc := 60) G 3 dX10_walkHome_60 rfl ?_
    refine tj_dup2 (pc := 62) G dX10_walkHome_62 rfl rfl ?_
    refine tj_iald (pc := 63) G (k := 59) (i2 := w32 z9) (n2 := 8) (by decide) lc_59 rfl rfl dX10_walkHome_63 ?_
    refine tj_iconst (pc := 64) G dX10_walkHome_64 ?_
    refine tj_iadd (pc := 65) G dX10_walkHome_65 ?_
    refine tj_iast (pc := 66) G (k := 59) (i2 := w32 z9) (n2 := 8) (by decide) lc_59 rfl rfl dX10_walkHome_66 (fun M14 => ?_)
    refine tj_aload_n (pc := 67) G 0 dX10_walkHome_67 rfl rfl ?_
    refine tj_aload_n (pc := 68) G 1 dX10_walkHome_68 rfl rfl ?_
    refine tj_aload_n (pc := 69) G 2 dX10_walkHome_69 rfl rfl ?_
    refine tj_iload (pc := 70) G 3 dX10_walkHome_70 rfl ?_
    refine tj_callVi (pc := 72) G [vR X k1, vR X k2, vI z9] mf_X10_stride (k := 0) (by decide) lc_0 rfl rfl ml_X10_303 (by decide) rfl rfl (Nat.le_of_ble_eq_true rfl) (fun _ h9 => ok_X10_stride X hk1 hk2 h9) dX10_walkHome_72 (fun r15 M16 => ?_)
    refine tj_istore (pc := 75) G (fun x17 => [(4, vI x17), (0, vR X 0), (1, vR X k1), (2, vR X k2), (5, vI z10)]) dX10_walkHome_75 (by decide) (fun _ => rfl) (fun x17 => ?_)
    refine tj_iload (pc := 77) G 0 dX10_walkHome_77 rfl ?_
    refine tj_if_ne (pc := 79) G (tgt := 85) (a2 := w32 x17) dX10_walkHome_79 (by decide) rfl ?_ ?_
    · refine tj_iinc (pc := 85) G 4 (fun x18 => [(5, vI x18), (4, vI x17), (0, vR X 0), (1, vR X k1), (2, vR X k2)]) dX10_walkHome_85 rfl (by decide) (fun _ => rfl) (fun x18 => ?_)
      refine tj_goto (pc := 88) G (tgt := 33) dX10_walkHome_88 (by decide) ?_
      exact tj_sub [2, 3, 4, 1, 0] rfl (hrec x17 x18 M16)
    refine tj_iload (pc := 82) G 4 dX10_walkHome_82 rfl ?_
    exact tj_iret (pc := 84) G dX10_walkHome_84
  refine tj_bipush (pc := 53) G dX10_walkHome_53 rfl ?_
  exact tj_iret (pc := 55) G dX10_walkHome_55
set_option maxRecDepth 100000 in
set_option maxHeartbeats 4000000 in
theorem ok_X10_walkHome (X : tp_X)  {k1 : Nat} {k2 : Nat} {a3 : Int} (hk1 : tg_Moor LC 64 k1) (hk2 : tg_Turner LC 64 k2) {M : tp_M} {res : Int × tp_M} (h : fx_X10_walkHome  k1 k2 a3 M = some res) : tp_Ret X LC 64 1 yX10_walkHome (Cond.code yX10_walkHome cX10_walkHome 6 (some .int)) 4 [vR X 0, vR X k1, vR X k2, vI a3] M res := by
  refine tp_ofW (by decide +kernel) rfl rfl (by show _ ≤ 6; exact Nat.le_of_ble_eq_true rfl) h (fun Y G => ?_)
  show tp_J X Y LC 64 6 4 1 (fx_X10_walkHome  k1 k2 a3 M) M [(0, vR X 0), (1, vR X k1), (2, vR X k2), (3, vI a3)] [] 0
  unfold fx_X10_walkHome
  refine tj_iconst (pc := 0) G dX10_walkHome_0 ?_
  refine tj_istore (pc := 1) G (fun x1 => [(4, vI x1), (0, vR X 0), (1, vR X k1), (2, vR X k2), (3, vI a3)]) dX10_walkHome_1 (by decide) (fun _ => rfl) (fun x1 => ?_)
  refine tj_sub [1, 2, 3, 4, 0] rfl (fx_X10_walkHome_L3_ok G  hk1 hk2  (fun M6 => ?_) tp_F x1 M)
  refine tj_iload_n (pc := 27) G 3 dX10_walkHome_27 rfl rfl ?_
  refine tj_istore (pc := 28) G (fun x7 => [(4, vI x7), (0, vR X 0), (1, vR X k1), (2, vR X k2), (3, vI a3)]) dX10_walkHome_28 (by decide) (fun _ => rfl) (fun x7 => ?_)
  refine tj_iconst (pc := 30) G dX10_walkHome_30 ?_
  refine tj_istore (pc := 31) G (fun x8 => [(5, vI x8), (4, vI x7), (0, vR X 0), (1, vR X k1), (2, vR X k2), (3, vI a3)]) dX10_walkHome_31 (by decide) (fun _ => rfl) (fun x8 => ?_)
  refine tj_sub [2, 3, 4, 1, 0] rfl (fx_X10_walkHome_L33_ok G  hk1 hk2   tp_F x7 x8 M6)

def fx_X10_actWalks_L89 (c2 : Int) (K119 : Int → tp_M → tp_O) (rec : Int → Int → tp_M → tp_O) (z13 z14 : Int) (M15 : tp_M) : tp_O :=
(if w32 z14 < 8 then
(tp_ck (w32 z14) 8 (tp_jn1 (fun y17 M18 => 
(tp_lt (z14 + 1) (fun x19 =>
(rec y17 x19 M18)))) (fun jk113 =>
(if w32 (M15 59 (w32 z14)) ≤ 0 then
(jk113 z13 M15)
else
(tp_lt (x_or z13 (x_shl 1 z14)) (fun x20 =>
(jk113 x20 M15)))))))
else
(K119 z13 M15))
def fx_X10_actWalks  (a1 : Int) (M : tp_M) : tp_O :=
(tp_bd (fx_X4_hasPost 5 a1 M) (fun r1 M2 =>
(if w32 r1 = 0 then
(some ((-1), M2))
else
(tp_ck (w32 a1) 8 (if w32 (M2 27 (w32 a1)) < 1 then
(some ((-2), M2))
else
(tp_bd (fx_X2_copyFrom 28 25 M2) (fun r3 M4 =>
(tp_ck (w32 a1) 8 (tp_ck (w32 a1) 8 (tp_lm (tp_up M4 30 (w32 a1) ((M4 30 (w32 a1)) - 1)) (fun M5 =>
(tp_bd (fx_X10_walkHome 28 15 a1 M5) (fun r6 M7 =>
(tp_lt r6 (fun x8 =>
(if w32 x8 < 0 then
(some (x8, M7))
else
(tp_bd (fx_X2_copyFrom 25 28 M7) (fun r9 M10 =>
(tp_lt 1 (fun x11 =>
(tp_lt 1 (fun x12 =>
(tp_lp2 (fx_X10_actWalks_L89 x8 (fun y16 M21 =>
(tp_bd (fx_X8_tell_ (w32 y16) M21) (fun r22 M23 =>
(some (x8, M23)))))) tp_F x11 x12 M10)))))))))))))))))))))))
set_option maxRecDepth 100000 in
set_option maxHeartbeats 4000000 in
theorem fx_X10_actWalks_L89_ok {X : tp_X} {Y : tp_Y} (G : tp_Ok X Y 64 cX10_actWalks 5 RX10 (some .int))  {c2 : Int} {K119 : Int → tp_M → tp_O}   (hK119 : ∀ (y16 : Int) (M9 : tp_M), tp_J X Y LC 64 5 5 1 (K119 y16 M9) M9 [(0, vR X 0), (2, vI c2), (3, vI y16)] [] 119) (n : Nat) : ∀ (z13 z14 : Int) (M15 : tp_M), tp_J X Y LC 64 5 5 1 (tp_lp2 (fx_X10_actWalks_L89  c2 K119) n z13 z14 M15) M15 [(0, vR X 0), (2, vI c2), (3, vI z13), (4, vI z14)] [] 89 := by
  refine tp_lp2_ok (P := fun o z13 z14 M15 => tp_J X Y LC 64 5 5 1 (o) M15 [(0, vR X 0), (2, vI c2), (3, vI z13), (4, vI z14)] [] 89) (fun z13 z14 M15 => tj_none) (fun rec hrec z13 z14 M15 => ?_) n
  unfold fx_X10_actWalks_L89
  refine tj_iload (pc := 89) G 3 dX10_actWalks_89 rfl ?_
  refine tj_bipush (pc := 91) G dX10_actWalks_91 rfl ?_
  refine tj_icmp_ge (pc := 93) G (tgt := 119) (a2 := w32 z14) (b2 := 8) dX10_actWalks_93 (by decide) rfl rfl ?_ ?_
  · exact tj_sub [0, 1, 2] rfl (hK119 z13 M15)
  refine tj_aload_n (pc := 96) G 0 dX10_actWalks_96 rfl rfl ?_
  refine tj_getR (pc := 97) G (k := 0) (j := 14) (j2 := 14) tk_X10 (by decide) lc_0 rfl (by decide) rfl fl_X10_91 dX10_actWalks_97 ?_
  refine tj_iload (pc := 100) G 3 dX10_actWalks_100 rfl ?_
  refine tj_iald (pc := 102) G (k := 59) (i2 := w32 z14) (n2 := 8) (by decide) lc_59 rfl rfl dX10_actWalks_102 ?_
  refine tj_jn1 (fun y17 => [(0, vR X 0), (2, vI c2), (3, vI y17), (4, vI z14)]) (fun y17 => []) 113 (fun y17 M18 => ?_) (fun jk113 hj113 => ?_)
  · refine tj_iinc (pc := 113) G 3 (fun x19 => [(4, vI x19), (0, vR X 0), (2, vI c2), (3, vI y17)]) dX10_actWalks_113 rfl (by decide) (fun _ => rfl) (fun x19 => ?_)
    refine tj_goto (pc := 116) G (tgt := 89) dX10_actWalks_116 (by decide) ?_
    exact tj_sub [1, 2, 3, 0] rfl (hrec y17 x19 M18)
  refine tj_if_le (pc := 103) G (tgt := 113) (a2 := w32 (M15 59 (w32 z14))) dX10_actWalks_103 (by decide) rfl ?_ ?_
  · exact tj_sub [0, 1, 2, 3] rfl (hj113 z13 M15)
  refine tj_iload_n (pc := 106) G 2 dX10_actWalks_106 rfl rfl ?_
  refine tj_iconst (pc := 107) G dX10_actWalks_107 ?_
  refine tj_iload (pc := 108) G 3 dX10_actWalks_108 rfl ?_
  refine tj_ishl (pc := 110) G dX10_actWalks_110 ?_
  refine tj_ior (pc := 111) G dX10_actWalks_111 ?_
  refine tj_istore_n (pc := 112) G (fun x20 => [(3, vI x20), (0, vR X 0), (2, vI c2), (4, vI z14)]) dX10_actWalks_112 rfl (by decide) (fun _ => rfl) (fun x20 => ?_)
  exact tj_sub [1, 2, 0, 3] rfl (hj113 x20 M15)
set_option maxRecDepth 100000 in
set_option maxHeartbeats 4000000 in
theorem ok_X10_actWalks (X : tp_X)  {a1 : Int}  {M : tp_M} {res : Int × tp_M} (h : fx_X10_actWalks  a1 M = some res) : tp_Ret X LC 64 1 yX10_actWalks (Cond.code yX10_actWalks cX10_actWalks 5 (some .int)) 5 [vR X 0, vI a1] M res := by
  refine tp_ofW (by decide +kernel) rfl rfl (by show _ ≤ 5; exact Nat.le_of_ble_eq_true rfl) h (fun Y G => ?_)
  show tp_J X Y LC 64 5 5 1 (fx_X10_actWalks  a1 M) M [(0, vR X 0), (1, vI a1)] [] 0
  unfold fx_X10_actWalks
  refine tj_aload_n (pc := 0) G 0 dX10_actWalks_0 rfl rfl ?_
  refine tj_getR (pc := 1) G (k := 0) (j := 2) (j2 := 2) tk_X10 (by decide) lc_0 rfl (by decide) rfl fl_X10_26 dX10_actWalks_1 ?_
  refine tj_iload_n (pc := 4) G 1 dX10_actWalks_4 rfl rfl ?_
  refine tj_callVi (pc := 5) G [vI a1] mf_X4_hasPost (k := 5) (by decide) lc_5 rfl rfl ml_X10_176 (by decide) rfl rfl (Nat.le_of_ble_eq_true rfl) (fun _ h9 => ok_X4_hasPost X gg_Paths_5 h9) dX10_actWalks_5 (fun r1 M2 => ?_)
  refine tj_if_ne (pc := 8) G (tgt := 13) (a2 := w32 r1) dX10_actWalks_8 (by decide) rfl ?_ ?_
  · refine tj_aload_n (pc := 13) G 0 dX10_actWalks_13 rfl rfl ?_
    refine tj_getR (pc := 14) G (k := 0) (j := 6) (j2 := 6) tk_X10 (by decide) lc_0 rfl (by decide) rfl fl_X10_46 dX10_actWalks_14 ?_
    refine tj_getRN (pc := 17) G (k := 25) (j := 1) (j2 := 1) tk_X2 (by decide) lc_25 rfl (by decide) rfl fn_X10_167 dX10_actWalks_17 ?_
    refine tj_iload_n (pc := 20) G 1 dX10_actWalks_20 rfl rfl ?_
    refine tj_iald (pc := 21) G (k := 27) (i2 := w32 a1) (n2 := 8) (by decide) lc_27 rfl rfl dX10_actWalks_21 ?_
    refine tj_iconst (pc := 22) G dX10_actWalks_22 ?_
    refine tj_icmp_ge (pc := 23) G (tgt := 29) (a2 := w32 (M2 27 (w32 a1))) (b2 := 1) dX10_actWalks_23 (by decide) rfl rfl ?_ ?_
    · refine tj_aload_n (pc := 29) G 0 dX10_actWalks_29 rfl rfl ?_
      refine tj_getR (pc := 30) G (k := 0) (j := 7) (j2 := 7) tk_X10 (by decide) lc_0 rfl (by decide) rfl fl_X10_50 dX10_actWalks_30 ?_
      refine tj_aload_n (pc := 33) G 0 dX10_actWalks_33 rfl rfl ?_
      refine tj_getR (pc := 34) G (k := 0) (j := 6) (j2 := 6) tk_X10 (by decide) lc_0 rfl (by decide) rfl fl_X10_46 dX10_actWalks_34 ?_
      refine tj_callVv (pc := 37) G [vR X 25] mf_X2_copyFrom (k := 28) (by decide) lc_28 rfl rfl ml_X10_201 (by decide) rfl rfl (Nat.le_of_ble_eq_true rfl) (fun _ h9 => ok_X2_copyFrom X gg_Moor_28 gg_Moor_25 h9) dX10_actWalks_37 (fun r3 M4 => ?_)
      refine tj_aload_n (pc := 40) G 0 dX10_actWalks_40 rfl rfl ?_
      refine tj_getR (pc := 41) G (k := 0) (j := 7) (j2 := 7) tk_X10 (by decide) lc_0 rfl (by decide) rfl fl_X10_50 dX10_actWalks_41 ?_
      refine tj_getRN (pc := 44) G (k := 28) (j := 1) (j2 := 1) tk_X2 (by decide) lc_28 rfl (by decide) rfl fn_X10_167 dX10_actWalks_44 ?_
      refine tj_iload_n (pc := 47) G 1 dX10_actWalks_47 rfl rfl ?_
      refine tj_dup2 (pc := 48) G dX10_actWalks_48 rfl rfl ?_
      refine tj_iald (pc := 49) G (k := 30) (i2 := w32 a1) (n2 := 8) (by decide) lc_30 rfl rfl dX10_actWalks_49 ?_
      refine tj_iconst (pc := 50) G dX10_actWalks_50 ?_
      refine tj_isub (pc := 51) G dX10_actWalks_51 ?_
      refine tj_iast (pc := 52) G (k := 30) (i2 := w32 a1) (n2 := 8) (by decide) lc_30 rfl rfl dX10_actWalks_52 (fun M5 => ?_)
      refine tj_aload_n (pc := 53) G 0 dX10_actWalks_53 rfl rfl ?_
      refine tj_aload_n (pc := 54) G 0 dX10_actWalks_54 rfl rfl ?_
      refine tj_getR (pc := 55) G (k := 0) (j := 7) (j2 := 7) tk_X10 (by decide) lc_0 rfl (by decide) rfl fl_X10_50 dX10_actWalks_55 ?_
      refine tj_aload_n (pc := 58) G 0 dX10_actWalks_58 rfl rfl ?_
      refine tj_getR (pc := 59) G (k := 0) (j := 4) (j2 := 4) tk_X10 (by decide) lc_0 rfl (by decide) rfl fl_X10_36 dX10_actWalks_59 ?_
      refine tj_iload_n (pc := 62) G 1 dX10_actWalks_62 rfl rfl ?_
      refine tj_callVi (pc := 63) G [vR X 28, vR X 15, vI a1] mf_X10_walkHome (k := 0) (by decide) lc_0 rfl rfl ml_X10_254 (by decide) rfl rfl (Nat.le_of_ble_eq_true rfl) (fun _ h9 => ok_X10_walkHome X gg_Moor_28 gg_Turner_15 h9) dX10_actWalks_63 (fun r6 M7 => ?_)
      refine tj_istore_n (pc := 66) G (fun x8 => [(2, vI x8), (0, vR X 0), (1, vI a1)]) dX10_actWalks_66 rfl (by decide) (fun _ => rfl) (fun x8 => ?_)
      refine tj_iload_n (pc := 67) G 0 dX10_actWalks_67 rfl rfl ?_
      refine tj_if_ge (pc := 68) G (tgt := 73) (a2 := w32 x8) dX10_actWalks_68 (by decide) rfl ?_ ?_
      · refine tj_aload_n (pc := 73) G 1 dX10_actWalks_73 rfl rfl ?_
        refine tj_getR (pc := 74) G (k := 0) (j := 6) (j2 := 6) tk_X10 (by decide) lc_0 rfl (by decide) rfl fl_X10_46 dX10_actWalks_74 ?_
        refine tj_aload_n (pc := 77) G 1 dX10_actWalks_77 rfl rfl ?_
        refine tj_getR (pc := 78) G (k := 0) (j := 7) (j2 := 7) tk_X10 (by decide) lc_0 rfl (by decide) rfl fl_X10_50 dX10_actWalks_78 ?_
        refine tj_callVv (pc := 81) G [vR X 28] mf_X2_copyFrom (k := 25) (by decide) lc_25 rfl rfl ml_X10_201 (by decide) rfl rfl (Nat.le_of_ble_eq_true rfl) (fun _ h9 => ok_X2_copyFrom X gg_Moor_25 gg_Moor_28 h9) dX10_actWalks_81 (fun r9 M10 => ?_)
        refine tj_iconst (pc := 84) G dX10_actWalks_84 ?_
        refine tj_istore_n (pc := 85) G (fun x11 => [(3, vI x11), (2, vI x8), (0, vR X 0), (1, vI a1)]) dX10_actWalks_85 rfl (by decide) (fun _ => rfl) (fun x11 => ?_)
        refine tj_iconst (pc := 86) G dX10_actWalks_86 ?_
        refine tj_istore (pc := 87) G (fun x12 => [(4, vI x12), (3, vI x11), (2, vI x8), (0, vR X 0), (1, vI a1)]) dX10_actWalks_87 (by decide) (fun _ => rfl) (fun x12 => ?_)
        refine tj_sub [3, 2, 1, 0] rfl (fx_X10_actWalks_L89_ok G    (fun y16 M21 => ?_) tp_F x11 x12 M10)
        refine tj_aload_n (pc := 119) G 0 dX10_actWalks_119 rfl rfl ?_
        refine tj_getR (pc := 120) G (k := 0) (j := 1) (j2 := 1) tk_X10 (by decide) lc_0 rfl (by decide) rfl fl_X10_19 dX10_actWalks_120 ?_
        refine tj_iload_n (pc := 123) G 2 dX10_actWalks_123 rfl rfl ?_
        refine tj_i2l (pc := 124) G (b := w32 y16) dX10_actWalks_124 rfl ?_
        refine tj_callVv (pc := 125) G [vL (w32 y16)] mf_X8_tell_ (k := 3) (by decide) lc_3 rfl rfl ml_X10_258 (by decide) rfl rfl (Nat.le_of_ble_eq_true rfl) (fun _ h9 => ok_X8_tell_ X  h9) dX10_actWalks_125 (fun r22 M23 => ?_)
        refine tj_iload_n (pc := 128) G 1 dX10_actWalks_128 rfl rfl ?_
        exact tj_iret (pc := 129) G dX10_actWalks_129
      refine tj_iload_n (pc := 71) G 0 dX10_actWalks_71 rfl rfl ?_
      exact tj_iret (pc := 72) G dX10_actWalks_72
    refine tj_bipush (pc := 26) G dX10_actWalks_26 rfl ?_
    exact tj_iret (pc := 28) G dX10_actWalks_28
  refine tj_iconst (pc := 11) G dX10_actWalks_11 ?_
  exact tj_iret (pc := 12) G dX10_actWalks_12

def fx_X10_walks  (a1 : Int) (M : tp_M) : tp_O :=
(tp_bd (fx_X2_copyFrom 31 25 M) (fun r1 M2 =>
(tp_bd (fx_X10_actWalks a1 M2) (fun r3 M4 =>
(tp_bd (fx_X10_kept r3 M4) (fun r5 M6 =>
(some (r5, M6))))))))
set_option maxRecDepth 100000 in
set_option maxHeartbeats 4000000 in
theorem ok_X10_walks (X : tp_X)  {a1 : Int}  {M : tp_M} {res : Int × tp_M} (h : fx_X10_walks  a1 M = some res) : tp_Ret X LC 64 1 yX10_walks (Cond.code yX10_walks cX10_walks 2 (some .int)) 6 [vR X 0, vI a1] M res := by
  refine tp_ofW (by decide +kernel) rfl rfl (by show _ ≤ 2; exact Nat.le_of_ble_eq_true rfl) h (fun Y G => ?_)
  show tp_J X Y LC 64 2 6 1 (fx_X10_walks  a1 M) M [(0, vR X 0), (1, vI a1)] [] 0
  unfold fx_X10_walks
  refine tj_aload_n (pc := 0) G 0 dX10_walks_0 rfl rfl ?_
  refine tj_getR (pc := 1) G (k := 0) (j := 8) (j2 := 8) tk_X10 (by decide) lc_0 rfl (by decide) rfl fl_X10_53 dX10_walks_1 ?_
  refine tj_aload_n (pc := 4) G 0 dX10_walks_4 rfl rfl ?_
  refine tj_getR (pc := 5) G (k := 0) (j := 6) (j2 := 6) tk_X10 (by decide) lc_0 rfl (by decide) rfl fl_X10_46 dX10_walks_5 ?_
  refine tj_callVv (pc := 8) G [vR X 25] mf_X2_copyFrom (k := 31) (by decide) lc_31 rfl rfl ml_X10_201 (by decide) rfl rfl (Nat.le_of_ble_eq_true rfl) (fun _ h9 => ok_X2_copyFrom X gg_Moor_31 gg_Moor_25 h9) dX10_walks_8 (fun r1 M2 => ?_)
  refine tj_aload_n (pc := 11) G 0 dX10_walks_11 rfl rfl ?_
  refine tj_aload_n (pc := 12) G 0 dX10_walks_12 rfl rfl ?_
  refine tj_iload_n (pc := 13) G 1 dX10_walks_13 rfl rfl ?_
  refine tj_callVi (pc := 14) G [vI a1] mf_X10_actWalks (k := 0) (by decide) lc_0 rfl rfl ml_X10_213 (by decide) rfl rfl (Nat.le_of_ble_eq_true rfl) (fun _ h9 => ok_X10_actWalks X  h9) dX10_walks_14 (fun r3 M4 => ?_)
  refine tj_callVi (pc := 17) G [vI r3] mf_X10_kept (k := 0) (by decide) lc_0 rfl rfl ml_X10_207 (by decide) rfl rfl (Nat.le_of_ble_eq_true rfl) (fun _ h9 => ok_X10_kept X  h9) dX10_walks_17 (fun r5 M6 => ?_)
  exact tj_iret (pc := 20) G dX10_walks_20

def fx_X10_burst_L46 (k1 : Nat) (c2 : Int) (c3 : Int) (c4 : Int) (K93 : tp_M → tp_O) (rec : Int → tp_M → tp_O) (z11 : Int) (M12 : tp_M) : tp_O :=
(if w32 z11 < w32 c3 then
(tp_bd (fx_X4_goal 5 c2 z11 M12) (fun r13 M14 =>
(tp_lt r13 (fun x15 =>
(tp_bd (fx_X4_hasPost 5 x15 M14) (fun r16 M17 =>
(tp_jn0 (fun M18 => 
(tp_lt (z11 + 1) (fun x19 =>
(rec x19 M18)))) (fun jk87 =>
(if w32 r16 = 0 then
(jk87 M17)
else
(tp_ck (w32 x15) 8 (tp_ck (w32 x15) 8 (tp_lm (tp_up M17 (k1 + 2) (w32 x15) ((M17 (k1 + 2) (w32 x15)) + 1)) (fun M20 =>
(jk87 M20))))))))))))))
else
(K93 M12))
def fx_X10_burst  (k1 : Nat) (a2 : Int) (M : tp_M) : tp_O :=
(tp_bd (fx_X4_hasPost 5 a2 M) (fun r1 M2 =>
(if w32 r1 = 0 then
(some (0, M2))
else
(tp_bd (fx_X4_degree 5 a2 M2) (fun r3 M4 =>
(tp_lt r3 (fun x5 =>
(tp_bd (fx_X4_waysTo 5 a2 0 M4) (fun r6 M7 =>
(tp_lt r6 (fun x8 =>
(tp_ck (w32 a2) 8 (tp_ck (w32 a2) 8 (tp_lm (tp_up M7 (k1 + 2) (w32 a2) ((M7 (k1 + 2) (w32 a2)) - x5)) (fun M9 =>
(tp_lt 0 (fun x10 =>
(tp_lp1 (fx_X10_burst_L46 k1 a2 x5 x8 (fun M21 =>
(tp_bd (fx_X2_house k1 x8 M21) (fun r22 M23 =>
(some (x8, M23)))))) tp_F x10 M9))))))))))))))))))
set_option maxRecDepth 100000 in
set_option maxHeartbeats 4000000 in
theorem fx_X10_burst_L46_ok {X : tp_X} {Y : tp_Y} (G : tp_Ok X Y 64 cX10_burst 7 RX10 (some .int))  {k1 : Nat} {c2 : Int} {c3 : Int} {c4 : Int} {K93 : tp_M → tp_O} (hk1 : tg_Moor LC 64 k1)  (hK93 : ∀ (M9 : tp_M), tp_J X Y LC 64 7 4 1 (K93  M9) M9 [(1, vR X k1), (4, vI c4)] [] 93) (n : Nat) : ∀ (z11 : Int) (M12 : tp_M), tp_J X Y LC 64 7 4 1 (tp_lp1 (fx_X10_burst_L46 k1 c2 c3 c4 K93) n z11 M12) M12 [(0, vR X 0), (1, vR X k1), (2, vI c2), (3, vI c3), (4, vI c4), (5, vI z11)] [] 46 := by
  refine tp_lp1_ok (P := fun o z11 M12 => tp_J X Y LC 64 7 4 1 (o) M12 [(0, vR X 0), (1, vR X k1), (2, vI c2), (3, vI c3), (4, vI c4), (5, vI z11)] [] 46) (fun z11 M12 => tj_none) (fun rec hrec z11 M12 => ?_) n
  unfold fx_X10_burst_L46
  refine tj_iload (pc := 46) G 5 dX10_burst_46 rfl ?_
  refine tj_iload_n (pc := 48) G 3 dX10_burst_48 rfl rfl ?_
  refine tj_icmp_ge (pc := 49) G (tgt := 93) (a2 := w32 z11) (b2 := w32 c3) dX10_burst_49 (by decide) rfl rfl ?_ ?_
  · exact tj_sub [1, 4] rfl (hK93  M12)
  refine tj_aload_n (pc := 52) G 0 dX10_burst_52 rfl rfl ?_
  refine tj_getR (pc := 53) G (k := 0) (j := 2) (j2 := 2) tk_X10 (by decide) lc_0 rfl (by decide) rfl fl_X10_26 dX10_burst_53 ?_
  refine tj_iload_n (pc := 56) G 2 dX10_burst_56 rfl rfl ?_
  refine tj_iload (pc := 57) G 5 dX10_burst_57 rfl ?_
  refine tj_callVi (pc := 59) G [vI c2, vI z11] mf_X4_goal (k := 5) (by decide) lc_5 rfl rfl ml_X10_163 (by decide) rfl rfl (Nat.le_of_ble_eq_true rfl) (fun _ h9 => ok_X4_goal X gg_Paths_5 h9) dX10_burst_59 (fun r13 M14 => ?_)
  refine tj_istore (pc := 62) G (fun x15 => [(6, vI x15), (0, vR X 0), (1, vR X k1), (2, vI c2), (3, vI c3), (4, vI c4), (5, vI z11)]) dX10_burst_62 (by decide) (fun _ => rfl) (fun x15 => ?_)
  refine tj_aload_n (pc := 64) G 1 dX10_burst_64 rfl rfl ?_
  refine tj_getR (pc := 65) G (k := 0) (j := 2) (j2 := 2) tk_X10 (by decide) lc_0 rfl (by decide) rfl fl_X10_26 dX10_burst_65 ?_
  refine tj_iload (pc := 68) G 0 dX10_burst_68 rfl ?_
  refine tj_callVi (pc := 70) G [vI x15] mf_X4_hasPost (k := 5) (by decide) lc_5 rfl rfl ml_X10_176 (by decide) rfl rfl (Nat.le_of_ble_eq_true rfl) (fun _ h9 => ok_X4_hasPost X gg_Paths_5 h9) dX10_burst_70 (fun r16 M17 => ?_)
  refine tj_jn0 [(0, vR X 0), (1, vR X k1), (2, vI c2), (3, vI c3), (4, vI c4), (5, vI z11)] [] 87 (fun M18 => ?_) (fun jk87 hj87 => ?_)
  · refine tj_iinc (pc := 87) G 5 (fun x19 => [(5, vI x19), (0, vR X 0), (1, vR X k1), (2, vI c2), (3, vI c3), (4, vI c4)]) dX10_burst_87 rfl (by decide) (fun _ => rfl) (fun x19 => ?_)
    refine tj_goto (pc := 90) G (tgt := 46) dX10_burst_90 (by decide) ?_
    exact tj_sub [1, 2, 3, 4, 5, 0] rfl (hrec x19 M18)
  refine tj_if_eq (pc := 73) G (tgt := 87) (a2 := w32 r16) dX10_burst_73 (by decide) rfl ?_ ?_
  · exact tj_sub [1, 2, 3, 4, 5, 6] rfl (hj87  M17)
  refine tj_aload_n (pc := 76) G 2 dX10_burst_76 rfl rfl ?_
  refine tj_getRN (pc := 77) G (k := k1) (j := 1) (j2 := 1) tk_X2 (tg_Moor_l0 hk1) hk1.2.1 rfl (by decide) rfl fn_X10_167 dX10_burst_77 ?_
  refine tj_iload (pc := 80) G 0 dX10_burst_80 rfl ?_
  refine tj_dup2 (pc := 82) G dX10_burst_82 rfl rfl ?_
  refine tj_iald (pc := 83) G (k := (k1 + 2)) (i2 := w32 x15) (n2 := 8) (tg_Moor_l2 hk1) hk1.2.2.2 rfl rfl dX10_burst_83 ?_
  refine tj_iconst (pc := 84) G dX10_burst_84 ?_
  refine tj_iadd (pc := 85) G dX10_burst_85 ?_
  refine tj_iast (pc := 86) G (k := (k1 + 2)) (i2 := w32 x15) (n2 := 8) (tg_Moor_l2 hk1) hk1.2.2.2 rfl rfl dX10_burst_86 (fun M20 => ?_)
  exact tj_sub [1, 2, 3, 4, 5, 6] rfl (hj87  M20)
set_option maxRecDepth 100000 in
set_option maxHeartbeats 4000000 in
theorem ok_X10_burst (X : tp_X)  {k1 : Nat} {a2 : Int} (hk1 : tg_Moor LC 64 k1) {M : tp_M} {res : Int × tp_M} (h : fx_X10_burst  k1 a2 M = some res) : tp_Ret X LC 64 1 yX10_burst (Cond.code yX10_burst cX10_burst 7 (some .int)) 4 [vR X 0, vR X k1, vI a2] M res := by
  refine tp_ofW (by decide +kernel) rfl rfl (by show _ ≤ 7; exact Nat.le_of_ble_eq_true rfl) h (fun Y G => ?_)
  show tp_J X Y LC 64 7 4 1 (fx_X10_burst  k1 a2 M) M [(0, vR X 0), (1, vR X k1), (2, vI a2)] [] 0
  unfold fx_X10_burst
  refine tj_aload_n (pc := 0) G 0 dX10_burst_0 rfl rfl ?_
  refine tj_getR (pc := 1) G (k := 0) (j := 2) (j2 := 2) tk_X10 (by decide) lc_0 rfl (by decide) rfl fl_X10_26 dX10_burst_1 ?_
  refine tj_iload_n (pc := 4) G 2 dX10_burst_4 rfl rfl ?_
  refine tj_callVi (pc := 5) G [vI a2] mf_X4_hasPost (k := 5) (by decide) lc_5 rfl rfl ml_X10_176 (by decide) rfl rfl (Nat.le_of_ble_eq_true rfl) (fun _ h9 => ok_X4_hasPost X gg_Paths_5 h9) dX10_burst_5 (fun r1 M2 => ?_)
  refine tj_if_ne (pc := 8) G (tgt := 13) (a2 := w32 r1) dX10_burst_8 (by decide) rfl ?_ ?_
  · refine tj_aload_n (pc := 13) G 0 dX10_burst_13 rfl rfl ?_
    refine tj_getR (pc := 14) G (k := 0) (j := 2) (j2 := 2) tk_X10 (by decide) lc_0 rfl (by decide) rfl fl_X10_26 dX10_burst_14 ?_
    refine tj_iload_n (pc := 17) G 2 dX10_burst_17 rfl rfl ?_
    refine tj_callVi (pc := 18) G [vI a2] mf_X4_degree (k := 5) (by decide) lc_5 rfl rfl ml_X10_156 (by decide) rfl rfl (Nat.le_of_ble_eq_true rfl) (fun _ h9 => ok_X4_degree X gg_Paths_5 h9) dX10_burst_18 (fun r3 M4 => ?_)
    refine tj_istore_n (pc := 21) G (fun x5 => [(3, vI x5), (0, vR X 0), (1, vR X k1), (2, vI a2)]) dX10_burst_21 rfl (by decide) (fun _ => rfl) (fun x5 => ?_)
    refine tj_aload_n (pc := 22) G 1 dX10_burst_22 rfl rfl ?_
    refine tj_getR (pc := 23) G (k := 0) (j := 2) (j2 := 2) tk_X10 (by decide) lc_0 rfl (by decide) rfl fl_X10_26 dX10_burst_23 ?_
    refine tj_iload_n (pc := 26) G 3 dX10_burst_26 rfl rfl ?_
    refine tj_iconst (pc := 27) G dX10_burst_27 ?_
    refine tj_callVi (pc := 28) G [vI a2, vI 0] mf_X4_waysTo (k := 5) (by decide) lc_5 rfl rfl ml_X10_284 (by decide) rfl rfl (Nat.le_of_ble_eq_true rfl) (fun _ h9 => ok_X4_waysTo X gg_Paths_5 h9) dX10_burst_28 (fun r6 M7 => ?_)
    refine tj_istore (pc := 31) G (fun x8 => [(4, vI x8), (3, vI x5), (0, vR X 0), (1, vR X k1), (2, vI a2)]) dX10_burst_31 (by decide) (fun _ => rfl) (fun x8 => ?_)
    refine tj_aload_n (pc := 33) G 3 dX10_burst_33 rfl rfl ?_
    refine tj_getRN (pc := 34) G (k := k1) (j := 1) (j2 := 1) tk_X2 (tg_Moor_l0 hk1) hk1.2.1 rfl (by decide) rfl fn_X10_167 dX10_burst_34 ?_
    refine tj_iload_n (pc := 37) G 4 dX10_burst_37 rfl rfl ?_
    refine tj_dup2 (pc := 38) G dX10_burst_38 rfl rfl ?_
    refine tj_iald (pc := 39) G (k := (k1 + 2)) (i2 := w32 a2) (n2 := 8) (tg_Moor_l2 hk1) hk1.2.2.2 rfl rfl dX10_burst_39 ?_
    refine tj_iload_n (pc := 40) G 1 dX10_burst_40 rfl rfl ?_
    refine tj_isub (pc := 41) G dX10_burst_41 ?_
    refine tj_iast (pc := 42) G (k := (k1 + 2)) (i2 := w32 a2) (n2 := 8) (tg_Moor_l2 hk1) hk1.2.2.2 rfl rfl dX10_burst_42 (fun M9 => ?_)
    refine tj_iconst (pc := 43) G dX10_burst_43 ?_
    refine tj_istore (pc := 44) G (fun x10 => [(5, vI x10), (4, vI x8), (3, vI x5), (0, vR X 0), (1, vR X k1), (2, vI a2)]) dX10_burst_44 (by decide) (fun _ => rfl) (fun x10 => ?_)
    refine tj_sub [3, 4, 5, 2, 1, 0] rfl (fx_X10_burst_L46_ok G  hk1  (fun M21 => ?_) tp_F x10 M9)
    refine tj_aload_n (pc := 93) G 0 dX10_burst_93 rfl rfl ?_
    refine tj_iload (pc := 94) G 1 dX10_burst_94 rfl ?_
    refine tj_callVv (pc := 96) G [vI x8] mf_X2_house (k := k1) (tg_Moor_l0 hk1) hk1.2.1 rfl rfl ml_X10_287 (by decide) rfl rfl (Nat.le_of_ble_eq_true rfl) (fun _ h9 => ok_X2_house X hk1 h9) dX10_burst_96 (fun r22 M23 => ?_)
    refine tj_iload (pc := 99) G 1 dX10_burst_99 rfl ?_
    exact tj_iret (pc := 101) G dX10_burst_101
  refine tj_iconst (pc := 11) G dX10_burst_11 ?_
  exact tj_iret (pc := 12) G dX10_burst_12

def fx_X10_canBurst  (k1 : Nat) (a2 : Int) (M : tp_M) : tp_O :=
(tp_bd (fx_X4_hasPost 5 a2 M) (fun r1 M2 =>
(if w32 r1 = 0 then
(some (0, M2))
else
(tp_ck (w32 a2) 8 (tp_bd (fx_X4_degree 5 a2 M2) (fun r3 M4 =>
(if w32 (M2 (k1 + 2) (w32 a2)) < w32 r3 then
(some (0, M4))
else
(some (1, M4)))))))))
set_option maxRecDepth 100000 in
set_option maxHeartbeats 4000000 in
theorem ok_X10_canBurst (X : tp_X)  {k1 : Nat} {a2 : Int} (hk1 : tg_Moor LC 64 k1) {M : tp_M} {res : Int × tp_M} (h : fx_X10_canBurst  k1 a2 M = some res) : tp_Ret X LC 64 1 yX10_canBurst (Cond.code yX10_canBurst cX10_canBurst 3 (some .boolean)) 3 [vR X 0, vR X k1, vI a2] M res := by
  refine tp_ofW (by decide +kernel) rfl rfl (by show _ ≤ 3; exact Nat.le_of_ble_eq_true rfl) h (fun Y G => ?_)
  show tp_J X Y LC 64 3 3 1 (fx_X10_canBurst  k1 a2 M) M [(0, vR X 0), (1, vR X k1), (2, vI a2)] [] 0
  unfold fx_X10_canBurst
  refine tj_aload_n (pc := 0) G 0 dX10_canBurst_0 rfl rfl ?_
  refine tj_getR (pc := 1) G (k := 0) (j := 2) (j2 := 2) tk_X10 (by decide) lc_0 rfl (by decide) rfl fl_X10_26 dX10_canBurst_1 ?_
  refine tj_iload_n (pc := 4) G 2 dX10_canBurst_4 rfl rfl ?_
  refine tj_callVi (pc := 5) G [vI a2] mf_X4_hasPost (k := 5) (by decide) lc_5 rfl rfl ml_X10_176 (by decide) rfl rfl (Nat.le_of_ble_eq_true rfl) (fun _ h9 => ok_X4_hasPost X gg_Paths_5 h9) dX10_canBurst_5 (fun r1 M2 => ?_)
  refine tj_if_eq (pc := 8) G (tgt := 32) (a2 := w32 r1) dX10_canBurst_8 (by decide) rfl ?_ ?_
  · refine tj_iconst (pc := 32) G dX10_canBurst_32 ?_
    exact tj_zret (pc := 33) G (by decide) dX10_canBurst_33
  refine tj_aload_n (pc := 11) G 1 dX10_canBurst_11 rfl rfl ?_
  refine tj_getRN (pc := 12) G (k := k1) (j := 1) (j2 := 1) tk_X2 (tg_Moor_l0 hk1) hk1.2.1 rfl (by decide) rfl fn_X10_167 dX10_canBurst_12 ?_
  refine tj_iload_n (pc := 15) G 2 dX10_canBurst_15 rfl rfl ?_
  refine tj_iald (pc := 16) G (k := (k1 + 2)) (i2 := w32 a2) (n2 := 8) (tg_Moor_l2 hk1) hk1.2.2.2 rfl rfl dX10_canBurst_16 ?_
  refine tj_aload_n (pc := 17) G 0 dX10_canBurst_17 rfl rfl ?_
  refine tj_getR (pc := 18) G (k := 0) (j := 2) (j2 := 2) tk_X10 (by decide) lc_0 rfl (by decide) rfl fl_X10_26 dX10_canBurst_18 ?_
  refine tj_iload_n (pc := 21) G 2 dX10_canBurst_21 rfl rfl ?_
  refine tj_callVi (pc := 22) G [vI a2] mf_X4_degree (k := 5) (by decide) lc_5 rfl rfl ml_X10_156 (by decide) rfl rfl (Nat.le_of_ble_eq_true rfl) (fun _ h9 => ok_X4_degree X gg_Paths_5 h9) dX10_canBurst_22 (fun r3 M4 => ?_)
  refine tj_icmp_lt (pc := 25) G (tgt := 32) (a2 := w32 (M2 (k1 + 2) (w32 a2))) (b2 := w32 r3) dX10_canBurst_25 (by decide) rfl rfl ?_ ?_
  · refine tj_iconst (pc := 32) G dX10_canBurst_32 ?_
    exact tj_zret (pc := 33) G (by decide) dX10_canBurst_33
  refine tj_iconst (pc := 28) G dX10_canBurst_28 ?_
  refine tj_goto (pc := 29) G (tgt := 33) dX10_canBurst_29 (by decide) ?_
  exact tj_zret (pc := 33) G (by decide) dX10_canBurst_33

def fx_X10_actBursts  (a1 : Int) (M : tp_M) : tp_O :=
(tp_bd (fx_X4_hasPost 5 a1 M) (fun r1 M2 =>
(if w32 r1 = 0 then
(some ((-1), M2))
else
(tp_bd (fx_X10_canBurst 25 a1 M2) (fun r3 M4 =>
(if w32 r3 = 0 then
(some ((-2), M4))
else
(tp_bd (fx_X10_burst 25 a1 M4) (fun r5 M6 =>
(tp_ck (w32 a1) 8 (some (M6 27 (w32 a1), M6)))))))))))
set_option maxRecDepth 100000 in
set_option maxHeartbeats 4000000 in
theorem ok_X10_actBursts (X : tp_X)  {a1 : Int}  {M : tp_M} {res : Int × tp_M} (h : fx_X10_actBursts  a1 M = some res) : tp_Ret X LC 64 1 yX10_actBursts (Cond.code yX10_actBursts cX10_actBursts 2 (some .int)) 5 [vR X 0, vI a1] M res := by
  refine tp_ofW (by decide +kernel) rfl rfl (by show _ ≤ 2; exact Nat.le_of_ble_eq_true rfl) h (fun Y G => ?_)
  show tp_J X Y LC 64 2 5 1 (fx_X10_actBursts  a1 M) M [(0, vR X 0), (1, vI a1)] [] 0
  unfold fx_X10_actBursts
  refine tj_aload_n (pc := 0) G 0 dX10_actBursts_0 rfl rfl ?_
  refine tj_getR (pc := 1) G (k := 0) (j := 2) (j2 := 2) tk_X10 (by decide) lc_0 rfl (by decide) rfl fl_X10_26 dX10_actBursts_1 ?_
  refine tj_iload_n (pc := 4) G 1 dX10_actBursts_4 rfl rfl ?_
  refine tj_callVi (pc := 5) G [vI a1] mf_X4_hasPost (k := 5) (by decide) lc_5 rfl rfl ml_X10_176 (by decide) rfl rfl (Nat.le_of_ble_eq_true rfl) (fun _ h9 => ok_X4_hasPost X gg_Paths_5 h9) dX10_actBursts_5 (fun r1 M2 => ?_)
  refine tj_if_ne (pc := 8) G (tgt := 13) (a2 := w32 r1) dX10_actBursts_8 (by decide) rfl ?_ ?_
  · refine tj_aload_n (pc := 13) G 0 dX10_actBursts_13 rfl rfl ?_
    refine tj_aload_n (pc := 14) G 0 dX10_actBursts_14 rfl rfl ?_
    refine tj_getR (pc := 15) G (k := 0) (j := 6) (j2 := 6) tk_X10 (by decide) lc_0 rfl (by decide) rfl fl_X10_46 dX10_actBursts_15 ?_
    refine tj_iload_n (pc := 18) G 1 dX10_actBursts_18 rfl rfl ?_
    refine tj_callVi (pc := 19) G [vR X 25, vI a1] mf_X10_canBurst (k := 0) (by decide) lc_0 rfl rfl ml_X10_261 (by decide) rfl rfl (Nat.le_of_ble_eq_true rfl) (fun _ h9 => ok_X10_canBurst X gg_Moor_25 h9) dX10_actBursts_19 (fun r3 M4 => ?_)
    refine tj_if_ne (pc := 22) G (tgt := 28) (a2 := w32 r3) dX10_actBursts_22 (by decide) rfl ?_ ?_
    · refine tj_aload_n (pc := 28) G 0 dX10_actBursts_28 rfl rfl ?_
      refine tj_aload_n (pc := 29) G 0 dX10_actBursts_29 rfl rfl ?_
      refine tj_getR (pc := 30) G (k := 0) (j := 6) (j2 := 6) tk_X10 (by decide) lc_0 rfl (by decide) rfl fl_X10_46 dX10_actBursts_30 ?_
      refine tj_iload_n (pc := 33) G 1 dX10_actBursts_33 rfl rfl ?_
      refine tj_callVi (pc := 34) G [vR X 25, vI a1] mf_X10_burst (k := 0) (by decide) lc_0 rfl rfl ml_X10_265 (by decide) rfl rfl (Nat.le_of_ble_eq_true rfl) (fun _ h9 => ok_X10_burst X gg_Moor_25 h9) dX10_actBursts_34 (fun r5 M6 => ?_)
      refine tj_pop (pc := 37) G dX10_actBursts_37 rfl ?_
      refine tj_aload_n (pc := 38) G 0 dX10_actBursts_38 rfl rfl ?_
      refine tj_getR (pc := 39) G (k := 0) (j := 6) (j2 := 6) tk_X10 (by decide) lc_0 rfl (by decide) rfl fl_X10_46 dX10_actBursts_39 ?_
      refine tj_getRN (pc := 42) G (k := 25) (j := 1) (j2 := 1) tk_X2 (by decide) lc_25 rfl (by decide) rfl fn_X10_167 dX10_actBursts_42 ?_
      refine tj_iload_n (pc := 45) G 1 dX10_actBursts_45 rfl rfl ?_
      refine tj_iald (pc := 46) G (k := 27) (i2 := w32 a1) (n2 := 8) (by decide) lc_27 rfl rfl dX10_actBursts_46 ?_
      exact tj_iret (pc := 47) G dX10_actBursts_47
    refine tj_bipush (pc := 25) G dX10_actBursts_25 rfl ?_
    exact tj_iret (pc := 27) G dX10_actBursts_27
  refine tj_iconst (pc := 11) G dX10_actBursts_11 ?_
  exact tj_iret (pc := 12) G dX10_actBursts_12

def fx_X10_bursts  (a1 : Int) (M : tp_M) : tp_O :=
(tp_bd (fx_X2_copyFrom 31 25 M) (fun r1 M2 =>
(tp_bd (fx_X10_actBursts a1 M2) (fun r3 M4 =>
(tp_bd (fx_X10_kept r3 M4) (fun r5 M6 =>
(some (r5, M6))))))))
set_option maxRecDepth 100000 in
set_option maxHeartbeats 4000000 in
theorem ok_X10_bursts (X : tp_X)  {a1 : Int}  {M : tp_M} {res : Int × tp_M} (h : fx_X10_bursts  a1 M = some res) : tp_Ret X LC 64 1 yX10_bursts (Cond.code yX10_bursts cX10_bursts 2 (some .int)) 6 [vR X 0, vI a1] M res := by
  refine tp_ofW (by decide +kernel) rfl rfl (by show _ ≤ 2; exact Nat.le_of_ble_eq_true rfl) h (fun Y G => ?_)
  show tp_J X Y LC 64 2 6 1 (fx_X10_bursts  a1 M) M [(0, vR X 0), (1, vI a1)] [] 0
  unfold fx_X10_bursts
  refine tj_aload_n (pc := 0) G 0 dX10_bursts_0 rfl rfl ?_
  refine tj_getR (pc := 1) G (k := 0) (j := 8) (j2 := 8) tk_X10 (by decide) lc_0 rfl (by decide) rfl fl_X10_53 dX10_bursts_1 ?_
  refine tj_aload_n (pc := 4) G 0 dX10_bursts_4 rfl rfl ?_
  refine tj_getR (pc := 5) G (k := 0) (j := 6) (j2 := 6) tk_X10 (by decide) lc_0 rfl (by decide) rfl fl_X10_46 dX10_bursts_5 ?_
  refine tj_callVv (pc := 8) G [vR X 25] mf_X2_copyFrom (k := 31) (by decide) lc_31 rfl rfl ml_X10_201 (by decide) rfl rfl (Nat.le_of_ble_eq_true rfl) (fun _ h9 => ok_X2_copyFrom X gg_Moor_31 gg_Moor_25 h9) dX10_bursts_8 (fun r1 M2 => ?_)
  refine tj_aload_n (pc := 11) G 0 dX10_bursts_11 rfl rfl ?_
  refine tj_aload_n (pc := 12) G 0 dX10_bursts_12 rfl rfl ?_
  refine tj_iload_n (pc := 13) G 1 dX10_bursts_13 rfl rfl ?_
  refine tj_callVi (pc := 14) G [vI a1] mf_X10_actBursts (k := 0) (by decide) lc_0 rfl rfl ml_X10_216 (by decide) rfl rfl (Nat.le_of_ble_eq_true rfl) (fun _ h9 => ok_X10_actBursts X  h9) dX10_bursts_14 (fun r3 M4 => ?_)
  refine tj_callVi (pc := 17) G [vI r3] mf_X10_kept (k := 0) (by decide) lc_0 rfl rfl ml_X10_207 (by decide) rfl rfl (Nat.le_of_ble_eq_true rfl) (fun _ h9 => ok_X10_kept X  h9) dX10_bursts_17 (fun r5 M6 => ?_)
  exact tj_iret (pc := 20) G dX10_bursts_20

def fx_X10_actCalms_L34 (c1 : Int) (K95 : tp_M → tp_O) (rec : Int → tp_M → tp_O) (z7 : Int) (M8 : tp_M) : tp_O :=
(tp_bd (fx_X4_crossings 5 M8) (fun r9 M10 =>
(if w32 z7 < w32 r9 then
(tp_ck (w32 z7) 8 (tp_ck (w32 z7) 8 (tp_lm (tp_up M10 27 (w32 z7) (M10 37 (w32 z7))) (fun M11 =>
(tp_ck (w32 z7) 8 (tp_bd (fx_X4_waysTo 5 z7 0 M11) (fun r12 M13 =>
(tp_bd (fx_X2_house 25 ((M11 38 (w32 z7)) * r12) M13) (fun r14 M15 =>
(tp_lt (z7 + 1) (fun x16 =>
(rec x16 M15))))))))))))
else
(K95 M10))))
def fx_X10_actCalms   (M : tp_M) : tp_O :=
(tp_bd (fx_X5_load 27 8 M) (fun r1 M2 =>
(tp_bd (fx_X5_calm  M2) (fun r3 M4 =>
(tp_lt r3 (fun x5 =>
(if w32 x5 < 0 then
(some (x5, M4))
else
(tp_lt 1 (fun x6 =>
(tp_lp1 (fx_X10_actCalms_L34 x5 (fun M17 =>
(tp_bd (fx_X4_crossings 5 M17) (fun r18 M19 =>
(tp_bd (fx_X8_tellRow 38 8 r18 M19) (fun r20 M21 =>
(some (x5, M21)))))))) tp_F x6 M4))))))))))
set_option maxRecDepth 100000 in
set_option maxHeartbeats 4000000 in
theorem fx_X10_actCalms_L34_ok {X : tp_X} {Y : tp_Y} (G : tp_Ok X Y 64 cX10_actCalms 3 RX10 (some .int))  {c1 : Int} {K95 : tp_M → tp_O}   (hK95 : ∀ (M9 : tp_M), tp_J X Y LC 64 3 5 1 (K95  M9) M9 [(0, vR X 0), (1, vI c1)] [] 95) (n : Nat) : ∀ (z7 : Int) (M8 : tp_M), tp_J X Y LC 64 3 5 1 (tp_lp1 (fx_X10_actCalms_L34  c1 K95) n z7 M8) M8 [(0, vR X 0), (1, vI c1), (2, vI z7)] [] 34 := by
  refine tp_lp1_ok (P := fun o z7 M8 => tp_J X Y LC 64 3 5 1 (o) M8 [(0, vR X 0), (1, vI c1), (2, vI z7)] [] 34) (fun z7 M8 => tj_none) (fun rec hrec z7 M8 => ?_) n
  unfold fx_X10_actCalms_L34
  refine tj_iload_n (pc := 34) G 2 dX10_actCalms_34 rfl rfl ?_
  refine tj_aload_n (pc := 35) G 0 dX10_actCalms_35 rfl rfl ?_
  refine tj_getR (pc := 36) G (k := 0) (j := 2) (j2 := 2) tk_X10 (by decide) lc_0 rfl (by decide) rfl fl_X10_26 dX10_actCalms_36 ?_
  refine tj_callVi (pc := 39) G [] mf_X4_crossings (k := 5) (by decide) lc_5 rfl rfl ml_X10_275 (by decide) rfl rfl (Nat.le_of_ble_eq_true rfl) (fun _ h9 => ok_X4_crossings X gg_Paths_5 h9) dX10_actCalms_39 (fun r9 M10 => ?_)
  refine tj_icmp_ge (pc := 42) G (tgt := 95) (a2 := w32 z7) (b2 := w32 r9) dX10_actCalms_42 (by decide) rfl rfl ?_ ?_
  · exact tj_sub [0, 1] rfl (hK95  M10)
  refine tj_aload_n (pc := 45) G 0 dX10_actCalms_45 rfl rfl ?_
  refine tj_getR (pc := 46) G (k := 0) (j := 6) (j2 := 6) tk_X10 (by decide) lc_0 rfl (by decide) rfl fl_X10_46 dX10_actCalms_46 ?_
  refine tj_getRN (pc := 49) G (k := 25) (j := 1) (j2 := 1) tk_X2 (by decide) lc_25 rfl (by decide) rfl fn_X10_167 dX10_actCalms_49 ?_
  refine tj_iload_n (pc := 52) G 2 dX10_actCalms_52 rfl rfl ?_
  refine tj_aload_n (pc := 53) G 0 dX10_actCalms_53 rfl rfl ?_
  refine tj_getR (pc := 54) G (k := 0) (j := 10) (j2 := 10) tk_X10 (by decide) lc_0 rfl (by decide) rfl fl_X10_66 dX10_actCalms_54 ?_
  refine tj_getRN (pc := 57) G (k := 36) (j := 0) (j2 := 0) tk_X5 (by decide) lc_36 rfl (by decide) rfl fn_X10_278 dX10_actCalms_57 ?_
  refine tj_iload_n (pc := 60) G 2 dX10_actCalms_60 rfl rfl ?_
  refine tj_iald (pc := 61) G (k := 37) (i2 := w32 z7) (n2 := 8) (by decide) lc_37 rfl rfl dX10_actCalms_61 ?_
  refine tj_iast (pc := 62) G (k := 27) (i2 := w32 z7) (n2 := 8) (by decide) lc_27 rfl rfl dX10_actCalms_62 (fun M11 => ?_)
  refine tj_aload_n (pc := 63) G 0 dX10_actCalms_63 rfl rfl ?_
  refine tj_getR (pc := 64) G (k := 0) (j := 6) (j2 := 6) tk_X10 (by decide) lc_0 rfl (by decide) rfl fl_X10_46 dX10_actCalms_64 ?_
  refine tj_aload_n (pc := 67) G 0 dX10_actCalms_67 rfl rfl ?_
  refine tj_getR (pc := 68) G (k := 0) (j := 10) (j2 := 10) tk_X10 (by decide) lc_0 rfl (by decide) rfl fl_X10_66 dX10_actCalms_68 ?_
  refine tj_getRN (pc := 71) G (k := 36) (j := 1) (j2 := 1) tk_X5 (by decide) lc_36 rfl (by decide) rfl fn_X10_281 dX10_actCalms_71 ?_
  refine tj_iload_n (pc := 74) G 2 dX10_actCalms_74 rfl rfl ?_
  refine tj_iald (pc := 75) G (k := 38) (i2 := w32 z7) (n2 := 8) (by decide) lc_38 rfl rfl dX10_actCalms_75 ?_
  refine tj_aload_n (pc := 76) G 0 dX10_actCalms_76 rfl rfl ?_
  refine tj_getR (pc := 77) G (k := 0) (j := 2) (j2 := 2) tk_X10 (by decide) lc_0 rfl (by decide) rfl fl_X10_26 dX10_actCalms_77 ?_
  refine tj_iload_n (pc := 80) G 2 dX10_actCalms_80 rfl rfl ?_
  refine tj_iconst (pc := 81) G dX10_actCalms_81 ?_
  refine tj_callVi (pc := 82) G [vI z7, vI 0] mf_X4_waysTo (k := 5) (by decide) lc_5 rfl rfl ml_X10_284 (by decide) rfl rfl (Nat.le_of_ble_eq_true rfl) (fun _ h9 => ok_X4_waysTo X gg_Paths_5 h9) dX10_actCalms_82 (fun r12 M13 => ?_)
  refine tj_imul (pc := 85) G dX10_actCalms_85 ?_
  refine tj_callVv (pc := 86) G [vI ((M11 38 (w32 z7)) * r12)] mf_X2_house (k := 25) (by decide) lc_25 rfl rfl ml_X10_287 (by decide) rfl rfl (Nat.le_of_ble_eq_true rfl) (fun _ h9 => ok_X2_house X gg_Moor_25 h9) dX10_actCalms_86 (fun r14 M15 => ?_)
  refine tj_iinc (pc := 89) G 2 (fun x16 => [(2, vI x16), (0, vR X 0), (1, vI c1)]) dX10_actCalms_89 rfl (by decide) (fun _ => rfl) (fun x16 => ?_)
  refine tj_goto (pc := 92) G (tgt := 34) dX10_actCalms_92 (by decide) ?_
  exact tj_sub [1, 2, 0] rfl (hrec x16 M15)
set_option maxRecDepth 100000 in
set_option maxHeartbeats 4000000 in
theorem ok_X10_actCalms (X : tp_X)    {M : tp_M} {res : Int × tp_M} (h : fx_X10_actCalms   M = some res) : tp_Ret X LC 64 1 yX10_actCalms (Cond.code yX10_actCalms cX10_actCalms 3 (some .int)) 5 [vR X 0] M res := by
  refine tp_ofW (by decide +kernel) rfl rfl (by show _ ≤ 3; exact Nat.le_of_ble_eq_true rfl) h (fun Y G => ?_)
  show tp_J X Y LC 64 3 5 1 (fx_X10_actCalms   M) M [(0, vR X 0)] [] 0
  unfold fx_X10_actCalms
  refine tj_aload_n (pc := 0) G 0 dX10_actCalms_0 rfl rfl ?_
  refine tj_getR (pc := 1) G (k := 0) (j := 10) (j2 := 10) tk_X10 (by decide) lc_0 rfl (by decide) rfl fl_X10_66 dX10_actCalms_1 ?_
  refine tj_aload_n (pc := 4) G 0 dX10_actCalms_4 rfl rfl ?_
  refine tj_getR (pc := 5) G (k := 0) (j := 6) (j2 := 6) tk_X10 (by decide) lc_0 rfl (by decide) rfl fl_X10_46 dX10_actCalms_5 ?_
  refine tj_getRN (pc := 8) G (k := 25) (j := 1) (j2 := 1) tk_X2 (by decide) lc_25 rfl (by decide) rfl fn_X10_167 dX10_actCalms_8 ?_
  refine tj_callVv (pc := 11) G [vR X 27] mf_X5_load (k := 36) (by decide) lc_36 rfl rfl ml_X10_268 (by decide) rfl rfl (Nat.le_of_ble_eq_true rfl) (fun _ h9 => ok_X5_load X ⟨by decide, lc_27⟩ h9) dX10_actCalms_11 (fun r1 M2 => ?_)
  refine tj_aload_n (pc := 14) G 0 dX10_actCalms_14 rfl rfl ?_
  refine tj_getR (pc := 15) G (k := 0) (j := 10) (j2 := 10) tk_X10 (by decide) lc_0 rfl (by decide) rfl fl_X10_66 dX10_actCalms_15 ?_
  refine tj_aload_n (pc := 18) G 0 dX10_actCalms_18 rfl rfl ?_
  refine tj_getR (pc := 19) G (k := 0) (j := 2) (j2 := 2) tk_X10 (by decide) lc_0 rfl (by decide) rfl fl_X10_26 dX10_actCalms_19 ?_
  refine tj_callVi (pc := 22) G [vR X 5] mf_X5_calm (k := 36) (by decide) lc_36 rfl rfl ml_X10_271 (by decide) rfl rfl (Nat.le_of_ble_eq_true rfl) (fun _ h9 => ok_X5_calm X  h9) dX10_actCalms_22 (fun r3 M4 => ?_)
  refine tj_istore_n (pc := 25) G (fun x5 => [(1, vI x5), (0, vR X 0)]) dX10_actCalms_25 rfl (by decide) (fun _ => rfl) (fun x5 => ?_)
  refine tj_iload_n (pc := 26) G 0 dX10_actCalms_26 rfl rfl ?_
  refine tj_if_ge (pc := 27) G (tgt := 32) (a2 := w32 x5) dX10_actCalms_27 (by decide) rfl ?_ ?_
  · refine tj_iconst (pc := 32) G dX10_actCalms_32 ?_
    refine tj_istore_n (pc := 33) G (fun x6 => [(2, vI x6), (1, vI x5), (0, vR X 0)]) dX10_actCalms_33 rfl (by decide) (fun _ => rfl) (fun x6 => ?_)
    refine tj_sub [2, 1, 0] rfl (fx_X10_actCalms_L34_ok G    (fun M17 => ?_) tp_F x6 M4)
    refine tj_aload_n (pc := 95) G 0 dX10_actCalms_95 rfl rfl ?_
    refine tj_getR (pc := 96) G (k := 0) (j := 1) (j2 := 1) tk_X10 (by decide) lc_0 rfl (by decide) rfl fl_X10_19 dX10_actCalms_96 ?_
    refine tj_aload_n (pc := 99) G 0 dX10_actCalms_99 rfl rfl ?_
    refine tj_getR (pc := 100) G (k := 0) (j := 10) (j2 := 10) tk_X10 (by decide) lc_0 rfl (by decide) rfl fl_X10_66 dX10_actCalms_100 ?_
    refine tj_getRN (pc := 103) G (k := 36) (j := 1) (j2 := 1) tk_X5 (by decide) lc_36 rfl (by decide) rfl fn_X10_281 dX10_actCalms_103 ?_
    refine tj_aload_n (pc := 106) G 0 dX10_actCalms_106 rfl rfl ?_
    refine tj_getR (pc := 107) G (k := 0) (j := 2) (j2 := 2) tk_X10 (by decide) lc_0 rfl (by decide) rfl fl_X10_26 dX10_actCalms_107 ?_
    refine tj_callVi (pc := 110) G [] mf_X4_crossings (k := 5) (by decide) lc_5 rfl rfl ml_X10_275 (by decide) rfl rfl (Nat.le_of_ble_eq_true rfl) (fun _ h9 => ok_X4_crossings X gg_Paths_5 h9) dX10_actCalms_110 (fun r18 M19 => ?_)
    refine tj_callVv (pc := 113) G [vR X 38, vI r18] mf_X8_tellRow (k := 3) (by decide) lc_3 rfl rfl ml_X10_290 (by decide) rfl rfl (Nat.le_of_ble_eq_true rfl) (fun _ h9 => ok_X8_tellRow X ⟨by decide, lc_38⟩ h9) dX10_actCalms_113 (fun r20 M21 => ?_)
    refine tj_iload_n (pc := 116) G 1 dX10_actCalms_116 rfl rfl ?_
    exact tj_iret (pc := 117) G dX10_actCalms_117
  refine tj_iload_n (pc := 30) G 0 dX10_actCalms_30 rfl rfl ?_
  exact tj_iret (pc := 31) G dX10_actCalms_31

def fx_X10_calms   (M : tp_M) : tp_O :=
(tp_bd (fx_X2_copyFrom 31 25 M) (fun r1 M2 =>
(tp_bd (fx_X10_actCalms  M2) (fun r3 M4 =>
(tp_bd (fx_X10_kept r3 M4) (fun r5 M6 =>
(some (r5, M6))))))))
set_option maxRecDepth 100000 in
set_option maxHeartbeats 4000000 in
theorem ok_X10_calms (X : tp_X)    {M : tp_M} {res : Int × tp_M} (h : fx_X10_calms   M = some res) : tp_Ret X LC 64 1 yX10_calms (Cond.code yX10_calms cX10_calms 1 (some .int)) 6 [vR X 0] M res := by
  refine tp_ofW (by decide +kernel) rfl rfl (by show _ ≤ 1; exact Nat.le_of_ble_eq_true rfl) h (fun Y G => ?_)
  show tp_J X Y LC 64 1 6 1 (fx_X10_calms   M) M [(0, vR X 0)] [] 0
  unfold fx_X10_calms
  refine tj_aload_n (pc := 0) G 0 dX10_calms_0 rfl rfl ?_
  refine tj_getR (pc := 1) G (k := 0) (j := 8) (j2 := 8) tk_X10 (by decide) lc_0 rfl (by decide) rfl fl_X10_53 dX10_calms_1 ?_
  refine tj_aload_n (pc := 4) G 0 dX10_calms_4 rfl rfl ?_
  refine tj_getR (pc := 5) G (k := 0) (j := 6) (j2 := 6) tk_X10 (by decide) lc_0 rfl (by decide) rfl fl_X10_46 dX10_calms_5 ?_
  refine tj_callVv (pc := 8) G [vR X 25] mf_X2_copyFrom (k := 31) (by decide) lc_31 rfl rfl ml_X10_201 (by decide) rfl rfl (Nat.le_of_ble_eq_true rfl) (fun _ h9 => ok_X2_copyFrom X gg_Moor_31 gg_Moor_25 h9) dX10_calms_8 (fun r1 M2 => ?_)
  refine tj_aload_n (pc := 11) G 0 dX10_calms_11 rfl rfl ?_
  refine tj_aload_n (pc := 12) G 0 dX10_calms_12 rfl rfl ?_
  refine tj_callVi (pc := 13) G [] mf_X10_actCalms (k := 0) (by decide) lc_0 rfl rfl ml_X10_219 (by decide) rfl rfl (Nat.le_of_ble_eq_true rfl) (fun _ h9 => ok_X10_actCalms X  h9) dX10_calms_13 (fun r3 M4 => ?_)
  refine tj_callVi (pc := 16) G [vI r3] mf_X10_kept (k := 0) (by decide) lc_0 rfl rfl ml_X10_207 (by decide) rfl rfl (Nat.le_of_ble_eq_true rfl) (fun _ h9 => ok_X10_kept X  h9) dX10_calms_16 (fun r5 M6 => ?_)
  exact tj_iret (pc := 19) G dX10_calms_19

def fx_X10_actPoints  (a1 : Int) (a2 : Int) (M : tp_M) : tp_O :=
(tp_bd (fx_X4_hasWay 5 a1 a2 M) (fun r1 M2 =>
(if w32 r1 = 0 then
(some ((-1), M2))
else
(tp_ck (w32 a1) 8 (tp_lt (M2 26 (w32 a1)) (fun x3 =>
(if w32 x3 = w32 a2 then
(some ((-2), M2))
else
(tp_ck (w32 a1) 8 (tp_lm (tp_up M2 26 (w32 a1) a2) (fun M4 =>
(some (10 + x3, M4))))))))))))
set_option maxRecDepth 100000 in
set_option maxHeartbeats 4000000 in
theorem ok_X10_actPoints (X : tp_X)  {a1 : Int} {a2 : Int}  {M : tp_M} {res : Int × tp_M} (h : fx_X10_actPoints  a1 a2 M = some res) : tp_Ret X LC 64 1 yX10_actPoints (Cond.code yX10_actPoints cX10_actPoints 4 (some .int)) 2 [vR X 0, vI a1, vI a2] M res := by
  refine tp_ofW (by decide +kernel) rfl rfl (by show _ ≤ 4; exact Nat.le_of_ble_eq_true rfl) h (fun Y G => ?_)
  show tp_J X Y LC 64 4 2 1 (fx_X10_actPoints  a1 a2 M) M [(0, vR X 0), (1, vI a1), (2, vI a2)] [] 0
  unfold fx_X10_actPoints
  refine tj_aload_n (pc := 0) G 0 dX10_actPoints_0 rfl rfl ?_
  refine tj_getR (pc := 1) G (k := 0) (j := 2) (j2 := 2) tk_X10 (by decide) lc_0 rfl (by decide) rfl fl_X10_26 dX10_actPoints_1 ?_
  refine tj_iload_n (pc := 4) G 1 dX10_actPoints_4 rfl rfl ?_
  refine tj_iload_n (pc := 5) G 2 dX10_actPoints_5 rfl rfl ?_
  refine tj_callVi (pc := 6) G [vI a1, vI a2] mf_X4_hasWay (k := 5) (by decide) lc_5 rfl rfl ml_X10_183 (by decide) rfl rfl (Nat.le_of_ble_eq_true rfl) (fun _ h9 => ok_X4_hasWay X gg_Paths_5 h9) dX10_actPoints_6 (fun r1 M2 => ?_)
  refine tj_if_ne (pc := 9) G (tgt := 14) (a2 := w32 r1) dX10_actPoints_9 (by decide) rfl ?_ ?_
  · refine tj_aload_n (pc := 14) G 0 dX10_actPoints_14 rfl rfl ?_
    refine tj_getR (pc := 15) G (k := 0) (j := 6) (j2 := 6) tk_X10 (by decide) lc_0 rfl (by decide) rfl fl_X10_46 dX10_actPoints_15 ?_
    refine tj_getRN (pc := 18) G (k := 25) (j := 0) (j2 := 0) tk_X2 (by decide) lc_25 rfl (by decide) rfl fn_X10_160 dX10_actPoints_18 ?_
    refine tj_iload_n (pc := 21) G 1 dX10_actPoints_21 rfl rfl ?_
    refine tj_iald (pc := 22) G (k := 26) (i2 := w32 a1) (n2 := 8) (by decide) lc_26 rfl rfl dX10_actPoints_22 ?_
    refine tj_istore_n (pc := 23) G (fun x3 => [(3, vI x3), (0, vR X 0), (1, vI a1), (2, vI a2)]) dX10_actPoints_23 rfl (by decide) (fun _ => rfl) (fun x3 => ?_)
    refine tj_iload_n (pc := 24) G 0 dX10_actPoints_24 rfl rfl ?_
    refine tj_iload_n (pc := 25) G 3 dX10_actPoints_25 rfl rfl ?_
    refine tj_icmp_ne (pc := 26) G (tgt := 32) (a2 := w32 x3) (b2 := w32 a2) dX10_actPoints_26 (by decide) rfl rfl ?_ ?_
    · refine tj_aload_n (pc := 32) G 1 dX10_actPoints_32 rfl rfl ?_
      refine tj_getR (pc := 33) G (k := 0) (j := 6) (j2 := 6) tk_X10 (by decide) lc_0 rfl (by decide) rfl fl_X10_46 dX10_actPoints_33 ?_
      refine tj_getRN (pc := 36) G (k := 25) (j := 0) (j2 := 0) tk_X2 (by decide) lc_25 rfl (by decide) rfl fn_X10_160 dX10_actPoints_36 ?_
      refine tj_iload_n (pc := 39) G 2 dX10_actPoints_39 rfl rfl ?_
      refine tj_iload_n (pc := 40) G 3 dX10_actPoints_40 rfl rfl ?_
      refine tj_iast (pc := 41) G (k := 26) (i2 := w32 a1) (n2 := 8) (by decide) lc_26 rfl rfl dX10_actPoints_41 (fun M4 => ?_)
      refine tj_bipush (pc := 42) G dX10_actPoints_42 rfl ?_
      refine tj_iload_n (pc := 44) G 0 dX10_actPoints_44 rfl rfl ?_
      refine tj_iadd (pc := 45) G dX10_actPoints_45 ?_
      exact tj_iret (pc := 46) G dX10_actPoints_46
    refine tj_bipush (pc := 29) G dX10_actPoints_29 rfl ?_
    exact tj_iret (pc := 31) G dX10_actPoints_31
  refine tj_iconst (pc := 12) G dX10_actPoints_12 ?_
  exact tj_iret (pc := 13) G dX10_actPoints_13

def fx_X10_points  (a1 : Int) (a2 : Int) (M : tp_M) : tp_O :=
(tp_bd (fx_X2_copyFrom 31 25 M) (fun r1 M2 =>
(tp_bd (fx_X10_actPoints a1 a2 M2) (fun r3 M4 =>
(tp_bd (fx_X10_kept r3 M4) (fun r5 M6 =>
(some (r5, M6))))))))
set_option maxRecDepth 100000 in
set_option maxHeartbeats 4000000 in
theorem ok_X10_points (X : tp_X)  {a1 : Int} {a2 : Int}  {M : tp_M} {res : Int × tp_M} (h : fx_X10_points  a1 a2 M = some res) : tp_Ret X LC 64 1 yX10_points (Cond.code yX10_points cX10_points 3 (some .int)) 4 [vR X 0, vI a1, vI a2] M res := by
  refine tp_ofW (by decide +kernel) rfl rfl (by show _ ≤ 3; exact Nat.le_of_ble_eq_true rfl) h (fun Y G => ?_)
  show tp_J X Y LC 64 3 4 1 (fx_X10_points  a1 a2 M) M [(0, vR X 0), (1, vI a1), (2, vI a2)] [] 0
  unfold fx_X10_points
  refine tj_aload_n (pc := 0) G 0 dX10_points_0 rfl rfl ?_
  refine tj_getR (pc := 1) G (k := 0) (j := 8) (j2 := 8) tk_X10 (by decide) lc_0 rfl (by decide) rfl fl_X10_53 dX10_points_1 ?_
  refine tj_aload_n (pc := 4) G 0 dX10_points_4 rfl rfl ?_
  refine tj_getR (pc := 5) G (k := 0) (j := 6) (j2 := 6) tk_X10 (by decide) lc_0 rfl (by decide) rfl fl_X10_46 dX10_points_5 ?_
  refine tj_callVv (pc := 8) G [vR X 25] mf_X2_copyFrom (k := 31) (by decide) lc_31 rfl rfl ml_X10_201 (by decide) rfl rfl (Nat.le_of_ble_eq_true rfl) (fun _ h9 => ok_X2_copyFrom X gg_Moor_31 gg_Moor_25 h9) dX10_points_8 (fun r1 M2 => ?_)
  refine tj_aload_n (pc := 11) G 0 dX10_points_11 rfl rfl ?_
  refine tj_aload_n (pc := 12) G 0 dX10_points_12 rfl rfl ?_
  refine tj_iload_n (pc := 13) G 1 dX10_points_13 rfl rfl ?_
  refine tj_iload_n (pc := 14) G 2 dX10_points_14 rfl rfl ?_
  refine tj_callVi (pc := 15) G [vI a1, vI a2] mf_X10_actPoints (k := 0) (by decide) lc_0 rfl rfl ml_X10_222 (by decide) rfl rfl (Nat.le_of_ble_eq_true rfl) (fun _ h9 => ok_X10_actPoints X  h9) dX10_points_15 (fun r3 M4 => ?_)
  refine tj_callVi (pc := 18) G [vI r3] mf_X10_kept (k := 0) (by decide) lc_0 rfl rfl ml_X10_207 (by decide) rfl rfl (Nat.le_of_ble_eq_true rfl) (fun _ h9 => ok_X10_kept X  h9) dX10_points_18 (fun r5 M6 => ?_)
  exact tj_iret (pc := 21) G dX10_points_21

def fx_X10_act  (a1 : Int) (a2 : Int) (a3 : Int) (M : tp_M) : tp_O :=
(if w32 a1 = 98 then
(tp_bd (fx_X10_actBursts a2 M) (fun r3 M4 =>
(some (r3, M4))))
else
(if w32 a1 = 99 then
(tp_bd (fx_X10_actComes a2 a3 M) (fun r7 M8 =>
(some (r7, M8))))
else
(if w32 a1 = 103 then
(tp_bd (fx_X10_actGoes a2 M) (fun r11 M12 =>
(some (r11, M12))))
else
(if w32 a1 = 112 then
(tp_bd (fx_X10_actPoints a2 a3 M) (fun r15 M16 =>
(some (r15, M16))))
else
(if w32 a1 = 119 then
(tp_bd (fx_X10_actWalks a2 M) (fun r19 M20 =>
(some (r19, M20))))
else
(tp_bd (fx_X10_actCalms  M) (fun r21 M22 =>
(some (r21, M22)))))))))
set_option maxRecDepth 100000 in
set_option maxHeartbeats 4000000 in
theorem ok_X10_act (X : tp_X)  {a1 : Int} {a2 : Int} {a3 : Int}  {M : tp_M} {res : Int × tp_M} (h : fx_X10_act  a1 a2 a3 M = some res) : tp_Ret X LC 64 1 yX10_act (Cond.code yX10_act cX10_act 4 (some .int)) 6 [vR X 0, vI a1, vI a2, vI a3] M res := by
  refine tp_ofW (by decide +kernel) rfl rfl (by show _ ≤ 4; exact Nat.le_of_ble_eq_true rfl) h (fun Y G => ?_)
  show tp_J X Y LC 64 4 6 1 (fx_X10_act  a1 a2 a3 M) M [(0, vR X 0), (1, vI a1), (2, vI a2), (3, vI a3)] [] 0
  unfold fx_X10_act
  refine tj_iload_n (pc := 0) G 1 dX10_act_0 rfl rfl ?_
  refine tj_case (fun hq1 => ?_) (fun hq2 => ?_)
  · refine tj_look (pc := 1) G (tgt := 71) dX10_act_1 (by decide) (by rw [hq1] <;> rfl) (by decide) ?_
    refine tj_aload_n (pc := 71) G 0 dX10_act_71 rfl rfl ?_
    refine tj_iload_n (pc := 72) G 2 dX10_act_72 rfl rfl ?_
    refine tj_callVi (pc := 73) G [vI a2] mf_X10_actBursts (k := 0) (by decide) lc_0 rfl rfl ml_X10_216 (by decide) rfl rfl (Nat.le_of_ble_eq_true rfl) (fun _ h9 => ok_X10_actBursts X  h9) dX10_act_73 (fun r3 M4 => ?_)
    exact tj_iret (pc := 76) G dX10_act_76
  refine tj_case (fun hq5 => ?_) (fun hq6 => ?_)
  · refine tj_look (pc := 1) G (tgt := 52) dX10_act_1 (by decide) (by rw [hq5] <;> rfl) (by decide) ?_
    refine tj_aload_n (pc := 52) G 0 dX10_act_52 rfl rfl ?_
    refine tj_iload_n (pc := 53) G 2 dX10_act_53 rfl rfl ?_
    refine tj_iload_n (pc := 54) G 3 dX10_act_54 rfl rfl ?_
    refine tj_callVi (pc := 55) G [vI a2, vI a3] mf_X10_actComes (k := 0) (by decide) lc_0 rfl rfl ml_X10_204 (by decide) rfl rfl (Nat.le_of_ble_eq_true rfl) (fun _ h9 => ok_X10_actComes X  h9) dX10_act_55 (fun r7 M8 => ?_)
    exact tj_iret (pc := 58) G dX10_act_58
  refine tj_case (fun hq9 => ?_) (fun hq10 => ?_)
  · refine tj_look (pc := 1) G (tgt := 59) dX10_act_1 (by decide) (by rw [hq9] <;> rfl) (by decide) ?_
    refine tj_aload_n (pc := 59) G 0 dX10_act_59 rfl rfl ?_
    refine tj_iload_n (pc := 60) G 2 dX10_act_60 rfl rfl ?_
    refine tj_callVi (pc := 61) G [vI a2] mf_X10_actGoes (k := 0) (by decide) lc_0 rfl rfl ml_X10_210 (by decide) rfl rfl (Nat.le_of_ble_eq_true rfl) (fun _ h9 => ok_X10_actGoes X  h9) dX10_act_61 (fun r11 M12 => ?_)
    exact tj_iret (pc := 64) G dX10_act_64
  refine tj_case (fun hq13 => ?_) (fun hq14 => ?_)
  · refine tj_look (pc := 1) G (tgt := 77) dX10_act_1 (by decide) (by rw [hq13] <;> rfl) (by decide) ?_
    refine tj_aload_n (pc := 77) G 0 dX10_act_77 rfl rfl ?_
    refine tj_iload_n (pc := 78) G 2 dX10_act_78 rfl rfl ?_
    refine tj_iload_n (pc := 79) G 3 dX10_act_79 rfl rfl ?_
    refine tj_callVi (pc := 80) G [vI a2, vI a3] mf_X10_actPoints (k := 0) (by decide) lc_0 rfl rfl ml_X10_222 (by decide) rfl rfl (Nat.le_of_ble_eq_true rfl) (fun _ h9 => ok_X10_actPoints X  h9) dX10_act_80 (fun r15 M16 => ?_)
    exact tj_iret (pc := 83) G dX10_act_83
  refine tj_case (fun hq17 => ?_) (fun hq18 => ?_)
  · refine tj_look (pc := 1) G (tgt := 65) dX10_act_1 (by decide) (by rw [hq17] <;> rfl) (by decide) ?_
    refine tj_aload_n (pc := 65) G 0 dX10_act_65 rfl rfl ?_
    refine tj_iload_n (pc := 66) G 2 dX10_act_66 rfl rfl ?_
    refine tj_callVi (pc := 67) G [vI a2] mf_X10_actWalks (k := 0) (by decide) lc_0 rfl rfl ml_X10_213 (by decide) rfl rfl (Nat.le_of_ble_eq_true rfl) (fun _ h9 => ok_X10_actWalks X  h9) dX10_act_67 (fun r19 M20 => ?_)
    exact tj_iret (pc := 70) G dX10_act_70
  refine tj_look (pc := 1) G (off := 83) (tgt := 84) dX10_act_1 (by decide) (by simp only [Op.lookupswitch.offset]; (repeat rw [if_neg (by omega)])) (by decide) ?_
  refine tj_aload_n (pc := 84) G 0 dX10_act_84 rfl rfl ?_
  refine tj_callVi (pc := 85) G [] mf_X10_actCalms (k := 0) (by decide) lc_0 rfl rfl ml_X10_219 (by decide) rfl rfl (Nat.le_of_ble_eq_true rfl) (fun _ h9 => ok_X10_actCalms X  h9) dX10_act_85 (fun r21 M22 => ?_)
  exact tj_iret (pc := 88) G dX10_act_88

def fx_X10_isAct  (a1 : Int) (M : tp_M) : tp_O :=
(if w32 a1 = 97 then
(some (1, M))
else
(if w32 a1 = 98 then
(some (1, M))
else
(if w32 a1 = 99 then
(some (1, M))
else
(if w32 a1 = 103 then
(some (1, M))
else
(if w32 a1 = 112 then
(some (1, M))
else
(if w32 a1 = 119 then
(some (1, M))
else
(some (0, M))))))))
set_option maxRecDepth 100000 in
set_option maxHeartbeats 4000000 in
theorem ok_X10_isAct (X : tp_X)  {a1 : Int}  {M : tp_M} {res : Int × tp_M} (h : fx_X10_isAct  a1 M = some res) : tp_Ret X LC 64 1 yX10_isAct (Cond.code yX10_isAct cX10_isAct 1 (some .boolean)) 1 [vI a1] M res := by
  refine tp_ofW (by decide +kernel) rfl rfl (by show _ ≤ 1; exact Nat.le_of_ble_eq_true rfl) h (fun Y G => ?_)
  show tp_J X Y LC 64 1 1 1 (fx_X10_isAct  a1 M) M [(0, vI a1)] [] 0
  unfold fx_X10_isAct
  refine tj_iload_n (pc := 0) G 0 dX10_isAct_0 rfl rfl ?_
  refine tj_case (fun hq1 => ?_) (fun hq2 => ?_)
  · refine tj_look (pc := 1) G (tgt := 60) dX10_isAct_1 (by decide) (by rw [hq1] <;> rfl) (by decide) ?_
    refine tj_iconst (pc := 60) G dX10_isAct_60 ?_
    exact tj_zret (pc := 61) G (by decide) dX10_isAct_61
  refine tj_case (fun hq3 => ?_) (fun hq4 => ?_)
  · refine tj_look (pc := 1) G (tgt := 60) dX10_isAct_1 (by decide) (by rw [hq3] <;> rfl) (by decide) ?_
    refine tj_iconst (pc := 60) G dX10_isAct_60 ?_
    exact tj_zret (pc := 61) G (by decide) dX10_isAct_61
  refine tj_case (fun hq5 => ?_) (fun hq6 => ?_)
  · refine tj_look (pc := 1) G (tgt := 60) dX10_isAct_1 (by decide) (by rw [hq5] <;> rfl) (by decide) ?_
    refine tj_iconst (pc := 60) G dX10_isAct_60 ?_
    exact tj_zret (pc := 61) G (by decide) dX10_isAct_61
  refine tj_case (fun hq7 => ?_) (fun hq8 => ?_)
  · refine tj_look (pc := 1) G (tgt := 60) dX10_isAct_1 (by decide) (by rw [hq7] <;> rfl) (by decide) ?_
    refine tj_iconst (pc := 60) G dX10_isAct_60 ?_
    exact tj_zret (pc := 61) G (by decide) dX10_isAct_61
  refine tj_case (fun hq9 => ?_) (fun hq10 => ?_)
  · refine tj_look (pc := 1) G (tgt := 60) dX10_isAct_1 (by decide) (by rw [hq9] <;> rfl) (by decide) ?_
    refine tj_iconst (pc := 60) G dX10_isAct_60 ?_
    exact tj_zret (pc := 61) G (by decide) dX10_isAct_61
  refine tj_case (fun hq11 => ?_) (fun hq12 => ?_)
  · refine tj_look (pc := 1) G (tgt := 60) dX10_isAct_1 (by decide) (by rw [hq11] <;> rfl) (by decide) ?_
    refine tj_iconst (pc := 60) G dX10_isAct_60 ?_
    exact tj_zret (pc := 61) G (by decide) dX10_isAct_61
  refine tj_look (pc := 1) G (off := 61) (tgt := 62) dX10_isAct_1 (by decide) (by simp only [Op.lookupswitch.offset]; (repeat rw [if_neg (by omega)])) (by decide) ?_
  refine tj_iconst (pc := 62) G dX10_isAct_62 ?_
  exact tj_zret (pc := 63) G (by decide) dX10_isAct_63

def fx_X10_isSecondDigit  (a1 : Int) (a2 : Int) (M : tp_M) : tp_O :=
(if w32 a1 = 99 then
(if w32 a2 < 49 then
(some (0, M))
else
(if w32 a2 ≤ 57 then
(some (1, M))
else
(some (0, M))))
else
(if w32 a2 < 48 then
(some (0, M))
else
(if w32 a2 ≤ 51 then
(some (1, M))
else
(some (0, M)))))
set_option maxRecDepth 100000 in
set_option maxHeartbeats 4000000 in
theorem ok_X10_isSecondDigit (X : tp_X)  {a1 : Int} {a2 : Int}  {M : tp_M} {res : Int × tp_M} (h : fx_X10_isSecondDigit  a1 a2 M = some res) : tp_Ret X LC 64 1 yX10_isSecondDigit (Cond.code yX10_isSecondDigit cX10_isSecondDigit 2 (some .boolean)) 1 [vI a1, vI a2] M res := by
  refine tp_ofW (by decide +kernel) rfl rfl (by show _ ≤ 2; exact Nat.le_of_ble_eq_true rfl) h (fun Y G => ?_)
  show tp_J X Y LC 64 2 1 1 (fx_X10_isSecondDigit  a1 a2 M) M [(0, vI a1), (1, vI a2)] [] 0
  unfold fx_X10_isSecondDigit
  refine tj_iload_n (pc := 0) G 0 dX10_isSecondDigit_0 rfl rfl ?_
  refine tj_bipush (pc := 1) G dX10_isSecondDigit_1 rfl ?_
  refine tj_icmp_ne (pc := 3) G (tgt := 26) (a2 := w32 a1) (b2 := 99) dX10_isSecondDigit_3 (by decide) rfl rfl ?_ ?_
  · refine tj_iload_n (pc := 26) G 1 dX10_isSecondDigit_26 rfl rfl ?_
    refine tj_bipush (pc := 27) G dX10_isSecondDigit_27 rfl ?_
    refine tj_icmp_lt (pc := 29) G (tgt := 42) (a2 := w32 a2) (b2 := 48) dX10_isSecondDigit_29 (by decide) rfl rfl ?_ ?_
    · refine tj_iconst (pc := 42) G dX10_isSecondDigit_42 ?_
      exact tj_zret (pc := 43) G (by decide) dX10_isSecondDigit_43
    refine tj_iload_n (pc := 32) G 1 dX10_isSecondDigit_32 rfl rfl ?_
    refine tj_bipush (pc := 33) G dX10_isSecondDigit_33 rfl ?_
    refine tj_icmp_gt (pc := 35) G (tgt := 42) (a2 := w32 a2) (b2 := 51) dX10_isSecondDigit_35 (by decide) rfl rfl ?_ ?_
    · refine tj_iconst (pc := 42) G dX10_isSecondDigit_42 ?_
      exact tj_zret (pc := 43) G (by decide) dX10_isSecondDigit_43
    refine tj_iconst (pc := 38) G dX10_isSecondDigit_38 ?_
    refine tj_goto (pc := 39) G (tgt := 43) dX10_isSecondDigit_39 (by decide) ?_
    exact tj_zret (pc := 43) G (by decide) dX10_isSecondDigit_43
  refine tj_iload_n (pc := 6) G 1 dX10_isSecondDigit_6 rfl rfl ?_
  refine tj_bipush (pc := 7) G dX10_isSecondDigit_7 rfl ?_
  refine tj_icmp_lt (pc := 9) G (tgt := 22) (a2 := w32 a2) (b2 := 49) dX10_isSecondDigit_9 (by decide) rfl rfl ?_ ?_
  · refine tj_iconst (pc := 22) G dX10_isSecondDigit_22 ?_
    refine tj_goto (pc := 23) G (tgt := 43) dX10_isSecondDigit_23 (by decide) ?_
    exact tj_zret (pc := 43) G (by decide) dX10_isSecondDigit_43
  refine tj_iload_n (pc := 12) G 1 dX10_isSecondDigit_12 rfl rfl ?_
  refine tj_bipush (pc := 13) G dX10_isSecondDigit_13 rfl ?_
  refine tj_icmp_gt (pc := 15) G (tgt := 22) (a2 := w32 a2) (b2 := 57) dX10_isSecondDigit_15 (by decide) rfl rfl ?_ ?_
  · refine tj_iconst (pc := 22) G dX10_isSecondDigit_22 ?_
    refine tj_goto (pc := 23) G (tgt := 43) dX10_isSecondDigit_23 (by decide) ?_
    exact tj_zret (pc := 43) G (by decide) dX10_isSecondDigit_43
  refine tj_iconst (pc := 18) G dX10_isSecondDigit_18 ?_
  refine tj_goto (pc := 19) G (tgt := 43) dX10_isSecondDigit_19 (by decide) ?_
  exact tj_zret (pc := 43) G (by decide) dX10_isSecondDigit_43

def fx_X10_signsOf  (a1 : Int) (M : tp_M) : tp_O :=
(if w32 a1 = 98 then
(some (2, M))
else
(if w32 a1 = 99 then
(some (3, M))
else
(if w32 a1 = 103 then
(some (2, M))
else
(if w32 a1 = 112 then
(some (3, M))
else
(if w32 a1 = 119 then
(some (2, M))
else
(some (1, M)))))))
set_option maxRecDepth 100000 in
set_option maxHeartbeats 4000000 in
theorem ok_X10_signsOf (X : tp_X)  {a1 : Int}  {M : tp_M} {res : Int × tp_M} (h : fx_X10_signsOf  a1 M = some res) : tp_Ret X LC 64 1 yX10_signsOf (Cond.code yX10_signsOf cX10_signsOf 1 (some .int)) 1 [vI a1] M res := by
  refine tp_ofW (by decide +kernel) rfl rfl (by show _ ≤ 1; exact Nat.le_of_ble_eq_true rfl) h (fun Y G => ?_)
  show tp_J X Y LC 64 1 1 1 (fx_X10_signsOf  a1 M) M [(0, vI a1)] [] 0
  unfold fx_X10_signsOf
  refine tj_iload_n (pc := 0) G 0 dX10_signsOf_0 rfl rfl ?_
  refine tj_case (fun hq1 => ?_) (fun hq2 => ?_)
  · refine tj_look (pc := 1) G (tgt := 52) dX10_signsOf_1 (by decide) (by rw [hq1] <;> rfl) (by decide) ?_
    refine tj_iconst (pc := 52) G dX10_signsOf_52 ?_
    exact tj_iret (pc := 53) G dX10_signsOf_53
  refine tj_case (fun hq3 => ?_) (fun hq4 => ?_)
  · refine tj_look (pc := 1) G (tgt := 54) dX10_signsOf_1 (by decide) (by rw [hq3] <;> rfl) (by decide) ?_
    refine tj_iconst (pc := 54) G dX10_signsOf_54 ?_
    exact tj_iret (pc := 55) G dX10_signsOf_55
  refine tj_case (fun hq5 => ?_) (fun hq6 => ?_)
  · refine tj_look (pc := 1) G (tgt := 52) dX10_signsOf_1 (by decide) (by rw [hq5] <;> rfl) (by decide) ?_
    refine tj_iconst (pc := 52) G dX10_signsOf_52 ?_
    exact tj_iret (pc := 53) G dX10_signsOf_53
  refine tj_case (fun hq7 => ?_) (fun hq8 => ?_)
  · refine tj_look (pc := 1) G (tgt := 54) dX10_signsOf_1 (by decide) (by rw [hq7] <;> rfl) (by decide) ?_
    refine tj_iconst (pc := 54) G dX10_signsOf_54 ?_
    exact tj_iret (pc := 55) G dX10_signsOf_55
  refine tj_case (fun hq9 => ?_) (fun hq10 => ?_)
  · refine tj_look (pc := 1) G (tgt := 52) dX10_signsOf_1 (by decide) (by rw [hq9] <;> rfl) (by decide) ?_
    refine tj_iconst (pc := 52) G dX10_signsOf_52 ?_
    exact tj_iret (pc := 53) G dX10_signsOf_53
  refine tj_look (pc := 1) G (off := 55) (tgt := 56) dX10_signsOf_1 (by decide) (by simp only [Op.lookupswitch.offset]; (repeat rw [if_neg (by omega)])) (by decide) ?_
  refine tj_iconst (pc := 56) G dX10_signsOf_56 ?_
  exact tj_iret (pc := 57) G dX10_signsOf_57

def fx_X10_checkDay_L20 (c3 : Int) (K126 : Int → tp_M → tp_O) (rec : Int → Int → Int → tp_M → tp_O) (z7 z8 z9 : Int) (M10 : tp_M) : tp_O :=
(if w32 z9 < w32 c3 then
(tp_bd (fx_X7_at z9 M10) (fun r12 M13 =>
(tp_lt r12 (fun x14 =>
(tp_jn2 (fun y15 y16 M17 => 
(tp_lt (z9 + 1) (fun x18 =>
(rec y15 y16 x18 M17)))) (fun jk120 =>
(if w32 z8 = 0 then
(tp_bd (fx_X10_isAct x14 M13) (fun r31 M32 =>
(if w32 r31 = 0 then
(some ((-1) - z9, M32))
else
(tp_lt x14 (fun x33 =>
(tp_bd (fx_X10_signsOf x33 M32) (fun r34 M35 =>
(tp_lt (r34 - 1) (fun x36 =>
(jk120 x33 x36 M35))))))))))
else
(tp_jn1 (fun y19 M20 => 
(tp_lt y19 (fun x21 =>
(tp_jn0 (fun M22 => 
(tp_lt (z8 + (-1)) (fun x23 =>
(jk120 z7 x23 M22)))) (fun jk117 =>
(if w32 x21 = 0 then
(tp_bd (fx_X10_isDigit x14 M20) (fun r24 M25 =>
(if w32 r24 = 0 then
(some ((-1) - z9, M25))
else
(jk117 M25))))
else
(tp_bd (fx_X10_isSecondDigit z7 x14 M20) (fun r26 M27 =>
(if w32 r26 = 0 then
(some ((-1) - z9, M27))
else
(jk117 M27)))))))))) (fun jk85 =>
(tp_jn0 (fun M28 => 
(jk85 0 M28)) (fun jk84 =>
(if w32 z8 = 1 then
(tp_bd (fx_X10_signsOf z7 M13) (fun r29 M30 =>
(if w32 r29 = 3 then
(jk85 1 M30)
else
(jk84 M30))))
else
(jk84 M13)))))))))))))
else
(K126 z8 M10))
def fx_X10_checkDay   (M : tp_M) : tp_O :=
(tp_lt 0 (fun x1 =>
(tp_lt 0 (fun x2 =>
(tp_bd (fx_X7_size  M) (fun r3 M4 =>
(tp_lt (min (w32 r3) 60) (fun x5 =>
(tp_lt 0 (fun x6 =>
(tp_lp3 (fx_X10_checkDay_L20 x5 (fun y11 M37 =>
(tp_bd (fx_X7_size  M37) (fun r38 M39 =>
(if w32 r38 ≤ 60 then
(if w32 y11 ≤ 0 then
(some (0, M39))
else
(tp_bd (fx_X7_size  M39) (fun r40 M41 =>
(some ((-1) - r40, M41)))))
else
(some ((-61), M39))))))) tp_F x1 x2 x6 M4)))))))))))
set_option maxRecDepth 100000 in
set_option maxHeartbeats 4000000 in
theorem fx_X10_checkDay_L20_ok {X : tp_X} {Y : tp_Y} (G : tp_Ok X Y 64 cX10_checkDay 7 RX10 (some .int))  {c3 : Int} {K126 : Int → tp_M → tp_O}   (hK126 : ∀ (y11 : Int) (M9 : tp_M), tp_J X Y LC 64 7 2 1 (K126 y11 M9) M9 [(0, vR X 0), (2, vI y11)] [] 126) (n : Nat) : ∀ (z7 z8 z9 : Int) (M10 : tp_M), tp_J X Y LC 64 7 2 1 (tp_lp3 (fx_X10_checkDay_L20  c3 K126) n z7 z8 z9 M10) M10 [(0, vR X 0), (1, vI z7), (2, vI z8), (3, vI c3), (4, vI z9)] [] 20 := by
  refine tp_lp3_ok (P := fun o z7 z8 z9 M10 => tp_J X Y LC 64 7 2 1 (o) M10 [(0, vR X 0), (1, vI z7), (2, vI z8), (3, vI c3), (4, vI z9)] [] 20) (fun z7 z8 z9 M10 => tj_none) (fun rec hrec z7 z8 z9 M10 => ?_) n
  unfold fx_X10_checkDay_L20
  refine tj_iload (pc := 20) G 4 dX10_checkDay_20 rfl ?_
  refine tj_iload_n (pc := 22) G 3 dX10_checkDay_22 rfl rfl ?_
  refine tj_icmp_ge (pc := 23) G (tgt := 126) (a2 := w32 z9) (b2 := w32 c3) dX10_checkDay_23 (by decide) rfl rfl ?_ ?_
  · exact tj_sub [0, 2] rfl (hK126 z8 M10)
  refine tj_aload_n (pc := 26) G 0 dX10_checkDay_26 rfl rfl ?_
  refine tj_getR (pc := 27) G (k := 0) (j := 0) (j2 := 0) tk_X10 (by decide) lc_0 rfl (by decide) rfl fl_X10_12 dX10_checkDay_27 ?_
  refine tj_iload (pc := 30) G 4 dX10_checkDay_30 rfl ?_
  refine tj_callVi (pc := 32) G [vI z9] mf_X7_at (k := 1) (by decide) lc_1 rfl rfl ml_X10_228 (by decide) rfl rfl (Nat.le_of_ble_eq_true rfl) (fun _ h9 => ok_X7_at X  h9) dX10_checkDay_32 (fun r12 M13 => ?_)
  refine tj_istore (pc := 35) G (fun x14 => [(5, vI x14), (0, vR X 0), (1, vI z7), (2, vI z8), (3, vI c3), (4, vI z9)]) dX10_checkDay_35 (by decide) (fun _ => rfl) (fun x14 => ?_)
  refine tj_iload_n (pc := 37) G 3 dX10_checkDay_37 rfl rfl ?_
  refine tj_jn2 (fun y15 y16 => [(0, vR X 0), (1, vI y15), (2, vI y16), (3, vI c3), (4, vI z9)]) (fun y15 y16 => []) 120 (fun y15 y16 M17 => ?_) (fun jk120 hj120 => ?_)
  · refine tj_iinc (pc := 120) G 4 (fun x18 => [(4, vI x18), (0, vR X 0), (1, vI y15), (2, vI y16), (3, vI c3)]) dX10_checkDay_120 rfl (by decide) (fun _ => rfl) (fun x18 => ?_)
    refine tj_goto (pc := 123) G (tgt := 20) dX10_checkDay_123 (by decide) ?_
    exact tj_sub [1, 2, 3, 4, 0] rfl (hrec y15 y16 x18 M17)
  refine tj_if_ne (pc := 38) G (tgt := 67) (a2 := w32 z8) dX10_checkDay_38 (by decide) rfl ?_ ?_
  · refine tj_iload_n (pc := 67) G 3 dX10_checkDay_67 rfl rfl ?_
    refine tj_iconst (pc := 68) G dX10_checkDay_68 ?_
    refine tj_jn1 (fun y19 => [(0, vR X 0), (1, vI z7), (2, vI z8), (3, vI c3), (4, vI z9), (5, vI x14)]) (fun y19 => [vI y19]) 85 (fun y19 M20 => ?_) (fun jk85 hj85 => ?_)
    · refine tj_istore (pc := 85) G (fun x21 => [(6, vI x21), (0, vR X 0), (1, vI z7), (2, vI z8), (3, vI c3), (4, vI z9), (5, vI x14)]) dX10_checkDay_85 (by decide) (fun _ => rfl) (fun x21 => ?_)
      refine tj_iload (pc := 87) G 0 dX10_checkDay_87 rfl ?_
      refine tj_jn0 [(0, vR X 0), (1, vI z7), (2, vI z8), (3, vI c3), (4, vI z9)] [] 117 (fun M22 => ?_) (fun jk117 hj117 => ?_)
      · refine tj_iinc (pc := 117) G 2 (fun x23 => [(2, vI x23), (0, vR X 0), (1, vI z7), (3, vI c3), (4, vI z9)]) dX10_checkDay_117 rfl (by decide) (fun _ => rfl) (fun x23 => ?_)
        exact tj_sub [1, 2, 0, 3, 4] rfl (hj120 z7 x23 M22)
      refine tj_if_eq (pc := 89) G (tgt := 104) (a2 := w32 x21) dX10_checkDay_89 (by decide) rfl ?_ ?_
      · refine tj_iload (pc := 104) G 6 dX10_checkDay_104 rfl ?_
        refine tj_callSi (pc := 106) G [vI x14] mf_X10_isDigit ml_X10_300 (by decide) rfl rfl (Nat.le_of_ble_eq_true rfl) (fun _ h9 => ok_X10_isDigit X  h9) dX10_checkDay_106 (fun r24 M25 => ?_)
        refine tj_if_ne (pc := 109) G (tgt := 117) (a2 := w32 r24) dX10_checkDay_109 (by decide) rfl ?_ ?_
        · exact tj_sub [1, 2, 3, 4, 5] rfl (hj117  M25)
        refine tj_iconst (pc := 112) G dX10_checkDay_112 ?_
        refine tj_iload (pc := 113) G 5 dX10_checkDay_113 rfl ?_
        refine tj_isub (pc := 115) G dX10_checkDay_115 ?_
        exact tj_iret (pc := 116) G dX10_checkDay_116
      refine tj_iload_n (pc := 92) G 2 dX10_checkDay_92 rfl rfl ?_
      refine tj_iload (pc := 93) G 6 dX10_checkDay_93 rfl ?_
      refine tj_callSi (pc := 95) G [vI z7, vI x14] mf_X10_isSecondDigit ml_X10_297 (by decide) rfl rfl (Nat.le_of_ble_eq_true rfl) (fun _ h9 => ok_X10_isSecondDigit X  h9) dX10_checkDay_95 (fun r26 M27 => ?_)
      refine tj_if_eq (pc := 98) G (tgt := 112) (a2 := w32 r26) dX10_checkDay_98 (by decide) rfl ?_ ?_
      · refine tj_iconst (pc := 112) G dX10_checkDay_112 ?_
        refine tj_iload (pc := 113) G 5 dX10_checkDay_113 rfl ?_
        refine tj_isub (pc := 115) G dX10_checkDay_115 ?_
        exact tj_iret (pc := 116) G dX10_checkDay_116
      refine tj_goto (pc := 101) G (tgt := 117) dX10_checkDay_101 (by decide) ?_
      exact tj_sub [1, 2, 3, 4, 5] rfl (hj117  M27)
    refine tj_jn0 [(0, vR X 0), (1, vI z7), (2, vI z8), (3, vI c3), (4, vI z9), (5, vI x14)] [] 84 (fun M28 => ?_) (fun jk84 hj84 => ?_)
    · refine tj_iconst (pc := 84) G dX10_checkDay_84 ?_
      exact tj_sub [0, 1, 2, 3, 4, 5] rfl (hj85 0 M28)
    refine tj_icmp_ne (pc := 69) G (tgt := 84) (a2 := w32 z8) (b2 := 1) dX10_checkDay_69 (by decide) rfl rfl ?_ ?_
    · exact tj_sub [1, 2, 3, 4, 5, 0] rfl (hj84  M13)
    refine tj_iload_n (pc := 72) G 2 dX10_checkDay_72 rfl rfl ?_
    refine tj_callSi (pc := 73) G [vI z7] mf_X10_signsOf ml_X10_294 (by decide) rfl rfl (Nat.le_of_ble_eq_true rfl) (fun _ h9 => ok_X10_signsOf X  h9) dX10_checkDay_73 (fun r29 M30 => ?_)
    refine tj_iconst (pc := 76) G dX10_checkDay_76 ?_
    refine tj_icmp_ne (pc := 77) G (tgt := 84) (a2 := w32 r29) (b2 := 3) dX10_checkDay_77 (by decide) rfl rfl ?_ ?_
    · exact tj_sub [1, 2, 3, 4, 5, 0] rfl (hj84  M30)
    refine tj_iconst (pc := 80) G dX10_checkDay_80 ?_
    refine tj_goto (pc := 81) G (tgt := 85) dX10_checkDay_81 (by decide) ?_
    exact tj_sub [1, 2, 3, 4, 5, 0] rfl (hj85 1 M30)
  refine tj_iload (pc := 41) G 0 dX10_checkDay_41 rfl ?_
  refine tj_callSi (pc := 43) G [vI x14] mf_X10_isAct ml_X10_231 (by decide) rfl rfl (Nat.le_of_ble_eq_true rfl) (fun _ h9 => ok_X10_isAct X  h9) dX10_checkDay_43 (fun r31 M32 => ?_)
  refine tj_if_ne (pc := 46) G (tgt := 54) (a2 := w32 r31) dX10_checkDay_46 (by decide) rfl ?_ ?_
  · refine tj_iload (pc := 54) G 0 dX10_checkDay_54 rfl ?_
    refine tj_istore_n (pc := 56) G (fun x33 => [(1, vI x33), (5, vI x14), (0, vR X 0), (2, vI z8), (3, vI c3), (4, vI z9)]) dX10_checkDay_56 rfl (by decide) (fun _ => rfl) (fun x33 => ?_)
    refine tj_iload_n (pc := 57) G 0 dX10_checkDay_57 rfl rfl ?_
    refine tj_callSi (pc := 58) G [vI x33] mf_X10_signsOf ml_X10_294 (by decide) rfl rfl (Nat.le_of_ble_eq_true rfl) (fun _ h9 => ok_X10_signsOf X  h9) dX10_checkDay_58 (fun r34 M35 => ?_)
    refine tj_iconst (pc := 61) G dX10_checkDay_61 ?_
    refine tj_isub (pc := 62) G dX10_checkDay_62 ?_
    refine tj_istore_n (pc := 63) G (fun x36 => [(2, vI x36), (1, vI x33), (5, vI x14), (0, vR X 0), (3, vI c3), (4, vI z9)]) dX10_checkDay_63 rfl (by decide) (fun _ => rfl) (fun x36 => ?_)
    refine tj_goto (pc := 64) G (tgt := 120) dX10_checkDay_64 (by decide) ?_
    exact tj_sub [3, 1, 0, 4, 5] rfl (hj120 x33 x36 M35)
  refine tj_iconst (pc := 49) G dX10_checkDay_49 ?_
  refine tj_iload (pc := 50) G 5 dX10_checkDay_50 rfl ?_
  refine tj_isub (pc := 52) G dX10_checkDay_52 ?_
  exact tj_iret (pc := 53) G dX10_checkDay_53
set_option maxRecDepth 100000 in
set_option maxHeartbeats 4000000 in
theorem ok_X10_checkDay (X : tp_X)    {M : tp_M} {res : Int × tp_M} (h : fx_X10_checkDay   M = some res) : tp_Ret X LC 64 1 yX10_checkDay (Cond.code yX10_checkDay cX10_checkDay 7 (some .int)) 2 [vR X 0] M res := by
  refine tp_ofW (by decide +kernel) rfl rfl (by show _ ≤ 7; exact Nat.le_of_ble_eq_true rfl) h (fun Y G => ?_)
  show tp_J X Y LC 64 7 2 1 (fx_X10_checkDay   M) M [(0, vR X 0)] [] 0
  unfold fx_X10_checkDay
  refine tj_iconst (pc := 0) G dX10_checkDay_0 ?_
  refine tj_istore_n (pc := 1) G (fun x1 => [(1, vI x1), (0, vR X 0)]) dX10_checkDay_1 rfl (by decide) (fun _ => rfl) (fun x1 => ?_)
  refine tj_iconst (pc := 2) G dX10_checkDay_2 ?_
  refine tj_istore_n (pc := 3) G (fun x2 => [(2, vI x2), (1, vI x1), (0, vR X 0)]) dX10_checkDay_3 rfl (by decide) (fun _ => rfl) (fun x2 => ?_)
  refine tj_aload_n (pc := 4) G 2 dX10_checkDay_4 rfl rfl ?_
  refine tj_getR (pc := 5) G (k := 0) (j := 0) (j2 := 0) tk_X10 (by decide) lc_0 rfl (by decide) rfl fl_X10_12 dX10_checkDay_5 ?_
  refine tj_callVi (pc := 8) G [] mf_X7_size (k := 1) (by decide) lc_1 rfl rfl ml_X10_114 (by decide) rfl rfl (Nat.le_of_ble_eq_true rfl) (fun _ h9 => ok_X7_size X  h9) dX10_checkDay_8 (fun r3 M4 => ?_)
  refine tj_bipush (pc := 11) G dX10_checkDay_11 rfl ?_
  refine tj_min (pc := 13) G (a2 := w32 r3) (b2 := 60) rfl rfl ml_X10_193 mw_min (by decide) (Nat.le_of_ble_eq_true rfl) dX10_checkDay_13 ?_
  refine tj_istore_n (pc := 16) G (fun x5 => [(3, vI x5), (2, vI x2), (1, vI x1), (0, vR X 0)]) dX10_checkDay_16 rfl (by decide) (fun _ => rfl) (fun x5 => ?_)
  refine tj_iconst (pc := 17) G dX10_checkDay_17 ?_
  refine tj_istore (pc := 18) G (fun x6 => [(4, vI x6), (3, vI x5), (2, vI x2), (1, vI x1), (0, vR X 0)]) dX10_checkDay_18 (by decide) (fun _ => rfl) (fun x6 => ?_)
  refine tj_sub [4, 3, 2, 1, 0] rfl (fx_X10_checkDay_L20_ok G    (fun y11 M37 => ?_) tp_F x1 x2 x6 M4)
  refine tj_aload_n (pc := 126) G 0 dX10_checkDay_126 rfl rfl ?_
  refine tj_getR (pc := 127) G (k := 0) (j := 0) (j2 := 0) tk_X10 (by decide) lc_0 rfl (by decide) rfl fl_X10_12 dX10_checkDay_127 ?_
  refine tj_callVi (pc := 130) G [] mf_X7_size (k := 1) (by decide) lc_1 rfl rfl ml_X10_114 (by decide) rfl rfl (Nat.le_of_ble_eq_true rfl) (fun _ h9 => ok_X7_size X  h9) dX10_checkDay_130 (fun r38 M39 => ?_)
  refine tj_bipush (pc := 133) G dX10_checkDay_133 rfl ?_
  refine tj_icmp_le (pc := 135) G (tgt := 141) (a2 := w32 r38) (b2 := 60) dX10_checkDay_135 (by decide) rfl rfl ?_ ?_
  · refine tj_iload_n (pc := 141) G 1 dX10_checkDay_141 rfl rfl ?_
    refine tj_if_le (pc := 142) G (tgt := 157) (a2 := w32 y11) dX10_checkDay_142 (by decide) rfl ?_ ?_
    · refine tj_iconst (pc := 157) G dX10_checkDay_157 ?_
      exact tj_iret (pc := 158) G dX10_checkDay_158
    refine tj_iconst (pc := 145) G dX10_checkDay_145 ?_
    refine tj_aload_n (pc := 146) G 0 dX10_checkDay_146 rfl rfl ?_
    refine tj_getR (pc := 147) G (k := 0) (j := 0) (j2 := 0) tk_X10 (by decide) lc_0 rfl (by decide) rfl fl_X10_12 dX10_checkDay_147 ?_
    refine tj_callVi (pc := 150) G [] mf_X7_size (k := 1) (by decide) lc_1 rfl rfl ml_X10_114 (by decide) rfl rfl (Nat.le_of_ble_eq_true rfl) (fun _ h9 => ok_X7_size X  h9) dX10_checkDay_150 (fun r40 M41 => ?_)
    refine tj_isub (pc := 153) G dX10_checkDay_153 ?_
    refine tj_goto (pc := 154) G (tgt := 158) dX10_checkDay_154 (by decide) ?_
    exact tj_iret (pc := 158) G dX10_checkDay_158
  refine tj_bipush (pc := 138) G dX10_checkDay_138 rfl ?_
  exact tj_iret (pc := 140) G dX10_checkDay_140

def fx_X10_day_L40 (c1 : Int) (c2 : Int) (K132 : Int → Int → tp_M → tp_O) (rec : Int → Int → Int → tp_M → tp_O) (z12 z13 z14 : Int) (M15 : tp_M) : tp_O :=
(if w32 z14 < w32 c2 then
(if w32 z13 = 0 then
(tp_bd (fx_X7_at z14 M15) (fun r18 M19 =>
(tp_bd (fx_X10_isAct r18 M19) (fun r20 M21 =>
(tp_jn2 (fun y22 y23 M24 => 
(tp_lt (z14 + 1) (fun x25 =>
(rec y22 y23 x25 M24)))) (fun jk126 =>
(if w32 r20 = 0 then
(jk126 z12 z13 M21)
else
(tp_bd (fx_X7_at z14 M21) (fun r26 M27 =>
(tp_bd (fx_X7_at (z14 + 1) M27) (fun r28 M29 =>
(tp_bd (fx_X7_at (z14 + 2) M29) (fun r30 M31 =>
(tp_bd (fx_X10_act r26 (r28 - 48) (r30 - 48) M31) (fun r32 M33 =>
(tp_lt r32 (fun x34 =>
(if w32 x34 < 0 then
(tp_lt 1 (fun x36 =>
(jk126 z12 x36 M33)))
else
(tp_lt (z12 + 1) (fun x35 =>
(jk126 x35 z13 M33)))))))))))))))))))))
else
(K132 z12 z13 M15))
else
(K132 z12 z13 M15))
def fx_X10_day   (M : tp_M) : tp_O :=
(tp_bd (fx_X10_checkDay  M) (fun r1 M2 =>
(tp_lt r1 (fun x3 =>
(tp_jn1 (fun y4 M5 => 
(tp_lt y4 (fun x6 =>
(tp_lt 0 (fun x7 =>
(tp_lt 0 (fun x8 =>
(tp_bd (fx_X2_copyFrom 31 25 M5) (fun r9 M10 =>
(tp_lt 0 (fun x11 =>
(tp_lp3 (fx_X10_day_L40 x3 x6 (fun y16 y17 M37 =>
(tp_bd (fx_X7_cut 0 M37) (fun r38 M39 =>
(if w32 x3 < 0 then
(some (x3, M39))
else
(tp_jn0 (fun M40 => 
(tp_bd (fx_X8_tell__ (w32 y17) (w32 (M40 25 2)) M40) (fun r41 M42 =>
(some (y16, M42))))) (fun jk161 =>
(if w32 y16 ≤ 0 then
(jk161 M39)
else
(tp_bd (fx_X3_push 31 M39) (fun r43 M44 =>
(jk161 M44))))))))))) tp_F x7 x8 x11 M10)))))))))))) (fun jk20 =>
(if w32 x3 < 0 then
(jk20 0 M2)
else
(tp_bd (fx_X7_size  M2) (fun r45 M46 =>
(jk20 r45 M46))))))))))
set_option maxRecDepth 100000 in
set_option maxHeartbeats 4000000 in
theorem fx_X10_day_L40_ok {X : tp_X} {Y : tp_Y} (G : tp_Ok X Y 64 cX10_day 7 RX10 (some .int))  {c1 : Int} {c2 : Int} {K132 : Int → Int → tp_M → tp_O}   (hK132 : ∀ (y16 y17 : Int) (M9 : tp_M), tp_J X Y LC 64 7 7 1 (K132 y16 y17 M9) M9 [(0, vR X 0), (1, vI c1), (3, vI y16), (4, vI y17)] [] 132) (n : Nat) : ∀ (z12 z13 z14 : Int) (M15 : tp_M), tp_J X Y LC 64 7 7 1 (tp_lp3 (fx_X10_day_L40  c1 c2 K132) n z12 z13 z14 M15) M15 [(0, vR X 0), (1, vI c1), (2, vI c2), (3, vI z12), (4, vI z13), (5, vI z14)] [] 40 := by
  refine tp_lp3_ok (P := fun o z12 z13 z14 M15 => tp_J X Y LC 64 7 7 1 (o) M15 [(0, vR X 0), (1, vI c1), (2, vI c2), (3, vI z12), (4, vI z13), (5, vI z14)] [] 40) (fun z12 z13 z14 M15 => tj_none) (fun rec hrec z12 z13 z14 M15 => ?_) n
  unfold fx_X10_day_L40
  refine tj_iload (pc := 40) G 5 dX10_day_40 rfl ?_
  refine tj_iload_n (pc := 42) G 2 dX10_day_42 rfl rfl ?_
  refine tj_icmp_ge (pc := 43) G (tgt := 132) (a2 := w32 z14) (b2 := w32 c2) dX10_day_43 (by decide) rfl rfl ?_ ?_
  · exact tj_sub [0, 1, 3, 4] rfl (hK132 z12 z13 M15)
  refine tj_iload (pc := 46) G 4 dX10_day_46 rfl ?_
  refine tj_if_ne (pc := 48) G (tgt := 132) (a2 := w32 z13) dX10_day_48 (by decide) rfl ?_ ?_
  · exact tj_sub [0, 1, 3, 4] rfl (hK132 z12 z13 M15)
  refine tj_aload_n (pc := 51) G 0 dX10_day_51 rfl rfl ?_
  refine tj_getR (pc := 52) G (k := 0) (j := 0) (j2 := 0) tk_X10 (by decide) lc_0 rfl (by decide) rfl fl_X10_12 dX10_day_52 ?_
  refine tj_iload (pc := 55) G 5 dX10_day_55 rfl ?_
  refine tj_callVi (pc := 57) G [vI z14] mf_X7_at (k := 1) (by decide) lc_1 rfl rfl ml_X10_228 (by decide) rfl rfl (Nat.le_of_ble_eq_true rfl) (fun _ h9 => ok_X7_at X  h9) dX10_day_57 (fun r18 M19 => ?_)
  refine tj_callSi (pc := 60) G [vI r18] mf_X10_isAct ml_X10_231 (by decide) rfl rfl (Nat.le_of_ble_eq_true rfl) (fun _ h9 => ok_X10_isAct X  h9) dX10_day_60 (fun r20 M21 => ?_)
  refine tj_jn2 (fun y22 y23 => [(0, vR X 0), (1, vI c1), (2, vI c2), (3, vI y22), (4, vI y23), (5, vI z14)]) (fun y22 y23 => []) 126 (fun y22 y23 M24 => ?_) (fun jk126 hj126 => ?_)
  · refine tj_iinc (pc := 126) G 5 (fun x25 => [(5, vI x25), (0, vR X 0), (1, vI c1), (2, vI c2), (3, vI y22), (4, vI y23)]) dX10_day_126 rfl (by decide) (fun _ => rfl) (fun x25 => ?_)
    refine tj_goto (pc := 129) G (tgt := 40) dX10_day_129 (by decide) ?_
    exact tj_sub [1, 2, 3, 4, 5, 0] rfl (hrec y22 y23 x25 M24)
  refine tj_if_ne (pc := 63) G (tgt := 69) (a2 := w32 r20) dX10_day_63 (by decide) rfl ?_ ?_
  · refine tj_aload_n (pc := 69) G 0 dX10_day_69 rfl rfl ?_
    refine tj_aload_n (pc := 70) G 0 dX10_day_70 rfl rfl ?_
    refine tj_getR (pc := 71) G (k := 0) (j := 0) (j2 := 0) tk_X10 (by decide) lc_0 rfl (by decide) rfl fl_X10_12 dX10_day_71 ?_
    refine tj_iload (pc := 74) G 5 dX10_day_74 rfl ?_
    refine tj_callVi (pc := 76) G [vI z14] mf_X7_at (k := 1) (by decide) lc_1 rfl rfl ml_X10_228 (by decide) rfl rfl (Nat.le_of_ble_eq_true rfl) (fun _ h9 => ok_X7_at X  h9) dX10_day_76 (fun r26 M27 => ?_)
    refine tj_aload_n (pc := 79) G 0 dX10_day_79 rfl rfl ?_
    refine tj_getR (pc := 80) G (k := 0) (j := 0) (j2 := 0) tk_X10 (by decide) lc_0 rfl (by decide) rfl fl_X10_12 dX10_day_80 ?_
    refine tj_iload (pc := 83) G 5 dX10_day_83 rfl ?_
    refine tj_iconst (pc := 85) G dX10_day_85 ?_
    refine tj_iadd (pc := 86) G dX10_day_86 ?_
    refine tj_callVi (pc := 87) G [vI (z14 + 1)] mf_X7_at (k := 1) (by decide) lc_1 rfl rfl ml_X10_228 (by decide) rfl rfl (Nat.le_of_ble_eq_true rfl) (fun _ h9 => ok_X7_at X  h9) dX10_day_87 (fun r28 M29 => ?_)
    refine tj_bipush (pc := 90) G dX10_day_90 rfl ?_
    refine tj_isub (pc := 92) G dX10_day_92 ?_
    refine tj_aload_n (pc := 93) G 0 dX10_day_93 rfl rfl ?_
    refine tj_getR (pc := 94) G (k := 0) (j := 0) (j2 := 0) tk_X10 (by decide) lc_0 rfl (by decide) rfl fl_X10_12 dX10_day_94 ?_
    refine tj_iload (pc := 97) G 5 dX10_day_97 rfl ?_
    refine tj_iconst (pc := 99) G dX10_day_99 ?_
    refine tj_iadd (pc := 100) G dX10_day_100 ?_
    refine tj_callVi (pc := 101) G [vI (z14 + 2)] mf_X7_at (k := 1) (by decide) lc_1 rfl rfl ml_X10_228 (by decide) rfl rfl (Nat.le_of_ble_eq_true rfl) (fun _ h9 => ok_X7_at X  h9) dX10_day_101 (fun r30 M31 => ?_)
    refine tj_bipush (pc := 104) G dX10_day_104 rfl ?_
    refine tj_isub (pc := 106) G dX10_day_106 ?_
    refine tj_callVi (pc := 107) G [vI r26, vI (r28 - 48), vI (r30 - 48)] mf_X10_act (k := 0) (by decide) lc_0 rfl rfl ml_X10_234 (by decide) rfl rfl (Nat.le_of_ble_eq_true rfl) (fun _ h9 => ok_X10_act X  h9) dX10_day_107 (fun r32 M33 => ?_)
    refine tj_istore (pc := 110) G (fun x34 => [(6, vI x34), (0, vR X 0), (1, vI c1), (2, vI c2), (3, vI z12), (4, vI z13), (5, vI z14)]) dX10_day_110 (by decide) (fun _ => rfl) (fun x34 => ?_)
    refine tj_iload (pc := 112) G 0 dX10_day_112 rfl ?_
    refine tj_if_ge (pc := 114) G (tgt := 123) (a2 := w32 x34) dX10_day_114 (by decide) rfl ?_ ?_
    · refine tj_iinc (pc := 123) G 4 (fun x35 => [(3, vI x35), (6, vI x34), (0, vR X 0), (1, vI c1), (2, vI c2), (4, vI z13), (5, vI z14)]) dX10_day_123 rfl (by decide) (fun _ => rfl) (fun x35 => ?_)
      exact tj_sub [2, 3, 4, 0, 5, 6] rfl (hj126 x35 z13 M33)
    refine tj_iconst (pc := 117) G dX10_day_117 ?_
    refine tj_istore (pc := 118) G (fun x36 => [(4, vI x36), (6, vI x34), (0, vR X 0), (1, vI c1), (2, vI c2), (3, vI z12), (5, vI z14)]) dX10_day_118 (by decide) (fun _ => rfl) (fun x36 => ?_)
    refine tj_goto (pc := 120) G (tgt := 126) dX10_day_120 (by decide) ?_
    exact tj_sub [2, 3, 4, 5, 0, 6] rfl (hj126 z12 x36 M33)
  refine tj_goto (pc := 66) G (tgt := 126) dX10_day_66 (by decide) ?_
  exact tj_sub [0, 1, 2, 3, 4, 5] rfl (hj126 z12 z13 M21)
set_option maxRecDepth 100000 in
set_option maxHeartbeats 4000000 in
theorem ok_X10_day (X : tp_X)    {M : tp_M} {res : Int × tp_M} (h : fx_X10_day   M = some res) : tp_Ret X LC 64 1 yX10_day (Cond.code yX10_day cX10_day 7 (some .int)) 7 [vR X 0] M res := by
  refine tp_ofW (by decide +kernel) rfl rfl (by show _ ≤ 7; exact Nat.le_of_ble_eq_true rfl) h (fun Y G => ?_)
  show tp_J X Y LC 64 7 7 1 (fx_X10_day   M) M [(0, vR X 0)] [] 0
  unfold fx_X10_day
  refine tj_aload_n (pc := 0) G 0 dX10_day_0 rfl rfl ?_
  refine tj_callVi (pc := 1) G [] mf_X10_checkDay (k := 0) (by decide) lc_0 rfl rfl ml_X10_225 (by decide) rfl rfl (Nat.le_of_ble_eq_true rfl) (fun _ h9 => ok_X10_checkDay X  h9) dX10_day_1 (fun r1 M2 => ?_)
  refine tj_istore_n (pc := 4) G (fun x3 => [(1, vI x3), (0, vR X 0)]) dX10_day_4 rfl (by decide) (fun _ => rfl) (fun x3 => ?_)
  refine tj_iload_n (pc := 5) G 0 dX10_day_5 rfl rfl ?_
  refine tj_jn1 (fun y4 => [(0, vR X 0), (1, vI x3)]) (fun y4 => [vI y4]) 20 (fun y4 M5 => ?_) (fun jk20 hj20 => ?_)
  · refine tj_istore_n (pc := 20) G (fun x6 => [(2, vI x6), (0, vR X 0), (1, vI x3)]) dX10_day_20 rfl (by decide) (fun _ => rfl) (fun x6 => ?_)
    refine tj_iconst (pc := 21) G dX10_day_21 ?_
    refine tj_istore_n (pc := 22) G (fun x7 => [(3, vI x7), (2, vI x6), (0, vR X 0), (1, vI x3)]) dX10_day_22 rfl (by decide) (fun _ => rfl) (fun x7 => ?_)
    refine tj_iconst (pc := 23) G dX10_day_23 ?_
    refine tj_istore (pc := 24) G (fun x8 => [(4, vI x8), (3, vI x7), (2, vI x6), (0, vR X 0), (1, vI x3)]) dX10_day_24 (by decide) (fun _ => rfl) (fun x8 => ?_)
    refine tj_aload_n (pc := 26) G 3 dX10_day_26 rfl rfl ?_
    refine tj_getR (pc := 27) G (k := 0) (j := 8) (j2 := 8) tk_X10 (by decide) lc_0 rfl (by decide) rfl fl_X10_53 dX10_day_27 ?_
    refine tj_aload_n (pc := 30) G 3 dX10_day_30 rfl rfl ?_
    refine tj_getR (pc := 31) G (k := 0) (j := 6) (j2 := 6) tk_X10 (by decide) lc_0 rfl (by decide) rfl fl_X10_46 dX10_day_31 ?_
    refine tj_callVv (pc := 34) G [vR X 25] mf_X2_copyFrom (k := 31) (by decide) lc_31 rfl rfl ml_X10_201 (by decide) rfl rfl (Nat.le_of_ble_eq_true rfl) (fun _ h9 => ok_X2_copyFrom X gg_Moor_31 gg_Moor_25 h9) dX10_day_34 (fun r9 M10 => ?_)
    refine tj_iconst (pc := 37) G dX10_day_37 ?_
    refine tj_istore (pc := 38) G (fun x11 => [(5, vI x11), (4, vI x8), (3, vI x7), (2, vI x6), (0, vR X 0), (1, vI x3)]) dX10_day_38 (by decide) (fun _ => rfl) (fun x11 => ?_)
    refine tj_sub [4, 5, 3, 2, 1, 0] rfl (fx_X10_day_L40_ok G    (fun y16 y17 M37 => ?_) tp_F x7 x8 x11 M10)
    refine tj_aload_n (pc := 132) G 0 dX10_day_132 rfl rfl ?_
    refine tj_getR (pc := 133) G (k := 0) (j := 0) (j2 := 0) tk_X10 (by decide) lc_0 rfl (by decide) rfl fl_X10_12 dX10_day_133 ?_
    refine tj_iconst (pc := 136) G dX10_day_136 ?_
    refine tj_callVv (pc := 137) G [vI 0] mf_X7_cut (k := 1) (by decide) lc_1 rfl rfl ml_X10_122 (by decide) rfl rfl (Nat.le_of_ble_eq_true rfl) (fun _ h9 => ok_X7_cut X  h9) dX10_day_137 (fun r38 M39 => ?_)
    refine tj_iload_n (pc := 140) G 1 dX10_day_140 rfl rfl ?_
    refine tj_if_ge (pc := 141) G (tgt := 146) (a2 := w32 x3) dX10_day_141 (by decide) rfl ?_ ?_
    · refine tj_iload_n (pc := 146) G 2 dX10_day_146 rfl rfl ?_
      refine tj_jn0 [(0, vR X 0), (3, vI y16), (4, vI y17)] [] 161 (fun M40 => ?_) (fun jk161 hj161 => ?_)
      · refine tj_aload_n (pc := 161) G 0 dX10_day_161 rfl rfl ?_
        refine tj_getR (pc := 162) G (k := 0) (j := 1) (j2 := 1) tk_X10 (by decide) lc_0 rfl (by decide) rfl fl_X10_19 dX10_day_162 ?_
        refine tj_iload (pc := 165) G 2 dX10_day_165 rfl ?_
        refine tj_i2l (pc := 167) G (b := w32 y17) dX10_day_167 rfl ?_
        refine tj_aload_n (pc := 168) G 0 dX10_day_168 rfl rfl ?_
        refine tj_getR (pc := 169) G (k := 0) (j := 6) (j2 := 6) tk_X10 (by decide) lc_0 rfl (by decide) rfl fl_X10_46 dX10_day_169 ?_
        refine tj_getIN (pc := 172) G (k := 25) (j := 2) (j2 := 2) tk_X2 (by decide) lc_25 rfl (by decide) rfl fn_X10_152 dX10_day_172 ?_
        refine tj_i2l (pc := 175) G (b := w32 (M40 25 2)) dX10_day_175 rfl ?_
        refine tj_callVv (pc := 176) G [vL (w32 y17), vL (w32 (M40 25 2))] mf_X8_tell__ (k := 3) (by decide) lc_3 rfl rfl ml_X10_241 (by decide) rfl rfl (Nat.le_of_ble_eq_true rfl) (fun _ h9 => ok_X8_tell__ X  h9) dX10_day_176 (fun r41 M42 => ?_)
        refine tj_iload_n (pc := 179) G 1 dX10_day_179 rfl rfl ?_
        exact tj_iret (pc := 180) G dX10_day_180
      refine tj_if_le (pc := 147) G (tgt := 161) (a2 := w32 y16) dX10_day_147 (by decide) rfl ?_ ?_
      · exact tj_sub [0, 2, 3] rfl (hj161  M39)
      refine tj_aload_n (pc := 150) G 0 dX10_day_150 rfl rfl ?_
      refine tj_getR (pc := 151) G (k := 0) (j := 9) (j2 := 9) tk_X10 (by decide) lc_0 rfl (by decide) rfl fl_X10_59 dX10_day_151 ?_
      refine tj_aload_n (pc := 154) G 0 dX10_day_154 rfl rfl ?_
      refine tj_getR (pc := 155) G (k := 0) (j := 8) (j2 := 8) tk_X10 (by decide) lc_0 rfl (by decide) rfl fl_X10_53 dX10_day_155 ?_
      refine tj_callVv (pc := 158) G [vR X 31] mf_X3_push (k := 34) (by decide) lc_34 rfl rfl ml_X10_238 (by decide) rfl rfl (Nat.le_of_ble_eq_true rfl) (fun _ h9 => ok_X3_push X gg_Moor_31 h9) dX10_day_158 (fun r43 M44 => ?_)
      exact tj_sub [0, 2, 3] rfl (hj161  M44)
    refine tj_iload_n (pc := 144) G 1 dX10_day_144 rfl rfl ?_
    exact tj_iret (pc := 145) G dX10_day_145
  refine tj_if_ge (pc := 6) G (tgt := 13) (a2 := w32 x3) dX10_day_6 (by decide) rfl ?_ ?_
  · refine tj_aload_n (pc := 13) G 1 dX10_day_13 rfl rfl ?_
    refine tj_getR (pc := 14) G (k := 0) (j := 0) (j2 := 0) tk_X10 (by decide) lc_0 rfl (by decide) rfl fl_X10_12 dX10_day_14 ?_
    refine tj_callVi (pc := 17) G [] mf_X7_size (k := 1) (by decide) lc_1 rfl rfl ml_X10_114 (by decide) rfl rfl (Nat.le_of_ble_eq_true rfl) (fun _ h9 => ok_X7_size X  h9) dX10_day_17 (fun r45 M46 => ?_)
    exact tj_sub [1, 0] rfl (hj20 r45 M46)
  refine tj_iconst (pc := 9) G dX10_day_9 ?_
  refine tj_goto (pc := 10) G (tgt := 20) dX10_day_10 (by decide) ?_
  exact tj_sub [1, 0] rfl (hj20 0 M2)

def fx_X10_undo   (M : tp_M) : tp_O :=
(tp_bd (fx_X3_takeBack 25 M) (fun r1 M2 =>
(if w32 r1 = 0 then
(some ((-1), M2))
else
(tp_bd (fx_X3_size  M2) (fun r3 M4 =>
(some (r3, M4)))))))
set_option maxRecDepth 100000 in
set_option maxHeartbeats 4000000 in
theorem ok_X10_undo (X : tp_X)    {M : tp_M} {res : Int × tp_M} (h : fx_X10_undo   M = some res) : tp_Ret X LC 64 1 yX10_undo (Cond.code yX10_undo cX10_undo 1 (some .int)) 3 [vR X 0] M res := by
  refine tp_ofW (by decide +kernel) rfl rfl (by show _ ≤ 1; exact Nat.le_of_ble_eq_true rfl) h (fun Y G => ?_)
  show tp_J X Y LC 64 1 3 1 (fx_X10_undo   M) M [(0, vR X 0)] [] 0
  unfold fx_X10_undo
  refine tj_aload_n (pc := 0) G 0 dX10_undo_0 rfl rfl ?_
  refine tj_getR (pc := 1) G (k := 0) (j := 9) (j2 := 9) tk_X10 (by decide) lc_0 rfl (by decide) rfl fl_X10_59 dX10_undo_1 ?_
  refine tj_aload_n (pc := 4) G 0 dX10_undo_4 rfl rfl ?_
  refine tj_getR (pc := 5) G (k := 0) (j := 6) (j2 := 6) tk_X10 (by decide) lc_0 rfl (by decide) rfl fl_X10_46 dX10_undo_5 ?_
  refine tj_callVi (pc := 8) G [vR X 25] mf_X3_takeBack (k := 34) (by decide) lc_34 rfl rfl ml_X10_245 (by decide) rfl rfl (Nat.le_of_ble_eq_true rfl) (fun _ h9 => ok_X3_takeBack X gg_Moor_25 h9) dX10_undo_8 (fun r1 M2 => ?_)
  refine tj_if_ne (pc := 11) G (tgt := 16) (a2 := w32 r1) dX10_undo_11 (by decide) rfl ?_ ?_
  · refine tj_aload_n (pc := 16) G 0 dX10_undo_16 rfl rfl ?_
    refine tj_getR (pc := 17) G (k := 0) (j := 9) (j2 := 9) tk_X10 (by decide) lc_0 rfl (by decide) rfl fl_X10_59 dX10_undo_17 ?_
    refine tj_callVi (pc := 20) G [] mf_X3_size (k := 34) (by decide) lc_34 rfl rfl ml_X10_249 (by decide) rfl rfl (Nat.le_of_ble_eq_true rfl) (fun _ h9 => ok_X3_size X  h9) dX10_undo_20 (fun r3 M4 => ?_)
    exact tj_iret (pc := 23) G dX10_undo_23
  refine tj_iconst (pc := 14) G dX10_undo_14 ?_
  exact tj_iret (pc := 15) G dX10_undo_15
