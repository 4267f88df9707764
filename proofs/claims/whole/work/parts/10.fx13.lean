def fx_X11_areCrowds_L4 (k1 : Nat) (k1n : Nat)  (rec : Int → Int → tp_M → tp_O) (z3 z4 : Int) (M5 : tp_M) : tp_O :=
(if w32 z4 < w32 (M5 0 3) then
(tp_jn1 (fun y6 M7 => 
(tp_lt y6 (fun x8 =>
(tp_lt (z4 + 1) (fun x9 =>
(rec x8 x9 M7)))))) (fun jk39 =>
(tp_jn0 (fun M10 => 
(jk39 0 M10)) (fun jk38 =>
(if w32 z3 = 0 then
(jk38 M5)
else
(tp_ck (w32 (8 + z4)) k1n (tp_ck (w32 (8 + z4)) 17 (if w32 (M5 k1 (w32 (8 + z4))) = w32 (M5 4 (w32 (8 + z4))) then
(jk39 1 M5)
else
(jk38 M5)))))))))
else
(tp_gd (w32 z3 = 0 ∨ w32 z3 = 1) inferInstance (some (z3, M5))))
def fx_X11_areCrowds  (k1 : Nat) (k1n : Nat) (M : tp_M) : tp_O :=
(tp_lt 1 (fun x1 =>
(tp_lt 1 (fun x2 =>
(tp_lp2 (fx_X11_areCrowds_L4 k1 k1n ) tp_F x1 x2 M)))))
set_option maxRecDepth 100000 in
set_option maxHeartbeats 4000000 in
theorem fx_X11_areCrowds_L4_ok {X : tp_X} {Y : tp_Y} (G : tp_Ok X Y 34 cX11_areCrowds 4 RX11 (some .boolean))  {k1 : Nat} {k1n : Nat} (hk1 : tg_I LM 34 k1 k1n)   (n : Nat) : ∀ (z3 z4 : Int) (M5 : tp_M), tp_J X Y LM 34 4 1 1 (tp_lp2 (fx_X11_areCrowds_L4 k1 k1n  ) n z3 z4 M5) M5 [(0, vR X 0), (1, vR X k1), (2, vI z3), (3, vI z4)] [] 4 := by
  refine tp_lp2_ok (P := fun o z3 z4 M5 => tp_J X Y LM 34 4 1 1 (o) M5 [(0, vR X 0), (1, vR X k1), (2, vI z3), (3, vI z4)] [] 4) (fun z3 z4 M5 => tj_none) (fun rec hrec z3 z4 M5 => ?_) n
  unfold fx_X11_areCrowds_L4
  refine tj_iload_n (pc := 4) G 3 dX11_areCrowds_4 rfl rfl ?_
  refine tj_aload_n (pc := 5) G 0 dX11_areCrowds_5 rfl rfl ?_
  refine tj_getI (pc := 6) G (k := 0) (j := 3) (j2 := 3) tk_X11 (by decide) lm_0 rfl (by decide) rfl fl_X11_28 dX11_areCrowds_6 ?_
  refine tj_icmp_ge (pc := 9) G (tgt := 46) (a2 := w32 z4) (b2 := w32 (M5 0 3)) dX11_areCrowds_9 (by decide) rfl rfl ?_ ?_
  · refine tj_iload_n (pc := 46) G 2 dX11_areCrowds_46 rfl rfl ?_
    exact tj_gd (fun hz => tj_zret (pc := 47) G hz dX11_areCrowds_47)
  refine tj_iload_n (pc := 12) G 2 dX11_areCrowds_12 rfl rfl ?_
  refine tj_jn1 (fun y6 => [(0, vR X 0), (1, vR X k1), (3, vI z4)]) (fun y6 => [vI y6]) 39 (fun y6 M7 => ?_) (fun jk39 hj39 => ?_)
  · refine tj_istore_n (pc := 39) G (fun x8 => [(2, vI x8), (0, vR X 0), (1, vR X k1), (3, vI z4)]) dX11_areCrowds_39 rfl (by decide) (fun _ => rfl) (fun x8 => ?_)
    refine tj_iinc (pc := 40) G 3 (fun x9 => [(3, vI x9), (2, vI x8), (0, vR X 0), (1, vR X k1)]) dX11_areCrowds_40 rfl (by decide) (fun _ => rfl) (fun x9 => ?_)
    refine tj_goto (pc := 43) G (tgt := 4) dX11_areCrowds_43 (by decide) ?_
    exact tj_sub [2, 3, 1, 0] rfl (hrec x8 x9 M7)
  refine tj_jn0 [(0, vR X 0), (1, vR X k1), (3, vI z4)] [] 38 (fun M10 => ?_) (fun jk38 hj38 => ?_)
  · refine tj_iconst (pc := 38) G dX11_areCrowds_38 ?_
    exact tj_sub [0, 1, 2] rfl (hj39 0 M10)
  refine tj_if_eq (pc := 13) G (tgt := 38) (a2 := w32 z3) dX11_areCrowds_13 (by decide) rfl ?_ ?_
  · exact tj_sub [0, 1, 3] rfl (hj38  M5)
  refine tj_aload_n (pc := 16) G 1 dX11_areCrowds_16 rfl rfl ?_
  refine tj_bipush (pc := 17) G dX11_areCrowds_17 rfl ?_
  refine tj_iload_n (pc := 19) G 3 dX11_areCrowds_19 rfl rfl ?_
  refine tj_iadd (pc := 20) G dX11_areCrowds_20 ?_
  refine tj_iald (pc := 21) G (k := k1) (i2 := w32 (8 + z4)) (n2 := k1n) hk1.1 hk1.2 rfl rfl dX11_areCrowds_21 ?_
  refine tj_aload_n (pc := 22) G 0 dX11_areCrowds_22 rfl rfl ?_
  refine tj_getR (pc := 23) G (k := 0) (j := 6) (j2 := 6) tk_X11 (by decide) lm_0 rfl (by decide) rfl fl_X11_38 dX11_areCrowds_23 ?_
  refine tj_bipush (pc := 26) G dX11_areCrowds_26 rfl ?_
  refine tj_iload_n (pc := 28) G 3 dX11_areCrowds_28 rfl rfl ?_
  refine tj_iadd (pc := 29) G dX11_areCrowds_29 ?_
  refine tj_iald (pc := 30) G (k := 4) (i2 := w32 (8 + z4)) (n2 := 17) (by decide) lm_4 rfl rfl dX11_areCrowds_30 ?_
  refine tj_icmp_ne (pc := 31) G (tgt := 38) (a2 := w32 (M5 k1 (w32 (8 + z4)))) (b2 := w32 (M5 4 (w32 (8 + z4)))) dX11_areCrowds_31 (by decide) rfl rfl ?_ ?_
  · exact tj_sub [0, 1, 3] rfl (hj38  M5)
  refine tj_iconst (pc := 34) G dX11_areCrowds_34 ?_
  refine tj_goto (pc := 35) G (tgt := 39) dX11_areCrowds_35 (by decide) ?_
  exact tj_sub [0, 1, 3] rfl (hj39 1 M5)
set_option maxRecDepth 100000 in
set_option maxHeartbeats 4000000 in
theorem ok_X11_areCrowds (X : tp_X)  {k1 : Nat} {k1n : Nat} (hk1 : tg_I LM 34 k1 k1n) {M : tp_M} {res : Int × tp_M} (h : fx_X11_areCrowds  k1 k1n M = some res) : tp_Ret X LM 34 1 yX11_areCrowds (Cond.code yX11_areCrowds cX11_areCrowds 4 (some .boolean)) 1 [vR X 0, vR X k1] M res := by
  refine tp_ofW (by decide +kernel) rfl rfl (by show _ ≤ 4; exact Nat.le_of_ble_eq_true rfl) h (fun Y G => ?_)
  show tp_J X Y LM 34 4 1 1 (fx_X11_areCrowds  k1 k1n M) M [(0, vR X 0), (1, vR X k1)] [] 0
  unfold fx_X11_areCrowds
  refine tj_iconst (pc := 0) G dX11_areCrowds_0 ?_
  refine tj_istore_n (pc := 1) G (fun x1 => [(2, vI x1), (0, vR X 0), (1, vR X k1)]) dX11_areCrowds_1 rfl (by decide) (fun _ => rfl) (fun x1 => ?_)
  refine tj_iconst (pc := 2) G dX11_areCrowds_2 ?_
  refine tj_istore_n (pc := 3) G (fun x2 => [(3, vI x2), (2, vI x1), (0, vR X 0), (1, vR X k1)]) dX11_areCrowds_3 rfl (by decide) (fun _ => rfl) (fun x2 => ?_)
  refine tj_sub [2, 3, 1, 0] rfl (fx_X11_areCrowds_L4_ok G  hk1   tp_F x1 x2 M)

def fx_X11_returns_L31  (K66 : tp_M → tp_O) (rec : Int → tp_M → tp_O) (z7 : Int) (M8 : tp_M) : tp_O :=
(if w32 z7 < w32 (M8 0 3) then
(tp_ck (w32 (8 + z7)) 17 (tp_ck (w32 (8 + z7)) 17 (tp_ck (w32 (8 + z7)) 17 (tp_lm (tp_up M8 5 (w32 (8 + z7)) ((M8 5 (w32 (8 + z7))) + (M8 4 (w32 (8 + z7))))) (fun M9 =>
(tp_lt (z7 + 1) (fun x10 =>
(rec x10 M9))))))))
else
(K66 M8))
def fx_X11_returns   (M : tp_M) : tp_O :=
(tp_lm (tp_up M 0 0 0) (fun M1 =>
(tp_bd (fx_X11_canBurst 4 17 M1) (fun r2 M3 =>
(if w32 r2 = 0 then
(tp_bd (fx_X11_laysUnit  M3) (fun r4 M5 =>
(if w32 r4 < 0 then
(some ((-3), M5))
else
(tp_lt 1 (fun x6 =>
(tp_lp1 (fx_X11_returns_L31  (fun M11 =>
(tp_bd (fx_X11_calmed 5 17 M11) (fun r12 M13 =>
(if w32 r12 < 0 then
(some ((-3), M13))
else
(tp_bd (fx_X11_entersCrowds 5 17 M13) (fun r14 M15 =>
(tp_bd (fx_X11_areCrowds 5 17 M15) (fun r16 M17 =>
(tp_bd (fx_X11_flag r16 M17) (fun r18 M19 =>
(some (r18, M19))))))))))))) tp_F x6 M5))))))
else
(some ((-2), M3)))))))
set_option maxRecDepth 100000 in
set_option maxHeartbeats 4000000 in
theorem fx_X11_returns_L31_ok {X : tp_X} {Y : tp_Y} (G : tp_Ok X Y 34 cX11_returns 2 RX11 (some .int))  {K66 : tp_M → tp_O}   (hK66 : ∀ (M9 : tp_M), tp_J X Y LM 34 2 5 1 (K66  M9) M9 [(0, vR X 0)] [] 66) (n : Nat) : ∀ (z7 : Int) (M8 : tp_M), tp_J X Y LM 34 2 5 1 (tp_lp1 (fx_X11_returns_L31   K66) n z7 M8) M8 [(0, vR X 0), (1, vI z7)] [] 31 := by
  refine tp_lp1_ok (P := fun o z7 M8 => tp_J X Y LM 34 2 5 1 (o) M8 [(0, vR X 0), (1, vI z7)] [] 31) (fun z7 M8 => tj_none) (fun rec hrec z7 M8 => ?_) n
  unfold fx_X11_returns_L31
  refine tj_iload_n (pc := 31) G 1 dX11_returns_31 rfl rfl ?_
  refine tj_aload_n (pc := 32) G 0 dX11_returns_32 rfl rfl ?_
  refine tj_getI (pc := 33) G (k := 0) (j := 3) (j2 := 3) tk_X11 (by decide) lm_0 rfl (by decide) rfl fl_X11_28 dX11_returns_33 ?_
  refine tj_icmp_ge (pc := 36) G (tgt := 66) (a2 := w32 z7) (b2 := w32 (M8 0 3)) dX11_returns_36 (by decide) rfl rfl ?_ ?_
  · exact tj_sub [0] rfl (hK66  M8)
  refine tj_aload_n (pc := 39) G 0 dX11_returns_39 rfl rfl ?_
  refine tj_getR (pc := 40) G (k := 0) (j := 7) (j2 := 7) tk_X11 (by decide) lm_0 rfl (by decide) rfl fl_X11_41 dX11_returns_40 ?_
  refine tj_bipush (pc := 43) G dX11_returns_43 rfl ?_
  refine tj_iload_n (pc := 45) G 1 dX11_returns_45 rfl rfl ?_
  refine tj_iadd (pc := 46) G dX11_returns_46 ?_
  refine tj_dup2 (pc := 47) G dX11_returns_47 rfl rfl ?_
  refine tj_iald (pc := 48) G (k := 5) (i2 := w32 (8 + z7)) (n2 := 17) (by decide) lm_5 rfl rfl dX11_returns_48 ?_
  refine tj_aload_n (pc := 49) G 0 dX11_returns_49 rfl rfl ?_
  refine tj_getR (pc := 50) G (k := 0) (j := 6) (j2 := 6) tk_X11 (by decide) lm_0 rfl (by decide) rfl fl_X11_38 dX11_returns_50 ?_
  refine tj_bipush (pc := 53) G dX11_returns_53 rfl ?_
  refine tj_iload_n (pc := 55) G 1 dX11_returns_55 rfl rfl ?_
  refine tj_iadd (pc := 56) G dX11_returns_56 ?_
  refine tj_iald (pc := 57) G (k := 4) (i2 := w32 (8 + z7)) (n2 := 17) (by decide) lm_4 rfl rfl dX11_returns_57 ?_
  refine tj_iadd (pc := 58) G dX11_returns_58 ?_
  refine tj_iast (pc := 59) G (k := 5) (i2 := w32 (8 + z7)) (n2 := 17) (by decide) lm_5 rfl rfl dX11_returns_59 (fun M9 => ?_)
  refine tj_iinc (pc := 60) G 1 (fun x10 => [(1, vI x10), (0, vR X 0)]) dX11_returns_60 rfl (by decide) (fun _ => rfl) (fun x10 => ?_)
  refine tj_goto (pc := 63) G (tgt := 31) dX11_returns_63 (by decide) ?_
  exact tj_sub [1, 0] rfl (hrec x10 M9)
set_option maxRecDepth 100000 in
set_option maxHeartbeats 4000000 in
theorem ok_X11_returns (X : tp_X)    {M : tp_M} {res : Int × tp_M} (h : fx_X11_returns   M = some res) : tp_Ret X LM 34 1 yX11_returns (Cond.code yX11_returns cX11_returns 2 (some .int)) 5 [vR X 0] M res := by
  refine tp_ofW (by decide +kernel) rfl rfl (by show _ ≤ 2; exact Nat.le_of_ble_eq_true rfl) h (fun Y G => ?_)
  show tp_J X Y LM 34 2 5 1 (fx_X11_returns   M) M [(0, vR X 0)] [] 0
  unfold fx_X11_returns
  refine tj_aload_n (pc := 0) G 0 dX11_returns_0 rfl rfl ?_
  refine tj_iconst (pc := 1) G dX11_returns_1 ?_
  refine tj_putI (pc := 2) G (k := 0) (j := 0) (j2 := 0) tk_X11 (by decide) lm_0 rfl (by decide) rfl fl_X11_3 rfl rfl dX11_returns_2 (fun M1 => ?_)
  refine tj_aload_n (pc := 5) G 0 dX11_returns_5 rfl rfl ?_
  refine tj_aload_n (pc := 6) G 0 dX11_returns_6 rfl rfl ?_
  refine tj_getR (pc := 7) G (k := 0) (j := 6) (j2 := 6) tk_X11 (by decide) lm_0 rfl (by decide) rfl fl_X11_38 dX11_returns_7 ?_
  refine tj_callVi (pc := 10) G [vR X 4] mf_X11_canBurst (k := 0) (by decide) lm_0 rfl rfl ml_X11_439 (by decide) rfl rfl (Nat.le_of_ble_eq_true rfl) (fun _ h9 => ok_X11_canBurst X ⟨by decide, lm_4⟩ h9) dX11_returns_10 (fun r2 M3 => ?_)
  refine tj_if_eq (pc := 13) G (tgt := 19) (a2 := w32 r2) dX11_returns_13 (by decide) rfl ?_ ?_
  · refine tj_aload_n (pc := 19) G 0 dX11_returns_19 rfl rfl ?_
    refine tj_callVi (pc := 20) G [] mf_X11_laysUnit (k := 0) (by decide) lm_0 rfl rfl ml_X11_432 (by decide) rfl rfl (Nat.le_of_ble_eq_true rfl) (fun _ h9 => ok_X11_laysUnit X  h9) dX11_returns_20 (fun r4 M5 => ?_)
    refine tj_if_ge (pc := 23) G (tgt := 29) (a2 := w32 r4) dX11_returns_23 (by decide) rfl ?_ ?_
    · refine tj_iconst (pc := 29) G dX11_returns_29 ?_
      refine tj_istore_n (pc := 30) G (fun x6 => [(1, vI x6), (0, vR X 0)]) dX11_returns_30 rfl (by decide) (fun _ => rfl) (fun x6 => ?_)
      refine tj_sub [1, 0] rfl (fx_X11_returns_L31_ok G    (fun M11 => ?_) tp_F x6 M5)
      refine tj_aload_n (pc := 66) G 0 dX11_returns_66 rfl rfl ?_
      refine tj_aload_n (pc := 67) G 0 dX11_returns_67 rfl rfl ?_
      refine tj_getR (pc := 68) G (k := 0) (j := 7) (j2 := 7) tk_X11 (by decide) lm_0 rfl (by decide) rfl fl_X11_41 dX11_returns_68 ?_
      refine tj_callVi (pc := 71) G [vR X 5] mf_X11_calmed (k := 0) (by decide) lm_0 rfl rfl ml_X11_317 (by decide) rfl rfl (Nat.le_of_ble_eq_true rfl) (fun _ h9 => ok_X11_calmed X ⟨by decide, lm_5⟩ h9) dX11_returns_71 (fun r12 M13 => ?_)
      refine tj_if_ge (pc := 74) G (tgt := 80) (a2 := w32 r12) dX11_returns_74 (by decide) rfl ?_ ?_
      · refine tj_aload_n (pc := 80) G 0 dX11_returns_80 rfl rfl ?_
        refine tj_aload_n (pc := 81) G 0 dX11_returns_81 rfl rfl ?_
        refine tj_getR (pc := 82) G (k := 0) (j := 7) (j2 := 7) tk_X11 (by decide) lm_0 rfl (by decide) rfl fl_X11_41 dX11_returns_82 ?_
        refine tj_callVv (pc := 85) G [vR X 5] mf_X11_entersCrowds (k := 0) (by decide) lm_0 rfl rfl ml_X11_435 (by decide) rfl rfl (Nat.le_of_ble_eq_true rfl) (fun _ h9 => ok_X11_entersCrowds X ⟨by decide, lm_5⟩ h9) dX11_returns_85 (fun r14 M15 => ?_)
        refine tj_aload_n (pc := 88) G 0 dX11_returns_88 rfl rfl ?_
        refine tj_aload_n (pc := 89) G 0 dX11_returns_89 rfl rfl ?_
        refine tj_getR (pc := 90) G (k := 0) (j := 7) (j2 := 7) tk_X11 (by decide) lm_0 rfl (by decide) rfl fl_X11_41 dX11_returns_90 ?_
        refine tj_callVi (pc := 93) G [vR X 5] mf_X11_areCrowds (k := 0) (by decide) lm_0 rfl rfl ml_X11_443 (by decide) rfl rfl (Nat.le_of_ble_eq_true rfl) (fun _ h9 => ok_X11_areCrowds X ⟨by decide, lm_5⟩ h9) dX11_returns_93 (fun r16 M17 => ?_)
        refine tj_callSi (pc := 96) G [vI r16] mf_X11_flag ml_X11_151 (by decide) rfl rfl (Nat.le_of_ble_eq_true rfl) (fun _ h9 => ok_X11_flag X  h9) dX11_returns_96 (fun r18 M19 => ?_)
        exact tj_iret (pc := 99) G dX11_returns_99
      refine tj_bipush (pc := 77) G dX11_returns_77 rfl ?_
      exact tj_iret (pc := 79) G dX11_returns_79
    refine tj_bipush (pc := 26) G dX11_returns_26 rfl ?_
    exact tj_iret (pc := 28) G dX11_returns_28
  refine tj_bipush (pc := 16) G dX11_returns_16 rfl ?_
  exact tj_iret (pc := 18) G dX11_returns_18

def fx_X11_joins_L44 (c1 : Int) (K84 : tp_M → tp_O) (rec : Int → tp_M → tp_O) (z7 : Int) (M8 : tp_M) : tp_O :=
(if w32 z7 < w32 (M8 0 3) then
(tp_ck (w32 (8 + z7)) 17 (tp_ck (w32 (((17 * c1) + 8) + z7)) 51 (tp_ck (w32 (8 + z7)) 17 (tp_lm (tp_up M8 5 (w32 (8 + z7)) ((M8 5 (w32 (8 + z7))) + (M8 33 (w32 (((17 * c1) + 8) + z7))))) (fun M9 =>
(tp_lt (z7 + 1) (fun x10 =>
(rec x10 M9))))))))
else
(K84 M8))
def fx_X11_joins  (a1 : Int) (M : tp_M) : tp_O :=
(tp_lm (tp_up M 0 0 0) (fun M1 =>
(tp_bd (fx_X11_in (w32 a1) 0 2 M1) (fun r2 M3 =>
(if w32 r2 = 0 then
(some ((-1), M3))
else
(tp_ck (w32 a1) 3 (if w32 (M3 32 (w32 a1)) = 0 then
(some ((-2), M3))
else
(tp_bd (fx_X11_copies 5 17 4 17 M3) (fun r4 M5 =>
(tp_lt 1 (fun x6 =>
(tp_lp1 (fx_X11_joins_L44 a1 (fun M11 =>
(tp_bd (fx_X11_calmed 5 17 M11) (fun r12 M13 =>
(tp_lt r12 (fun x14 =>
(if w32 x14 < 0 then
(some (x14, M13))
else
(tp_bd (fx_X11_entersCrowds 5 17 M13) (fun r15 M16 =>
(some (x14, M16))))))))))) tp_F x6 M5))))))))))))
set_option maxRecDepth 100000 in
set_option maxHeartbeats 4000000 in
theorem fx_X11_joins_L44_ok {X : tp_X} {Y : tp_Y} (G : tp_Ok X Y 34 cX11_joins 3 RX11 (some .int))  {c1 : Int} {K84 : tp_M → tp_O}   (hK84 : ∀ (M9 : tp_M), tp_J X Y LM 34 3 4 1 (K84  M9) M9 [(0, vR X 0)] [] 84) (n : Nat) : ∀ (z7 : Int) (M8 : tp_M), tp_J X Y LM 34 3 4 1 (tp_lp1 (fx_X11_joins_L44  c1 K84) n z7 M8) M8 [(0, vR X 0), (1, vI c1), (2, vI z7)] [] 44 := by
  refine tp_lp1_ok (P := fun o z7 M8 => tp_J X Y LM 34 3 4 1 (o) M8 [(0, vR X 0), (1, vI c1), (2, vI z7)] [] 44) (fun z7 M8 => tj_none) (fun rec hrec z7 M8 => ?_) n
  unfold fx_X11_joins_L44
  refine tj_iload_n (pc := 44) G 2 dX11_joins_44 rfl rfl ?_
  refine tj_aload_n (pc := 45) G 0 dX11_joins_45 rfl rfl ?_
  refine tj_getI (pc := 46) G (k := 0) (j := 3) (j2 := 3) tk_X11 (by decide) lm_0 rfl (by decide) rfl fl_X11_28 dX11_joins_46 ?_
  refine tj_icmp_ge (pc := 49) G (tgt := 84) (a2 := w32 z7) (b2 := w32 (M8 0 3)) dX11_joins_49 (by decide) rfl rfl ?_ ?_
  · exact tj_sub [0] rfl (hK84  M8)
  refine tj_aload_n (pc := 52) G 0 dX11_joins_52 rfl rfl ?_
  refine tj_getR (pc := 53) G (k := 0) (j := 7) (j2 := 7) tk_X11 (by decide) lm_0 rfl (by decide) rfl fl_X11_41 dX11_joins_53 ?_
  refine tj_bipush (pc := 56) G dX11_joins_56 rfl ?_
  refine tj_iload_n (pc := 58) G 2 dX11_joins_58 rfl rfl ?_
  refine tj_iadd (pc := 59) G dX11_joins_59 ?_
  refine tj_dup2 (pc := 60) G dX11_joins_60 rfl rfl ?_
  refine tj_iald (pc := 61) G (k := 5) (i2 := w32 (8 + z7)) (n2 := 17) (by decide) lm_5 rfl rfl dX11_joins_61 ?_
  refine tj_aload_n (pc := 62) G 0 dX11_joins_62 rfl rfl ?_
  refine tj_getR (pc := 63) G (k := 0) (j := 51) (j2 := 51) tk_X11 (by decide) lm_0 rfl (by decide) rfl fl_X11_126 dX11_joins_63 ?_
  refine tj_bipush (pc := 66) G dX11_joins_66 rfl ?_
  refine tj_iload_n (pc := 68) G 1 dX11_joins_68 rfl rfl ?_
  refine tj_imul (pc := 69) G dX11_joins_69 ?_
  refine tj_bipush (pc := 70) G dX11_joins_70 rfl ?_
  refine tj_iadd (pc := 72) G dX11_joins_72 ?_
  refine tj_iload_n (pc := 73) G 2 dX11_joins_73 rfl rfl ?_
  refine tj_iadd (pc := 74) G dX11_joins_74 ?_
  refine tj_iald (pc := 75) G (k := 33) (i2 := w32 (((17 * c1) + 8) + z7)) (n2 := 51) (by decide) lm_33 rfl rfl dX11_joins_75 ?_
  refine tj_iadd (pc := 76) G dX11_joins_76 ?_
  refine tj_iast (pc := 77) G (k := 5) (i2 := w32 (8 + z7)) (n2 := 17) (by decide) lm_5 rfl rfl dX11_joins_77 (fun M9 => ?_)
  refine tj_iinc (pc := 78) G 2 (fun x10 => [(2, vI x10), (0, vR X 0), (1, vI c1)]) dX11_joins_78 rfl (by decide) (fun _ => rfl) (fun x10 => ?_)
  refine tj_goto (pc := 81) G (tgt := 44) dX11_joins_81 (by decide) ?_
  exact tj_sub [1, 2, 0] rfl (hrec x10 M9)
set_option maxRecDepth 100000 in
set_option maxHeartbeats 4000000 in
theorem ok_X11_joins (X : tp_X)  {a1 : Int}  {M : tp_M} {res : Int × tp_M} (h : fx_X11_joins  a1 M = some res) : tp_Ret X LM 34 1 yX11_joins (Cond.code yX11_joins cX11_joins 3 (some .int)) 4 [vR X 0, vI a1] M res := by
  refine tp_ofW (by decide +kernel) rfl rfl (by show _ ≤ 3; exact Nat.le_of_ble_eq_true rfl) h (fun Y G => ?_)
  show tp_J X Y LM 34 3 4 1 (fx_X11_joins  a1 M) M [(0, vR X 0), (1, vI a1)] [] 0
  unfold fx_X11_joins
  refine tj_aload_n (pc := 0) G 0 dX11_joins_0 rfl rfl ?_
  refine tj_iconst (pc := 1) G dX11_joins_1 ?_
  refine tj_putI (pc := 2) G (k := 0) (j := 0) (j2 := 0) tk_X11 (by decide) lm_0 rfl (by decide) rfl fl_X11_3 rfl rfl dX11_joins_2 (fun M1 => ?_)
  refine tj_iload_n (pc := 5) G 1 dX11_joins_5 rfl rfl ?_
  refine tj_i2l (pc := 6) G (b := w32 a1) dX11_joins_6 rfl ?_
  refine tj_lconst (pc := 7) G (v := 0) dX11_joins_7 rfl ?_
  refine tj_ldc2 (pc := 8) G (v := 2) dX11_joins_8 ct_X11_446 rfl ?_
  refine tj_callSi (pc := 11) G [vL (w32 a1), vL 0, vL 2] mf_X11_in ml_X11_129 (by decide) rfl rfl (Nat.le_of_ble_eq_true rfl) (fun _ h9 => ok_X11_in X  h9) dX11_joins_11 (fun r2 M3 => ?_)
  refine tj_if_ne (pc := 14) G (tgt := 19) (a2 := w32 r2) dX11_joins_14 (by decide) rfl ?_ ?_
  · refine tj_aload_n (pc := 19) G 0 dX11_joins_19 rfl rfl ?_
    refine tj_getR (pc := 20) G (k := 0) (j := 50) (j2 := 50) tk_X11 (by decide) lm_0 rfl (by decide) rfl fl_X11_123 dX11_joins_20 ?_
    refine tj_iload_n (pc := 23) G 1 dX11_joins_23 rfl rfl ?_
    refine tj_zald (pc := 24) G (k := 32) (i2 := w32 a1) (n2 := 3) (by decide) lm_32 rfl rfl dX11_joins_24 ?_
    refine tj_if_ne (pc := 25) G (tgt := 31) (a2 := w32 (M3 32 (w32 a1))) dX11_joins_25 (by decide) rfl ?_ ?_
    · refine tj_aload_n (pc := 31) G 0 dX11_joins_31 rfl rfl ?_
      refine tj_getR (pc := 32) G (k := 0) (j := 7) (j2 := 7) tk_X11 (by decide) lm_0 rfl (by decide) rfl fl_X11_41 dX11_joins_32 ?_
      refine tj_aload_n (pc := 35) G 0 dX11_joins_35 rfl rfl ?_
      refine tj_getR (pc := 36) G (k := 0) (j := 6) (j2 := 6) tk_X11 (by decide) lm_0 rfl (by decide) rfl fl_X11_38 dX11_joins_36 ?_
      refine tj_callSv (pc := 39) G [vR X 5, vR X 4] mf_X11_copies ml_X11_307 (by decide) rfl rfl (Nat.le_of_ble_eq_true rfl) (fun _ h9 => ok_X11_copies X ⟨by decide, lm_5⟩ ⟨by decide, lm_4⟩ h9) dX11_joins_39 (fun r4 M5 => ?_)
      refine tj_iconst (pc := 42) G dX11_joins_42 ?_
      refine tj_istore_n (pc := 43) G (fun x6 => [(2, vI x6), (0, vR X 0), (1, vI a1)]) dX11_joins_43 rfl (by decide) (fun _ => rfl) (fun x6 => ?_)
      refine tj_sub [1, 2, 0] rfl (fx_X11_joins_L44_ok G    (fun M11 => ?_) tp_F x6 M5)
      refine tj_aload_n (pc := 84) G 0 dX11_joins_84 rfl rfl ?_
      refine tj_aload_n (pc := 85) G 0 dX11_joins_85 rfl rfl ?_
      refine tj_getR (pc := 86) G (k := 0) (j := 7) (j2 := 7) tk_X11 (by decide) lm_0 rfl (by decide) rfl fl_X11_41 dX11_joins_86 ?_
      refine tj_callVi (pc := 89) G [vR X 5] mf_X11_calmed (k := 0) (by decide) lm_0 rfl rfl ml_X11_317 (by decide) rfl rfl (Nat.le_of_ble_eq_true rfl) (fun _ h9 => ok_X11_calmed X ⟨by decide, lm_5⟩ h9) dX11_joins_89 (fun r12 M13 => ?_)
      refine tj_istore_n (pc := 92) G (fun x14 => [(2, vI x14), (0, vR X 0)]) dX11_joins_92 rfl (by decide) (fun _ => rfl) (fun x14 => ?_)
      refine tj_iload_n (pc := 93) G 0 dX11_joins_93 rfl rfl ?_
      refine tj_if_lt (pc := 94) G (tgt := 105) (a2 := w32 x14) dX11_joins_94 (by decide) rfl ?_ ?_
      · refine tj_iload_n (pc := 105) G 0 dX11_joins_105 rfl rfl ?_
        exact tj_iret (pc := 106) G dX11_joins_106
      refine tj_aload_n (pc := 97) G 1 dX11_joins_97 rfl rfl ?_
      refine tj_aload_n (pc := 98) G 1 dX11_joins_98 rfl rfl ?_
      refine tj_getR (pc := 99) G (k := 0) (j := 7) (j2 := 7) tk_X11 (by decide) lm_0 rfl (by decide) rfl fl_X11_41 dX11_joins_99 ?_
      refine tj_callVv (pc := 102) G [vR X 5] mf_X11_entersCrowds (k := 0) (by decide) lm_0 rfl rfl ml_X11_435 (by decide) rfl rfl (Nat.le_of_ble_eq_true rfl) (fun _ h9 => ok_X11_entersCrowds X ⟨by decide, lm_5⟩ h9) dX11_joins_102 (fun r15 M16 => ?_)
      refine tj_iload_n (pc := 105) G 0 dX11_joins_105 rfl rfl ?_
      exact tj_iret (pc := 106) G dX11_joins_106
    refine tj_bipush (pc := 28) G dX11_joins_28 rfl ?_
    exact tj_iret (pc := 30) G dX11_joins_30
  refine tj_iconst (pc := 17) G dX11_joins_17 ?_
  exact tj_iret (pc := 18) G dX11_joins_18

def fx_X11_recurs_L44 (c1 : Int) (K98 : Int → Int → tp_M → tp_O) (rec : Int → Int → tp_M → tp_O) (z10 z11 : Int) (M12 : tp_M) : tp_O :=
(if w32 z11 ≤ 500 then
(tp_ck (w32 (8 + c1)) 17 (tp_ck (w32 (8 + c1)) 17 (tp_lm (tp_up M12 5 (w32 (8 + c1)) ((M12 5 (w32 (8 + c1))) + 1)) (fun M15 =>
(tp_bd (fx_X11_calmed 5 17 M15) (fun r16 M17 =>
(tp_lt r16 (fun x18 =>
(if w32 x18 < 0 then
(some ((-3), M17))
else
(tp_lt (z10 + x18) (fun x19 =>
(tp_bd (fx_X11_areCrowds 5 17 M17) (fun r20 M21 =>
(if w32 r20 = 0 then
(tp_lt (z11 + 1) (fun x22 =>
(rec x19 x22 M21)))
else
(K98 x19 z11 M21)))))))))))))))
else
(some ((-2), M12)))
def fx_X11_recurs  (a1 : Int) (M : tp_M) : tp_O :=
(tp_lm (tp_up M 0 0 0) (fun M1 =>
(tp_bd (fx_X11_isOut a1 M1) (fun r2 M3 =>
(if w32 r2 = 0 then
(some ((-1), M3))
else
(tp_bd (fx_X11_canBurst 4 17 M3) (fun r4 M5 =>
(if w32 r4 = 0 then
(tp_bd (fx_X11_copies 5 17 4 17 M5) (fun r6 M7 =>
(tp_lt 0 (fun x8 =>
(tp_lt 1 (fun x9 =>
(tp_lp2 (fx_X11_recurs_L44 a1 (fun y13 y14 M23 =>
(tp_lm (tp_up M23 0 1 0) (fun M24 =>
(tp_bd (fx_X11_enters (w32 y13) M24) (fun r25 M26 =>
(some (y14, M26)))))))) tp_F x8 x9 M7)))))))
else
(some ((-2), M5))))))))))
set_option maxRecDepth 100000 in
set_option maxHeartbeats 4000000 in
theorem fx_X11_recurs_L44_ok {X : tp_X} {Y : tp_Y} (G : tp_Ok X Y 34 cX11_recurs 5 RX11 (some .int))  {c1 : Int} {K98 : Int → Int → tp_M → tp_O}   (hK98 : ∀ (y13 y14 : Int) (M9 : tp_M), tp_J X Y LM 34 5 4 1 (K98 y13 y14 M9) M9 [(0, vR X 0), (2, vI y13), (3, vI y14)] [] 98) (n : Nat) : ∀ (z10 z11 : Int) (M12 : tp_M), tp_J X Y LM 34 5 4 1 (tp_lp2 (fx_X11_recurs_L44  c1 K98) n z10 z11 M12) M12 [(0, vR X 0), (1, vI c1), (2, vI z10), (3, vI z11)] [] 44 := by
  refine tp_lp2_ok (P := fun o z10 z11 M12 => tp_J X Y LM 34 5 4 1 (o) M12 [(0, vR X 0), (1, vI c1), (2, vI z10), (3, vI z11)] [] 44) (fun z10 z11 M12 => tj_none) (fun rec hrec z10 z11 M12 => ?_) n
  unfold fx_X11_recurs_L44
  refine tj_iload_n (pc := 44) G 3 dX11_recurs_44 rfl rfl ?_
  refine tj_sipush (pc := 45) G dX11_recurs_45 rfl ?_
  refine tj_icmp_gt (pc := 48) G (tgt := 117) (a2 := w32 z11) (b2 := 500) dX11_recurs_48 (by decide) rfl rfl ?_ ?_
  · refine tj_bipush (pc := 117) G dX11_recurs_117 rfl ?_
    exact tj_iret (pc := 119) G dX11_recurs_119
  refine tj_aload_n (pc := 51) G 0 dX11_recurs_51 rfl rfl ?_
  refine tj_getR (pc := 52) G (k := 0) (j := 7) (j2 := 7) tk_X11 (by decide) lm_0 rfl (by decide) rfl fl_X11_41 dX11_recurs_52 ?_
  refine tj_bipush (pc := 55) G dX11_recurs_55 rfl ?_
  refine tj_iload_n (pc := 57) G 1 dX11_recurs_57 rfl rfl ?_
  refine tj_iadd (pc := 58) G dX11_recurs_58 ?_
  refine tj_dup2 (pc := 59) G dX11_recurs_59 rfl rfl ?_
  refine tj_iald (pc := 60) G (k := 5) (i2 := w32 (8 + c1)) (n2 := 17) (by decide) lm_5 rfl rfl dX11_recurs_60 ?_
  refine tj_iconst (pc := 61) G dX11_recurs_61 ?_
  refine tj_iadd (pc := 62) G dX11_recurs_62 ?_
  refine tj_iast (pc := 63) G (k := 5) (i2 := w32 (8 + c1)) (n2 := 17) (by decide) lm_5 rfl rfl dX11_recurs_63 (fun M15 => ?_)
  refine tj_aload_n (pc := 64) G 0 dX11_recurs_64 rfl rfl ?_
  refine tj_aload_n (pc := 65) G 0 dX11_recurs_65 rfl rfl ?_
  refine tj_getR (pc := 66) G (k := 0) (j := 7) (j2 := 7) tk_X11 (by decide) lm_0 rfl (by decide) rfl fl_X11_41 dX11_recurs_66 ?_
  refine tj_callVi (pc := 69) G [vR X 5] mf_X11_calmed (k := 0) (by decide) lm_0 rfl rfl ml_X11_317 (by decide) rfl rfl (Nat.le_of_ble_eq_true rfl) (fun _ h9 => ok_X11_calmed X ⟨by decide, lm_5⟩ h9) dX11_recurs_69 (fun r16 M17 => ?_)
  refine tj_istore (pc := 72) G (fun x18 => [(4, vI x18), (0, vR X 0), (1, vI c1), (2, vI z10), (3, vI z11)]) dX11_recurs_72 (by decide) (fun _ => rfl) (fun x18 => ?_)
  refine tj_iload (pc := 74) G 0 dX11_recurs_74 rfl ?_
  refine tj_if_ge (pc := 76) G (tgt := 82) (a2 := w32 x18) dX11_recurs_76 (by decide) rfl ?_ ?_
  · refine tj_iload_n (pc := 82) G 3 dX11_recurs_82 rfl rfl ?_
    refine tj_iload (pc := 83) G 0 dX11_recurs_83 rfl ?_
    refine tj_iadd (pc := 85) G dX11_recurs_85 ?_
    refine tj_istore_n (pc := 86) G (fun x19 => [(2, vI x19), (4, vI x18), (0, vR X 0), (1, vI c1), (3, vI z11)]) dX11_recurs_86 rfl (by decide) (fun _ => rfl) (fun x19 => ?_)
    refine tj_aload_n (pc := 87) G 2 dX11_recurs_87 rfl rfl ?_
    refine tj_aload_n (pc := 88) G 2 dX11_recurs_88 rfl rfl ?_
    refine tj_getR (pc := 89) G (k := 0) (j := 7) (j2 := 7) tk_X11 (by decide) lm_0 rfl (by decide) rfl fl_X11_41 dX11_recurs_89 ?_
    refine tj_callVi (pc := 92) G [vR X 5] mf_X11_areCrowds (k := 0) (by decide) lm_0 rfl rfl ml_X11_443 (by decide) rfl rfl (Nat.le_of_ble_eq_true rfl) (fun _ h9 => ok_X11_areCrowds X ⟨by decide, lm_5⟩ h9) dX11_recurs_92 (fun r20 M21 => ?_)
    refine tj_if_eq (pc := 95) G (tgt := 111) (a2 := w32 r20) dX11_recurs_95 (by decide) rfl ?_ ?_
    · refine tj_iinc (pc := 111) G 4 (fun x22 => [(3, vI x22), (2, vI x19), (4, vI x18), (0, vR X 0), (1, vI c1)]) dX11_recurs_111 rfl (by decide) (fun _ => rfl) (fun x22 => ?_)
      refine tj_goto (pc := 114) G (tgt := 44) dX11_recurs_114 (by decide) ?_
      exact tj_sub [3, 4, 1, 0] rfl (hrec x19 x22 M21)
    exact tj_sub [2, 0, 4] rfl (hK98 x19 z11 M21)
  refine tj_bipush (pc := 79) G dX11_recurs_79 rfl ?_
  exact tj_iret (pc := 81) G dX11_recurs_81
set_option maxRecDepth 100000 in
set_option maxHeartbeats 4000000 in
theorem ok_X11_recurs (X : tp_X)  {a1 : Int}  {M : tp_M} {res : Int × tp_M} (h : fx_X11_recurs  a1 M = some res) : tp_Ret X LM 34 1 yX11_recurs (Cond.code yX11_recurs cX11_recurs 5 (some .int)) 4 [vR X 0, vI a1] M res := by
  refine tp_ofW (by decide +kernel) rfl rfl (by show _ ≤ 5; exact Nat.le_of_ble_eq_true rfl) h (fun Y G => ?_)
  show tp_J X Y LM 34 5 4 1 (fx_X11_recurs  a1 M) M [(0, vR X 0), (1, vI a1)] [] 0
  unfold fx_X11_recurs
  refine tj_aload_n (pc := 0) G 0 dX11_recurs_0 rfl rfl ?_
  refine tj_iconst (pc := 1) G dX11_recurs_1 ?_
  refine tj_putI (pc := 2) G (k := 0) (j := 0) (j2 := 0) tk_X11 (by decide) lm_0 rfl (by decide) rfl fl_X11_3 rfl rfl dX11_recurs_2 (fun M1 => ?_)
  refine tj_aload_n (pc := 5) G 0 dX11_recurs_5 rfl rfl ?_
  refine tj_iload_n (pc := 6) G 1 dX11_recurs_6 rfl rfl ?_
  refine tj_callVi (pc := 7) G [vI a1] mf_X11_isOut (k := 0) (by decide) lm_0 rfl rfl ml_X11_280 (by decide) rfl rfl (Nat.le_of_ble_eq_true rfl) (fun _ h9 => ok_X11_isOut X  h9) dX11_recurs_7 (fun r2 M3 => ?_)
  refine tj_if_ne (pc := 10) G (tgt := 15) (a2 := w32 r2) dX11_recurs_10 (by decide) rfl ?_ ?_
  · refine tj_aload_n (pc := 15) G 0 dX11_recurs_15 rfl rfl ?_
    refine tj_aload_n (pc := 16) G 0 dX11_recurs_16 rfl rfl ?_
    refine tj_getR (pc := 17) G (k := 0) (j := 6) (j2 := 6) tk_X11 (by decide) lm_0 rfl (by decide) rfl fl_X11_38 dX11_recurs_17 ?_
    refine tj_callVi (pc := 20) G [vR X 4] mf_X11_canBurst (k := 0) (by decide) lm_0 rfl rfl ml_X11_439 (by decide) rfl rfl (Nat.le_of_ble_eq_true rfl) (fun _ h9 => ok_X11_canBurst X ⟨by decide, lm_4⟩ h9) dX11_recurs_20 (fun r4 M5 => ?_)
    refine tj_if_eq (pc := 23) G (tgt := 29) (a2 := w32 r4) dX11_recurs_23 (by decide) rfl ?_ ?_
    · refine tj_aload_n (pc := 29) G 0 dX11_recurs_29 rfl rfl ?_
      refine tj_getR (pc := 30) G (k := 0) (j := 7) (j2 := 7) tk_X11 (by decide) lm_0 rfl (by decide) rfl fl_X11_41 dX11_recurs_30 ?_
      refine tj_aload_n (pc := 33) G 0 dX11_recurs_33 rfl rfl ?_
      refine tj_getR (pc := 34) G (k := 0) (j := 6) (j2 := 6) tk_X11 (by decide) lm_0 rfl (by decide) rfl fl_X11_38 dX11_recurs_34 ?_
      refine tj_callSv (pc := 37) G [vR X 5, vR X 4] mf_X11_copies ml_X11_307 (by decide) rfl rfl (Nat.le_of_ble_eq_true rfl) (fun _ h9 => ok_X11_copies X ⟨by decide, lm_5⟩ ⟨by decide, lm_4⟩ h9) dX11_recurs_37 (fun r6 M7 => ?_)
      refine tj_iconst (pc := 40) G dX11_recurs_40 ?_
      refine tj_istore_n (pc := 41) G (fun x8 => [(2, vI x8), (0, vR X 0), (1, vI a1)]) dX11_recurs_41 rfl (by decide) (fun _ => rfl) (fun x8 => ?_)
      refine tj_iconst (pc := 42) G dX11_recurs_42 ?_
      refine tj_istore_n (pc := 43) G (fun x9 => [(3, vI x9), (2, vI x8), (0, vR X 0), (1, vI a1)]) dX11_recurs_43 rfl (by decide) (fun _ => rfl) (fun x9 => ?_)
      refine tj_sub [2, 3, 1, 0] rfl (fx_X11_recurs_L44_ok G    (fun y13 y14 M23 => ?_) tp_F x8 x9 M7)
      refine tj_aload_n (pc := 98) G 0 dX11_recurs_98 rfl rfl ?_
      refine tj_iconst (pc := 99) G dX11_recurs_99 ?_
      refine tj_putI (pc := 100) G (k := 0) (j := 1) (j2 := 1) tk_X11 (by decide) lm_0 rfl (by decide) rfl fl_X11_15 rfl rfl dX11_recurs_100 (fun M24 => ?_)
      refine tj_aload_n (pc := 103) G 0 dX11_recurs_103 rfl rfl ?_
      refine tj_iload_n (pc := 104) G 1 dX11_recurs_104 rfl rfl ?_
      refine tj_i2l (pc := 105) G (b := w32 y13) dX11_recurs_105 rfl ?_
      refine tj_callVv (pc := 106) G [vL (w32 y13)] mf_X11_enters (k := 0) (by decide) lm_0 rfl rfl ml_X11_18 (by decide) rfl rfl (Nat.le_of_ble_eq_true rfl) (fun _ h9 => ok_X11_enters X  h9) dX11_recurs_106 (fun r25 M26 => ?_)
      refine tj_iload_n (pc := 109) G 2 dX11_recurs_109 rfl rfl ?_
      exact tj_iret (pc := 110) G dX11_recurs_110
    refine tj_bipush (pc := 26) G dX11_recurs_26 rfl ?_
    exact tj_iret (pc := 28) G dX11_recurs_28
  refine tj_iconst (pc := 13) G dX11_recurs_13 ?_
  exact tj_iret (pc := 14) G dX11_recurs_14

def fx_X11_trigger_L25  (K100 : Int → Int → tp_M → tp_O) (rec : Int → Int → Int → tp_M → tp_O) (z7 z8 z9 : Int) (M10 : tp_M) : tp_O :=
(if w32 z9 < w32 (M10 0 3) then
(tp_bd (fx_X11_copies 5 17 4 17 M10) (fun r13 M14 =>
(tp_ck (w32 (8 + z9)) 17 (tp_ck (w32 (8 + z9)) 17 (tp_lm (tp_up M14 5 (w32 (8 + z9)) ((M14 5 (w32 (8 + z9))) + 1)) (fun M15 =>
(tp_bd (fx_X11_calmed 5 17 M15) (fun r16 M17 =>
(tp_lt r16 (fun x18 =>
(if w32 x18 < 0 then
(some ((-3), M17))
else
(tp_jn1 (fun y19 M20 => 
(tp_lt y19 (fun x21 =>
(tp_lt (max (w32 z8) (w32 x18)) (fun x22 =>
(tp_lt (z9 + 1) (fun x23 =>
(rec x21 x22 x23 M20)))))))) (fun jk86 =>
(if w32 x18 ≤ w32 z8 then
(jk86 z7 M17)
else
(jk86 z9 M17)))))))))))))))
else
(K100 z7 z8 M10))
def fx_X11_trigger   (M : tp_M) : tp_O :=
(tp_lm (tp_up M 0 0 0) (fun M1 =>
(tp_bd (fx_X11_canBurst 4 17 M1) (fun r2 M3 =>
(if w32 r2 = 0 then
(tp_lt 0 (fun x4 =>
(tp_lt (-1) (fun x5 =>
(tp_lt 1 (fun x6 =>
(tp_lp3 (fx_X11_trigger_L25  (fun y11 y12 M24 =>
(tp_lm (tp_up M24 0 1 0) (fun M25 =>
(tp_bd (fx_X11_enters (w32 y12) M25) (fun r26 M27 =>
(some (y11, M27)))))))) tp_F x4 x5 x6 M3)))))))
else
(some ((-2), M3)))))))
set_option maxRecDepth 100000 in
set_option maxHeartbeats 4000000 in
theorem fx_X11_trigger_L25_ok {X : tp_X} {Y : tp_Y} (G : tp_Ok X Y 34 cX11_trigger 5 RX11 (some .int))  {K100 : Int → Int → tp_M → tp_O}   (hK100 : ∀ (y11 y12 : Int) (M9 : tp_M), tp_J X Y LM 34 5 4 1 (K100 y11 y12 M9) M9 [(0, vR X 0), (1, vI y11), (2, vI y12)] [] 100) (n : Nat) : ∀ (z7 z8 z9 : Int) (M10 : tp_M), tp_J X Y LM 34 5 4 1 (tp_lp3 (fx_X11_trigger_L25   K100) n z7 z8 z9 M10) M10 [(0, vR X 0), (1, vI z7), (2, vI z8), (3, vI z9)] [] 25 := by
  refine tp_lp3_ok (P := fun o z7 z8 z9 M10 => tp_J X Y LM 34 5 4 1 (o) M10 [(0, vR X 0), (1, vI z7), (2, vI z8), (3, vI z9)] [] 25) (fun z7 z8 z9 M10 => tj_none) (fun rec hrec z7 z8 z9 M10 => ?_) n
  unfold fx_X11_trigger_L25
  refine tj_iload_n (pc := 25) G 3 dX11_trigger_25 rfl rfl ?_
  refine tj_aload_n (pc := 26) G 0 dX11_trigger_26 rfl rfl ?_
  refine tj_getI (pc := 27) G (k := 0) (j := 3) (j2 := 3) tk_X11 (by decide) lm_0 rfl (by decide) rfl fl_X11_28 dX11_trigger_27 ?_
  refine tj_icmp_ge (pc := 30) G (tgt := 100) (a2 := w32 z9) (b2 := w32 (M10 0 3)) dX11_trigger_30 (by decide) rfl rfl ?_ ?_
  · exact tj_sub [0, 1, 2] rfl (hK100 z7 z8 M10)
  refine tj_aload_n (pc := 33) G 0 dX11_trigger_33 rfl rfl ?_
  refine tj_getR (pc := 34) G (k := 0) (j := 7) (j2 := 7) tk_X11 (by decide) lm_0 rfl (by decide) rfl fl_X11_41 dX11_trigger_34 ?_
  refine tj_aload_n (pc := 37) G 0 dX11_trigger_37 rfl rfl ?_
  refine tj_getR (pc := 38) G (k := 0) (j := 6) (j2 := 6) tk_X11 (by decide) lm_0 rfl (by decide) rfl fl_X11_38 dX11_trigger_38 ?_
  refine tj_callSv (pc := 41) G [vR X 5, vR X 4] mf_X11_copies ml_X11_307 (by decide) rfl rfl (Nat.le_of_ble_eq_true rfl) (fun _ h9 => ok_X11_copies X ⟨by decide, lm_5⟩ ⟨by decide, lm_4⟩ h9) dX11_trigger_41 (fun r13 M14 => ?_)
  refine tj_aload_n (pc := 44) G 0 dX11_trigger_44 rfl rfl ?_
  refine tj_getR (pc := 45) G (k := 0) (j := 7) (j2 := 7) tk_X11 (by decide) lm_0 rfl (by decide) rfl fl_X11_41 dX11_trigger_45 ?_
  refine tj_bipush (pc := 48) G dX11_trigger_48 rfl ?_
  refine tj_iload_n (pc := 50) G 3 dX11_trigger_50 rfl rfl ?_
  refine tj_iadd (pc := 51) G dX11_trigger_51 ?_
  refine tj_dup2 (pc := 52) G dX11_trigger_52 rfl rfl ?_
  refine tj_iald (pc := 53) G (k := 5) (i2 := w32 (8 + z9)) (n2 := 17) (by decide) lm_5 rfl rfl dX11_trigger_53 ?_
  refine tj_iconst (pc := 54) G dX11_trigger_54 ?_
  refine tj_iadd (pc := 55) G dX11_trigger_55 ?_
  refine tj_iast (pc := 56) G (k := 5) (i2 := w32 (8 + z9)) (n2 := 17) (by decide) lm_5 rfl rfl dX11_trigger_56 (fun M15 => ?_)
  refine tj_aload_n (pc := 57) G 0 dX11_trigger_57 rfl rfl ?_
  refine tj_aload_n (pc := 58) G 0 dX11_trigger_58 rfl rfl ?_
  refine tj_getR (pc := 59) G (k := 0) (j := 7) (j2 := 7) tk_X11 (by decide) lm_0 rfl (by decide) rfl fl_X11_41 dX11_trigger_59 ?_
  refine tj_callVi (pc := 62) G [vR X 5] mf_X11_calmed (k := 0) (by decide) lm_0 rfl rfl ml_X11_317 (by decide) rfl rfl (Nat.le_of_ble_eq_true rfl) (fun _ h9 => ok_X11_calmed X ⟨by decide, lm_5⟩ h9) dX11_trigger_62 (fun r16 M17 => ?_)
  refine tj_istore (pc := 65) G (fun x18 => [(4, vI x18), (0, vR X 0), (1, vI z7), (2, vI z8), (3, vI z9)]) dX11_trigger_65 (by decide) (fun _ => rfl) (fun x18 => ?_)
  refine tj_iload (pc := 67) G 0 dX11_trigger_67 rfl ?_
  refine tj_if_ge (pc := 69) G (tgt := 75) (a2 := w32 x18) dX11_trigger_69 (by decide) rfl ?_ ?_
  · refine tj_iload (pc := 75) G 0 dX11_trigger_75 rfl ?_
    refine tj_iload_n (pc := 77) G 3 dX11_trigger_77 rfl rfl ?_
    refine tj_jn1 (fun y19 => [(0, vR X 0), (2, vI z8), (3, vI z9), (4, vI x18)]) (fun y19 => [vI y19]) 86 (fun y19 M20 => ?_) (fun jk86 hj86 => ?_)
    · refine tj_istore_n (pc := 86) G (fun x21 => [(1, vI x21), (0, vR X 0), (2, vI z8), (3, vI z9), (4, vI x18)]) dX11_trigger_86 rfl (by decide) (fun _ => rfl) (fun x21 => ?_)
      refine tj_iload_n (pc := 87) G 2 dX11_trigger_87 rfl rfl ?_
      refine tj_iload (pc := 88) G 4 dX11_trigger_88 rfl ?_
      refine tj_max (pc := 90) G (a2 := w32 z8) (b2 := w32 x18) rfl rfl ml_X11_261 mw_max (by decide) (Nat.le_of_ble_eq_true rfl) dX11_trigger_90 ?_
      refine tj_istore_n (pc := 93) G (fun x22 => [(2, vI x22), (1, vI x21), (0, vR X 0), (3, vI z9), (4, vI x18)]) dX11_trigger_93 rfl (by decide) (fun _ => rfl) (fun x22 => ?_)
      refine tj_iinc (pc := 94) G 3 (fun x23 => [(3, vI x23), (2, vI x22), (1, vI x21), (0, vR X 0), (4, vI x18)]) dX11_trigger_94 rfl (by decide) (fun _ => rfl) (fun x23 => ?_)
      refine tj_goto (pc := 97) G (tgt := 25) dX11_trigger_97 (by decide) ?_
      exact tj_sub [3, 2, 1, 0] rfl (hrec x21 x22 x23 M20)
    refine tj_icmp_le (pc := 78) G (tgt := 85) (a2 := w32 x18) (b2 := w32 z8) dX11_trigger_78 (by decide) rfl rfl ?_ ?_
    · refine tj_iload_n (pc := 85) G 2 dX11_trigger_85 rfl rfl ?_
      exact tj_sub [1, 3, 4, 0] rfl (hj86 z7 M17)
    refine tj_iload_n (pc := 81) G 4 dX11_trigger_81 rfl rfl ?_
    refine tj_goto (pc := 82) G (tgt := 86) dX11_trigger_82 (by decide) ?_
    exact tj_sub [1, 3, 4, 0] rfl (hj86 z9 M17)
  refine tj_bipush (pc := 72) G dX11_trigger_72 rfl ?_
  exact tj_iret (pc := 74) G dX11_trigger_74
set_option maxRecDepth 100000 in
set_option maxHeartbeats 4000000 in
theorem ok_X11_trigger (X : tp_X)    {M : tp_M} {res : Int × tp_M} (h : fx_X11_trigger   M = some res) : tp_Ret X LM 34 1 yX11_trigger (Cond.code yX11_trigger cX11_trigger 5 (some .int)) 4 [vR X 0] M res := by
  refine tp_ofW (by decide +kernel) rfl rfl (by show _ ≤ 5; exact Nat.le_of_ble_eq_true rfl) h (fun Y G => ?_)
  show tp_J X Y LM 34 5 4 1 (fx_X11_trigger   M) M [(0, vR X 0)] [] 0
  unfold fx_X11_trigger
  refine tj_aload_n (pc := 0) G 0 dX11_trigger_0 rfl rfl ?_
  refine tj_iconst (pc := 1) G dX11_trigger_1 ?_
  refine tj_putI (pc := 2) G (k := 0) (j := 0) (j2 := 0) tk_X11 (by decide) lm_0 rfl (by decide) rfl fl_X11_3 rfl rfl dX11_trigger_2 (fun M1 => ?_)
  refine tj_aload_n (pc := 5) G 0 dX11_trigger_5 rfl rfl ?_
  refine tj_aload_n (pc := 6) G 0 dX11_trigger_6 rfl rfl ?_
  refine tj_getR (pc := 7) G (k := 0) (j := 6) (j2 := 6) tk_X11 (by decide) lm_0 rfl (by decide) rfl fl_X11_38 dX11_trigger_7 ?_
  refine tj_callVi (pc := 10) G [vR X 4] mf_X11_canBurst (k := 0) (by decide) lm_0 rfl rfl ml_X11_439 (by decide) rfl rfl (Nat.le_of_ble_eq_true rfl) (fun _ h9 => ok_X11_canBurst X ⟨by decide, lm_4⟩ h9) dX11_trigger_10 (fun r2 M3 => ?_)
  refine tj_if_eq (pc := 13) G (tgt := 19) (a2 := w32 r2) dX11_trigger_13 (by decide) rfl ?_ ?_
  · refine tj_iconst (pc := 19) G dX11_trigger_19 ?_
    refine tj_istore_n (pc := 20) G (fun x4 => [(1, vI x4), (0, vR X 0)]) dX11_trigger_20 rfl (by decide) (fun _ => rfl) (fun x4 => ?_)
    refine tj_iconst (pc := 21) G dX11_trigger_21 ?_
    refine tj_istore_n (pc := 22) G (fun x5 => [(2, vI x5), (1, vI x4), (0, vR X 0)]) dX11_trigger_22 rfl (by decide) (fun _ => rfl) (fun x5 => ?_)
    refine tj_iconst (pc := 23) G dX11_trigger_23 ?_
    refine tj_istore_n (pc := 24) G (fun x6 => [(3, vI x6), (2, vI x5), (1, vI x4), (0, vR X 0)]) dX11_trigger_24 rfl (by decide) (fun _ => rfl) (fun x6 => ?_)
    refine tj_sub [3, 2, 1, 0] rfl (fx_X11_trigger_L25_ok G    (fun y11 y12 M24 => ?_) tp_F x4 x5 x6 M3)
    refine tj_aload_n (pc := 100) G 0 dX11_trigger_100 rfl rfl ?_
    refine tj_iconst (pc := 101) G dX11_trigger_101 ?_
    refine tj_putI (pc := 102) G (k := 0) (j := 1) (j2 := 1) tk_X11 (by decide) lm_0 rfl (by decide) rfl fl_X11_15 rfl rfl dX11_trigger_102 (fun M25 => ?_)
    refine tj_aload_n (pc := 105) G 0 dX11_trigger_105 rfl rfl ?_
    refine tj_iload_n (pc := 106) G 2 dX11_trigger_106 rfl rfl ?_
    refine tj_i2l (pc := 107) G (b := w32 y12) dX11_trigger_107 rfl ?_
    refine tj_callVv (pc := 108) G [vL (w32 y12)] mf_X11_enters (k := 0) (by decide) lm_0 rfl rfl ml_X11_18 (by decide) rfl rfl (Nat.le_of_ble_eq_true rfl) (fun _ h9 => ok_X11_enters X  h9) dX11_trigger_108 (fun r26 M27 => ?_)
    refine tj_iload_n (pc := 111) G 1 dX11_trigger_111 rfl rfl ?_
    exact tj_iret (pc := 112) G dX11_trigger_112
  refine tj_bipush (pc := 16) G dX11_trigger_16 rfl ?_
  exact tj_iret (pc := 18) G dX11_trigger_18

def fx_X11_seen  (a1 : Int) (a2 : Int) (a3 : Int) (M : tp_M) : tp_O :=
(tp_lm (tp_up M 0 0 0) (fun M1 =>
(tp_bd (fx_X11_isOut a1 M1) (fun r2 M3 =>
(if w32 r2 = 0 then
(some ((-1), M3))
else
(tp_bd (fx_X11_in (w32 a2) 0 20 M3) (fun r4 M5 =>
(if w32 r4 = 0 then
(some ((-1), M5))
else
(tp_bd (fx_X11_isCrossing a3 M5) (fun r6 M7 =>
(if w32 r6 = 0 then
(some ((-1), M7))
else
(if w32 (M7 0 39) = 10 then
(some ((-1), M7))
else
(tp_ck (w32 (M7 0 39)) 10 (tp_lm (tp_up M7 24 (w32 (M7 0 39)) a1) (fun M8 =>
(tp_ck (w32 (M8 0 39)) 10 (tp_lm (tp_up M8 25 (w32 (M8 0 39)) a2) (fun M9 =>
(tp_ck (w32 (M9 0 39)) 10 (tp_lm (tp_up M9 26 (w32 (M9 0 39)) a3) (fun M10 =>
(tp_lm (tp_up M10 0 39 ((M10 0 39) + 1)) (fun M11 =>
(some (M11 0 39, M11)))))))))))))))))))))))))
set_option maxRecDepth 100000 in
set_option maxHeartbeats 4000000 in
theorem ok_X11_seen (X : tp_X)  {a1 : Int} {a2 : Int} {a3 : Int}  {M : tp_M} {res : Int × tp_M} (h : fx_X11_seen  a1 a2 a3 M = some res) : tp_Ret X LM 34 1 yX11_seen (Cond.code yX11_seen cX11_seen 4 (some .int)) 3 [vR X 0, vI a1, vI a2, vI a3] M res := by
  refine tp_ofW (by decide +kernel) rfl rfl (by show _ ≤ 4; exact Nat.le_of_ble_eq_true rfl) h (fun Y G => ?_)
  show tp_J X Y LM 34 4 3 1 (fx_X11_seen  a1 a2 a3 M) M [(0, vR X 0), (1, vI a1), (2, vI a2), (3, vI a3)] [] 0
  unfold fx_X11_seen
  refine tj_aload_n (pc := 0) G 0 dX11_seen_0 rfl rfl ?_
  refine tj_iconst (pc := 1) G dX11_seen_1 ?_
  refine tj_putI (pc := 2) G (k := 0) (j := 0) (j2 := 0) tk_X11 (by decide) lm_0 rfl (by decide) rfl fl_X11_3 rfl rfl dX11_seen_2 (fun M1 => ?_)
  refine tj_aload_n (pc := 5) G 0 dX11_seen_5 rfl rfl ?_
  refine tj_iload_n (pc := 6) G 1 dX11_seen_6 rfl rfl ?_
  refine tj_callVi (pc := 7) G [vI a1] mf_X11_isOut (k := 0) (by decide) lm_0 rfl rfl ml_X11_280 (by decide) rfl rfl (Nat.le_of_ble_eq_true rfl) (fun _ h9 => ok_X11_isOut X  h9) dX11_seen_7 (fun r2 M3 => ?_)
  refine tj_if_eq (pc := 10) G (tgt := 42) (a2 := w32 r2) dX11_seen_10 (by decide) rfl ?_ ?_
  · refine tj_iconst (pc := 42) G dX11_seen_42 ?_
    exact tj_iret (pc := 43) G dX11_seen_43
  refine tj_iload_n (pc := 13) G 2 dX11_seen_13 rfl rfl ?_
  refine tj_i2l (pc := 14) G (b := w32 a2) dX11_seen_14 rfl ?_
  refine tj_lconst (pc := 15) G (v := 0) dX11_seen_15 rfl ?_
  refine tj_ldc2 (pc := 16) G (v := 20) dX11_seen_16 ct_X11_448 rfl ?_
  refine tj_callSi (pc := 19) G [vL (w32 a2), vL 0, vL 20] mf_X11_in ml_X11_129 (by decide) rfl rfl (Nat.le_of_ble_eq_true rfl) (fun _ h9 => ok_X11_in X  h9) dX11_seen_19 (fun r4 M5 => ?_)
  refine tj_if_eq (pc := 22) G (tgt := 42) (a2 := w32 r4) dX11_seen_22 (by decide) rfl ?_ ?_
  · refine tj_iconst (pc := 42) G dX11_seen_42 ?_
    exact tj_iret (pc := 43) G dX11_seen_43
  refine tj_aload_n (pc := 25) G 0 dX11_seen_25 rfl rfl ?_
  refine tj_iload_n (pc := 26) G 3 dX11_seen_26 rfl rfl ?_
  refine tj_callVi (pc := 27) G [vI a3] mf_X11_isCrossing (k := 0) (by decide) lm_0 rfl rfl ml_X11_265 (by decide) rfl rfl (Nat.le_of_ble_eq_true rfl) (fun _ h9 => ok_X11_isCrossing X  h9) dX11_seen_27 (fun r6 M7 => ?_)
  refine tj_if_eq (pc := 30) G (tgt := 42) (a2 := w32 r6) dX11_seen_30 (by decide) rfl ?_ ?_
  · refine tj_iconst (pc := 42) G dX11_seen_42 ?_
    exact tj_iret (pc := 43) G dX11_seen_43
  refine tj_aload_n (pc := 33) G 0 dX11_seen_33 rfl rfl ?_
  refine tj_getI (pc := 34) G (k := 0) (j := 39) (j2 := 39) tk_X11 (by decide) lm_0 rfl (by decide) rfl fl_X11_203 dX11_seen_34 ?_
  refine tj_bipush (pc := 37) G dX11_seen_37 rfl ?_
  refine tj_icmp_ne (pc := 39) G (tgt := 44) (a2 := w32 (M7 0 39)) (b2 := 10) dX11_seen_39 (by decide) rfl rfl ?_ ?_
  · refine tj_aload_n (pc := 44) G 0 dX11_seen_44 rfl rfl ?_
    refine tj_getR (pc := 45) G (k := 0) (j := 40) (j2 := 40) tk_X11 (by decide) lm_0 rfl (by decide) rfl fl_X11_98 dX11_seen_45 ?_
    refine tj_aload_n (pc := 48) G 0 dX11_seen_48 rfl rfl ?_
    refine tj_getI (pc := 49) G (k := 0) (j := 39) (j2 := 39) tk_X11 (by decide) lm_0 rfl (by decide) rfl fl_X11_203 dX11_seen_49 ?_
    refine tj_iload_n (pc := 52) G 1 dX11_seen_52 rfl rfl ?_
    refine tj_iast (pc := 53) G (k := 24) (i2 := w32 (M7 0 39)) (n2 := 10) (by decide) lm_24 rfl rfl dX11_seen_53 (fun M8 => ?_)
    refine tj_aload_n (pc := 54) G 0 dX11_seen_54 rfl rfl ?_
    refine tj_getR (pc := 55) G (k := 0) (j := 41) (j2 := 41) tk_X11 (by decide) lm_0 rfl (by decide) rfl fl_X11_101 dX11_seen_55 ?_
    refine tj_aload_n (pc := 58) G 0 dX11_seen_58 rfl rfl ?_
    refine tj_getI (pc := 59) G (k := 0) (j := 39) (j2 := 39) tk_X11 (by decide) lm_0 rfl (by decide) rfl fl_X11_203 dX11_seen_59 ?_
    refine tj_iload_n (pc := 62) G 2 dX11_seen_62 rfl rfl ?_
    refine tj_iast (pc := 63) G (k := 25) (i2 := w32 (M8 0 39)) (n2 := 10) (by decide) lm_25 rfl rfl dX11_seen_63 (fun M9 => ?_)
    refine tj_aload_n (pc := 64) G 0 dX11_seen_64 rfl rfl ?_
    refine tj_getR (pc := 65) G (k := 0) (j := 42) (j2 := 42) tk_X11 (by decide) lm_0 rfl (by decide) rfl fl_X11_104 dX11_seen_65 ?_
    refine tj_aload_n (pc := 68) G 0 dX11_seen_68 rfl rfl ?_
    refine tj_getI (pc := 69) G (k := 0) (j := 39) (j2 := 39) tk_X11 (by decide) lm_0 rfl (by decide) rfl fl_X11_203 dX11_seen_69 ?_
    refine tj_iload_n (pc := 72) G 3 dX11_seen_72 rfl rfl ?_
    refine tj_iast (pc := 73) G (k := 26) (i2 := w32 (M9 0 39)) (n2 := 10) (by decide) lm_26 rfl rfl dX11_seen_73 (fun M10 => ?_)
    refine tj_aload_n (pc := 74) G 0 dX11_seen_74 rfl rfl ?_
    refine tj_dup (pc := 75) G dX11_seen_75 rfl ?_
    refine tj_getI (pc := 76) G (k := 0) (j := 39) (j2 := 39) tk_X11 (by decide) lm_0 rfl (by decide) rfl fl_X11_203 dX11_seen_76 ?_
    refine tj_iconst (pc := 79) G dX11_seen_79 ?_
    refine tj_iadd (pc := 80) G dX11_seen_80 ?_
    refine tj_putI (pc := 81) G (k := 0) (j := 39) (j2 := 39) tk_X11 (by decide) lm_0 rfl (by decide) rfl fl_X11_203 rfl rfl dX11_seen_81 (fun M11 => ?_)
    refine tj_aload_n (pc := 84) G 0 dX11_seen_84 rfl rfl ?_
    refine tj_getI (pc := 85) G (k := 0) (j := 39) (j2 := 39) tk_X11 (by decide) lm_0 rfl (by decide) rfl fl_X11_203 dX11_seen_85 ?_
    exact tj_iret (pc := 88) G dX11_seen_88
  refine tj_iconst (pc := 42) G dX11_seen_42 ?_
  exact tj_iret (pc := 43) G dX11_seen_43

def fx_X11_forget   (M : tp_M) : tp_O :=
(tp_lm (tp_up M 0 0 0) (fun M1 =>
(tp_lt (M1 0 39) (fun x2 =>
(tp_lm (tp_up M1 0 39 0) (fun M3 =>
(some (x2, M3))))))))
set_option maxRecDepth 100000 in
set_option maxHeartbeats 4000000 in
theorem ok_X11_forget (X : tp_X)    {M : tp_M} {res : Int × tp_M} (h : fx_X11_forget   M = some res) : tp_Ret X LM 34 1 yX11_forget (Cond.code yX11_forget cX11_forget 2 (some .int)) 1 [vR X 0] M res := by
  refine tp_ofW (by decide +kernel) rfl rfl (by show _ ≤ 2; exact Nat.le_of_ble_eq_true rfl) h (fun Y G => ?_)
  show tp_J X Y LM 34 2 1 1 (fx_X11_forget   M) M [(0, vR X 0)] [] 0
  unfold fx_X11_forget
  refine tj_aload_n (pc := 0) G 0 dX11_forget_0 rfl rfl ?_
  refine tj_iconst (pc := 1) G dX11_forget_1 ?_
  refine tj_putI (pc := 2) G (k := 0) (j := 0) (j2 := 0) tk_X11 (by decide) lm_0 rfl (by decide) rfl fl_X11_3 rfl rfl dX11_forget_2 (fun M1 => ?_)
  refine tj_aload_n (pc := 5) G 0 dX11_forget_5 rfl rfl ?_
  refine tj_getI (pc := 6) G (k := 0) (j := 39) (j2 := 39) tk_X11 (by decide) lm_0 rfl (by decide) rfl fl_X11_203 dX11_forget_6 ?_
  refine tj_istore_n (pc := 9) G (fun x2 => [(1, vI x2), (0, vR X 0)]) dX11_forget_9 rfl (by decide) (fun _ => rfl) (fun x2 => ?_)
  refine tj_aload_n (pc := 10) G 1 dX11_forget_10 rfl rfl ?_
  refine tj_iconst (pc := 11) G dX11_forget_11 ?_
  refine tj_putI (pc := 12) G (k := 0) (j := 39) (j2 := 39) tk_X11 (by decide) lm_0 rfl (by decide) rfl fl_X11_203 rfl rfl dX11_forget_12 (fun M3 => ?_)
  refine tj_iload_n (pc := 15) G 0 dX11_forget_15 rfl rfl ?_
  exact tj_iret (pc := 16) G dX11_forget_16

def fx_X11_placeBy  (a1 : Int) (a2 : Int) (a3 : Int) (a4 : Int) (M : tp_M) : tp_O :=
(tp_ck (w32 a1) 17 (tp_lt (M 4 (w32 a1)) (fun x1 =>
(tp_ck (w32 a1) 17 (tp_lm (tp_up M 4 (w32 a1) a2) (fun M2 =>
(tp_bd (fx_X11_placeAfter a3 a4 M2) (fun r3 M4 =>
(tp_lt r3 (fun x5 =>
(tp_ck (w32 a1) 17 (tp_lm (tp_up M4 4 (w32 a1) x1) (fun M6 =>
(some (x5, M6)))))))))))))))
set_option maxRecDepth 100000 in
set_option maxHeartbeats 4000000 in
theorem ok_X11_placeBy (X : tp_X)  {a1 : Int} {a2 : Int} {a3 : Int} {a4 : Int}  {M : tp_M} {res : Int × tp_M} (h : fx_X11_placeBy  a1 a2 a3 a4 M = some res) : tp_Ret X LM 34 1 yX11_placeBy (Cond.code yX11_placeBy cX11_placeBy 7 (some .int)) 8 [vR X 0, vI a1, vI a2, vI a3, vI a4] M res := by
  refine tp_ofW (by decide +kernel) rfl rfl (by show _ ≤ 7; exact Nat.le_of_ble_eq_true rfl) h (fun Y G => ?_)
  show tp_J X Y LM 34 7 8 1 (fx_X11_placeBy  a1 a2 a3 a4 M) M [(0, vR X 0), (1, vI a1), (2, vI a2), (3, vI a3), (4, vI a4)] [] 0
  unfold fx_X11_placeBy
  refine tj_aload_n (pc := 0) G 0 dX11_placeBy_0 rfl rfl ?_
  refine tj_getR (pc := 1) G (k := 0) (j := 6) (j2 := 6) tk_X11 (by decide) lm_0 rfl (by decide) rfl fl_X11_38 dX11_placeBy_1 ?_
  refine tj_iload_n (pc := 4) G 1 dX11_placeBy_4 rfl rfl ?_
  refine tj_iald (pc := 5) G (k := 4) (i2 := w32 a1) (n2 := 17) (by decide) lm_4 rfl rfl dX11_placeBy_5 ?_
  refine tj_istore (pc := 6) G (fun x1 => [(5, vI x1), (0, vR X 0), (1, vI a1), (2, vI a2), (3, vI a3), (4, vI a4)]) dX11_placeBy_6 (by decide) (fun _ => rfl) (fun x1 => ?_)
  refine tj_aload_n (pc := 8) G 1 dX11_placeBy_8 rfl rfl ?_
  refine tj_getR (pc := 9) G (k := 0) (j := 6) (j2 := 6) tk_X11 (by decide) lm_0 rfl (by decide) rfl fl_X11_38 dX11_placeBy_9 ?_
  refine tj_iload_n (pc := 12) G 2 dX11_placeBy_12 rfl rfl ?_
  refine tj_iload_n (pc := 13) G 3 dX11_placeBy_13 rfl rfl ?_
  refine tj_iast (pc := 14) G (k := 4) (i2 := w32 a1) (n2 := 17) (by decide) lm_4 rfl rfl dX11_placeBy_14 (fun M2 => ?_)
  refine tj_aload_n (pc := 15) G 1 dX11_placeBy_15 rfl rfl ?_
  refine tj_iload_n (pc := 16) G 4 dX11_placeBy_16 rfl rfl ?_
  refine tj_iload (pc := 17) G 5 dX11_placeBy_17 rfl ?_
  refine tj_callVi (pc := 19) G [vI a3, vI a4] mf_X11_placeAfter (k := 0) (by decide) lm_0 rfl rfl ml_X11_365 (by decide) rfl rfl (Nat.le_of_ble_eq_true rfl) (fun _ h9 => ok_X11_placeAfter X  h9) dX11_placeBy_19 (fun r3 M4 => ?_)
  refine tj_istore (pc := 22) G (fun x5 => [(6, vI x5), (5, vI x1), (0, vR X 0), (1, vI a1), (2, vI a2), (3, vI a3), (4, vI a4)]) dX11_placeBy_22 (by decide) (fun _ => rfl) (fun x5 => ?_)
  refine tj_aload_n (pc := 24) G 2 dX11_placeBy_24 rfl rfl ?_
  refine tj_getR (pc := 25) G (k := 0) (j := 6) (j2 := 6) tk_X11 (by decide) lm_0 rfl (by decide) rfl fl_X11_38 dX11_placeBy_25 ?_
  refine tj_iload_n (pc := 28) G 3 dX11_placeBy_28 rfl rfl ?_
  refine tj_iload (pc := 29) G 1 dX11_placeBy_29 rfl ?_
  refine tj_iast (pc := 31) G (k := 4) (i2 := w32 a1) (n2 := 17) (by decide) lm_4 rfl rfl dX11_placeBy_31 (fun M6 => ?_)
  refine tj_iload (pc := 32) G 0 dX11_placeBy_32 rfl ?_
  exact tj_iret (pc := 34) G dX11_placeBy_34

def fx_X11_numbers_L20 (c1 : Int) (c2 : Int) (c3 : Int) (K77 : Int → tp_M → tp_O) (rec : Int → Int → tp_M → tp_O) (z8 z9 : Int) (M10 : tp_M) : tp_O :=
(if w32 z9 < w32 (M10 0 39) then
(if w32 z8 = 0 then
(K77 z8 M10)
else
(tp_ck (w32 z9) 10 (tp_ck (w32 z9) 10 (tp_bd (fx_X11_placeBy c1 c3 (M10 24 (w32 z9)) (M10 25 (w32 z9)) M10) (fun r12 M13 =>
(tp_ck (w32 z9) 10 (tp_jn1 (fun y14 M15 => 
(tp_lt y14 (fun x16 =>
(tp_lt (z9 + 1) (fun x17 =>
(rec x16 x17 M15)))))) (fun jk69 =>
(if w32 r12 = w32 (M13 26 (w32 z9)) then
(jk69 1 M13)
else
(jk69 0 M13))))))))))
else
(K77 z8 M10))
def fx_X11_numbers_L4 (c1 : Int) (rec : Int → Int → tp_M → tp_O) (z3 z4 : Int) (M5 : tp_M) : tp_O :=
(tp_ck (w32 c1) 8 (if w32 z4 < w32 (M5 2 (w32 c1)) then
(tp_lt 1 (fun x6 =>
(tp_lt 0 (fun x7 =>
(tp_lp2 (fx_X11_numbers_L20 c1 z3 z4 (fun y11 M18 =>
(tp_jn1 (fun y19 M20 => 
(tp_lt (x_or z3 y19) (fun x21 =>
(tp_lt (z4 + 1) (fun x22 =>
(rec x21 x22 M20)))))) (fun jk90 =>
(if w32 y11 = 0 then
(jk90 0 M18)
else
(jk90 (x_shl 1 z4) M18)))))) tp_F x6 x7 M5)))))
else
(some (z3, M5))))
def fx_X11_numbers  (a1 : Int) (M : tp_M) : tp_O :=
(tp_lt 0 (fun x1 =>
(tp_lt 0 (fun x2 =>
(tp_lp2 (fx_X11_numbers_L4 a1 ) tp_F x1 x2 M)))))
set_option maxRecDepth 100000 in
set_option maxHeartbeats 4000000 in
theorem fx_X11_numbers_L20_ok {X : tp_X} {Y : tp_Y} (G : tp_Ok X Y 34 cX11_numbers 6 RX11 (some .int))  {c1 : Int} {c2 : Int} {c3 : Int} {K77 : Int → tp_M → tp_O}   (hK77 : ∀ (y11 : Int) (M9 : tp_M), tp_J X Y LM 34 6 9 1 (K77 y11 M9) M9 [(0, vR X 0), (1, vI c1), (2, vI c2), (3, vI c3), (4, vI y11)] [] 77) (n : Nat) : ∀ (z8 z9 : Int) (M10 : tp_M), tp_J X Y LM 34 6 9 1 (tp_lp2 (fx_X11_numbers_L20  c1 c2 c3 K77) n z8 z9 M10) M10 [(0, vR X 0), (1, vI c1), (2, vI c2), (3, vI c3), (4, vI z8), (5, vI z9)] [] 20 := by
  refine tp_lp2_ok (P := fun o z8 z9 M10 => tp_J X Y LM 34 6 9 1 (o) M10 [(0, vR X 0), (1, vI c1), (2, vI c2), (3, vI c3), (4, vI z8), (5, vI z9)] [] 20) (fun z8 z9 M10 => tj_none) (fun rec hrec z8 z9 M10 => ?_) n
  unfold fx_X11_numbers_L20
  refine tj_iload (pc := 20) G 5 dX11_numbers_20 rfl ?_
  refine tj_aload_n (pc := 22) G 0 dX11_numbers_22 rfl rfl ?_
  refine tj_getI (pc := 23) G (k := 0) (j := 39) (j2 := 39) tk_X11 (by decide) lm_0 rfl (by decide) rfl fl_X11_203 dX11_numbers_23 ?_
  refine tj_icmp_ge (pc := 26) G (tgt := 77) (a2 := w32 z9) (b2 := w32 (M10 0 39)) dX11_numbers_26 (by decide) rfl rfl ?_ ?_
  · exact tj_sub [0, 1, 2, 3, 4] rfl (hK77 z8 M10)
  refine tj_iload (pc := 29) G 4 dX11_numbers_29 rfl ?_
  refine tj_if_eq (pc := 31) G (tgt := 77) (a2 := w32 z8) dX11_numbers_31 (by decide) rfl ?_ ?_
  · exact tj_sub [0, 1, 2, 3, 4] rfl (hK77 z8 M10)
  refine tj_aload_n (pc := 34) G 0 dX11_numbers_34 rfl rfl ?_
  refine tj_iload_n (pc := 35) G 1 dX11_numbers_35 rfl rfl ?_
  refine tj_iload_n (pc := 36) G 3 dX11_numbers_36 rfl rfl ?_
  refine tj_aload_n (pc := 37) G 0 dX11_numbers_37 rfl rfl ?_
  refine tj_getR (pc := 38) G (k := 0) (j := 40) (j2 := 40) tk_X11 (by decide) lm_0 rfl (by decide) rfl fl_X11_98 dX11_numbers_38 ?_
  refine tj_iload (pc := 41) G 5 dX11_numbers_41 rfl ?_
  refine tj_iald (pc := 43) G (k := 24) (i2 := w32 z9) (n2 := 10) (by decide) lm_24 rfl rfl dX11_numbers_43 ?_
  refine tj_aload_n (pc := 44) G 0 dX11_numbers_44 rfl rfl ?_
  refine tj_getR (pc := 45) G (k := 0) (j := 41) (j2 := 41) tk_X11 (by decide) lm_0 rfl (by decide) rfl fl_X11_101 dX11_numbers_45 ?_
  refine tj_iload (pc := 48) G 5 dX11_numbers_48 rfl ?_
  refine tj_iald (pc := 50) G (k := 25) (i2 := w32 z9) (n2 := 10) (by decide) lm_25 rfl rfl dX11_numbers_50 ?_
  refine tj_callVi (pc := 51) G [vI c1, vI c3, vI (M10 24 (w32 z9)), vI (M10 25 (w32 z9))] mf_X11_placeBy (k := 0) (by decide) lm_0 rfl rfl ml_X11_450 (by decide) rfl rfl (Nat.le_of_ble_eq_true rfl) (fun _ h9 => ok_X11_placeBy X  h9) dX11_numbers_51 (fun r12 M13 => ?_)
  refine tj_aload_n (pc := 54) G 0 dX11_numbers_54 rfl rfl ?_
  refine tj_getR (pc := 55) G (k := 0) (j := 42) (j2 := 42) tk_X11 (by decide) lm_0 rfl (by decide) rfl fl_X11_104 dX11_numbers_55 ?_
  refine tj_iload (pc := 58) G 5 dX11_numbers_58 rfl ?_
  refine tj_iald (pc := 60) G (k := 26) (i2 := w32 z9) (n2 := 10) (by decide) lm_26 rfl rfl dX11_numbers_60 ?_
  refine tj_jn1 (fun y14 => [(0, vR X 0), (1, vI c1), (2, vI c2), (3, vI c3), (5, vI z9)]) (fun y14 => [vI y14]) 69 (fun y14 M15 => ?_) (fun jk69 hj69 => ?_)
  · refine tj_istore (pc := 69) G (fun x16 => [(4, vI x16), (0, vR X 0), (1, vI c1), (2, vI c2), (3, vI c3), (5, vI z9)]) dX11_numbers_69 (by decide) (fun _ => rfl) (fun x16 => ?_)
    refine tj_iinc (pc := 71) G 5 (fun x17 => [(5, vI x17), (4, vI x16), (0, vR X 0), (1, vI c1), (2, vI c2), (3, vI c3)]) dX11_numbers_71 rfl (by decide) (fun _ => rfl) (fun x17 => ?_)
    refine tj_goto (pc := 74) G (tgt := 20) dX11_numbers_74 (by decide) ?_
    exact tj_sub [2, 3, 4, 5, 1, 0] rfl (hrec x16 x17 M15)
  refine tj_icmp_ne (pc := 61) G (tgt := 68) (a2 := w32 r12) (b2 := w32 (M13 26 (w32 z9))) dX11_numbers_61 (by decide) rfl rfl ?_ ?_
  · refine tj_iconst (pc := 68) G dX11_numbers_68 ?_
    exact tj_sub [0, 1, 2, 3, 5] rfl (hj69 0 M13)
  refine tj_iconst (pc := 64) G dX11_numbers_64 ?_
  refine tj_goto (pc := 65) G (tgt := 69) dX11_numbers_65 (by decide) ?_
  exact tj_sub [0, 1, 2, 3, 5] rfl (hj69 1 M13)
set_option maxRecDepth 100000 in
set_option maxHeartbeats 4000000 in
theorem fx_X11_numbers_L4_ok {X : tp_X} {Y : tp_Y} (G : tp_Ok X Y 34 cX11_numbers 6 RX11 (some .int))  {c1 : Int}    (n : Nat) : ∀ (z3 z4 : Int) (M5 : tp_M), tp_J X Y LM 34 6 9 1 (tp_lp2 (fx_X11_numbers_L4  c1 ) n z3 z4 M5) M5 [(0, vR X 0), (1, vI c1), (2, vI z3), (3, vI z4)] [] 4 := by
  refine tp_lp2_ok (P := fun o z3 z4 M5 => tp_J X Y LM 34 6 9 1 (o) M5 [(0, vR X 0), (1, vI c1), (2, vI z3), (3, vI z4)] [] 4) (fun z3 z4 M5 => tj_none) (fun rec hrec z3 z4 M5 => ?_) n
  unfold fx_X11_numbers_L4
  refine tj_iload_n (pc := 4) G 3 dX11_numbers_4 rfl rfl ?_
  refine tj_aload_n (pc := 5) G 0 dX11_numbers_5 rfl rfl ?_
  refine tj_getR (pc := 6) G (k := 0) (j := 4) (j2 := 4) tk_X11 (by decide) lm_0 rfl (by decide) rfl fl_X11_31 dX11_numbers_6 ?_
  refine tj_iload_n (pc := 9) G 1 dX11_numbers_9 rfl rfl ?_
  refine tj_iald (pc := 10) G (k := 2) (i2 := w32 c1) (n2 := 8) (by decide) lm_2 rfl rfl dX11_numbers_10 ?_
  refine tj_icmp_ge (pc := 11) G (tgt := 98) (a2 := w32 z4) (b2 := w32 (M5 2 (w32 c1))) dX11_numbers_11 (by decide) rfl rfl ?_ ?_
  · refine tj_iload_n (pc := 98) G 2 dX11_numbers_98 rfl rfl ?_
    exact tj_iret (pc := 99) G dX11_numbers_99
  refine tj_iconst (pc := 14) G dX11_numbers_14 ?_
  refine tj_istore (pc := 15) G (fun x6 => [(4, vI x6), (0, vR X 0), (1, vI c1), (2, vI z3), (3, vI z4)]) dX11_numbers_15 (by decide) (fun _ => rfl) (fun x6 => ?_)
  refine tj_iconst (pc := 17) G dX11_numbers_17 ?_
  refine tj_istore (pc := 18) G (fun x7 => [(5, vI x7), (4, vI x6), (0, vR X 0), (1, vI c1), (2, vI z3), (3, vI z4)]) dX11_numbers_18 (by decide) (fun _ => rfl) (fun x7 => ?_)
  refine tj_sub [2, 3, 4, 5, 1, 0] rfl (fx_X11_numbers_L20_ok G    (fun y11 M18 => ?_) tp_F x6 x7 M5)
  refine tj_iload_n (pc := 77) G 2 dX11_numbers_77 rfl rfl ?_
  refine tj_iload (pc := 78) G 4 dX11_numbers_78 rfl ?_
  refine tj_jn1 (fun y19 => [(0, vR X 0), (1, vI c1), (3, vI z4)]) (fun y19 => [vI y19, vI z3]) 90 (fun y19 M20 => ?_) (fun jk90 hj90 => ?_)
  · refine tj_ior (pc := 90) G dX11_numbers_90 ?_
    refine tj_istore_n (pc := 91) G (fun x21 => [(2, vI x21), (0, vR X 0), (1, vI c1), (3, vI z4)]) dX11_numbers_91 rfl (by decide) (fun _ => rfl) (fun x21 => ?_)
    refine tj_iinc (pc := 92) G 3 (fun x22 => [(3, vI x22), (2, vI x21), (0, vR X 0), (1, vI c1)]) dX11_numbers_92 rfl (by decide) (fun _ => rfl) (fun x22 => ?_)
    refine tj_goto (pc := 95) G (tgt := 4) dX11_numbers_95 (by decide) ?_
    exact tj_sub [2, 3, 1, 0] rfl (hrec x21 x22 M20)
  refine tj_if_eq (pc := 80) G (tgt := 89) (a2 := w32 y11) dX11_numbers_80 (by decide) rfl ?_ ?_
  · refine tj_iconst (pc := 89) G dX11_numbers_89 ?_
    exact tj_sub [0, 1, 3] rfl (hj90 0 M18)
  refine tj_iconst (pc := 83) G dX11_numbers_83 ?_
  refine tj_iload_n (pc := 84) G 3 dX11_numbers_84 rfl rfl ?_
  refine tj_ishl (pc := 85) G dX11_numbers_85 ?_
  refine tj_goto (pc := 86) G (tgt := 90) dX11_numbers_86 (by decide) ?_
  exact tj_sub [0, 1, 3] rfl (hj90 (x_shl 1 z4) M18)
set_option maxRecDepth 100000 in
set_option maxHeartbeats 4000000 in
theorem ok_X11_numbers (X : tp_X)  {a1 : Int}  {M : tp_M} {res : Int × tp_M} (h : fx_X11_numbers  a1 M = some res) : tp_Ret X LM 34 1 yX11_numbers (Cond.code yX11_numbers cX11_numbers 6 (some .int)) 9 [vR X 0, vI a1] M res := by
  refine tp_ofW (by decide +kernel) rfl rfl (by show _ ≤ 6; exact Nat.le_of_ble_eq_true rfl) h (fun Y G => ?_)
  show tp_J X Y LM 34 6 9 1 (fx_X11_numbers  a1 M) M [(0, vR X 0), (1, vI a1)] [] 0
  unfold fx_X11_numbers
  refine tj_iconst (pc := 0) G dX11_numbers_0 ?_
  refine tj_istore_n (pc := 1) G (fun x1 => [(2, vI x1), (0, vR X 0), (1, vI a1)]) dX11_numbers_1 rfl (by decide) (fun _ => rfl) (fun x1 => ?_)
  refine tj_iconst (pc := 2) G dX11_numbers_2 ?_
  refine tj_istore_n (pc := 3) G (fun x2 => [(3, vI x2), (2, vI x1), (0, vR X 0), (1, vI a1)]) dX11_numbers_3 rfl (by decide) (fun _ => rfl) (fun x2 => ?_)
  refine tj_sub [2, 3, 1, 0] rfl (fx_X11_numbers_L4_ok G     tp_F x1 x2 M)

def fx_X11_guess  (a1 : Int) (M : tp_M) : tp_O :=
(tp_lm (tp_up M 0 0 0) (fun M1 =>
(tp_bd (fx_X11_isOut a1 M1) (fun r2 M3 =>
(if w32 r2 = 0 then
(some ((-1), M3))
else
(tp_bd (fx_X11_numbers a1 M3) (fun r4 M5 =>
(tp_lt r4 (fun x6 =>
(tp_lm (tp_up M5 0 1 0) (fun M7 =>
(tp_bd (fx_J6_bitCount_0f7a4 x6 M7) (fun r8 M9 =>
(tp_bd (fx_X11_enters (w32 r8) M9) (fun r10 M11 =>
(tp_ck (w32 a1) 17 (tp_bd (fx_X11_has x6 (M11 4 (w32 a1)) M11) (fun r12 M13 =>
(tp_bd (fx_X11_flag r12 M13) (fun r14 M15 =>
(tp_bd (fx_X11_enters (w32 r14) M15) (fun r16 M17 =>
(some (x6, M17))))))))))))))))))))))))
set_option maxRecDepth 100000 in
set_option maxHeartbeats 4000000 in
theorem ok_X11_guess (X : tp_X)  {a1 : Int}  {M : tp_M} {res : Int × tp_M} (h : fx_X11_guess  a1 M = some res) : tp_Ret X LM 34 1 yX11_guess (Cond.code yX11_guess cX11_guess 3 (some .int)) 10 [vR X 0, vI a1] M res := by
  refine tp_ofW (by decide +kernel) rfl rfl (by show _ ≤ 3; exact Nat.le_of_ble_eq_true rfl) h (fun Y G => ?_)
  show tp_J X Y LM 34 3 10 1 (fx_X11_guess  a1 M) M [(0, vR X 0), (1, vI a1)] [] 0
  unfold fx_X11_guess
  refine tj_aload_n (pc := 0) G 0 dX11_guess_0 rfl rfl ?_
  refine tj_iconst (pc := 1) G dX11_guess_1 ?_
  refine tj_putI (pc := 2) G (k := 0) (j := 0) (j2 := 0) tk_X11 (by decide) lm_0 rfl (by decide) rfl fl_X11_3 rfl rfl dX11_guess_2 (fun M1 => ?_)
  refine tj_aload_n (pc := 5) G 0 dX11_guess_5 rfl rfl ?_
  refine tj_iload_n (pc := 6) G 1 dX11_guess_6 rfl rfl ?_
  refine tj_callVi (pc := 7) G [vI a1] mf_X11_isOut (k := 0) (by decide) lm_0 rfl rfl ml_X11_280 (by decide) rfl rfl (Nat.le_of_ble_eq_true rfl) (fun _ h9 => ok_X11_isOut X  h9) dX11_guess_7 (fun r2 M3 => ?_)
  refine tj_if_ne (pc := 10) G (tgt := 15) (a2 := w32 r2) dX11_guess_10 (by decide) rfl ?_ ?_
  · refine tj_aload_n (pc := 15) G 0 dX11_guess_15 rfl rfl ?_
    refine tj_iload_n (pc := 16) G 1 dX11_guess_16 rfl rfl ?_
    refine tj_callVi (pc := 17) G [vI a1] mf_X11_numbers (k := 0) (by decide) lm_0 rfl rfl ml_X11_454 (by decide) rfl rfl (Nat.le_of_ble_eq_true rfl) (fun _ h9 => ok_X11_numbers X  h9) dX11_guess_17 (fun r4 M5 => ?_)
    refine tj_istore_n (pc := 20) G (fun x6 => [(2, vI x6), (0, vR X 0), (1, vI a1)]) dX11_guess_20 rfl (by decide) (fun _ => rfl) (fun x6 => ?_)
    refine tj_aload_n (pc := 21) G 1 dX11_guess_21 rfl rfl ?_
    refine tj_iconst (pc := 22) G dX11_guess_22 ?_
    refine tj_putI (pc := 23) G (k := 0) (j := 1) (j2 := 1) tk_X11 (by decide) lm_0 rfl (by decide) rfl fl_X11_15 rfl rfl dX11_guess_23 (fun M7 => ?_)
    refine tj_aload_n (pc := 26) G 1 dX11_guess_26 rfl rfl ?_
    refine tj_iload_n (pc := 27) G 0 dX11_guess_27 rfl rfl ?_
    refine tj_callSi (pc := 28) G [vI x6] mf_J6_bitCount_0f7a4 ml_X11_397 (by decide) rfl rfl (Nat.le_of_ble_eq_true rfl) (fun _ h9 => ok_J6_bitCount_0f7a4 X  h9) dX11_guess_28 (fun r8 M9 => ?_)
    refine tj_i2l (pc := 31) G (b := w32 r8) dX11_guess_31 rfl ?_
    refine tj_callVv (pc := 32) G [vL (w32 r8)] mf_X11_enters (k := 0) (by decide) lm_0 rfl rfl ml_X11_18 (by decide) rfl rfl (Nat.le_of_ble_eq_true rfl) (fun _ h9 => ok_X11_enters X  h9) dX11_guess_32 (fun r10 M11 => ?_)
    refine tj_aload_n (pc := 35) G 1 dX11_guess_35 rfl rfl ?_
    refine tj_iload_n (pc := 36) G 0 dX11_guess_36 rfl rfl ?_
    refine tj_aload_n (pc := 37) G 1 dX11_guess_37 rfl rfl ?_
    refine tj_getR (pc := 38) G (k := 0) (j := 6) (j2 := 6) tk_X11 (by decide) lm_0 rfl (by decide) rfl fl_X11_38 dX11_guess_38 ?_
    refine tj_iload_n (pc := 41) G 2 dX11_guess_41 rfl rfl ?_
    refine tj_iald (pc := 42) G (k := 4) (i2 := w32 a1) (n2 := 17) (by decide) lm_4 rfl rfl dX11_guess_42 ?_
    refine tj_callSi (pc := 43) G [vI x6, vI (M11 4 (w32 a1))] mf_X11_has ml_X11_183 (by decide) rfl rfl (Nat.le_of_ble_eq_true rfl) (fun _ h9 => ok_X11_has X  h9) dX11_guess_43 (fun r12 M13 => ?_)
    refine tj_callSi (pc := 46) G [vI r12] mf_X11_flag ml_X11_151 (by decide) rfl rfl (Nat.le_of_ble_eq_true rfl) (fun _ h9 => ok_X11_flag X  h9) dX11_guess_46 (fun r14 M15 => ?_)
    refine tj_i2l (pc := 49) G (b := w32 r14) dX11_guess_49 rfl ?_
    refine tj_callVv (pc := 50) G [vL (w32 r14)] mf_X11_enters (k := 0) (by decide) lm_0 rfl rfl ml_X11_18 (by decide) rfl rfl (Nat.le_of_ble_eq_true rfl) (fun _ h9 => ok_X11_enters X  h9) dX11_guess_50 (fun r16 M17 => ?_)
    refine tj_iload_n (pc := 53) G 0 dX11_guess_53 rfl rfl ?_
    exact tj_iret (pc := 54) G dX11_guess_54
  refine tj_iconst (pc := 13) G dX11_guess_13 ?_
  exact tj_iret (pc := 14) G dX11_guess_14

def fx_X11_looks_L63 (c1 : Int) (c2 : Int) (c3 : Int) (c4 : Int) (c5 : Int) (c6 : Int) (c7 : Int) (K84 : tp_M → tp_O) (rec : Int → tp_M → tp_O) (z25 : Int) (M26 : tp_M) : tp_O :=
(if w32 z25 < 8 then
(tp_ck (w32 z25) 8 (tp_lm (tp_up M26 27 (w32 z25) 0) (fun M27 =>
(tp_lt (z25 + 1) (fun x28 =>
(rec x28 M27))))))
else
(K84 M26))
def fx_X11_looks_L87 (c1 : Int) (c2 : Int) (c3 : Int) (c4 : Int) (c5 : Int) (c6 : Int) (K151 : Int → tp_M → tp_O) (rec : Int → Int → tp_M → tp_O) (z31 z32 : Int) (M33 : tp_M) : tp_O :=
(tp_ck (w32 c1) 8 (if w32 z32 < w32 (M33 2 (w32 c1)) then
(tp_bd (fx_X11_has c2 z32 M33) (fun r35 M36 =>
(tp_jn1 (fun y37 M38 => 
(tp_lt (z32 + 1) (fun x39 =>
(rec y37 x39 M38)))) (fun jk145 =>
(if w32 r35 = 0 then
(jk145 z31 M36)
else
(tp_bd (fx_X11_placeBy c1 z32 c5 c6 M36) (fun r40 M41 =>
(tp_lt r40 (fun x42 =>
(tp_ck (w32 x42) 8 (tp_ck (w32 x42) 8 (tp_lm (tp_up M41 27 (w32 x42) ((M41 27 (w32 x42)) + 1)) (fun M43 =>
(tp_ck (w32 x42) 8 (tp_lt (max (w32 z31) (w32 (M43 27 (w32 x42)))) (fun x44 =>
(jk145 x44 M43)))))))))))))))))
else
(K151 z31 M33)))
def fx_X11_looks_L50 (c1 : Int) (c2 : Int) (c5 : Int) (K186 : Int → Int → tp_M → tp_O) (rec : Int → Int → Int → tp_M → tp_O) (z17 z18 z19 : Int) (M20 : tp_M) : tp_O :=
(if w32 z19 ≤ 20 then
(tp_lt 0 (fun x23 =>
(tp_lt 0 (fun x24 =>
(tp_lp1 (fx_X11_looks_L63 c1 c2 z17 z18 c5 z19 x23 (fun M29 =>
(tp_lt 0 (fun x30 =>
(tp_lp2 (fx_X11_looks_L87 c1 c2 z17 z18 c5 z19 (fun y34 M45 =>
(tp_jn1 (fun y46 M47 => 
(tp_lt y46 (fun x48 =>
(tp_lt (min (w32 z18) (w32 y34)) (fun x49 =>
(tp_lt (z19 + 1) (fun x50 =>
(rec x48 x49 x50 M47)))))))) (fun jk170 =>
(if w32 y34 < w32 z18 then
(jk170 ((100 * c5) + z19) M45)
else
(jk170 z17 M45)))))) tp_F x23 x30 M29))))) tp_F x24 M20)))))
else
(K186 z17 z18 M20))
def fx_X11_looks_L38 (c1 : Int) (c2 : Int) (K192 : Int → Int → tp_M → tp_O) (rec : Int → Int → Int → tp_M → tp_O) (z10 z11 z12 : Int) (M13 : tp_M) : tp_O :=
(if w32 z12 < w32 (M13 0 3) then
(tp_lt 0 (fun x16 =>
(tp_lp3 (fx_X11_looks_L50 c1 c2 z12 (fun y21 y22 M51 =>
(tp_lt (z12 + 1) (fun x52 =>
(rec y21 y22 x52 M51))))) tp_F z10 z11 x16 M13)))
else
(K192 z10 z11 M13))
def fx_X11_looks  (a1 : Int) (M : tp_M) : tp_O :=
(tp_lm (tp_up M 0 0 0) (fun M1 =>
(tp_bd (fx_X11_isOut a1 M1) (fun r2 M3 =>
(if w32 r2 = 0 then
(some ((-1), M3))
else
(tp_bd (fx_X11_numbers a1 M3) (fun r4 M5 =>
(tp_lt r4 (fun x6 =>
(if w32 x6 = 0 then
(some ((-2), M5))
else
(tp_lt (-1) (fun x7 =>
(tp_lt 1000000 (fun x8 =>
(tp_lt 1 (fun x9 =>
(tp_lp3 (fx_X11_looks_L38 a1 x6 (fun y14 y15 M53 =>
(tp_lm (tp_up M53 0 1 0) (fun M54 =>
(tp_bd (fx_X11_enters (w32 y15) M54) (fun r55 M56 =>
(some (y14, M56)))))))) tp_F x7 x8 x9 M5)))))))))))))))))
set_option maxRecDepth 100000 in
set_option maxHeartbeats 4000000 in
theorem fx_X11_looks_L63_ok {X : tp_X} {Y : tp_Y} (G : tp_Ok X Y 34 cX11_looks 10 RX11 (some .int))  {c1 : Int} {c2 : Int} {c3 : Int} {c4 : Int} {c5 : Int} {c6 : Int} {c7 : Int} {K84 : tp_M → tp_O}   (hK84 : ∀ (M9 : tp_M), tp_J X Y LM 34 10 10 1 (K84  M9) M9 [(0, vR X 0), (1, vI c1), (2, vI c2), (3, vI c3), (4, vI c4), (5, vI c5), (6, vI c6), (7, vI c7)] [] 84) (n : Nat) : ∀ (z25 : Int) (M26 : tp_M), tp_J X Y LM 34 10 10 1 (tp_lp1 (fx_X11_looks_L63  c1 c2 c3 c4 c5 c6 c7 K84) n z25 M26) M26 [(0, vR X 0), (1, vI c1), (2, vI c2), (3, vI c3), (4, vI c4), (5, vI c5), (6, vI c6), (7, vI c7), (8, vI z25)] [] 63 := by
  refine tp_lp1_ok (P := fun o z25 M26 => tp_J X Y LM 34 10 10 1 (o) M26 [(0, vR X 0), (1, vI c1), (2, vI c2), (3, vI c3), (4, vI c4), (5, vI c5), (6, vI c6), (7, vI c7), (8, vI z25)] [] 63) (fun z25 M26 => tj_none) (fun rec hrec z25 M26 => ?_) n
  unfold fx_X11_looks_L63
  refine tj_iload (pc := 63) G 8 dX11_looks_63 rfl ?_
  refine tj_bipush (pc := 65) G dX11_looks_65 rfl ?_
  refine tj_icmp_ge (pc := 67) G (tgt := 84) (a2 := w32 z25) (b2 := 8) dX11_looks_67 (by decide) rfl rfl ?_ ?_
  · exact tj_sub [0, 1, 2, 3, 4, 5, 6, 7] rfl (hK84  M26)
  refine tj_aload_n (pc := 70) G 0 dX11_looks_70 rfl rfl ?_
  refine tj_getR (pc := 71) G (k := 0) (j := 43) (j2 := 43) tk_X11 (by decide) lm_0 rfl (by decide) rfl fl_X11_107 dX11_looks_71 ?_
  refine tj_iload (pc := 74) G 8 dX11_looks_74 rfl ?_
  refine tj_iconst (pc := 76) G dX11_looks_76 ?_
  refine tj_iast (pc := 77) G (k := 27) (i2 := w32 z25) (n2 := 8) (by decide) lm_27 rfl rfl dX11_looks_77 (fun M27 => ?_)
  refine tj_iinc (pc := 78) G 8 (fun x28 => [(8, vI x28), (0, vR X 0), (1, vI c1), (2, vI c2), (3, vI c3), (4, vI c4), (5, vI c5), (6, vI c6), (7, vI c7)]) dX11_looks_78 rfl (by decide) (fun _ => rfl) (fun x28 => ?_)
  refine tj_goto (pc := 81) G (tgt := 63) dX11_looks_81 (by decide) ?_
  exact tj_sub [1, 2, 3, 4, 5, 6, 7, 8, 0] rfl (hrec x28 M27)
set_option maxRecDepth 100000 in
set_option maxHeartbeats 4000000 in
theorem fx_X11_looks_L87_ok {X : tp_X} {Y : tp_Y} (G : tp_Ok X Y 34 cX11_looks 10 RX11 (some .int))  {c1 : Int} {c2 : Int} {c3 : Int} {c4 : Int} {c5 : Int} {c6 : Int} {K151 : Int → tp_M → tp_O}   (hK151 : ∀ (y34 : Int) (M9 : tp_M), tp_J X Y LM 34 10 10 1 (K151 y34 M9) M9 [(0, vR X 0), (1, vI c1), (2, vI c2), (3, vI c3), (4, vI c4), (5, vI c5), (6, vI c6), (7, vI y34)] [] 151) (n : Nat) : ∀ (z31 z32 : Int) (M33 : tp_M), tp_J X Y LM 34 10 10 1 (tp_lp2 (fx_X11_looks_L87  c1 c2 c3 c4 c5 c6 K151) n z31 z32 M33) M33 [(0, vR X 0), (1, vI c1), (2, vI c2), (3, vI c3), (4, vI c4), (5, vI c5), (6, vI c6), (7, vI z31), (8, vI z32)] [] 87 := by
  refine tp_lp2_ok (P := fun o z31 z32 M33 => tp_J X Y LM 34 10 10 1 (o) M33 [(0, vR X 0), (1, vI c1), (2, vI c2), (3, vI c3), (4, vI c4), (5, vI c5), (6, vI c6), (7, vI z31), (8, vI z32)] [] 87) (fun z31 z32 M33 => tj_none) (fun rec hrec z31 z32 M33 => ?_) n
  unfold fx_X11_looks_L87
  refine tj_iload (pc := 87) G 8 dX11_looks_87 rfl ?_
  refine tj_aload_n (pc := 89) G 0 dX11_looks_89 rfl rfl ?_
  refine tj_getR (pc := 90) G (k := 0) (j := 4) (j2 := 4) tk_X11 (by decide) lm_0 rfl (by decide) rfl fl_X11_31 dX11_looks_90 ?_
  refine tj_iload_n (pc := 93) G 1 dX11_looks_93 rfl rfl ?_
  refine tj_iald (pc := 94) G (k := 2) (i2 := w32 c1) (n2 := 8) (by decide) lm_2 rfl rfl dX11_looks_94 ?_
  refine tj_icmp_ge (pc := 95) G (tgt := 151) (a2 := w32 z32) (b2 := w32 (M33 2 (w32 c1))) dX11_looks_95 (by decide) rfl rfl ?_ ?_
  · exact tj_sub [0, 1, 2, 3, 4, 5, 6, 7] rfl (hK151 z31 M33)
  refine tj_iload_n (pc := 98) G 2 dX11_looks_98 rfl rfl ?_
  refine tj_iload (pc := 99) G 8 dX11_looks_99 rfl ?_
  refine tj_callSi (pc := 101) G [vI c2, vI z32] mf_X11_has ml_X11_183 (by decide) rfl rfl (Nat.le_of_ble_eq_true rfl) (fun _ h9 => ok_X11_has X  h9) dX11_looks_101 (fun r35 M36 => ?_)
  refine tj_jn1 (fun y37 => [(0, vR X 0), (1, vI c1), (2, vI c2), (3, vI c3), (4, vI c4), (5, vI c5), (6, vI c6), (7, vI y37), (8, vI z32)]) (fun y37 => []) 145 (fun y37 M38 => ?_) (fun jk145 hj145 => ?_)
  · refine tj_iinc (pc := 145) G 8 (fun x39 => [(8, vI x39), (0, vR X 0), (1, vI c1), (2, vI c2), (3, vI c3), (4, vI c4), (5, vI c5), (6, vI c6), (7, vI y37)]) dX11_looks_145 rfl (by decide) (fun _ => rfl) (fun x39 => ?_)
    refine tj_goto (pc := 148) G (tgt := 87) dX11_looks_148 (by decide) ?_
    exact tj_sub [1, 2, 3, 4, 5, 6, 7, 8, 0] rfl (hrec y37 x39 M38)
  refine tj_if_eq (pc := 104) G (tgt := 145) (a2 := w32 r35) dX11_looks_104 (by decide) rfl ?_ ?_
  · exact tj_sub [0, 1, 2, 3, 4, 5, 6, 7, 8] rfl (hj145 z31 M36)
  refine tj_aload_n (pc := 107) G 0 dX11_looks_107 rfl rfl ?_
  refine tj_iload_n (pc := 108) G 1 dX11_looks_108 rfl rfl ?_
  refine tj_iload (pc := 109) G 8 dX11_looks_109 rfl ?_
  refine tj_iload (pc := 111) G 5 dX11_looks_111 rfl ?_
  refine tj_iload (pc := 113) G 6 dX11_looks_113 rfl ?_
  refine tj_callVi (pc := 115) G [vI c1, vI z32, vI c5, vI c6] mf_X11_placeBy (k := 0) (by decide) lm_0 rfl rfl ml_X11_450 (by decide) rfl rfl (Nat.le_of_ble_eq_true rfl) (fun _ h9 => ok_X11_placeBy X  h9) dX11_looks_115 (fun r40 M41 => ?_)
  refine tj_istore (pc := 118) G (fun x42 => [(9, vI x42), (0, vR X 0), (1, vI c1), (2, vI c2), (3, vI c3), (4, vI c4), (5, vI c5), (6, vI c6), (7, vI z31), (8, vI z32)]) dX11_looks_118 (by decide) (fun _ => rfl) (fun x42 => ?_)
  refine tj_aload_n (pc := 120) G 1 dX11_looks_120 rfl rfl ?_
  refine tj_getR (pc := 121) G (k := 0) (j := 43) (j2 := 43) tk_X11 (by decide) lm_0 rfl (by decide) rfl fl_X11_107 dX11_looks_121 ?_
  refine tj_iload (pc := 124) G 0 dX11_looks_124 rfl ?_
  refine tj_dup2 (pc := 126) G dX11_looks_126 rfl rfl ?_
  refine tj_iald (pc := 127) G (k := 27) (i2 := w32 x42) (n2 := 8) (by decide) lm_27 rfl rfl dX11_looks_127 ?_
  refine tj_iconst (pc := 128) G dX11_looks_128 ?_
  refine tj_iadd (pc := 129) G dX11_looks_129 ?_
  refine tj_iast (pc := 130) G (k := 27) (i2 := w32 x42) (n2 := 8) (by decide) lm_27 rfl rfl dX11_looks_130 (fun M43 => ?_)
  refine tj_iload (pc := 131) G 8 dX11_looks_131 rfl ?_
  refine tj_aload_n (pc := 133) G 1 dX11_looks_133 rfl rfl ?_
  refine tj_getR (pc := 134) G (k := 0) (j := 43) (j2 := 43) tk_X11 (by decide) lm_0 rfl (by decide) rfl fl_X11_107 dX11_looks_134 ?_
  refine tj_iload (pc := 137) G 0 dX11_looks_137 rfl ?_
  refine tj_iald (pc := 139) G (k := 27) (i2 := w32 x42) (n2 := 8) (by decide) lm_27 rfl rfl dX11_looks_139 ?_
  refine tj_max (pc := 140) G (a2 := w32 z31) (b2 := w32 (M43 27 (w32 x42))) rfl rfl ml_X11_261 mw_max (by decide) (Nat.le_of_ble_eq_true rfl) dX11_looks_140 ?_
  refine tj_istore (pc := 143) G (fun x44 => [(7, vI x44), (9, vI x42), (0, vR X 0), (1, vI c1), (2, vI c2), (3, vI c3), (4, vI c4), (5, vI c5), (6, vI c6), (8, vI z32)]) dX11_looks_143 (by decide) (fun _ => rfl) (fun x44 => ?_)
  exact tj_sub [2, 3, 4, 5, 6, 7, 8, 0, 9] rfl (hj145 x44 M43)
set_option maxRecDepth 100000 in
set_option maxHeartbeats 4000000 in
theorem fx_X11_looks_L50_ok {X : tp_X} {Y : tp_Y} (G : tp_Ok X Y 34 cX11_looks 10 RX11 (some .int))  {c1 : Int} {c2 : Int} {c5 : Int} {K186 : Int → Int → tp_M → tp_O}   (hK186 : ∀ (y21 y22 : Int) (M9 : tp_M), tp_J X Y LM 34 10 10 1 (K186 y21 y22 M9) M9 [(0, vR X 0), (1, vI c1), (2, vI c2), (3, vI y21), (4, vI y22), (5, vI c5)] [] 186) (n : Nat) : ∀ (z17 z18 z19 : Int) (M20 : tp_M), tp_J X Y LM 34 10 10 1 (tp_lp3 (fx_X11_looks_L50  c1 c2 c5 K186) n z17 z18 z19 M20) M20 [(0, vR X 0), (1, vI c1), (2, vI c2), (3, vI z17), (4, vI z18), (5, vI c5), (6, vI z19)] [] 50 := by
  refine tp_lp3_ok (P := fun o z17 z18 z19 M20 => tp_J X Y LM 34 10 10 1 (o) M20 [(0, vR X 0), (1, vI c1), (2, vI c2), (3, vI z17), (4, vI z18), (5, vI c5), (6, vI z19)] [] 50) (fun z17 z18 z19 M20 => tj_none) (fun rec hrec z17 z18 z19 M20 => ?_) n
  unfold fx_X11_looks_L50
  refine tj_iload (pc := 50) G 6 dX11_looks_50 rfl ?_
  refine tj_bipush (pc := 52) G dX11_looks_52 rfl ?_
  refine tj_icmp_gt (pc := 54) G (tgt := 186) (a2 := w32 z19) (b2 := 20) dX11_looks_54 (by decide) rfl rfl ?_ ?_
  · exact tj_sub [0, 1, 2, 3, 4, 5] rfl (hK186 z17 z18 M20)
  refine tj_iconst (pc := 57) G dX11_looks_57 ?_
  refine tj_istore (pc := 58) G (fun x23 => [(7, vI x23), (0, vR X 0), (1, vI c1), (2, vI c2), (3, vI z17), (4, vI z18), (5, vI c5), (6, vI z19)]) dX11_looks_58 (by decide) (fun _ => rfl) (fun x23 => ?_)
  refine tj_iconst (pc := 60) G dX11_looks_60 ?_
  refine tj_istore (pc := 61) G (fun x24 => [(8, vI x24), (7, vI x23), (0, vR X 0), (1, vI c1), (2, vI c2), (3, vI z17), (4, vI z18), (5, vI c5), (6, vI z19)]) dX11_looks_61 (by decide) (fun _ => rfl) (fun x24 => ?_)
  refine tj_sub [2, 3, 4, 5, 6, 7, 8, 1, 0] rfl (fx_X11_looks_L63_ok G    (fun M29 => ?_) tp_F x24 M20)
  refine tj_iconst (pc := 84) G dX11_looks_84 ?_
  refine tj_istore (pc := 85) G (fun x30 => [(8, vI x30), (0, vR X 0), (1, vI c1), (2, vI c2), (3, vI z17), (4, vI z18), (5, vI c5), (6, vI z19), (7, vI x23)]) dX11_looks_85 (by decide) (fun _ => rfl) (fun x30 => ?_)
  refine tj_sub [1, 2, 3, 4, 5, 6, 7, 8, 0] rfl (fx_X11_looks_L87_ok G    (fun y34 M45 => ?_) tp_F x23 x30 M29)
  refine tj_iload (pc := 151) G 7 dX11_looks_151 rfl ?_
  refine tj_iload (pc := 153) G 4 dX11_looks_153 rfl ?_
  refine tj_jn1 (fun y46 => [(0, vR X 0), (1, vI c1), (2, vI c2), (4, vI z18), (5, vI c5), (6, vI z19), (7, vI y34)]) (fun y46 => [vI y46]) 170 (fun y46 M47 => ?_) (fun jk170 hj170 => ?_)
  · refine tj_istore_n (pc := 170) G (fun x48 => [(3, vI x48), (0, vR X 0), (1, vI c1), (2, vI c2), (4, vI z18), (5, vI c5), (6, vI z19), (7, vI y34)]) dX11_looks_170 rfl (by decide) (fun _ => rfl) (fun x48 => ?_)
    refine tj_iload (pc := 171) G 4 dX11_looks_171 rfl ?_
    refine tj_iload (pc := 173) G 7 dX11_looks_173 rfl ?_
    refine tj_min (pc := 175) G (a2 := w32 z18) (b2 := w32 y34) rfl rfl ml_X11_142 mw_min (by decide) (Nat.le_of_ble_eq_true rfl) dX11_looks_175 ?_
    refine tj_istore (pc := 178) G (fun x49 => [(4, vI x49), (3, vI x48), (0, vR X 0), (1, vI c1), (2, vI c2), (5, vI c5), (6, vI z19), (7, vI y34)]) dX11_looks_178 (by decide) (fun _ => rfl) (fun x49 => ?_)
    refine tj_iinc (pc := 180) G 6 (fun x50 => [(6, vI x50), (4, vI x49), (3, vI x48), (0, vR X 0), (1, vI c1), (2, vI c2), (5, vI c5), (7, vI y34)]) dX11_looks_180 rfl (by decide) (fun _ => rfl) (fun x50 => ?_)
    refine tj_goto (pc := 183) G (tgt := 50) dX11_looks_183 (by decide) ?_
    exact tj_sub [3, 4, 5, 2, 1, 6, 0] rfl (hrec x48 x49 x50 M47)
  refine tj_icmp_ge (pc := 155) G (tgt := 169) (a2 := w32 y34) (b2 := w32 z18) dX11_looks_155 (by decide) rfl rfl ?_ ?_
  · refine tj_iload_n (pc := 169) G 3 dX11_looks_169 rfl rfl ?_
    exact tj_sub [0, 1, 2, 4, 5, 6, 7] rfl (hj170 z17 M45)
  refine tj_bipush (pc := 158) G dX11_looks_158 rfl ?_
  refine tj_iload (pc := 160) G 5 dX11_looks_160 rfl ?_
  refine tj_imul (pc := 162) G dX11_looks_162 ?_
  refine tj_iload (pc := 163) G 6 dX11_looks_163 rfl ?_
  refine tj_iadd (pc := 165) G dX11_looks_165 ?_
  refine tj_goto (pc := 166) G (tgt := 170) dX11_looks_166 (by decide) ?_
  exact tj_sub [0, 1, 2, 4, 5, 6, 7] rfl (hj170 ((100 * c5) + z19) M45)
set_option maxRecDepth 100000 in
set_option maxHeartbeats 4000000 in
theorem fx_X11_looks_L38_ok {X : tp_X} {Y : tp_Y} (G : tp_Ok X Y 34 cX11_looks 10 RX11 (some .int))  {c1 : Int} {c2 : Int} {K192 : Int → Int → tp_M → tp_O}   (hK192 : ∀ (y14 y15 : Int) (M9 : tp_M), tp_J X Y LM 34 10 10 1 (K192 y14 y15 M9) M9 [(0, vR X 0), (3, vI y14), (4, vI y15)] [] 192) (n : Nat) : ∀ (z10 z11 z12 : Int) (M13 : tp_M), tp_J X Y LM 34 10 10 1 (tp_lp3 (fx_X11_looks_L38  c1 c2 K192) n z10 z11 z12 M13) M13 [(0, vR X 0), (1, vI c1), (2, vI c2), (3, vI z10), (4, vI z11), (5, vI z12)] [] 38 := by
  refine tp_lp3_ok (P := fun o z10 z11 z12 M13 => tp_J X Y LM 34 10 10 1 (o) M13 [(0, vR X 0), (1, vI c1), (2, vI c2), (3, vI z10), (4, vI z11), (5, vI z12)] [] 38) (fun z10 z11 z12 M13 => tj_none) (fun rec hrec z10 z11 z12 M13 => ?_) n
  unfold fx_X11_looks_L38
  refine tj_iload (pc := 38) G 5 dX11_looks_38 rfl ?_
  refine tj_aload_n (pc := 40) G 0 dX11_looks_40 rfl rfl ?_
  refine tj_getI (pc := 41) G (k := 0) (j := 3) (j2 := 3) tk_X11 (by decide) lm_0 rfl (by decide) rfl fl_X11_28 dX11_looks_41 ?_
  refine tj_icmp_ge (pc := 44) G (tgt := 192) (a2 := w32 z12) (b2 := w32 (M13 0 3)) dX11_looks_44 (by decide) rfl rfl ?_ ?_
  · exact tj_sub [0, 3, 4] rfl (hK192 z10 z11 M13)
  refine tj_iconst (pc := 47) G dX11_looks_47 ?_
  refine tj_istore (pc := 48) G (fun x16 => [(6, vI x16), (0, vR X 0), (1, vI c1), (2, vI c2), (3, vI z10), (4, vI z11), (5, vI z12)]) dX11_looks_48 (by decide) (fun _ => rfl) (fun x16 => ?_)
  refine tj_sub [1, 2, 3, 4, 5, 6, 0] rfl (fx_X11_looks_L50_ok G    (fun y21 y22 M51 => ?_) tp_F z10 z11 x16 M13)
  refine tj_iinc (pc := 186) G 5 (fun x52 => [(5, vI x52), (0, vR X 0), (1, vI c1), (2, vI c2), (3, vI y21), (4, vI y22)]) dX11_looks_186 rfl (by decide) (fun _ => rfl) (fun x52 => ?_)
  refine tj_goto (pc := 189) G (tgt := 38) dX11_looks_189 (by decide) ?_
  exact tj_sub [1, 2, 3, 4, 5, 0] rfl (hrec y21 y22 x52 M51)
set_option maxRecDepth 100000 in
set_option maxHeartbeats 4000000 in
theorem ok_X11_looks (X : tp_X)  {a1 : Int}  {M : tp_M} {res : Int × tp_M} (h : fx_X11_looks  a1 M = some res) : tp_Ret X LM 34 1 yX11_looks (Cond.code yX11_looks cX11_looks 10 (some .int)) 10 [vR X 0, vI a1] M res := by
  refine tp_ofW (by decide +kernel) rfl rfl (by show _ ≤ 10; exact Nat.le_of_ble_eq_true rfl) h (fun Y G => ?_)
  show tp_J X Y LM 34 10 10 1 (fx_X11_looks  a1 M) M [(0, vR X 0), (1, vI a1)] [] 0
  unfold fx_X11_looks
  refine tj_aload_n (pc := 0) G 0 dX11_looks_0 rfl rfl ?_
  refine tj_iconst (pc := 1) G dX11_looks_1 ?_
  refine tj_putI (pc := 2) G (k := 0) (j := 0) (j2 := 0) tk_X11 (by decide) lm_0 rfl (by decide) rfl fl_X11_3 rfl rfl dX11_looks_2 (fun M1 => ?_)
  refine tj_aload_n (pc := 5) G 0 dX11_looks_5 rfl rfl ?_
  refine tj_iload_n (pc := 6) G 1 dX11_looks_6 rfl rfl ?_
  refine tj_callVi (pc := 7) G [vI a1] mf_X11_isOut (k := 0) (by decide) lm_0 rfl rfl ml_X11_280 (by decide) rfl rfl (Nat.le_of_ble_eq_true rfl) (fun _ h9 => ok_X11_isOut X  h9) dX11_looks_7 (fun r2 M3 => ?_)
  refine tj_if_ne (pc := 10) G (tgt := 15) (a2 := w32 r2) dX11_looks_10 (by decide) rfl ?_ ?_
  · refine tj_aload_n (pc := 15) G 0 dX11_looks_15 rfl rfl ?_
    refine tj_iload_n (pc := 16) G 1 dX11_looks_16 rfl rfl ?_
    refine tj_callVi (pc := 17) G [vI a1] mf_X11_numbers (k := 0) (by decide) lm_0 rfl rfl ml_X11_454 (by decide) rfl rfl (Nat.le_of_ble_eq_true rfl) (fun _ h9 => ok_X11_numbers X  h9) dX11_looks_17 (fun r4 M5 => ?_)
    refine tj_istore_n (pc := 20) G (fun x6 => [(2, vI x6), (0, vR X 0), (1, vI a1)]) dX11_looks_20 rfl (by decide) (fun _ => rfl) (fun x6 => ?_)
    refine tj_iload_n (pc := 21) G 0 dX11_looks_21 rfl rfl ?_
    refine tj_if_ne (pc := 22) G (tgt := 28) (a2 := w32 x6) dX11_looks_22 (by decide) rfl ?_ ?_
    · refine tj_iconst (pc := 28) G dX11_looks_28 ?_
      refine tj_istore_n (pc := 29) G (fun x7 => [(3, vI x7), (2, vI x6), (0, vR X 0), (1, vI a1)]) dX11_looks_29 rfl (by decide) (fun _ => rfl) (fun x7 => ?_)
      refine tj_ldcw (pc := 30) G (v := 1000000) dX11_looks_30 ct_X11_264 rfl ?_
      refine tj_istore (pc := 33) G (fun x8 => [(4, vI x8), (3, vI x7), (2, vI x6), (0, vR X 0), (1, vI a1)]) dX11_looks_33 (by decide) (fun _ => rfl) (fun x8 => ?_)
      refine tj_iconst (pc := 35) G dX11_looks_35 ?_
      refine tj_istore (pc := 36) G (fun x9 => [(5, vI x9), (4, vI x8), (3, vI x7), (2, vI x6), (0, vR X 0), (1, vI a1)]) dX11_looks_36 (by decide) (fun _ => rfl) (fun x9 => ?_)
      refine tj_sub [4, 5, 3, 2, 1, 0] rfl (fx_X11_looks_L38_ok G    (fun y14 y15 M53 => ?_) tp_F x7 x8 x9 M5)
      refine tj_aload_n (pc := 192) G 0 dX11_looks_192 rfl rfl ?_
      refine tj_iconst (pc := 193) G dX11_looks_193 ?_
      refine tj_putI (pc := 194) G (k := 0) (j := 1) (j2 := 1) tk_X11 (by decide) lm_0 rfl (by decide) rfl fl_X11_15 rfl rfl dX11_looks_194 (fun M54 => ?_)
      refine tj_aload_n (pc := 197) G 0 dX11_looks_197 rfl rfl ?_
      refine tj_iload (pc := 198) G 2 dX11_looks_198 rfl ?_
      refine tj_i2l (pc := 200) G (b := w32 y15) dX11_looks_200 rfl ?_
      refine tj_callVv (pc := 201) G [vL (w32 y15)] mf_X11_enters (k := 0) (by decide) lm_0 rfl rfl ml_X11_18 (by decide) rfl rfl (Nat.le_of_ble_eq_true rfl) (fun _ h9 => ok_X11_enters X  h9) dX11_looks_201 (fun r55 M56 => ?_)
      refine tj_iload_n (pc := 204) G 1 dX11_looks_204 rfl rfl ?_
      exact tj_iret (pc := 205) G dX11_looks_205
    refine tj_bipush (pc := 25) G dX11_looks_25 rfl ?_
    exact tj_iret (pc := 27) G dX11_looks_27
  refine tj_iconst (pc := 13) G dX11_looks_13 ?_
  exact tj_iret (pc := 14) G dX11_looks_14

def fx_X11_lowest  (a1 : Int) (M : tp_M) : tp_O :=
(tp_jn1 (fun y1 M2 => 
(tp_bd (fx_X11_flag y1 M2) (fun r3 M4 =>
(some (r3, M4))))) (fun jk14 =>
(tp_jn0 (fun M5 => 
(jk14 1 M5)) (fun jk9 =>
(if w32 a1 = 0 then
(jk9 M)
else
(if w32 a1 = 3 then
(jk9 M)
else
(jk14 0 M)))))))
set_option maxRecDepth 100000 in
set_option maxHeartbeats 4000000 in
theorem ok_X11_lowest (X : tp_X)  {a1 : Int}  {M : tp_M} {res : Int × tp_M} (h : fx_X11_lowest  a1 M = some res) : tp_Ret X LM 34 1 yX11_lowest (Cond.code yX11_lowest cX11_lowest 1 (some .int)) 2 [vI a1] M res := by
  refine tp_ofW (by decide +kernel) rfl rfl (by show _ ≤ 1; exact Nat.le_of_ble_eq_true rfl) h (fun Y G => ?_)
  show tp_J X Y LM 34 1 2 1 (fx_X11_lowest  a1 M) M [(0, vI a1)] [] 0
  unfold fx_X11_lowest
  refine tj_iload_n (pc := 0) G 0 dX11_lowest_0 rfl rfl ?_
  refine tj_jn1 (fun y1 => []) (fun y1 => [vI y1]) 14 (fun y1 M2 => ?_) (fun jk14 hj14 => ?_)
  · refine tj_callSi (pc := 14) G [vI y1] mf_X11_flag ml_X11_151 (by decide) rfl rfl (Nat.le_of_ble_eq_true rfl) (fun _ h9 => ok_X11_flag X  h9) dX11_lowest_14 (fun r3 M4 => ?_)
    exact tj_iret (pc := 17) G dX11_lowest_17
  refine tj_jn0 [] [] 9 (fun M5 => ?_) (fun jk9 hj9 => ?_)
  · refine tj_iconst (pc := 9) G dX11_lowest_9 ?_
    refine tj_goto (pc := 10) G (tgt := 14) dX11_lowest_10 (by decide) ?_
    exact tj_sub [] rfl (hj14 1 M5)
  refine tj_if_eq (pc := 1) G (tgt := 9) (a2 := w32 a1) dX11_lowest_1 (by decide) rfl ?_ ?_
  · exact tj_sub [] rfl (hj9  M)
  refine tj_iload_n (pc := 4) G 0 dX11_lowest_4 rfl rfl ?_
  refine tj_iconst (pc := 5) G dX11_lowest_5 ?_
  refine tj_icmp_ne (pc := 6) G (tgt := 13) (a2 := w32 a1) (b2 := 3) dX11_lowest_6 (by decide) rfl rfl ?_ ?_
  · refine tj_iconst (pc := 13) G dX11_lowest_13 ?_
    exact tj_sub [] rfl (hj14 0 M)
  exact tj_sub [] rfl (hj9  M)

def fx_X11_highest  (a1 : Int) (M : tp_M) : tp_O :=
(if w32 a1 = 0 then
(some (4, M))
else
(if w32 a1 = 1 then
(some (9, M))
else
(some (7, M))))
set_option maxRecDepth 100000 in
set_option maxHeartbeats 4000000 in
theorem ok_X11_highest (X : tp_X)  {a1 : Int}  {M : tp_M} {res : Int × tp_M} (h : fx_X11_highest  a1 M = some res) : tp_Ret X LM 34 1 yX11_highest (Cond.code yX11_highest cX11_highest 1 (some .int)) 1 [vI a1] M res := by
  refine tp_ofW (by decide +kernel) rfl rfl (by show _ ≤ 1; exact Nat.le_of_ble_eq_true rfl) h (fun Y G => ?_)
  show tp_J X Y LM 34 1 1 1 (fx_X11_highest  a1 M) M [(0, vI a1)] [] 0
  unfold fx_X11_highest
  refine tj_iload_n (pc := 0) G 0 dX11_highest_0 rfl rfl ?_
  refine tj_if_ne (pc := 1) G (tgt := 8) (a2 := w32 a1) dX11_highest_1 (by decide) rfl ?_ ?_
  · refine tj_iload_n (pc := 8) G 0 dX11_highest_8 rfl rfl ?_
    refine tj_iconst (pc := 9) G dX11_highest_9 ?_
    refine tj_icmp_ne (pc := 10) G (tgt := 18) (a2 := w32 a1) (b2 := 1) dX11_highest_10 (by decide) rfl rfl ?_ ?_
    · refine tj_bipush (pc := 18) G dX11_highest_18 rfl ?_
      exact tj_iret (pc := 20) G dX11_highest_20
    refine tj_bipush (pc := 13) G dX11_highest_13 rfl ?_
    refine tj_goto (pc := 15) G (tgt := 20) dX11_highest_15 (by decide) ?_
    exact tj_iret (pc := 20) G dX11_highest_20
  refine tj_iconst (pc := 4) G dX11_highest_4 ?_
  refine tj_goto (pc := 5) G (tgt := 20) dX11_highest_5 (by decide) ?_
  exact tj_iret (pc := 20) G dX11_highest_20

def fx_X11_heard  (a1 : Int) (a2 : Int) (M : tp_M) : tp_O :=
(tp_lm (tp_up M 0 0 0) (fun M1 =>
(tp_bd (fx_X11_in (w32 a1) 0 3 M1) (fun r2 M3 =>
(if w32 r2 = 0 then
(some ((-1), M3))
else
(tp_bd (fx_X11_lowest a1 M3) (fun r4 M5 =>
(tp_bd (fx_X11_highest a1 M5) (fun r6 M7 =>
(tp_bd (fx_X11_in (w32 a2) (w32 r4) (w32 r6) M7) (fun r8 M9 =>
(if w32 r8 = 0 then
(some ((-1), M9))
else
(if w32 (M9 0 44) = 12 then
(some ((-1), M9))
else
(tp_ck (w32 (M9 0 44)) 12 (tp_lm (tp_up M9 28 (w32 (M9 0 44)) a1) (fun M10 =>
(tp_ck (w32 (M10 0 44)) 12 (tp_lm (tp_up M10 29 (w32 (M10 0 44)) a2) (fun M11 =>
(tp_lm (tp_up M11 0 44 ((M11 0 44) + 1)) (fun M12 =>
(some (M12 0 44, M12)))))))))))))))))))))))
set_option maxRecDepth 100000 in
set_option maxHeartbeats 4000000 in
theorem ok_X11_heard (X : tp_X)  {a1 : Int} {a2 : Int}  {M : tp_M} {res : Int × tp_M} (h : fx_X11_heard  a1 a2 M = some res) : tp_Ret X LM 34 1 yX11_heard (Cond.code yX11_heard cX11_heard 3 (some .int)) 3 [vR X 0, vI a1, vI a2] M res := by
  refine tp_ofW (by decide +kernel) rfl rfl (by show _ ≤ 3; exact Nat.le_of_ble_eq_true rfl) h (fun Y G => ?_)
  show tp_J X Y LM 34 3 3 1 (fx_X11_heard  a1 a2 M) M [(0, vR X 0), (1, vI a1), (2, vI a2)] [] 0
  unfold fx_X11_heard
  refine tj_aload_n (pc := 0) G 0 dX11_heard_0 rfl rfl ?_
  refine tj_iconst (pc := 1) G dX11_heard_1 ?_
  refine tj_putI (pc := 2) G (k := 0) (j := 0) (j2 := 0) tk_X11 (by decide) lm_0 rfl (by decide) rfl fl_X11_3 rfl rfl dX11_heard_2 (fun M1 => ?_)
  refine tj_iload_n (pc := 5) G 1 dX11_heard_5 rfl rfl ?_
  refine tj_i2l (pc := 6) G (b := w32 a1) dX11_heard_6 rfl ?_
  refine tj_lconst (pc := 7) G (v := 0) dX11_heard_7 rfl ?_
  refine tj_ldc2 (pc := 8) G (v := 3) dX11_heard_8 ct_X11_283 rfl ?_
  refine tj_callSi (pc := 11) G [vL (w32 a1), vL 0, vL 3] mf_X11_in ml_X11_129 (by decide) rfl rfl (Nat.le_of_ble_eq_true rfl) (fun _ h9 => ok_X11_in X  h9) dX11_heard_11 (fun r2 M3 => ?_)
  refine tj_if_eq (pc := 14) G (tgt := 44) (a2 := w32 r2) dX11_heard_14 (by decide) rfl ?_ ?_
  · refine tj_iconst (pc := 44) G dX11_heard_44 ?_
    exact tj_iret (pc := 45) G dX11_heard_45
  refine tj_iload_n (pc := 17) G 2 dX11_heard_17 rfl rfl ?_
  refine tj_i2l (pc := 18) G (b := w32 a2) dX11_heard_18 rfl ?_
  refine tj_iload_n (pc := 19) G 1 dX11_heard_19 rfl rfl ?_
  refine tj_callSi (pc := 20) G [vI a1] mf_X11_lowest ml_X11_457 (by decide) rfl rfl (Nat.le_of_ble_eq_true rfl) (fun _ h9 => ok_X11_lowest X  h9) dX11_heard_20 (fun r4 M5 => ?_)
  refine tj_i2l (pc := 23) G (b := w32 r4) dX11_heard_23 rfl ?_
  refine tj_iload_n (pc := 24) G 1 dX11_heard_24 rfl rfl ?_
  refine tj_callSi (pc := 25) G [vI a1] mf_X11_highest ml_X11_460 (by decide) rfl rfl (Nat.le_of_ble_eq_true rfl) (fun _ h9 => ok_X11_highest X  h9) dX11_heard_25 (fun r6 M7 => ?_)
  refine tj_i2l (pc := 28) G (b := w32 r6) dX11_heard_28 rfl ?_
  refine tj_callSi (pc := 29) G [vL (w32 a2), vL (w32 r4), vL (w32 r6)] mf_X11_in ml_X11_129 (by decide) rfl rfl (Nat.le_of_ble_eq_true rfl) (fun _ h9 => ok_X11_in X  h9) dX11_heard_29 (fun r8 M9 => ?_)
  refine tj_if_eq (pc := 32) G (tgt := 44) (a2 := w32 r8) dX11_heard_32 (by decide) rfl ?_ ?_
  · refine tj_iconst (pc := 44) G dX11_heard_44 ?_
    exact tj_iret (pc := 45) G dX11_heard_45
  refine tj_aload_n (pc := 35) G 0 dX11_heard_35 rfl rfl ?_
  refine tj_getI (pc := 36) G (k := 0) (j := 44) (j2 := 44) tk_X11 (by decide) lm_0 rfl (by decide) rfl fl_X11_206 dX11_heard_36 ?_
  refine tj_bipush (pc := 39) G dX11_heard_39 rfl ?_
  refine tj_icmp_ne (pc := 41) G (tgt := 46) (a2 := w32 (M9 0 44)) (b2 := 12) dX11_heard_41 (by decide) rfl rfl ?_ ?_
  · refine tj_aload_n (pc := 46) G 0 dX11_heard_46 rfl rfl ?_
    refine tj_getR (pc := 47) G (k := 0) (j := 45) (j2 := 45) tk_X11 (by decide) lm_0 rfl (by decide) rfl fl_X11_110 dX11_heard_47 ?_
    refine tj_aload_n (pc := 50) G 0 dX11_heard_50 rfl rfl ?_
    refine tj_getI (pc := 51) G (k := 0) (j := 44) (j2 := 44) tk_X11 (by decide) lm_0 rfl (by decide) rfl fl_X11_206 dX11_heard_51 ?_
    refine tj_iload_n (pc := 54) G 1 dX11_heard_54 rfl rfl ?_
    refine tj_iast (pc := 55) G (k := 28) (i2 := w32 (M9 0 44)) (n2 := 12) (by decide) lm_28 rfl rfl dX11_heard_55 (fun M10 => ?_)
    refine tj_aload_n (pc := 56) G 0 dX11_heard_56 rfl rfl ?_
    refine tj_getR (pc := 57) G (k := 0) (j := 46) (j2 := 46) tk_X11 (by decide) lm_0 rfl (by decide) rfl fl_X11_113 dX11_heard_57 ?_
    refine tj_aload_n (pc := 60) G 0 dX11_heard_60 rfl rfl ?_
    refine tj_getI (pc := 61) G (k := 0) (j := 44) (j2 := 44) tk_X11 (by decide) lm_0 rfl (by decide) rfl fl_X11_206 dX11_heard_61 ?_
    refine tj_iload_n (pc := 64) G 2 dX11_heard_64 rfl rfl ?_
    refine tj_iast (pc := 65) G (k := 29) (i2 := w32 (M10 0 44)) (n2 := 12) (by decide) lm_29 rfl rfl dX11_heard_65 (fun M11 => ?_)
    refine tj_aload_n (pc := 66) G 0 dX11_heard_66 rfl rfl ?_
    refine tj_dup (pc := 67) G dX11_heard_67 rfl ?_
    refine tj_getI (pc := 68) G (k := 0) (j := 44) (j2 := 44) tk_X11 (by decide) lm_0 rfl (by decide) rfl fl_X11_206 dX11_heard_68 ?_
    refine tj_iconst (pc := 71) G dX11_heard_71 ?_
    refine tj_iadd (pc := 72) G dX11_heard_72 ?_
    refine tj_putI (pc := 73) G (k := 0) (j := 44) (j2 := 44) tk_X11 (by decide) lm_0 rfl (by decide) rfl fl_X11_206 rfl rfl dX11_heard_73 (fun M12 => ?_)
    refine tj_aload_n (pc := 76) G 0 dX11_heard_76 rfl rfl ?_
    refine tj_getI (pc := 77) G (k := 0) (j := 44) (j2 := 44) tk_X11 (by decide) lm_0 rfl (by decide) rfl fl_X11_206 dX11_heard_77 ?_
    exact tj_iret (pc := 80) G dX11_heard_80
  refine tj_iconst (pc := 44) G dX11_heard_44 ?_
  exact tj_iret (pc := 45) G dX11_heard_45

def fx_X11_denies   (M : tp_M) : tp_O :=
(tp_lm (tp_up M 0 0 0) (fun M1 =>
(tp_lt (M1 0 44) (fun x2 =>
(tp_lm (tp_up M1 0 44 0) (fun M3 =>
(some (x2, M3))))))))
set_option maxRecDepth 100000 in
set_option maxHeartbeats 4000000 in
theorem ok_X11_denies (X : tp_X)    {M : tp_M} {res : Int × tp_M} (h : fx_X11_denies   M = some res) : tp_Ret X LM 34 1 yX11_denies (Cond.code yX11_denies cX11_denies 2 (some .int)) 1 [vR X 0] M res := by
  refine tp_ofW (by decide +kernel) rfl rfl (by show _ ≤ 2; exact Nat.le_of_ble_eq_true rfl) h (fun Y G => ?_)
  show tp_J X Y LM 34 2 1 1 (fx_X11_denies   M) M [(0, vR X 0)] [] 0
  unfold fx_X11_denies
  refine tj_aload_n (pc := 0) G 0 dX11_denies_0 rfl rfl ?_
  refine tj_iconst (pc := 1) G dX11_denies_1 ?_
  refine tj_putI (pc := 2) G (k := 0) (j := 0) (j2 := 0) tk_X11 (by decide) lm_0 rfl (by decide) rfl fl_X11_3 rfl rfl dX11_denies_2 (fun M1 => ?_)
  refine tj_aload_n (pc := 5) G 0 dX11_denies_5 rfl rfl ?_
  refine tj_getI (pc := 6) G (k := 0) (j := 44) (j2 := 44) tk_X11 (by decide) lm_0 rfl (by decide) rfl fl_X11_206 dX11_denies_6 ?_
  refine tj_istore_n (pc := 9) G (fun x2 => [(1, vI x2), (0, vR X 0)]) dX11_denies_9 rfl (by decide) (fun _ => rfl) (fun x2 => ?_)
  refine tj_aload_n (pc := 10) G 1 dX11_denies_10 rfl rfl ?_
  refine tj_iconst (pc := 11) G dX11_denies_11 ?_
  refine tj_putI (pc := 12) G (k := 0) (j := 44) (j2 := 44) tk_X11 (by decide) lm_0 rfl (by decide) rfl fl_X11_206 rfl rfl dX11_denies_12 (fun M3 => ?_)
  refine tj_iload_n (pc := 15) G 0 dX11_denies_15 rfl rfl ?_
  exact tj_iret (pc := 16) G dX11_denies_16

def fx_X11_isSo  (a1 : Int) (a2 : Int) (a3 : Int) (M : tp_M) : tp_O :=
(if w32 a2 = 0 then
(tp_ck (w32 a1) 8 (if w32 (M 2 (w32 a1)) = w32 a3 then
(some (1, M))
else
(some (0, M))))
else
(if w32 a2 = 1 then
(tp_ck (w32 (8 + a1)) 17 (if w32 (M 4 (w32 (8 + a1))) < w32 a3 then
(some (0, M))
else
(some (1, M))))
else
(if w32 a2 = 2 then
(tp_ck (w32 a1) 17 (tp_bd (fx_X11_goalOf a1 (M 4 (w32 a1)) M) (fun r7 M8 =>
(if w32 r7 = w32 a3 then
(some (1, M8))
else
(some (0, M8))))))
else
(tp_ck (w32 a1) 8 (if w32 (M 13 (w32 a1)) = w32 a3 then
(some (1, M))
else
(some (0, M)))))))
set_option maxRecDepth 100000 in
set_option maxHeartbeats 4000000 in
theorem ok_X11_isSo (X : tp_X)  {a1 : Int} {a2 : Int} {a3 : Int}  {M : tp_M} {res : Int × tp_M} (h : fx_X11_isSo  a1 a2 a3 M = some res) : tp_Ret X LM 34 1 yX11_isSo (Cond.code yX11_isSo cX11_isSo 4 (some .boolean)) 2 [vR X 0, vI a1, vI a2, vI a3] M res := by
  refine tp_ofW (by decide +kernel) rfl rfl (by show _ ≤ 4; exact Nat.le_of_ble_eq_true rfl) h (fun Y G => ?_)
  show tp_J X Y LM 34 4 2 1 (fx_X11_isSo  a1 a2 a3 M) M [(0, vR X 0), (1, vI a1), (2, vI a2), (3, vI a3)] [] 0
  unfold fx_X11_isSo
  refine tj_iload_n (pc := 0) G 2 dX11_isSo_0 rfl rfl ?_
  refine tj_case (fun hq1 => ?_) (fun hq2 => ?_)
  · refine tj_tabIn (pc := 1) G (v := 0) (tgt := 28) dX11_isSo_1 hq1 (by decide) rfl (by decide) ?_
    refine tj_aload_n (pc := 28) G 0 dX11_isSo_28 rfl rfl ?_
    refine tj_getR (pc := 29) G (k := 0) (j := 4) (j2 := 4) tk_X11 (by decide) lm_0 rfl (by decide) rfl fl_X11_31 dX11_isSo_29 ?_
    refine tj_iload_n (pc := 32) G 1 dX11_isSo_32 rfl rfl ?_
    refine tj_iald (pc := 33) G (k := 2) (i2 := w32 a1) (n2 := 8) (by decide) lm_2 rfl rfl dX11_isSo_33 ?_
    refine tj_iload_n (pc := 34) G 3 dX11_isSo_34 rfl rfl ?_
    refine tj_icmp_ne (pc := 35) G (tgt := 42) (a2 := w32 (M 2 (w32 a1))) (b2 := w32 a3) dX11_isSo_35 (by decide) rfl rfl ?_ ?_
    · refine tj_iconst (pc := 42) G dX11_isSo_42 ?_
      exact tj_zret (pc := 43) G (by decide) dX11_isSo_43
    refine tj_iconst (pc := 38) G dX11_isSo_38 ?_
    refine tj_goto (pc := 39) G (tgt := 43) dX11_isSo_39 (by decide) ?_
    exact tj_zret (pc := 43) G (by decide) dX11_isSo_43
  refine tj_case (fun hq3 => ?_) (fun hq4 => ?_)
  · refine tj_tabIn (pc := 1) G (v := 1) (tgt := 44) dX11_isSo_1 hq3 (by decide) rfl (by decide) ?_
    refine tj_aload_n (pc := 44) G 0 dX11_isSo_44 rfl rfl ?_
    refine tj_getR (pc := 45) G (k := 0) (j := 6) (j2 := 6) tk_X11 (by decide) lm_0 rfl (by decide) rfl fl_X11_38 dX11_isSo_45 ?_
    refine tj_bipush (pc := 48) G dX11_isSo_48 rfl ?_
    refine tj_iload_n (pc := 50) G 1 dX11_isSo_50 rfl rfl ?_
    refine tj_iadd (pc := 51) G dX11_isSo_51 ?_
    refine tj_iald (pc := 52) G (k := 4) (i2 := w32 (8 + a1)) (n2 := 17) (by decide) lm_4 rfl rfl dX11_isSo_52 ?_
    refine tj_iload_n (pc := 53) G 3 dX11_isSo_53 rfl rfl ?_
    refine tj_icmp_lt (pc := 54) G (tgt := 61) (a2 := w32 (M 4 (w32 (8 + a1)))) (b2 := w32 a3) dX11_isSo_54 (by decide) rfl rfl ?_ ?_
    · refine tj_iconst (pc := 61) G dX11_isSo_61 ?_
      exact tj_zret (pc := 62) G (by decide) dX11_isSo_62
    refine tj_iconst (pc := 57) G dX11_isSo_57 ?_
    refine tj_goto (pc := 58) G (tgt := 62) dX11_isSo_58 (by decide) ?_
    exact tj_zret (pc := 62) G (by decide) dX11_isSo_62
  refine tj_case (fun hq5 => ?_) (fun hq6 => ?_)
  · refine tj_tabIn (pc := 1) G (v := 2) (tgt := 63) dX11_isSo_1 hq5 (by decide) rfl (by decide) ?_
    refine tj_aload_n (pc := 63) G 0 dX11_isSo_63 rfl rfl ?_
    refine tj_iload_n (pc := 64) G 1 dX11_isSo_64 rfl rfl ?_
    refine tj_aload_n (pc := 65) G 0 dX11_isSo_65 rfl rfl ?_
    refine tj_getR (pc := 66) G (k := 0) (j := 6) (j2 := 6) tk_X11 (by decide) lm_0 rfl (by decide) rfl fl_X11_38 dX11_isSo_66 ?_
    refine tj_iload_n (pc := 69) G 1 dX11_isSo_69 rfl rfl ?_
    refine tj_iald (pc := 70) G (k := 4) (i2 := w32 a1) (n2 := 17) (by decide) lm_4 rfl rfl dX11_isSo_70 ?_
    refine tj_callVi (pc := 71) G [vI a1, vI (M 4 (w32 a1))] mf_X11_goalOf (k := 0) (by decide) lm_0 rfl rfl ml_X11_255 (by decide) rfl rfl (Nat.le_of_ble_eq_true rfl) (fun _ h9 => ok_X11_goalOf X  h9) dX11_isSo_71 (fun r7 M8 => ?_)
    refine tj_iload_n (pc := 74) G 3 dX11_isSo_74 rfl rfl ?_
    refine tj_icmp_ne (pc := 75) G (tgt := 82) (a2 := w32 r7) (b2 := w32 a3) dX11_isSo_75 (by decide) rfl rfl ?_ ?_
    · refine tj_iconst (pc := 82) G dX11_isSo_82 ?_
      exact tj_zret (pc := 83) G (by decide) dX11_isSo_83
    refine tj_iconst (pc := 78) G dX11_isSo_78 ?_
    refine tj_goto (pc := 79) G (tgt := 83) dX11_isSo_79 (by decide) ?_
    exact tj_zret (pc := 83) G (by decide) dX11_isSo_83
  refine tj_tabOut (pc := 1) G (tgt := 84) dX11_isSo_1 (by omega) (by decide) ?_
  refine tj_aload_n (pc := 84) G 0 dX11_isSo_84 rfl rfl ?_
  refine tj_getR (pc := 85) G (k := 0) (j := 22) (j2 := 22) tk_X11 (by decide) lm_0 rfl (by decide) rfl fl_X11_65 dX11_isSo_85 ?_
  refine tj_iload_n (pc := 88) G 1 dX11_isSo_88 rfl rfl ?_
  refine tj_iald (pc := 89) G (k := 13) (i2 := w32 a1) (n2 := 8) (by decide) lm_13 rfl rfl dX11_isSo_89 ?_
  refine tj_iload_n (pc := 90) G 3 dX11_isSo_90 rfl rfl ?_
  refine tj_icmp_ne (pc := 91) G (tgt := 98) (a2 := w32 (M 13 (w32 a1))) (b2 := w32 a3) dX11_isSo_91 (by decide) rfl rfl ?_ ?_
  · refine tj_iconst (pc := 98) G dX11_isSo_98 ?_
    exact tj_zret (pc := 99) G (by decide) dX11_isSo_99
  refine tj_iconst (pc := 94) G dX11_isSo_94 ?_
  refine tj_goto (pc := 95) G (tgt := 99) dX11_isSo_95 (by decide) ?_
  exact tj_zret (pc := 99) G (by decide) dX11_isSo_99

def fx_X11_fitting_L22 (c1 : Int) (c2 : Int) (K69 : Int → tp_M → tp_O) (rec : Int → Int → tp_M → tp_O) (z10 z11 : Int) (M12 : tp_M) : tp_O :=
(if w32 z11 < w32 (M12 0 44) then
(tp_jn1 (fun y14 M15 => 
(tp_lt y14 (fun x16 =>
(tp_lt (z11 + 1) (fun x17 =>
(rec x16 x17 M15)))))) (fun jk62 =>
(tp_jn0 (fun M18 => 
(jk62 0 M18)) (fun jk61 =>
(if w32 z10 = 0 then
(jk61 M12)
else
(tp_ck (w32 z11) 12 (tp_ck (w32 z11) 12 (tp_bd (fx_X11_isSo c2 (M12 28 (w32 z11)) (M12 29 (w32 z11)) M12) (fun r19 M20 =>
(if w32 r19 = 0 then
(jk61 M20)
else
(jk62 1 M20)))))))))))
else
(K69 z10 M12))
def fx_X11_fitting_L9  (rec : Int → Int → tp_M → tp_O) (z5 z6 : Int) (M7 : tp_M) : tp_O :=
(if w32 z6 < w32 (M7 0 3) then
(tp_lt 1 (fun x8 =>
(tp_lt 0 (fun x9 =>
(tp_lp2 (fx_X11_fitting_L22 z5 z6 (fun y13 M21 =>
(tp_jn1 (fun y22 M23 => 
(tp_lt (x_or z5 y22) (fun x24 =>
(tp_lt (z6 + 1) (fun x25 =>
(rec x24 x25 M23)))))) (fun jk81 =>
(if w32 y13 = 0 then
(jk81 0 M21)
else
(jk81 (x_shl 1 z6) M21)))))) tp_F x8 x9 M7)))))
else
(some (z5, M7)))
def fx_X11_fitting   (M : tp_M) : tp_O :=
(tp_bd (fx_X11_laysFar 0 M) (fun r1 M2 =>
(tp_lt 0 (fun x3 =>
(tp_lt 1 (fun x4 =>
(tp_lp2 (fx_X11_fitting_L9  ) tp_F x3 x4 M2)))))))
set_option maxRecDepth 100000 in
set_option maxHeartbeats 4000000 in
theorem fx_X11_fitting_L22_ok {X : tp_X} {Y : tp_Y} (G : tp_Ok X Y 34 cX11_fitting 5 RX11 (some .int))  {c1 : Int} {c2 : Int} {K69 : Int → tp_M → tp_O}   (hK69 : ∀ (y13 : Int) (M9 : tp_M), tp_J X Y LM 34 5 3 1 (K69 y13 M9) M9 [(0, vR X 0), (1, vI c1), (2, vI c2), (3, vI y13)] [] 69) (n : Nat) : ∀ (z10 z11 : Int) (M12 : tp_M), tp_J X Y LM 34 5 3 1 (tp_lp2 (fx_X11_fitting_L22  c1 c2 K69) n z10 z11 M12) M12 [(0, vR X 0), (1, vI c1), (2, vI c2), (3, vI z10), (4, vI z11)] [] 22 := by
  refine tp_lp2_ok (P := fun o z10 z11 M12 => tp_J X Y LM 34 5 3 1 (o) M12 [(0, vR X 0), (1, vI c1), (2, vI c2), (3, vI z10), (4, vI z11)] [] 22) (fun z10 z11 M12 => tj_none) (fun rec hrec z10 z11 M12 => ?_) n
  unfold fx_X11_fitting_L22
  refine tj_iload (pc := 22) G 4 dX11_fitting_22 rfl ?_
  refine tj_aload_n (pc := 24) G 0 dX11_fitting_24 rfl rfl ?_
  refine tj_getI (pc := 25) G (k := 0) (j := 44) (j2 := 44) tk_X11 (by decide) lm_0 rfl (by decide) rfl fl_X11_206 dX11_fitting_25 ?_
  refine tj_icmp_ge (pc := 28) G (tgt := 69) (a2 := w32 z11) (b2 := w32 (M12 0 44)) dX11_fitting_28 (by decide) rfl rfl ?_ ?_
  · exact tj_sub [0, 1, 2, 3] rfl (hK69 z10 M12)
  refine tj_iload_n (pc := 31) G 3 dX11_fitting_31 rfl rfl ?_
  refine tj_jn1 (fun y14 => [(0, vR X 0), (1, vI c1), (2, vI c2), (4, vI z11)]) (fun y14 => [vI y14]) 62 (fun y14 M15 => ?_) (fun jk62 hj62 => ?_)
  · refine tj_istore_n (pc := 62) G (fun x16 => [(3, vI x16), (0, vR X 0), (1, vI c1), (2, vI c2), (4, vI z11)]) dX11_fitting_62 rfl (by decide) (fun _ => rfl) (fun x16 => ?_)
    refine tj_iinc (pc := 63) G 4 (fun x17 => [(4, vI x17), (3, vI x16), (0, vR X 0), (1, vI c1), (2, vI c2)]) dX11_fitting_63 rfl (by decide) (fun _ => rfl) (fun x17 => ?_)
    refine tj_goto (pc := 66) G (tgt := 22) dX11_fitting_66 (by decide) ?_
    exact tj_sub [2, 3, 4, 1, 0] rfl (hrec x16 x17 M15)
  refine tj_jn0 [(0, vR X 0), (1, vI c1), (2, vI c2), (4, vI z11)] [] 61 (fun M18 => ?_) (fun jk61 hj61 => ?_)
  · refine tj_iconst (pc := 61) G dX11_fitting_61 ?_
    exact tj_sub [0, 1, 2, 3] rfl (hj62 0 M18)
  refine tj_if_eq (pc := 32) G (tgt := 61) (a2 := w32 z10) dX11_fitting_32 (by decide) rfl ?_ ?_
  · exact tj_sub [0, 1, 2, 4] rfl (hj61  M12)
  refine tj_aload_n (pc := 35) G 0 dX11_fitting_35 rfl rfl ?_
  refine tj_iload_n (pc := 36) G 2 dX11_fitting_36 rfl rfl ?_
  refine tj_aload_n (pc := 37) G 0 dX11_fitting_37 rfl rfl ?_
  refine tj_getR (pc := 38) G (k := 0) (j := 45) (j2 := 45) tk_X11 (by decide) lm_0 rfl (by decide) rfl fl_X11_110 dX11_fitting_38 ?_
  refine tj_iload (pc := 41) G 4 dX11_fitting_41 rfl ?_
  refine tj_iald (pc := 43) G (k := 28) (i2 := w32 z11) (n2 := 12) (by decide) lm_28 rfl rfl dX11_fitting_43 ?_
  refine tj_aload_n (pc := 44) G 0 dX11_fitting_44 rfl rfl ?_
  refine tj_getR (pc := 45) G (k := 0) (j := 46) (j2 := 46) tk_X11 (by decide) lm_0 rfl (by decide) rfl fl_X11_113 dX11_fitting_45 ?_
  refine tj_iload (pc := 48) G 4 dX11_fitting_48 rfl ?_
  refine tj_iald (pc := 50) G (k := 29) (i2 := w32 z11) (n2 := 12) (by decide) lm_29 rfl rfl dX11_fitting_50 ?_
  refine tj_callVi (pc := 51) G [vI c2, vI (M12 28 (w32 z11)), vI (M12 29 (w32 z11))] mf_X11_isSo (k := 0) (by decide) lm_0 rfl rfl ml_X11_463 (by decide) rfl rfl (Nat.le_of_ble_eq_true rfl) (fun _ h9 => ok_X11_isSo X  h9) dX11_fitting_51 (fun r19 M20 => ?_)
  refine tj_if_eq (pc := 54) G (tgt := 61) (a2 := w32 r19) dX11_fitting_54 (by decide) rfl ?_ ?_
  · exact tj_sub [0, 1, 2, 4] rfl (hj61  M20)
  refine tj_iconst (pc := 57) G dX11_fitting_57 ?_
  refine tj_goto (pc := 58) G (tgt := 62) dX11_fitting_58 (by decide) ?_
  exact tj_sub [0, 1, 2, 4] rfl (hj62 1 M20)
set_option maxRecDepth 100000 in
set_option maxHeartbeats 4000000 in
theorem fx_X11_fitting_L9_ok {X : tp_X} {Y : tp_Y} (G : tp_Ok X Y 34 cX11_fitting 5 RX11 (some .int))      (n : Nat) : ∀ (z5 z6 : Int) (M7 : tp_M), tp_J X Y LM 34 5 3 1 (tp_lp2 (fx_X11_fitting_L9   ) n z5 z6 M7) M7 [(0, vR X 0), (1, vI z5), (2, vI z6)] [] 9 := by
  refine tp_lp2_ok (P := fun o z5 z6 M7 => tp_J X Y LM 34 5 3 1 (o) M7 [(0, vR X 0), (1, vI z5), (2, vI z6)] [] 9) (fun z5 z6 M7 => tj_none) (fun rec hrec z5 z6 M7 => ?_) n
  unfold fx_X11_fitting_L9
  refine tj_iload_n (pc := 9) G 2 dX11_fitting_9 rfl rfl ?_
  refine tj_aload_n (pc := 10) G 0 dX11_fitting_10 rfl rfl ?_
  refine tj_getI (pc := 11) G (k := 0) (j := 3) (j2 := 3) tk_X11 (by decide) lm_0 rfl (by decide) rfl fl_X11_28 dX11_fitting_11 ?_
  refine tj_icmp_ge (pc := 14) G (tgt := 89) (a2 := w32 z6) (b2 := w32 (M7 0 3)) dX11_fitting_14 (by decide) rfl rfl ?_ ?_
  · refine tj_iload_n (pc := 89) G 1 dX11_fitting_89 rfl rfl ?_
    exact tj_iret (pc := 90) G dX11_fitting_90
  refine tj_iconst (pc := 17) G dX11_fitting_17 ?_
  refine tj_istore_n (pc := 18) G (fun x8 => [(3, vI x8), (0, vR X 0), (1, vI z5), (2, vI z6)]) dX11_fitting_18 rfl (by decide) (fun _ => rfl) (fun x8 => ?_)
  refine tj_iconst (pc := 19) G dX11_fitting_19 ?_
  refine tj_istore (pc := 20) G (fun x9 => [(4, vI x9), (3, vI x8), (0, vR X 0), (1, vI z5), (2, vI z6)]) dX11_fitting_20 (by decide) (fun _ => rfl) (fun x9 => ?_)
  refine tj_sub [2, 3, 4, 1, 0] rfl (fx_X11_fitting_L22_ok G    (fun y13 M21 => ?_) tp_F x8 x9 M7)
  refine tj_iload_n (pc := 69) G 1 dX11_fitting_69 rfl rfl ?_
  refine tj_iload_n (pc := 70) G 3 dX11_fitting_70 rfl rfl ?_
  refine tj_jn1 (fun y22 => [(0, vR X 0), (2, vI z6)]) (fun y22 => [vI y22, vI z5]) 81 (fun y22 M23 => ?_) (fun jk81 hj81 => ?_)
  · refine tj_ior (pc := 81) G dX11_fitting_81 ?_
    refine tj_istore_n (pc := 82) G (fun x24 => [(1, vI x24), (0, vR X 0), (2, vI z6)]) dX11_fitting_82 rfl (by decide) (fun _ => rfl) (fun x24 => ?_)
    refine tj_iinc (pc := 83) G 2 (fun x25 => [(2, vI x25), (1, vI x24), (0, vR X 0)]) dX11_fitting_83 rfl (by decide) (fun _ => rfl) (fun x25 => ?_)
    refine tj_goto (pc := 86) G (tgt := 9) dX11_fitting_86 (by decide) ?_
    exact tj_sub [2, 1, 0] rfl (hrec x24 x25 M23)
  refine tj_if_eq (pc := 71) G (tgt := 80) (a2 := w32 y13) dX11_fitting_71 (by decide) rfl ?_ ?_
  · refine tj_iconst (pc := 80) G dX11_fitting_80 ?_
    exact tj_sub [0, 2] rfl (hj81 0 M21)
  refine tj_iconst (pc := 74) G dX11_fitting_74 ?_
  refine tj_iload_n (pc := 75) G 2 dX11_fitting_75 rfl rfl ?_
  refine tj_ishl (pc := 76) G dX11_fitting_76 ?_
  refine tj_goto (pc := 77) G (tgt := 81) dX11_fitting_77 (by decide) ?_
  exact tj_sub [0, 2] rfl (hj81 (x_shl 1 z6) M21)
set_option maxRecDepth 100000 in
set_option maxHeartbeats 4000000 in
theorem ok_X11_fitting (X : tp_X)    {M : tp_M} {res : Int × tp_M} (h : fx_X11_fitting   M = some res) : tp_Ret X LM 34 1 yX11_fitting (Cond.code yX11_fitting cX11_fitting 5 (some .int)) 3 [vR X 0] M res := by
  refine tp_ofW (by decide +kernel) rfl rfl (by show _ ≤ 5; exact Nat.le_of_ble_eq_true rfl) h (fun Y G => ?_)
  show tp_J X Y LM 34 5 3 1 (fx_X11_fitting   M) M [(0, vR X 0)] [] 0
  unfold fx_X11_fitting
  refine tj_aload_n (pc := 0) G 0 dX11_fitting_0 rfl rfl ?_
  refine tj_iconst (pc := 1) G dX11_fitting_1 ?_
  refine tj_callVv (pc := 2) G [vI 0] mf_X11_laysFar (k := 0) (by decide) lm_0 rfl rfl ml_X11_273 (by decide) rfl rfl (Nat.le_of_ble_eq_true rfl) (fun _ h9 => ok_X11_laysFar X  h9) dX11_fitting_2 (fun r1 M2 => ?_)
  refine tj_iconst (pc := 5) G dX11_fitting_5 ?_
  refine tj_istore_n (pc := 6) G (fun x3 => [(1, vI x3), (0, vR X 0)]) dX11_fitting_6 rfl (by decide) (fun _ => rfl) (fun x3 => ?_)
  refine tj_iconst (pc := 7) G dX11_fitting_7 ?_
  refine tj_istore_n (pc := 8) G (fun x4 => [(2, vI x4), (1, vI x3), (0, vR X 0)]) dX11_fitting_8 rfl (by decide) (fun _ => rfl) (fun x4 => ?_)
  refine tj_sub [2, 1, 0] rfl (fx_X11_fitting_L9_ok G     tp_F x3 x4 M2)
