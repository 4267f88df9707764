def fx_X11_stepFrom  (k1 : Nat) (k1n : Nat) (a2 : Int) (M : tp_M) : tp_O :=
(tp_ck (w32 (8 + a2)) k1n (tp_ck (w32 (8 + a2)) k1n (tp_lm (tp_up M k1 (w32 (8 + a2)) ((M k1 (w32 (8 + a2))) - 1)) (fun M1 =>
(tp_bd (fx_X11_turnsPost k1 k1n a2 M1) (fun r2 M3 =>
(tp_lt r2 (fun x4 =>
(tp_bd (fx_X11_comesTo k1 k1n x4 M3) (fun r5 M6 =>
(some (x4, M6))))))))))))
set_option maxRecDepth 100000 in
set_option maxHeartbeats 4000000 in
theorem ok_X11_stepFrom (X : tp_X)  {k1 : Nat} {k1n : Nat} {a2 : Int} (hk1 : tg_I LM 34 k1 k1n) {M : tp_M} {res : Int × tp_M} (h : fx_X11_stepFrom  k1 k1n a2 M = some res) : tp_Ret X LM 34 1 yX11_stepFrom (Cond.code yX11_stepFrom cX11_stepFrom 4 (some .int)) 6 [vR X 0, vR X k1, vI a2] M res := by
  refine tp_ofW (by decide +kernel) rfl rfl (by show _ ≤ 4; exact Nat.le_of_ble_eq_true rfl) h (fun Y G => ?_)
  show tp_J X Y LM 34 4 6 1 (fx_X11_stepFrom  k1 k1n a2 M) M [(0, vR X 0), (1, vR X k1), (2, vI a2)] [] 0
  unfold fx_X11_stepFrom
  refine tj_aload_n (pc := 0) G 1 dX11_stepFrom_0 rfl rfl ?_
  refine tj_bipush (pc := 1) G dX11_stepFrom_1 rfl ?_
  refine tj_iload_n (pc := 3) G 2 dX11_stepFrom_3 rfl rfl ?_
  refine tj_iadd (pc := 4) G dX11_stepFrom_4 ?_
  refine tj_dup2 (pc := 5) G dX11_stepFrom_5 rfl rfl ?_
  refine tj_iald (pc := 6) G (k := k1) (i2 := w32 (8 + a2)) (n2 := k1n) hk1.1 hk1.2 rfl rfl dX11_stepFrom_6 ?_
  refine tj_iconst (pc := 7) G dX11_stepFrom_7 ?_
  refine tj_isub (pc := 8) G dX11_stepFrom_8 ?_
  refine tj_iast (pc := 9) G (k := k1) (i2 := w32 (8 + a2)) (n2 := k1n) hk1.1 hk1.2 rfl rfl dX11_stepFrom_9 (fun M1 => ?_)
  refine tj_aload_n (pc := 10) G 0 dX11_stepFrom_10 rfl rfl ?_
  refine tj_aload_n (pc := 11) G 1 dX11_stepFrom_11 rfl rfl ?_
  refine tj_iload_n (pc := 12) G 2 dX11_stepFrom_12 rfl rfl ?_
  refine tj_callVi (pc := 13) G [vR X k1, vI a2] mf_X11_turnsPost (k := 0) (by decide) lm_0 rfl rfl ml_X11_296 (by decide) rfl rfl (Nat.le_of_ble_eq_true rfl) (fun _ h9 => ok_X11_turnsPost X ⟨hk1.1, hk1.2⟩ h9) dX11_stepFrom_13 (fun r2 M3 => ?_)
  refine tj_istore_n (pc := 16) G (fun x4 => [(3, vI x4), (0, vR X 0), (1, vR X k1), (2, vI a2)]) dX11_stepFrom_16 rfl (by decide) (fun _ => rfl) (fun x4 => ?_)
  refine tj_aload_n (pc := 17) G 2 dX11_stepFrom_17 rfl rfl ?_
  refine tj_iload_n (pc := 18) G 0 dX11_stepFrom_18 rfl rfl ?_
  refine tj_callSv (pc := 19) G [vR X k1, vI x4] mf_X11_comesTo ml_X11_299 (by decide) rfl rfl (Nat.le_of_ble_eq_true rfl) (fun _ h9 => ok_X11_comesTo X ⟨hk1.1, hk1.2⟩ h9) dX11_stepFrom_19 (fun r5 M6 => ?_)
  refine tj_iload_n (pc := 22) G 0 dX11_stepFrom_22 rfl rfl ?_
  exact tj_iret (pc := 23) G dX11_stepFrom_23

def fx_X11_comesMany  (k1 : Nat) (k1n : Nat) (a2 : Int) (a3 : Int) (M : tp_M) : tp_O :=
(tp_bd (fx_X11_isOut a2 M) (fun r1 M2 =>
(if w32 r1 = 0 then
(some ((-1), M2))
else
(tp_bd (fx_X11_in (w32 a3) 1 99 M2) (fun r3 M4 =>
(if w32 r3 = 0 then
(some ((-1), M4))
else
(tp_ck (w32 (8 + a2)) k1n (if w32 ((M4 k1 (w32 (8 + a2))) + a3) ≤ 99 then
(tp_ck (w32 (8 + a2)) k1n (tp_ck (w32 (8 + a2)) k1n (tp_lm (tp_up M4 k1 (w32 (8 + a2)) ((M4 k1 (w32 (8 + a2))) + a3)) (fun M5 =>
(tp_ck (w32 (8 + a2)) k1n (some (M5 k1 (w32 (8 + a2)), M5)))))))
else
(some ((-2), M4))))))))))
set_option maxRecDepth 100000 in
set_option maxHeartbeats 4000000 in
theorem ok_X11_comesMany (X : tp_X)  {k1 : Nat} {k1n : Nat} {a2 : Int} {a3 : Int} (hk1 : tg_I LM 34 k1 k1n) {M : tp_M} {res : Int × tp_M} (h : fx_X11_comesMany  k1 k1n a2 a3 M = some res) : tp_Ret X LM 34 1 yX11_comesMany (Cond.code yX11_comesMany cX11_comesMany 4 (some .int)) 3 [vR X 0, vR X k1, vI a2, vI a3] M res := by
  refine tp_ofW (by decide +kernel) rfl rfl (by show _ ≤ 4; exact Nat.le_of_ble_eq_true rfl) h (fun Y G => ?_)
  show tp_J X Y LM 34 4 3 1 (fx_X11_comesMany  k1 k1n a2 a3 M) M [(0, vR X 0), (1, vR X k1), (2, vI a2), (3, vI a3)] [] 0
  unfold fx_X11_comesMany
  refine tj_aload_n (pc := 0) G 0 dX11_comesMany_0 rfl rfl ?_
  refine tj_iload_n (pc := 1) G 2 dX11_comesMany_1 rfl rfl ?_
  refine tj_callVi (pc := 2) G [vI a2] mf_X11_isOut (k := 0) (by decide) lm_0 rfl rfl ml_X11_280 (by decide) rfl rfl (Nat.le_of_ble_eq_true rfl) (fun _ h9 => ok_X11_isOut X  h9) dX11_comesMany_2 (fun r1 M2 => ?_)
  refine tj_if_eq (pc := 5) G (tgt := 20) (a2 := w32 r1) dX11_comesMany_5 (by decide) rfl ?_ ?_
  · refine tj_iconst (pc := 20) G dX11_comesMany_20 ?_
    exact tj_iret (pc := 21) G dX11_comesMany_21
  refine tj_iload_n (pc := 8) G 3 dX11_comesMany_8 rfl rfl ?_
  refine tj_i2l (pc := 9) G (b := w32 a3) dX11_comesMany_9 rfl ?_
  refine tj_lconst (pc := 10) G (v := 1) dX11_comesMany_10 rfl ?_
  refine tj_ldc2 (pc := 11) G (v := 99) dX11_comesMany_11 ct_X11_302 rfl ?_
  refine tj_callSi (pc := 14) G [vL (w32 a3), vL 1, vL 99] mf_X11_in ml_X11_129 (by decide) rfl rfl (Nat.le_of_ble_eq_true rfl) (fun _ h9 => ok_X11_in X  h9) dX11_comesMany_14 (fun r3 M4 => ?_)
  refine tj_if_ne (pc := 17) G (tgt := 22) (a2 := w32 r3) dX11_comesMany_17 (by decide) rfl ?_ ?_
  · refine tj_aload_n (pc := 22) G 1 dX11_comesMany_22 rfl rfl ?_
    refine tj_bipush (pc := 23) G dX11_comesMany_23 rfl ?_
    refine tj_iload_n (pc := 25) G 2 dX11_comesMany_25 rfl rfl ?_
    refine tj_iadd (pc := 26) G dX11_comesMany_26 ?_
    refine tj_iald (pc := 27) G (k := k1) (i2 := w32 (8 + a2)) (n2 := k1n) hk1.1 hk1.2 rfl rfl dX11_comesMany_27 ?_
    refine tj_iload_n (pc := 28) G 3 dX11_comesMany_28 rfl rfl ?_
    refine tj_iadd (pc := 29) G dX11_comesMany_29 ?_
    refine tj_bipush (pc := 30) G dX11_comesMany_30 rfl ?_
    refine tj_icmp_le (pc := 32) G (tgt := 38) (a2 := w32 ((M4 k1 (w32 (8 + a2))) + a3)) (b2 := 99) dX11_comesMany_32 (by decide) rfl rfl ?_ ?_
    · refine tj_aload_n (pc := 38) G 1 dX11_comesMany_38 rfl rfl ?_
      refine tj_bipush (pc := 39) G dX11_comesMany_39 rfl ?_
      refine tj_iload_n (pc := 41) G 2 dX11_comesMany_41 rfl rfl ?_
      refine tj_iadd (pc := 42) G dX11_comesMany_42 ?_
      refine tj_dup2 (pc := 43) G dX11_comesMany_43 rfl rfl ?_
      refine tj_iald (pc := 44) G (k := k1) (i2 := w32 (8 + a2)) (n2 := k1n) hk1.1 hk1.2 rfl rfl dX11_comesMany_44 ?_
      refine tj_iload_n (pc := 45) G 3 dX11_comesMany_45 rfl rfl ?_
      refine tj_iadd (pc := 46) G dX11_comesMany_46 ?_
      refine tj_iast (pc := 47) G (k := k1) (i2 := w32 (8 + a2)) (n2 := k1n) hk1.1 hk1.2 rfl rfl dX11_comesMany_47 (fun M5 => ?_)
      refine tj_aload_n (pc := 48) G 1 dX11_comesMany_48 rfl rfl ?_
      refine tj_bipush (pc := 49) G dX11_comesMany_49 rfl ?_
      refine tj_iload_n (pc := 51) G 2 dX11_comesMany_51 rfl rfl ?_
      refine tj_iadd (pc := 52) G dX11_comesMany_52 ?_
      refine tj_iald (pc := 53) G (k := k1) (i2 := w32 (8 + a2)) (n2 := k1n) hk1.1 hk1.2 rfl rfl dX11_comesMany_53 ?_
      exact tj_iret (pc := 54) G dX11_comesMany_54
    refine tj_bipush (pc := 35) G dX11_comesMany_35 rfl ?_
    exact tj_iret (pc := 37) G dX11_comesMany_37
  refine tj_iconst (pc := 20) G dX11_comesMany_20 ?_
  exact tj_iret (pc := 21) G dX11_comesMany_21

def fx_X11_goesOne  (k1 : Nat) (k1n : Nat) (a2 : Int) (M : tp_M) : tp_O :=
(tp_bd (fx_X11_isOut a2 M) (fun r1 M2 =>
(if w32 r1 = 0 then
(some ((-1), M2))
else
(tp_ck (w32 (8 + a2)) k1n (if w32 (M2 k1 (w32 (8 + a2))) = 0 then
(some ((-2), M2))
else
(tp_bd (fx_X11_stepFrom k1 k1n a2 M2) (fun r3 M4 =>
(some (r3, M4)))))))))
set_option maxRecDepth 100000 in
set_option maxHeartbeats 4000000 in
theorem ok_X11_goesOne (X : tp_X)  {k1 : Nat} {k1n : Nat} {a2 : Int} (hk1 : tg_I LM 34 k1 k1n) {M : tp_M} {res : Int × tp_M} (h : fx_X11_goesOne  k1 k1n a2 M = some res) : tp_Ret X LM 34 1 yX11_goesOne (Cond.code yX11_goesOne cX11_goesOne 3 (some .int)) 7 [vR X 0, vR X k1, vI a2] M res := by
  refine tp_ofW (by decide +kernel) rfl rfl (by show _ ≤ 3; exact Nat.le_of_ble_eq_true rfl) h (fun Y G => ?_)
  show tp_J X Y LM 34 3 7 1 (fx_X11_goesOne  k1 k1n a2 M) M [(0, vR X 0), (1, vR X k1), (2, vI a2)] [] 0
  unfold fx_X11_goesOne
  refine tj_aload_n (pc := 0) G 0 dX11_goesOne_0 rfl rfl ?_
  refine tj_iload_n (pc := 1) G 2 dX11_goesOne_1 rfl rfl ?_
  refine tj_callVi (pc := 2) G [vI a2] mf_X11_isOut (k := 0) (by decide) lm_0 rfl rfl ml_X11_280 (by decide) rfl rfl (Nat.le_of_ble_eq_true rfl) (fun _ h9 => ok_X11_isOut X  h9) dX11_goesOne_2 (fun r1 M2 => ?_)
  refine tj_if_ne (pc := 5) G (tgt := 10) (a2 := w32 r1) dX11_goesOne_5 (by decide) rfl ?_ ?_
  · refine tj_aload_n (pc := 10) G 1 dX11_goesOne_10 rfl rfl ?_
    refine tj_bipush (pc := 11) G dX11_goesOne_11 rfl ?_
    refine tj_iload_n (pc := 13) G 2 dX11_goesOne_13 rfl rfl ?_
    refine tj_iadd (pc := 14) G dX11_goesOne_14 ?_
    refine tj_iald (pc := 15) G (k := k1) (i2 := w32 (8 + a2)) (n2 := k1n) hk1.1 hk1.2 rfl rfl dX11_goesOne_15 ?_
    refine tj_if_ne (pc := 16) G (tgt := 24) (a2 := w32 (M2 k1 (w32 (8 + a2)))) dX11_goesOne_16 (by decide) rfl ?_ ?_
    · refine tj_aload_n (pc := 24) G 0 dX11_goesOne_24 rfl rfl ?_
      refine tj_aload_n (pc := 25) G 1 dX11_goesOne_25 rfl rfl ?_
      refine tj_iload_n (pc := 26) G 2 dX11_goesOne_26 rfl rfl ?_
      refine tj_callVi (pc := 27) G [vR X k1, vI a2] mf_X11_stepFrom (k := 0) (by decide) lm_0 rfl rfl ml_X11_304 (by decide) rfl rfl (Nat.le_of_ble_eq_true rfl) (fun _ h9 => ok_X11_stepFrom X ⟨hk1.1, hk1.2⟩ h9) dX11_goesOne_27 (fun r3 M4 => ?_)
      exact tj_iret (pc := 30) G dX11_goesOne_30
    refine tj_bipush (pc := 19) G dX11_goesOne_19 rfl ?_
    refine tj_goto (pc := 21) G (tgt := 30) dX11_goesOne_21 (by decide) ?_
    exact tj_iret (pc := 30) G dX11_goesOne_30
  refine tj_iconst (pc := 8) G dX11_goesOne_8 ?_
  exact tj_iret (pc := 9) G dX11_goesOne_9

def fx_X11_walksOne_L47  (K86 : Int → Int → tp_M → tp_O) (rec : Int → Int → tp_M → tp_O) (z8 z9 : Int) (M10 : tp_M) : tp_O :=
(if w32 z8 ≤ 0 then
(K86 z8 z9 M10)
else
(if w32 z9 < 999 then
(tp_bd (fx_X11_stepFrom 4 17 z8 M10) (fun r13 M14 =>
(tp_lt r13 (fun x15 =>
(tp_lm (tp_up M14 0 25 (x_or (M14 0 25) (x_shl 1 x15))) (fun M16 =>
(tp_lt (z9 + 1) (fun x17 =>
(rec x15 x17 M16)))))))))
else
(K86 z8 z9 M10)))
def fx_X11_walksOne  (a1 : Int) (M : tp_M) : tp_O :=
(tp_bd (fx_X11_isOut a1 M) (fun r1 M2 =>
(if w32 r1 = 0 then
(some ((-1), M2))
else
(tp_ck (w32 (8 + a1)) 17 (if w32 (M2 4 (w32 (8 + a1))) = 0 then
(some ((-2), M2))
else
(tp_bd (fx_X11_copies 5 17 4 17 M2) (fun r3 M4 =>
(tp_lm (tp_up M4 0 25 (x_shl 1 a1)) (fun M5 =>
(tp_lt a1 (fun x6 =>
(tp_lt 0 (fun x7 =>
(tp_lp2 (fx_X11_walksOne_L47  (fun y11 y12 M18 =>
(if w32 y11 ≤ 0 then
(some (y12, M18))
else
(tp_bd (fx_X11_copies 4 17 5 17 M18) (fun r19 M20 =>
(some ((-3), M20))))))) tp_F x6 x7 M5))))))))))))))
set_option maxRecDepth 100000 in
set_option maxHeartbeats 4000000 in
theorem fx_X11_walksOne_L47_ok {X : tp_X} {Y : tp_Y} (G : tp_Ok X Y 34 cX11_walksOne 4 RX11 (some .int))  {K86 : Int → Int → tp_M → tp_O}   (hK86 : ∀ (y11 y12 : Int) (M9 : tp_M), tp_J X Y LM 34 4 7 1 (K86 y11 y12 M9) M9 [(0, vR X 0), (2, vI y11), (3, vI y12)] [] 86) (n : Nat) : ∀ (z8 z9 : Int) (M10 : tp_M), tp_J X Y LM 34 4 7 1 (tp_lp2 (fx_X11_walksOne_L47   K86) n z8 z9 M10) M10 [(0, vR X 0), (2, vI z8), (3, vI z9)] [] 47 := by
  refine tp_lp2_ok (P := fun o z8 z9 M10 => tp_J X Y LM 34 4 7 1 (o) M10 [(0, vR X 0), (2, vI z8), (3, vI z9)] [] 47) (fun z8 z9 M10 => tj_none) (fun rec hrec z8 z9 M10 => ?_) n
  unfold fx_X11_walksOne_L47
  refine tj_iload_n (pc := 47) G 1 dX11_walksOne_47 rfl rfl ?_
  refine tj_if_le (pc := 48) G (tgt := 86) (a2 := w32 z8) dX11_walksOne_48 (by decide) rfl ?_ ?_
  · exact tj_sub [0, 1, 2] rfl (hK86 z8 z9 M10)
  refine tj_iload_n (pc := 51) G 2 dX11_walksOne_51 rfl rfl ?_
  refine tj_sipush (pc := 52) G dX11_walksOne_52 rfl ?_
  refine tj_icmp_ge (pc := 55) G (tgt := 86) (a2 := w32 z9) (b2 := 999) dX11_walksOne_55 (by decide) rfl rfl ?_ ?_
  · exact tj_sub [0, 1, 2] rfl (hK86 z8 z9 M10)
  refine tj_aload_n (pc := 58) G 0 dX11_walksOne_58 rfl rfl ?_
  refine tj_aload_n (pc := 59) G 0 dX11_walksOne_59 rfl rfl ?_
  refine tj_getR (pc := 60) G (k := 0) (j := 6) (j2 := 6) tk_X11 (by decide) lm_0 rfl (by decide) rfl fl_X11_38 dX11_walksOne_60 ?_
  refine tj_iload_n (pc := 63) G 1 dX11_walksOne_63 rfl rfl ?_
  refine tj_callVi (pc := 64) G [vR X 4, vI z8] mf_X11_stepFrom (k := 0) (by decide) lm_0 rfl rfl ml_X11_304 (by decide) rfl rfl (Nat.le_of_ble_eq_true rfl) (fun _ h9 => ok_X11_stepFrom X ⟨by decide, lm_4⟩ h9) dX11_walksOne_64 (fun r13 M14 => ?_)
  refine tj_istore_n (pc := 67) G (fun x15 => [(2, vI x15), (0, vR X 0), (3, vI z9)]) dX11_walksOne_67 rfl (by decide) (fun _ => rfl) (fun x15 => ?_)
  refine tj_aload_n (pc := 68) G 1 dX11_walksOne_68 rfl rfl ?_
  refine tj_dup (pc := 69) G dX11_walksOne_69 rfl ?_
  refine tj_getI (pc := 70) G (k := 0) (j := 25) (j2 := 25) tk_X11 (by decide) lm_0 rfl (by decide) rfl fl_X11_311 dX11_walksOne_70 ?_
  refine tj_iconst (pc := 73) G dX11_walksOne_73 ?_
  refine tj_iload_n (pc := 74) G 0 dX11_walksOne_74 rfl rfl ?_
  refine tj_ishl (pc := 75) G dX11_walksOne_75 ?_
  refine tj_ior (pc := 76) G dX11_walksOne_76 ?_
  refine tj_putI (pc := 77) G (k := 0) (j := 25) (j2 := 25) tk_X11 (by decide) lm_0 rfl (by decide) rfl fl_X11_311 rfl rfl dX11_walksOne_77 (fun M16 => ?_)
  refine tj_iinc (pc := 80) G 2 (fun x17 => [(3, vI x17), (2, vI x15), (0, vR X 0)]) dX11_walksOne_80 rfl (by decide) (fun _ => rfl) (fun x17 => ?_)
  refine tj_goto (pc := 83) G (tgt := 47) dX11_walksOne_83 (by decide) ?_
  exact tj_sub [2, 1, 0] rfl (hrec x15 x17 M16)
set_option maxRecDepth 100000 in
set_option maxHeartbeats 4000000 in
theorem ok_X11_walksOne (X : tp_X)  {a1 : Int}  {M : tp_M} {res : Int × tp_M} (h : fx_X11_walksOne  a1 M = some res) : tp_Ret X LM 34 1 yX11_walksOne (Cond.code yX11_walksOne cX11_walksOne 4 (some .int)) 7 [vR X 0, vI a1] M res := by
  refine tp_ofW (by decide +kernel) rfl rfl (by show _ ≤ 4; exact Nat.le_of_ble_eq_true rfl) h (fun Y G => ?_)
  show tp_J X Y LM 34 4 7 1 (fx_X11_walksOne  a1 M) M [(0, vR X 0), (1, vI a1)] [] 0
  unfold fx_X11_walksOne
  refine tj_aload_n (pc := 0) G 0 dX11_walksOne_0 rfl rfl ?_
  refine tj_iload_n (pc := 1) G 1 dX11_walksOne_1 rfl rfl ?_
  refine tj_callVi (pc := 2) G [vI a1] mf_X11_isOut (k := 0) (by decide) lm_0 rfl rfl ml_X11_280 (by decide) rfl rfl (Nat.le_of_ble_eq_true rfl) (fun _ h9 => ok_X11_isOut X  h9) dX11_walksOne_2 (fun r1 M2 => ?_)
  refine tj_if_ne (pc := 5) G (tgt := 10) (a2 := w32 r1) dX11_walksOne_5 (by decide) rfl ?_ ?_
  · refine tj_aload_n (pc := 10) G 0 dX11_walksOne_10 rfl rfl ?_
    refine tj_getR (pc := 11) G (k := 0) (j := 6) (j2 := 6) tk_X11 (by decide) lm_0 rfl (by decide) rfl fl_X11_38 dX11_walksOne_11 ?_
    refine tj_bipush (pc := 14) G dX11_walksOne_14 rfl ?_
    refine tj_iload_n (pc := 16) G 1 dX11_walksOne_16 rfl rfl ?_
    refine tj_iadd (pc := 17) G dX11_walksOne_17 ?_
    refine tj_iald (pc := 18) G (k := 4) (i2 := w32 (8 + a1)) (n2 := 17) (by decide) lm_4 rfl rfl dX11_walksOne_18 ?_
    refine tj_if_ne (pc := 19) G (tgt := 25) (a2 := w32 (M2 4 (w32 (8 + a1)))) dX11_walksOne_19 (by decide) rfl ?_ ?_
    · refine tj_aload_n (pc := 25) G 0 dX11_walksOne_25 rfl rfl ?_
      refine tj_getR (pc := 26) G (k := 0) (j := 7) (j2 := 7) tk_X11 (by decide) lm_0 rfl (by decide) rfl fl_X11_41 dX11_walksOne_26 ?_
      refine tj_aload_n (pc := 29) G 0 dX11_walksOne_29 rfl rfl ?_
      refine tj_getR (pc := 30) G (k := 0) (j := 6) (j2 := 6) tk_X11 (by decide) lm_0 rfl (by decide) rfl fl_X11_38 dX11_walksOne_30 ?_
      refine tj_callSv (pc := 33) G [vR X 5, vR X 4] mf_X11_copies ml_X11_307 (by decide) rfl rfl (Nat.le_of_ble_eq_true rfl) (fun _ h9 => ok_X11_copies X ⟨by decide, lm_5⟩ ⟨by decide, lm_4⟩ h9) dX11_walksOne_33 (fun r3 M4 => ?_)
      refine tj_aload_n (pc := 36) G 0 dX11_walksOne_36 rfl rfl ?_
      refine tj_iconst (pc := 37) G dX11_walksOne_37 ?_
      refine tj_iload_n (pc := 38) G 1 dX11_walksOne_38 rfl rfl ?_
      refine tj_ishl (pc := 39) G dX11_walksOne_39 ?_
      refine tj_putI (pc := 40) G (k := 0) (j := 25) (j2 := 25) tk_X11 (by decide) lm_0 rfl (by decide) rfl fl_X11_311 rfl rfl dX11_walksOne_40 (fun M5 => ?_)
      refine tj_iload_n (pc := 43) G 1 dX11_walksOne_43 rfl rfl ?_
      refine tj_istore_n (pc := 44) G (fun x6 => [(2, vI x6), (0, vR X 0), (1, vI a1)]) dX11_walksOne_44 rfl (by decide) (fun _ => rfl) (fun x6 => ?_)
      refine tj_iconst (pc := 45) G dX11_walksOne_45 ?_
      refine tj_istore_n (pc := 46) G (fun x7 => [(3, vI x7), (2, vI x6), (0, vR X 0), (1, vI a1)]) dX11_walksOne_46 rfl (by decide) (fun _ => rfl) (fun x7 => ?_)
      refine tj_sub [2, 1, 0] rfl (fx_X11_walksOne_L47_ok G    (fun y11 y12 M18 => ?_) tp_F x6 x7 M5)
      refine tj_iload_n (pc := 86) G 1 dX11_walksOne_86 rfl rfl ?_
      refine tj_if_le (pc := 87) G (tgt := 104) (a2 := w32 y11) dX11_walksOne_87 (by decide) rfl ?_ ?_
      · refine tj_iload_n (pc := 104) G 2 dX11_walksOne_104 rfl rfl ?_
        exact tj_iret (pc := 105) G dX11_walksOne_105
      refine tj_aload_n (pc := 90) G 0 dX11_walksOne_90 rfl rfl ?_
      refine tj_getR (pc := 91) G (k := 0) (j := 6) (j2 := 6) tk_X11 (by decide) lm_0 rfl (by decide) rfl fl_X11_38 dX11_walksOne_91 ?_
      refine tj_aload_n (pc := 94) G 0 dX11_walksOne_94 rfl rfl ?_
      refine tj_getR (pc := 95) G (k := 0) (j := 7) (j2 := 7) tk_X11 (by decide) lm_0 rfl (by decide) rfl fl_X11_41 dX11_walksOne_95 ?_
      refine tj_callSv (pc := 98) G [vR X 4, vR X 5] mf_X11_copies ml_X11_307 (by decide) rfl rfl (Nat.le_of_ble_eq_true rfl) (fun _ h9 => ok_X11_copies X ⟨by decide, lm_4⟩ ⟨by decide, lm_5⟩ h9) dX11_walksOne_98 (fun r19 M20 => ?_)
      refine tj_bipush (pc := 101) G dX11_walksOne_101 rfl ?_
      exact tj_iret (pc := 103) G dX11_walksOne_103
    refine tj_bipush (pc := 22) G dX11_walksOne_22 rfl ?_
    exact tj_iret (pc := 24) G dX11_walksOne_24
  refine tj_iconst (pc := 8) G dX11_walksOne_8 ?_
  exact tj_iret (pc := 9) G dX11_walksOne_9

def fx_X11_burstsBy_L17 (k1 : Nat) (k1n : Nat) (c2 : Int) (rec : Int → tp_M → tp_O) (z3 : Int) (M4 : tp_M) : tp_O :=
(tp_ck (w32 c2) 8 (if w32 z3 < w32 (M4 2 (w32 c2)) then
(tp_bd (fx_X11_goalOf c2 z3 M4) (fun r5 M6 =>
(tp_bd (fx_X11_comesTo k1 k1n r5 M6) (fun r7 M8 =>
(tp_lt (z3 + 1) (fun x9 =>
(rec x9 M8)))))))
else
(some (0, M4))))
def fx_X11_burstsBy  (k1 : Nat) (k1n : Nat) (a2 : Int) (M : tp_M) : tp_O :=
(tp_ck (w32 (8 + a2)) k1n (tp_ck (w32 a2) 8 (tp_ck (w32 (8 + a2)) k1n (tp_lm (tp_up M k1 (w32 (8 + a2)) ((M k1 (w32 (8 + a2))) - (M 2 (w32 a2)))) (fun M1 =>
(tp_lt 0 (fun x2 =>
(tp_lp1 (fx_X11_burstsBy_L17 k1 k1n a2 ) tp_F x2 M1))))))))
set_option maxRecDepth 100000 in
set_option maxHeartbeats 4000000 in
theorem fx_X11_burstsBy_L17_ok {X : tp_X} {Y : tp_Y} (G : tp_Ok X Y 34 cX11_burstsBy 4 RX11 none)  {k1 : Nat} {k1n : Nat} {c2 : Int} (hk1 : tg_I LM 34 k1 k1n)   (n : Nat) : ∀ (z3 : Int) (M4 : tp_M), tp_J X Y LM 34 4 2 0 (tp_lp1 (fx_X11_burstsBy_L17 k1 k1n c2 ) n z3 M4) M4 [(0, vR X 0), (1, vR X k1), (2, vI c2), (3, vI z3)] [] 17 := by
  refine tp_lp1_ok (P := fun o z3 M4 => tp_J X Y LM 34 4 2 0 (o) M4 [(0, vR X 0), (1, vR X k1), (2, vI c2), (3, vI z3)] [] 17) (fun z3 M4 => tj_none) (fun rec hrec z3 M4 => ?_) n
  unfold fx_X11_burstsBy_L17
  refine tj_iload_n (pc := 17) G 3 dX11_burstsBy_17 rfl rfl ?_
  refine tj_aload_n (pc := 18) G 0 dX11_burstsBy_18 rfl rfl ?_
  refine tj_getR (pc := 19) G (k := 0) (j := 4) (j2 := 4) tk_X11 (by decide) lm_0 rfl (by decide) rfl fl_X11_31 dX11_burstsBy_19 ?_
  refine tj_iload_n (pc := 22) G 2 dX11_burstsBy_22 rfl rfl ?_
  refine tj_iald (pc := 23) G (k := 2) (i2 := w32 c2) (n2 := 8) (by decide) lm_2 rfl rfl dX11_burstsBy_23 ?_
  refine tj_icmp_ge (pc := 24) G (tgt := 43) (a2 := w32 z3) (b2 := w32 (M4 2 (w32 c2))) dX11_burstsBy_24 (by decide) rfl rfl ?_ ?_
  · exact tj_vret (pc := 43) G dX11_burstsBy_43
  refine tj_aload_n (pc := 27) G 1 dX11_burstsBy_27 rfl rfl ?_
  refine tj_aload_n (pc := 28) G 0 dX11_burstsBy_28 rfl rfl ?_
  refine tj_iload_n (pc := 29) G 2 dX11_burstsBy_29 rfl rfl ?_
  refine tj_iload_n (pc := 30) G 3 dX11_burstsBy_30 rfl rfl ?_
  refine tj_callVi (pc := 31) G [vI c2, vI z3] mf_X11_goalOf (k := 0) (by decide) lm_0 rfl rfl ml_X11_255 (by decide) rfl rfl (Nat.le_of_ble_eq_true rfl) (fun _ h9 => ok_X11_goalOf X  h9) dX11_burstsBy_31 (fun r5 M6 => ?_)
  refine tj_callSv (pc := 34) G [vR X k1, vI r5] mf_X11_comesTo ml_X11_299 (by decide) rfl rfl (Nat.le_of_ble_eq_true rfl) (fun _ h9 => ok_X11_comesTo X ⟨hk1.1, hk1.2⟩ h9) dX11_burstsBy_34 (fun r7 M8 => ?_)
  refine tj_iinc (pc := 37) G 3 (fun x9 => [(3, vI x9), (0, vR X 0), (1, vR X k1), (2, vI c2)]) dX11_burstsBy_37 rfl (by decide) (fun _ => rfl) (fun x9 => ?_)
  refine tj_goto (pc := 40) G (tgt := 17) dX11_burstsBy_40 (by decide) ?_
  exact tj_sub [1, 2, 3, 0] rfl (hrec x9 M8)
set_option maxRecDepth 100000 in
set_option maxHeartbeats 4000000 in
theorem ok_X11_burstsBy (X : tp_X)  {k1 : Nat} {k1n : Nat} {a2 : Int} (hk1 : tg_I LM 34 k1 k1n) {M : tp_M} {res : Int × tp_M} (h : fx_X11_burstsBy  k1 k1n a2 M = some res) : tp_Ret X LM 34 0 yX11_burstsBy (Cond.code yX11_burstsBy cX11_burstsBy 4 none) 2 [vR X 0, vR X k1, vI a2] M res := by
  refine tp_ofW (by decide +kernel) rfl rfl (by show _ ≤ 4; exact Nat.le_of_ble_eq_true rfl) h (fun Y G => ?_)
  show tp_J X Y LM 34 4 2 0 (fx_X11_burstsBy  k1 k1n a2 M) M [(0, vR X 0), (1, vR X k1), (2, vI a2)] [] 0
  unfold fx_X11_burstsBy
  refine tj_aload_n (pc := 0) G 1 dX11_burstsBy_0 rfl rfl ?_
  refine tj_bipush (pc := 1) G dX11_burstsBy_1 rfl ?_
  refine tj_iload_n (pc := 3) G 2 dX11_burstsBy_3 rfl rfl ?_
  refine tj_iadd (pc := 4) G dX11_burstsBy_4 ?_
  refine tj_dup2 (pc := 5) G dX11_burstsBy_5 rfl rfl ?_
  refine tj_iald (pc := 6) G (k := k1) (i2 := w32 (8 + a2)) (n2 := k1n) hk1.1 hk1.2 rfl rfl dX11_burstsBy_6 ?_
  refine tj_aload_n (pc := 7) G 0 dX11_burstsBy_7 rfl rfl ?_
  refine tj_getR (pc := 8) G (k := 0) (j := 4) (j2 := 4) tk_X11 (by decide) lm_0 rfl (by decide) rfl fl_X11_31 dX11_burstsBy_8 ?_
  refine tj_iload_n (pc := 11) G 2 dX11_burstsBy_11 rfl rfl ?_
  refine tj_iald (pc := 12) G (k := 2) (i2 := w32 a2) (n2 := 8) (by decide) lm_2 rfl rfl dX11_burstsBy_12 ?_
  refine tj_isub (pc := 13) G dX11_burstsBy_13 ?_
  refine tj_iast (pc := 14) G (k := k1) (i2 := w32 (8 + a2)) (n2 := k1n) hk1.1 hk1.2 rfl rfl dX11_burstsBy_14 (fun M1 => ?_)
  refine tj_iconst (pc := 15) G dX11_burstsBy_15 ?_
  refine tj_istore_n (pc := 16) G (fun x2 => [(3, vI x2), (0, vR X 0), (1, vR X k1), (2, vI a2)]) dX11_burstsBy_16 rfl (by decide) (fun _ => rfl) (fun x2 => ?_)
  refine tj_sub [1, 2, 3, 0] rfl (fx_X11_burstsBy_L17_ok G  hk1   tp_F x2 M1)

def fx_X11_burstsOne  (k1 : Nat) (k1n : Nat) (a2 : Int) (M : tp_M) : tp_O :=
(tp_bd (fx_X11_isOut a2 M) (fun r1 M2 =>
(if w32 r1 = 0 then
(some ((-1), M2))
else
(tp_ck (w32 (8 + a2)) k1n (tp_ck (w32 a2) 8 (if w32 (M2 k1 (w32 (8 + a2))) < w32 (M2 2 (w32 a2)) then
(some ((-2), M2))
else
(tp_bd (fx_X11_burstsBy k1 k1n a2 M2) (fun r3 M4 =>
(tp_ck (w32 (8 + a2)) k1n (some (M4 k1 (w32 (8 + a2)), M4)))))))))))
set_option maxRecDepth 100000 in
set_option maxHeartbeats 4000000 in
theorem ok_X11_burstsOne (X : tp_X)  {k1 : Nat} {k1n : Nat} {a2 : Int} (hk1 : tg_I LM 34 k1 k1n) {M : tp_M} {res : Int × tp_M} (h : fx_X11_burstsOne  k1 k1n a2 M = some res) : tp_Ret X LM 34 1 yX11_burstsOne (Cond.code yX11_burstsOne cX11_burstsOne 3 (some .int)) 3 [vR X 0, vR X k1, vI a2] M res := by
  refine tp_ofW (by decide +kernel) rfl rfl (by show _ ≤ 3; exact Nat.le_of_ble_eq_true rfl) h (fun Y G => ?_)
  show tp_J X Y LM 34 3 3 1 (fx_X11_burstsOne  k1 k1n a2 M) M [(0, vR X 0), (1, vR X k1), (2, vI a2)] [] 0
  unfold fx_X11_burstsOne
  refine tj_aload_n (pc := 0) G 0 dX11_burstsOne_0 rfl rfl ?_
  refine tj_iload_n (pc := 1) G 2 dX11_burstsOne_1 rfl rfl ?_
  refine tj_callVi (pc := 2) G [vI a2] mf_X11_isOut (k := 0) (by decide) lm_0 rfl rfl ml_X11_280 (by decide) rfl rfl (Nat.le_of_ble_eq_true rfl) (fun _ h9 => ok_X11_isOut X  h9) dX11_burstsOne_2 (fun r1 M2 => ?_)
  refine tj_if_ne (pc := 5) G (tgt := 10) (a2 := w32 r1) dX11_burstsOne_5 (by decide) rfl ?_ ?_
  · refine tj_aload_n (pc := 10) G 1 dX11_burstsOne_10 rfl rfl ?_
    refine tj_bipush (pc := 11) G dX11_burstsOne_11 rfl ?_
    refine tj_iload_n (pc := 13) G 2 dX11_burstsOne_13 rfl rfl ?_
    refine tj_iadd (pc := 14) G dX11_burstsOne_14 ?_
    refine tj_iald (pc := 15) G (k := k1) (i2 := w32 (8 + a2)) (n2 := k1n) hk1.1 hk1.2 rfl rfl dX11_burstsOne_15 ?_
    refine tj_aload_n (pc := 16) G 0 dX11_burstsOne_16 rfl rfl ?_
    refine tj_getR (pc := 17) G (k := 0) (j := 4) (j2 := 4) tk_X11 (by decide) lm_0 rfl (by decide) rfl fl_X11_31 dX11_burstsOne_17 ?_
    refine tj_iload_n (pc := 20) G 2 dX11_burstsOne_20 rfl rfl ?_
    refine tj_iald (pc := 21) G (k := 2) (i2 := w32 a2) (n2 := 8) (by decide) lm_2 rfl rfl dX11_burstsOne_21 ?_
    refine tj_icmp_ge (pc := 22) G (tgt := 28) (a2 := w32 (M2 k1 (w32 (8 + a2)))) (b2 := w32 (M2 2 (w32 a2))) dX11_burstsOne_22 (by decide) rfl rfl ?_ ?_
    · refine tj_aload_n (pc := 28) G 0 dX11_burstsOne_28 rfl rfl ?_
      refine tj_aload_n (pc := 29) G 1 dX11_burstsOne_29 rfl rfl ?_
      refine tj_iload_n (pc := 30) G 2 dX11_burstsOne_30 rfl rfl ?_
      refine tj_callVv (pc := 31) G [vR X k1, vI a2] mf_X11_burstsBy (k := 0) (by decide) lm_0 rfl rfl ml_X11_314 (by decide) rfl rfl (Nat.le_of_ble_eq_true rfl) (fun _ h9 => ok_X11_burstsBy X ⟨hk1.1, hk1.2⟩ h9) dX11_burstsOne_31 (fun r3 M4 => ?_)
      refine tj_aload_n (pc := 34) G 1 dX11_burstsOne_34 rfl rfl ?_
      refine tj_bipush (pc := 35) G dX11_burstsOne_35 rfl ?_
      refine tj_iload_n (pc := 37) G 2 dX11_burstsOne_37 rfl rfl ?_
      refine tj_iadd (pc := 38) G dX11_burstsOne_38 ?_
      refine tj_iald (pc := 39) G (k := k1) (i2 := w32 (8 + a2)) (n2 := k1n) hk1.1 hk1.2 rfl rfl dX11_burstsOne_39 ?_
      exact tj_iret (pc := 40) G dX11_burstsOne_40
    refine tj_bipush (pc := 25) G dX11_burstsOne_25 rfl ?_
    exact tj_iret (pc := 27) G dX11_burstsOne_27
  refine tj_iconst (pc := 8) G dX11_burstsOne_8 ?_
  exact tj_iret (pc := 9) G dX11_burstsOne_9

def fx_X11_calmed_L4 (k1 : Nat) (k1n : Nat) (c2 : Int) (K23 : tp_M → tp_O) (rec : Int → tp_M → tp_O) (z3 : Int) (M4 : tp_M) : tp_O :=
(if w32 z3 < 8 then
(tp_ck (w32 z3) 8 (tp_lm (tp_up M4 15 (w32 z3) 0) (fun M5 =>
(tp_lt (z3 + 1) (fun x6 =>
(rec x6 M5))))))
else
(K23 M4))
def fx_X11_calmed_L43 (k1 : Nat) (k1n : Nat) (c4 : Int) (K96 : Int → Int → tp_M → tp_O) (rec : Int → Int → tp_M → tp_O) (z20 z21 : Int) (M22 : tp_M) : tp_O :=
(tp_ck (w32 (8 + c4)) k1n (tp_ck (w32 c4) 8 (if w32 (M22 k1 (w32 (8 + c4))) < w32 (M22 2 (w32 c4)) then
(K96 z20 z21 M22)
else
(if w32 z20 = 9999 then
(some ((-3), M22))
else
(tp_bd (fx_X11_burstsBy k1 k1n c4 M22) (fun r25 M26 =>
(tp_ck (w32 c4) 8 (tp_ck (w32 c4) 8 (tp_lm (tp_up M26 15 (w32 c4) ((M26 15 (w32 c4)) + 1)) (fun M27 =>
(tp_lt (z20 + 1) (fun x28 =>
(tp_lt 1 (fun x29 =>
(rec x28 x29 M27)))))))))))))))
def fx_X11_calmed_L34 (k1 : Nat) (k1n : Nat) (K102 : Int → Int → tp_M → tp_O) (rec : Int → Int → Int → tp_M → tp_O) (z14 z15 z16 : Int) (M17 : tp_M) : tp_O :=
(if w32 z16 < w32 (M17 0 3) then
(tp_lp2 (fx_X11_calmed_L43 k1 k1n z16 (fun y23 y24 M30 =>
(tp_lt (z16 + 1) (fun x31 =>
(rec y23 y24 x31 M30))))) tp_F z14 z15 M17)
else
(K102 z14 z15 M17))
def fx_X11_calmed_L25 (k1 : Nat) (k1n : Nat)  (rec : Int → Int → tp_M → tp_O) (z9 z10 : Int) (M11 : tp_M) : tp_O :=
(if w32 z10 = 0 then
(some (z9, M11))
else
(tp_lt 0 (fun x12 =>
(tp_lt 1 (fun x13 =>
(tp_lp3 (fx_X11_calmed_L34 k1 k1n (fun y18 y19 M32 =>
(rec y18 y19 M32))) tp_F z9 x12 x13 M11))))))
def fx_X11_calmed  (k1 : Nat) (k1n : Nat) (M : tp_M) : tp_O :=
(tp_lt 0 (fun x1 =>
(tp_lt 0 (fun x2 =>
(tp_lp1 (fx_X11_calmed_L4 k1 k1n x1 (fun M7 =>
(tp_lt 1 (fun x8 =>
(tp_lp2 (fx_X11_calmed_L25 k1 k1n ) tp_F x1 x8 M7))))) tp_F x2 M)))))
set_option maxRecDepth 100000 in
set_option maxHeartbeats 4000000 in
theorem fx_X11_calmed_L4_ok {X : tp_X} {Y : tp_Y} (G : tp_Ok X Y 34 cX11_calmed 5 RX11 (some .int))  {k1 : Nat} {k1n : Nat} {c2 : Int} {K23 : tp_M → tp_O} (hk1 : tg_I LM 34 k1 k1n)  (hK23 : ∀ (M9 : tp_M), tp_J X Y LM 34 5 3 1 (K23  M9) M9 [(0, vR X 0), (1, vR X k1), (2, vI c2)] [] 23) (n : Nat) : ∀ (z3 : Int) (M4 : tp_M), tp_J X Y LM 34 5 3 1 (tp_lp1 (fx_X11_calmed_L4 k1 k1n c2 K23) n z3 M4) M4 [(0, vR X 0), (1, vR X k1), (2, vI c2), (3, vI z3)] [] 4 := by
  refine tp_lp1_ok (P := fun o z3 M4 => tp_J X Y LM 34 5 3 1 (o) M4 [(0, vR X 0), (1, vR X k1), (2, vI c2), (3, vI z3)] [] 4) (fun z3 M4 => tj_none) (fun rec hrec z3 M4 => ?_) n
  unfold fx_X11_calmed_L4
  refine tj_iload_n (pc := 4) G 3 dX11_calmed_4 rfl rfl ?_
  refine tj_bipush (pc := 5) G dX11_calmed_5 rfl ?_
  refine tj_icmp_ge (pc := 7) G (tgt := 23) (a2 := w32 z3) (b2 := 8) dX11_calmed_7 (by decide) rfl rfl ?_ ?_
  · exact tj_sub [0, 1, 2] rfl (hK23  M4)
  refine tj_aload_n (pc := 10) G 0 dX11_calmed_10 rfl rfl ?_
  refine tj_getR (pc := 11) G (k := 0) (j := 26) (j2 := 26) tk_X11 (by decide) lm_0 rfl (by decide) rfl fl_X11_71 dX11_calmed_11 ?_
  refine tj_iload_n (pc := 14) G 3 dX11_calmed_14 rfl rfl ?_
  refine tj_iconst (pc := 15) G dX11_calmed_15 ?_
  refine tj_iast (pc := 16) G (k := 15) (i2 := w32 z3) (n2 := 8) (by decide) lm_15 rfl rfl dX11_calmed_16 (fun M5 => ?_)
  refine tj_iinc (pc := 17) G 3 (fun x6 => [(3, vI x6), (0, vR X 0), (1, vR X k1), (2, vI c2)]) dX11_calmed_17 rfl (by decide) (fun _ => rfl) (fun x6 => ?_)
  refine tj_goto (pc := 20) G (tgt := 4) dX11_calmed_20 (by decide) ?_
  exact tj_sub [1, 2, 3, 0] rfl (hrec x6 M5)
set_option maxRecDepth 100000 in
set_option maxHeartbeats 4000000 in
theorem fx_X11_calmed_L43_ok {X : tp_X} {Y : tp_Y} (G : tp_Ok X Y 34 cX11_calmed 5 RX11 (some .int))  {k1 : Nat} {k1n : Nat} {c4 : Int} {K96 : Int → Int → tp_M → tp_O} (hk1 : tg_I LM 34 k1 k1n)  (hK96 : ∀ (y23 y24 : Int) (M9 : tp_M), tp_J X Y LM 34 5 3 1 (K96 y23 y24 M9) M9 [(0, vR X 0), (1, vR X k1), (2, vI y23), (3, vI y24), (4, vI c4)] [] 96) (n : Nat) : ∀ (z20 z21 : Int) (M22 : tp_M), tp_J X Y LM 34 5 3 1 (tp_lp2 (fx_X11_calmed_L43 k1 k1n c4 K96) n z20 z21 M22) M22 [(0, vR X 0), (1, vR X k1), (2, vI z20), (3, vI z21), (4, vI c4)] [] 43 := by
  refine tp_lp2_ok (P := fun o z20 z21 M22 => tp_J X Y LM 34 5 3 1 (o) M22 [(0, vR X 0), (1, vR X k1), (2, vI z20), (3, vI z21), (4, vI c4)] [] 43) (fun z20 z21 M22 => tj_none) (fun rec hrec z20 z21 M22 => ?_) n
  unfold fx_X11_calmed_L43
  refine tj_aload_n (pc := 43) G 1 dX11_calmed_43 rfl rfl ?_
  refine tj_bipush (pc := 44) G dX11_calmed_44 rfl ?_
  refine tj_iload (pc := 46) G 4 dX11_calmed_46 rfl ?_
  refine tj_iadd (pc := 48) G dX11_calmed_48 ?_
  refine tj_iald (pc := 49) G (k := k1) (i2 := w32 (8 + c4)) (n2 := k1n) hk1.1 hk1.2 rfl rfl dX11_calmed_49 ?_
  refine tj_aload_n (pc := 50) G 0 dX11_calmed_50 rfl rfl ?_
  refine tj_getR (pc := 51) G (k := 0) (j := 4) (j2 := 4) tk_X11 (by decide) lm_0 rfl (by decide) rfl fl_X11_31 dX11_calmed_51 ?_
  refine tj_iload (pc := 54) G 4 dX11_calmed_54 rfl ?_
  refine tj_iald (pc := 56) G (k := 2) (i2 := w32 c4) (n2 := 8) (by decide) lm_2 rfl rfl dX11_calmed_56 ?_
  refine tj_icmp_lt (pc := 57) G (tgt := 96) (a2 := w32 (M22 k1 (w32 (8 + c4)))) (b2 := w32 (M22 2 (w32 c4))) dX11_calmed_57 (by decide) rfl rfl ?_ ?_
  · exact tj_sub [0, 1, 2, 3, 4] rfl (hK96 z20 z21 M22)
  refine tj_iload_n (pc := 60) G 2 dX11_calmed_60 rfl rfl ?_
  refine tj_sipush (pc := 61) G dX11_calmed_61 rfl ?_
  refine tj_icmp_ne (pc := 64) G (tgt := 70) (a2 := w32 z20) (b2 := 9999) dX11_calmed_64 (by decide) rfl rfl ?_ ?_
  · refine tj_aload_n (pc := 70) G 0 dX11_calmed_70 rfl rfl ?_
    refine tj_aload_n (pc := 71) G 1 dX11_calmed_71 rfl rfl ?_
    refine tj_iload (pc := 72) G 4 dX11_calmed_72 rfl ?_
    refine tj_callVv (pc := 74) G [vR X k1, vI c4] mf_X11_burstsBy (k := 0) (by decide) lm_0 rfl rfl ml_X11_314 (by decide) rfl rfl (Nat.le_of_ble_eq_true rfl) (fun _ h9 => ok_X11_burstsBy X ⟨hk1.1, hk1.2⟩ h9) dX11_calmed_74 (fun r25 M26 => ?_)
    refine tj_aload_n (pc := 77) G 0 dX11_calmed_77 rfl rfl ?_
    refine tj_getR (pc := 78) G (k := 0) (j := 26) (j2 := 26) tk_X11 (by decide) lm_0 rfl (by decide) rfl fl_X11_71 dX11_calmed_78 ?_
    refine tj_iload (pc := 81) G 4 dX11_calmed_81 rfl ?_
    refine tj_dup2 (pc := 83) G dX11_calmed_83 rfl rfl ?_
    refine tj_iald (pc := 84) G (k := 15) (i2 := w32 c4) (n2 := 8) (by decide) lm_15 rfl rfl dX11_calmed_84 ?_
    refine tj_iconst (pc := 85) G dX11_calmed_85 ?_
    refine tj_iadd (pc := 86) G dX11_calmed_86 ?_
    refine tj_iast (pc := 87) G (k := 15) (i2 := w32 c4) (n2 := 8) (by decide) lm_15 rfl rfl dX11_calmed_87 (fun M27 => ?_)
    refine tj_iinc (pc := 88) G 2 (fun x28 => [(2, vI x28), (0, vR X 0), (1, vR X k1), (3, vI z21), (4, vI c4)]) dX11_calmed_88 rfl (by decide) (fun _ => rfl) (fun x28 => ?_)
    refine tj_iconst (pc := 91) G dX11_calmed_91 ?_
    refine tj_istore_n (pc := 92) G (fun x29 => [(3, vI x29), (2, vI x28), (0, vR X 0), (1, vR X k1), (4, vI c4)]) dX11_calmed_92 rfl (by decide) (fun _ => rfl) (fun x29 => ?_)
    refine tj_goto (pc := 93) G (tgt := 43) dX11_calmed_93 (by decide) ?_
    exact tj_sub [2, 3, 1, 0, 4] rfl (hrec x28 x29 M27)
  refine tj_bipush (pc := 67) G dX11_calmed_67 rfl ?_
  exact tj_iret (pc := 69) G dX11_calmed_69
set_option maxRecDepth 100000 in
set_option maxHeartbeats 4000000 in
theorem fx_X11_calmed_L34_ok {X : tp_X} {Y : tp_Y} (G : tp_Ok X Y 34 cX11_calmed 5 RX11 (some .int))  {k1 : Nat} {k1n : Nat} {K102 : Int → Int → tp_M → tp_O} (hk1 : tg_I LM 34 k1 k1n)  (hK102 : ∀ (y18 y19 : Int) (M9 : tp_M), tp_J X Y LM 34 5 3 1 (K102 y18 y19 M9) M9 [(0, vR X 0), (1, vR X k1), (2, vI y18), (3, vI y19)] [] 102) (n : Nat) : ∀ (z14 z15 z16 : Int) (M17 : tp_M), tp_J X Y LM 34 5 3 1 (tp_lp3 (fx_X11_calmed_L34 k1 k1n  K102) n z14 z15 z16 M17) M17 [(0, vR X 0), (1, vR X k1), (2, vI z14), (3, vI z15), (4, vI z16)] [] 34 := by
  refine tp_lp3_ok (P := fun o z14 z15 z16 M17 => tp_J X Y LM 34 5 3 1 (o) M17 [(0, vR X 0), (1, vR X k1), (2, vI z14), (3, vI z15), (4, vI z16)] [] 34) (fun z14 z15 z16 M17 => tj_none) (fun rec hrec z14 z15 z16 M17 => ?_) n
  unfold fx_X11_calmed_L34
  refine tj_iload (pc := 34) G 4 dX11_calmed_34 rfl ?_
  refine tj_aload_n (pc := 36) G 0 dX11_calmed_36 rfl rfl ?_
  refine tj_getI (pc := 37) G (k := 0) (j := 3) (j2 := 3) tk_X11 (by decide) lm_0 rfl (by decide) rfl fl_X11_28 dX11_calmed_37 ?_
  refine tj_icmp_ge (pc := 40) G (tgt := 102) (a2 := w32 z16) (b2 := w32 (M17 0 3)) dX11_calmed_40 (by decide) rfl rfl ?_ ?_
  · exact tj_sub [0, 1, 2, 3] rfl (hK102 z14 z15 M17)
  refine tj_sub [0, 1, 2, 3, 4] rfl (fx_X11_calmed_L43_ok G  hk1  (fun y23 y24 M30 => ?_) tp_F z14 z15 M17)
  refine tj_iinc (pc := 96) G 4 (fun x31 => [(4, vI x31), (0, vR X 0), (1, vR X k1), (2, vI y23), (3, vI y24)]) dX11_calmed_96 rfl (by decide) (fun _ => rfl) (fun x31 => ?_)
  refine tj_goto (pc := 99) G (tgt := 34) dX11_calmed_99 (by decide) ?_
  exact tj_sub [1, 2, 3, 4, 0] rfl (hrec y23 y24 x31 M30)
set_option maxRecDepth 100000 in
set_option maxHeartbeats 4000000 in
theorem fx_X11_calmed_L25_ok {X : tp_X} {Y : tp_Y} (G : tp_Ok X Y 34 cX11_calmed 5 RX11 (some .int))  {k1 : Nat} {k1n : Nat} (hk1 : tg_I LM 34 k1 k1n)   (n : Nat) : ∀ (z9 z10 : Int) (M11 : tp_M), tp_J X Y LM 34 5 3 1 (tp_lp2 (fx_X11_calmed_L25 k1 k1n  ) n z9 z10 M11) M11 [(0, vR X 0), (1, vR X k1), (2, vI z9), (3, vI z10)] [] 25 := by
  refine tp_lp2_ok (P := fun o z9 z10 M11 => tp_J X Y LM 34 5 3 1 (o) M11 [(0, vR X 0), (1, vR X k1), (2, vI z9), (3, vI z10)] [] 25) (fun z9 z10 M11 => tj_none) (fun rec hrec z9 z10 M11 => ?_) n
  unfold fx_X11_calmed_L25
  refine tj_iload_n (pc := 25) G 3 dX11_calmed_25 rfl rfl ?_
  refine tj_if_eq (pc := 26) G (tgt := 105) (a2 := w32 z10) dX11_calmed_26 (by decide) rfl ?_ ?_
  · refine tj_iload_n (pc := 105) G 2 dX11_calmed_105 rfl rfl ?_
    exact tj_iret (pc := 106) G dX11_calmed_106
  refine tj_iconst (pc := 29) G dX11_calmed_29 ?_
  refine tj_istore_n (pc := 30) G (fun x12 => [(3, vI x12), (0, vR X 0), (1, vR X k1), (2, vI z9)]) dX11_calmed_30 rfl (by decide) (fun _ => rfl) (fun x12 => ?_)
  refine tj_iconst (pc := 31) G dX11_calmed_31 ?_
  refine tj_istore (pc := 32) G (fun x13 => [(4, vI x13), (3, vI x12), (0, vR X 0), (1, vR X k1), (2, vI z9)]) dX11_calmed_32 (by decide) (fun _ => rfl) (fun x13 => ?_)
  refine tj_sub [2, 3, 4, 1, 0] rfl (fx_X11_calmed_L34_ok G  hk1  (fun y18 y19 M32 => ?_) tp_F z9 x12 x13 M11)
  refine tj_goto (pc := 102) G (tgt := 25) dX11_calmed_102 (by decide) ?_
  exact tj_sub [0, 1, 2, 3] rfl (hrec y18 y19 M32)
set_option maxRecDepth 100000 in
set_option maxHeartbeats 4000000 in
theorem ok_X11_calmed (X : tp_X)  {k1 : Nat} {k1n : Nat} (hk1 : tg_I LM 34 k1 k1n) {M : tp_M} {res : Int × tp_M} (h : fx_X11_calmed  k1 k1n M = some res) : tp_Ret X LM 34 1 yX11_calmed (Cond.code yX11_calmed cX11_calmed 5 (some .int)) 3 [vR X 0, vR X k1] M res := by
  refine tp_ofW (by decide +kernel) rfl rfl (by show _ ≤ 5; exact Nat.le_of_ble_eq_true rfl) h (fun Y G => ?_)
  show tp_J X Y LM 34 5 3 1 (fx_X11_calmed  k1 k1n M) M [(0, vR X 0), (1, vR X k1)] [] 0
  unfold fx_X11_calmed
  refine tj_iconst (pc := 0) G dX11_calmed_0 ?_
  refine tj_istore_n (pc := 1) G (fun x1 => [(2, vI x1), (0, vR X 0), (1, vR X k1)]) dX11_calmed_1 rfl (by decide) (fun _ => rfl) (fun x1 => ?_)
  refine tj_iconst (pc := 2) G dX11_calmed_2 ?_
  refine tj_istore_n (pc := 3) G (fun x2 => [(3, vI x2), (2, vI x1), (0, vR X 0), (1, vR X k1)]) dX11_calmed_3 rfl (by decide) (fun _ => rfl) (fun x2 => ?_)
  refine tj_sub [2, 3, 1, 0] rfl (fx_X11_calmed_L4_ok G  hk1  (fun M7 => ?_) tp_F x2 M)
  refine tj_iconst (pc := 23) G dX11_calmed_23 ?_
  refine tj_istore_n (pc := 24) G (fun x8 => [(3, vI x8), (0, vR X 0), (1, vR X k1), (2, vI x1)]) dX11_calmed_24 rfl (by decide) (fun _ => rfl) (fun x8 => ?_)
  refine tj_sub [1, 2, 3, 0] rfl (fx_X11_calmed_L25_ok G  hk1   tp_F x1 x8 M7)

def fx_X11_calmsAll   (M : tp_M) : tp_O :=
(tp_bd (fx_X11_copies 5 17 4 17 M) (fun r1 M2 =>
(tp_bd (fx_X11_calmed 4 17 M2) (fun r3 M4 =>
(tp_lt r3 (fun x5 =>
(if w32 x5 < 0 then
(tp_bd (fx_X11_copies 4 17 5 17 M4) (fun r6 M7 =>
(some (x5, M7))))
else
(some (x5, M4)))))))))
set_option maxRecDepth 100000 in
set_option maxHeartbeats 4000000 in
theorem ok_X11_calmsAll (X : tp_X)    {M : tp_M} {res : Int × tp_M} (h : fx_X11_calmsAll   M = some res) : tp_Ret X LM 34 1 yX11_calmsAll (Cond.code yX11_calmsAll cX11_calmsAll 2 (some .int)) 4 [vR X 0] M res := by
  refine tp_ofW (by decide +kernel) rfl rfl (by show _ ≤ 2; exact Nat.le_of_ble_eq_true rfl) h (fun Y G => ?_)
  show tp_J X Y LM 34 2 4 1 (fx_X11_calmsAll   M) M [(0, vR X 0)] [] 0
  unfold fx_X11_calmsAll
  refine tj_aload_n (pc := 0) G 0 dX11_calmsAll_0 rfl rfl ?_
  refine tj_getR (pc := 1) G (k := 0) (j := 7) (j2 := 7) tk_X11 (by decide) lm_0 rfl (by decide) rfl fl_X11_41 dX11_calmsAll_1 ?_
  refine tj_aload_n (pc := 4) G 0 dX11_calmsAll_4 rfl rfl ?_
  refine tj_getR (pc := 5) G (k := 0) (j := 6) (j2 := 6) tk_X11 (by decide) lm_0 rfl (by decide) rfl fl_X11_38 dX11_calmsAll_5 ?_
  refine tj_callSv (pc := 8) G [vR X 5, vR X 4] mf_X11_copies ml_X11_307 (by decide) rfl rfl (Nat.le_of_ble_eq_true rfl) (fun _ h9 => ok_X11_copies X ⟨by decide, lm_5⟩ ⟨by decide, lm_4⟩ h9) dX11_calmsAll_8 (fun r1 M2 => ?_)
  refine tj_aload_n (pc := 11) G 0 dX11_calmsAll_11 rfl rfl ?_
  refine tj_aload_n (pc := 12) G 0 dX11_calmsAll_12 rfl rfl ?_
  refine tj_getR (pc := 13) G (k := 0) (j := 6) (j2 := 6) tk_X11 (by decide) lm_0 rfl (by decide) rfl fl_X11_38 dX11_calmsAll_13 ?_
  refine tj_callVi (pc := 16) G [vR X 4] mf_X11_calmed (k := 0) (by decide) lm_0 rfl rfl ml_X11_317 (by decide) rfl rfl (Nat.le_of_ble_eq_true rfl) (fun _ h9 => ok_X11_calmed X ⟨by decide, lm_4⟩ h9) dX11_calmsAll_16 (fun r3 M4 => ?_)
  refine tj_istore_n (pc := 19) G (fun x5 => [(1, vI x5), (0, vR X 0)]) dX11_calmsAll_19 rfl (by decide) (fun _ => rfl) (fun x5 => ?_)
  refine tj_iload_n (pc := 20) G 0 dX11_calmsAll_20 rfl rfl ?_
  refine tj_if_ge (pc := 21) G (tgt := 35) (a2 := w32 x5) dX11_calmsAll_21 (by decide) rfl ?_ ?_
  · refine tj_iload_n (pc := 35) G 0 dX11_calmsAll_35 rfl rfl ?_
    exact tj_iret (pc := 36) G dX11_calmsAll_36
  refine tj_aload_n (pc := 24) G 1 dX11_calmsAll_24 rfl rfl ?_
  refine tj_getR (pc := 25) G (k := 0) (j := 6) (j2 := 6) tk_X11 (by decide) lm_0 rfl (by decide) rfl fl_X11_38 dX11_calmsAll_25 ?_
  refine tj_aload_n (pc := 28) G 1 dX11_calmsAll_28 rfl rfl ?_
  refine tj_getR (pc := 29) G (k := 0) (j := 7) (j2 := 7) tk_X11 (by decide) lm_0 rfl (by decide) rfl fl_X11_41 dX11_calmsAll_29 ?_
  refine tj_callSv (pc := 32) G [vR X 4, vR X 5] mf_X11_copies ml_X11_307 (by decide) rfl rfl (Nat.le_of_ble_eq_true rfl) (fun _ h9 => ok_X11_copies X ⟨by decide, lm_4⟩ ⟨by decide, lm_5⟩ h9) dX11_calmsAll_32 (fun r6 M7 => ?_)
  refine tj_iload_n (pc := 35) G 0 dX11_calmsAll_35 rfl rfl ?_
  exact tj_iret (pc := 36) G dX11_calmsAll_36

def fx_X11_pointsTo  (a1 : Int) (a2 : Int) (M : tp_M) : tp_O :=
(tp_bd (fx_X11_isOut a1 M) (fun r1 M2 =>
(if w32 r1 = 0 then
(some ((-1), M2))
else
(tp_ck (w32 a1) 8 (tp_bd (fx_X11_in (w32 a2) 0 (w32 ((M2 2 (w32 a1)) - 1)) M2) (fun r3 M4 =>
(if w32 r3 = 0 then
(some ((-1), M4))
else
(tp_ck (w32 a1) 17 (tp_lt (M4 4 (w32 a1)) (fun x5 =>
(tp_ck (w32 a1) 17 (tp_lm (tp_up M4 4 (w32 a1) a2) (fun M6 =>
(if w32 x5 = w32 a2 then
(some ((-2), M6))
else
(some (10 + x5, M6))))))))))))))))
set_option maxRecDepth 100000 in
set_option maxHeartbeats 4000000 in
theorem ok_X11_pointsTo (X : tp_X)  {a1 : Int} {a2 : Int}  {M : tp_M} {res : Int × tp_M} (h : fx_X11_pointsTo  a1 a2 M = some res) : tp_Ret X LM 34 1 yX11_pointsTo (Cond.code yX11_pointsTo cX11_pointsTo 4 (some .int)) 3 [vR X 0, vI a1, vI a2] M res := by
  refine tp_ofW (by decide +kernel) rfl rfl (by show _ ≤ 4; exact Nat.le_of_ble_eq_true rfl) h (fun Y G => ?_)
  show tp_J X Y LM 34 4 3 1 (fx_X11_pointsTo  a1 a2 M) M [(0, vR X 0), (1, vI a1), (2, vI a2)] [] 0
  unfold fx_X11_pointsTo
  refine tj_aload_n (pc := 0) G 0 dX11_pointsTo_0 rfl rfl ?_
  refine tj_iload_n (pc := 1) G 1 dX11_pointsTo_1 rfl rfl ?_
  refine tj_callVi (pc := 2) G [vI a1] mf_X11_isOut (k := 0) (by decide) lm_0 rfl rfl ml_X11_280 (by decide) rfl rfl (Nat.le_of_ble_eq_true rfl) (fun _ h9 => ok_X11_isOut X  h9) dX11_pointsTo_2 (fun r1 M2 => ?_)
  refine tj_if_eq (pc := 5) G (tgt := 26) (a2 := w32 r1) dX11_pointsTo_5 (by decide) rfl ?_ ?_
  · refine tj_iconst (pc := 26) G dX11_pointsTo_26 ?_
    exact tj_iret (pc := 27) G dX11_pointsTo_27
  refine tj_iload_n (pc := 8) G 2 dX11_pointsTo_8 rfl rfl ?_
  refine tj_i2l (pc := 9) G (b := w32 a2) dX11_pointsTo_9 rfl ?_
  refine tj_lconst (pc := 10) G (v := 0) dX11_pointsTo_10 rfl ?_
  refine tj_aload_n (pc := 11) G 0 dX11_pointsTo_11 rfl rfl ?_
  refine tj_getR (pc := 12) G (k := 0) (j := 4) (j2 := 4) tk_X11 (by decide) lm_0 rfl (by decide) rfl fl_X11_31 dX11_pointsTo_12 ?_
  refine tj_iload_n (pc := 15) G 1 dX11_pointsTo_15 rfl rfl ?_
  refine tj_iald (pc := 16) G (k := 2) (i2 := w32 a1) (n2 := 8) (by decide) lm_2 rfl rfl dX11_pointsTo_16 ?_
  refine tj_iconst (pc := 17) G dX11_pointsTo_17 ?_
  refine tj_isub (pc := 18) G dX11_pointsTo_18 ?_
  refine tj_i2l (pc := 19) G (b := w32 ((M2 2 (w32 a1)) - 1)) dX11_pointsTo_19 rfl ?_
  refine tj_callSi (pc := 20) G [vL (w32 a2), vL 0, vL (w32 ((M2 2 (w32 a1)) - 1))] mf_X11_in ml_X11_129 (by decide) rfl rfl (Nat.le_of_ble_eq_true rfl) (fun _ h9 => ok_X11_in X  h9) dX11_pointsTo_20 (fun r3 M4 => ?_)
  refine tj_if_ne (pc := 23) G (tgt := 28) (a2 := w32 r3) dX11_pointsTo_23 (by decide) rfl ?_ ?_
  · refine tj_aload_n (pc := 28) G 0 dX11_pointsTo_28 rfl rfl ?_
    refine tj_getR (pc := 29) G (k := 0) (j := 6) (j2 := 6) tk_X11 (by decide) lm_0 rfl (by decide) rfl fl_X11_38 dX11_pointsTo_29 ?_
    refine tj_iload_n (pc := 32) G 1 dX11_pointsTo_32 rfl rfl ?_
    refine tj_iald (pc := 33) G (k := 4) (i2 := w32 a1) (n2 := 17) (by decide) lm_4 rfl rfl dX11_pointsTo_33 ?_
    refine tj_istore_n (pc := 34) G (fun x5 => [(3, vI x5), (0, vR X 0), (1, vI a1), (2, vI a2)]) dX11_pointsTo_34 rfl (by decide) (fun _ => rfl) (fun x5 => ?_)
    refine tj_aload_n (pc := 35) G 1 dX11_pointsTo_35 rfl rfl ?_
    refine tj_getR (pc := 36) G (k := 0) (j := 6) (j2 := 6) tk_X11 (by decide) lm_0 rfl (by decide) rfl fl_X11_38 dX11_pointsTo_36 ?_
    refine tj_iload_n (pc := 39) G 2 dX11_pointsTo_39 rfl rfl ?_
    refine tj_iload_n (pc := 40) G 3 dX11_pointsTo_40 rfl rfl ?_
    refine tj_iast (pc := 41) G (k := 4) (i2 := w32 a1) (n2 := 17) (by decide) lm_4 rfl rfl dX11_pointsTo_41 (fun M6 => ?_)
    refine tj_iload_n (pc := 42) G 0 dX11_pointsTo_42 rfl rfl ?_
    refine tj_iload_n (pc := 43) G 3 dX11_pointsTo_43 rfl rfl ?_
    refine tj_icmp_ne (pc := 44) G (tgt := 52) (a2 := w32 x5) (b2 := w32 a2) dX11_pointsTo_44 (by decide) rfl rfl ?_ ?_
    · refine tj_bipush (pc := 52) G dX11_pointsTo_52 rfl ?_
      refine tj_iload_n (pc := 54) G 0 dX11_pointsTo_54 rfl rfl ?_
      refine tj_iadd (pc := 55) G dX11_pointsTo_55 ?_
      exact tj_iret (pc := 56) G dX11_pointsTo_56
    refine tj_bipush (pc := 47) G dX11_pointsTo_47 rfl ?_
    refine tj_goto (pc := 49) G (tgt := 56) dX11_pointsTo_49 (by decide) ?_
    exact tj_iret (pc := 56) G dX11_pointsTo_56
  refine tj_iconst (pc := 26) G dX11_pointsTo_26 ?_
  exact tj_iret (pc := 27) G dX11_pointsTo_27

def fx_X11_comes  (a1 : Int) (a2 : Int) (M : tp_M) : tp_O :=
(tp_lm (tp_up M 0 0 0) (fun M1 =>
(tp_bd (fx_X11_putsBy  M1) (fun r2 M3 =>
(tp_bd (fx_X11_comesMany 4 17 a1 a2 M3) (fun r4 M5 =>
(tp_bd (fx_X11_counted r4 M5) (fun r6 M7 =>
(some (r6, M7))))))))))
set_option maxRecDepth 100000 in
set_option maxHeartbeats 4000000 in
theorem ok_X11_comes (X : tp_X)  {a1 : Int} {a2 : Int}  {M : tp_M} {res : Int × tp_M} (h : fx_X11_comes  a1 a2 M = some res) : tp_Ret X LM 34 1 yX11_comes (Cond.code yX11_comes cX11_comes 3 (some .int)) 4 [vR X 0, vI a1, vI a2] M res := by
  refine tp_ofW (by decide +kernel) rfl rfl (by show _ ≤ 3; exact Nat.le_of_ble_eq_true rfl) h (fun Y G => ?_)
  show tp_J X Y LM 34 3 4 1 (fx_X11_comes  a1 a2 M) M [(0, vR X 0), (1, vI a1), (2, vI a2)] [] 0
  unfold fx_X11_comes
  refine tj_aload_n (pc := 0) G 0 dX11_comes_0 rfl rfl ?_
  refine tj_iconst (pc := 1) G dX11_comes_1 ?_
  refine tj_putI (pc := 2) G (k := 0) (j := 0) (j2 := 0) tk_X11 (by decide) lm_0 rfl (by decide) rfl fl_X11_3 rfl rfl dX11_comes_2 (fun M1 => ?_)
  refine tj_aload_n (pc := 5) G 0 dX11_comes_5 rfl rfl ?_
  refine tj_callVv (pc := 6) G [] mf_X11_putsBy (k := 0) (by decide) lm_0 rfl rfl ml_X11_320 (by decide) rfl rfl (Nat.le_of_ble_eq_true rfl) (fun _ h9 => ok_X11_putsBy X  h9) dX11_comes_6 (fun r2 M3 => ?_)
  refine tj_aload_n (pc := 9) G 0 dX11_comes_9 rfl rfl ?_
  refine tj_aload_n (pc := 10) G 0 dX11_comes_10 rfl rfl ?_
  refine tj_aload_n (pc := 11) G 0 dX11_comes_11 rfl rfl ?_
  refine tj_getR (pc := 12) G (k := 0) (j := 6) (j2 := 6) tk_X11 (by decide) lm_0 rfl (by decide) rfl fl_X11_38 dX11_comes_12 ?_
  refine tj_iload_n (pc := 15) G 1 dX11_comes_15 rfl rfl ?_
  refine tj_iload_n (pc := 16) G 2 dX11_comes_16 rfl rfl ?_
  refine tj_callVi (pc := 17) G [vR X 4, vI a1, vI a2] mf_X11_comesMany (k := 0) (by decide) lm_0 rfl rfl ml_X11_323 (by decide) rfl rfl (Nat.le_of_ble_eq_true rfl) (fun _ h9 => ok_X11_comesMany X ⟨by decide, lm_4⟩ h9) dX11_comes_17 (fun r4 M5 => ?_)
  refine tj_callVi (pc := 20) G [vI r4] mf_X11_counted (k := 0) (by decide) lm_0 rfl rfl ml_X11_327 (by decide) rfl rfl (Nat.le_of_ble_eq_true rfl) (fun _ h9 => ok_X11_counted X  h9) dX11_comes_20 (fun r6 M7 => ?_)
  exact tj_iret (pc := 23) G dX11_comes_23

def fx_X11_goes  (a1 : Int) (M : tp_M) : tp_O :=
(tp_lm (tp_up M 0 0 0) (fun M1 =>
(tp_bd (fx_X11_putsBy  M1) (fun r2 M3 =>
(tp_bd (fx_X11_goesOne 4 17 a1 M3) (fun r4 M5 =>
(tp_lt r4 (fun x6 =>
(tp_jn0 (fun M7 => 
(tp_bd (fx_X11_counted x6 M7) (fun r8 M9 =>
(some (r8, M9))))) (fun jk53 =>
(if w32 x6 < 0 then
(jk53 M5)
else
(tp_lm (tp_up M5 0 1 0) (fun M10 =>
(tp_ck (w32 a1) 17 (tp_bd (fx_X11_enters (w32 (M10 4 (w32 a1))) M10) (fun r11 M12 =>
(tp_ck (w32 (8 + a1)) 17 (tp_bd (fx_X11_enters (w32 (M12 4 (w32 (8 + a1)))) M12) (fun r13 M14 =>
(jk53 M14))))))))))))))))))))
set_option maxRecDepth 100000 in
set_option maxHeartbeats 4000000 in
theorem ok_X11_goes (X : tp_X)  {a1 : Int}  {M : tp_M} {res : Int × tp_M} (h : fx_X11_goes  a1 M = some res) : tp_Ret X LM 34 1 yX11_goes (Cond.code yX11_goes cX11_goes 3 (some .int)) 8 [vR X 0, vI a1] M res := by
  refine tp_ofW (by decide +kernel) rfl rfl (by show _ ≤ 3; exact Nat.le_of_ble_eq_true rfl) h (fun Y G => ?_)
  show tp_J X Y LM 34 3 8 1 (fx_X11_goes  a1 M) M [(0, vR X 0), (1, vI a1)] [] 0
  unfold fx_X11_goes
  refine tj_aload_n (pc := 0) G 0 dX11_goes_0 rfl rfl ?_
  refine tj_iconst (pc := 1) G dX11_goes_1 ?_
  refine tj_putI (pc := 2) G (k := 0) (j := 0) (j2 := 0) tk_X11 (by decide) lm_0 rfl (by decide) rfl fl_X11_3 rfl rfl dX11_goes_2 (fun M1 => ?_)
  refine tj_aload_n (pc := 5) G 0 dX11_goes_5 rfl rfl ?_
  refine tj_callVv (pc := 6) G [] mf_X11_putsBy (k := 0) (by decide) lm_0 rfl rfl ml_X11_320 (by decide) rfl rfl (Nat.le_of_ble_eq_true rfl) (fun _ h9 => ok_X11_putsBy X  h9) dX11_goes_6 (fun r2 M3 => ?_)
  refine tj_aload_n (pc := 9) G 0 dX11_goes_9 rfl rfl ?_
  refine tj_aload_n (pc := 10) G 0 dX11_goes_10 rfl rfl ?_
  refine tj_getR (pc := 11) G (k := 0) (j := 6) (j2 := 6) tk_X11 (by decide) lm_0 rfl (by decide) rfl fl_X11_38 dX11_goes_11 ?_
  refine tj_iload_n (pc := 14) G 1 dX11_goes_14 rfl rfl ?_
  refine tj_callVi (pc := 15) G [vR X 4, vI a1] mf_X11_goesOne (k := 0) (by decide) lm_0 rfl rfl ml_X11_330 (by decide) rfl rfl (Nat.le_of_ble_eq_true rfl) (fun _ h9 => ok_X11_goesOne X ⟨by decide, lm_4⟩ h9) dX11_goes_15 (fun r4 M5 => ?_)
  refine tj_istore_n (pc := 18) G (fun x6 => [(2, vI x6), (0, vR X 0), (1, vI a1)]) dX11_goes_18 rfl (by decide) (fun _ => rfl) (fun x6 => ?_)
  refine tj_iload_n (pc := 19) G 0 dX11_goes_19 rfl rfl ?_
  refine tj_jn0 [(0, vR X 0), (2, vI x6)] [] 53 (fun M7 => ?_) (fun jk53 hj53 => ?_)
  · refine tj_aload_n (pc := 53) G 0 dX11_goes_53 rfl rfl ?_
    refine tj_iload_n (pc := 54) G 1 dX11_goes_54 rfl rfl ?_
    refine tj_callVi (pc := 55) G [vI x6] mf_X11_counted (k := 0) (by decide) lm_0 rfl rfl ml_X11_327 (by decide) rfl rfl (Nat.le_of_ble_eq_true rfl) (fun _ h9 => ok_X11_counted X  h9) dX11_goes_55 (fun r8 M9 => ?_)
    exact tj_iret (pc := 58) G dX11_goes_58
  refine tj_if_lt (pc := 20) G (tgt := 53) (a2 := w32 x6) dX11_goes_20 (by decide) rfl ?_ ?_
  · exact tj_sub [1, 0] rfl (hj53  M5)
  refine tj_aload_n (pc := 23) G 1 dX11_goes_23 rfl rfl ?_
  refine tj_iconst (pc := 24) G dX11_goes_24 ?_
  refine tj_putI (pc := 25) G (k := 0) (j := 1) (j2 := 1) tk_X11 (by decide) lm_0 rfl (by decide) rfl fl_X11_15 rfl rfl dX11_goes_25 (fun M10 => ?_)
  refine tj_aload_n (pc := 28) G 1 dX11_goes_28 rfl rfl ?_
  refine tj_aload_n (pc := 29) G 1 dX11_goes_29 rfl rfl ?_
  refine tj_getR (pc := 30) G (k := 0) (j := 6) (j2 := 6) tk_X11 (by decide) lm_0 rfl (by decide) rfl fl_X11_38 dX11_goes_30 ?_
  refine tj_iload_n (pc := 33) G 2 dX11_goes_33 rfl rfl ?_
  refine tj_iald (pc := 34) G (k := 4) (i2 := w32 a1) (n2 := 17) (by decide) lm_4 rfl rfl dX11_goes_34 ?_
  refine tj_i2l (pc := 35) G (b := w32 (M10 4 (w32 a1))) dX11_goes_35 rfl ?_
  refine tj_callVv (pc := 36) G [vL (w32 (M10 4 (w32 a1)))] mf_X11_enters (k := 0) (by decide) lm_0 rfl rfl ml_X11_18 (by decide) rfl rfl (Nat.le_of_ble_eq_true rfl) (fun _ h9 => ok_X11_enters X  h9) dX11_goes_36 (fun r11 M12 => ?_)
  refine tj_aload_n (pc := 39) G 1 dX11_goes_39 rfl rfl ?_
  refine tj_aload_n (pc := 40) G 1 dX11_goes_40 rfl rfl ?_
  refine tj_getR (pc := 41) G (k := 0) (j := 6) (j2 := 6) tk_X11 (by decide) lm_0 rfl (by decide) rfl fl_X11_38 dX11_goes_41 ?_
  refine tj_bipush (pc := 44) G dX11_goes_44 rfl ?_
  refine tj_iload_n (pc := 46) G 2 dX11_goes_46 rfl rfl ?_
  refine tj_iadd (pc := 47) G dX11_goes_47 ?_
  refine tj_iald (pc := 48) G (k := 4) (i2 := w32 (8 + a1)) (n2 := 17) (by decide) lm_4 rfl rfl dX11_goes_48 ?_
  refine tj_i2l (pc := 49) G (b := w32 (M12 4 (w32 (8 + a1)))) dX11_goes_49 rfl ?_
  refine tj_callVv (pc := 50) G [vL (w32 (M12 4 (w32 (8 + a1))))] mf_X11_enters (k := 0) (by decide) lm_0 rfl rfl ml_X11_18 (by decide) rfl rfl (Nat.le_of_ble_eq_true rfl) (fun _ h9 => ok_X11_enters X  h9) dX11_goes_50 (fun r13 M14 => ?_)
  exact tj_sub [1, 0] rfl (hj53  M14)

def fx_X11_walks  (a1 : Int) (M : tp_M) : tp_O :=
(tp_lm (tp_up M 0 0 0) (fun M1 =>
(tp_bd (fx_X11_putsBy  M1) (fun r2 M3 =>
(tp_bd (fx_X11_walksOne a1 M3) (fun r4 M5 =>
(tp_lt r4 (fun x6 =>
(tp_jn0 (fun M7 => 
(tp_bd (fx_X11_counted x6 M7) (fun r8 M9 =>
(some (r8, M9))))) (fun jk33 =>
(if w32 x6 < 0 then
(jk33 M5)
else
(tp_lm (tp_up M5 0 1 0) (fun M10 =>
(tp_bd (fx_X11_enters (w32 (M10 0 25)) M10) (fun r11 M12 =>
(jk33 M12))))))))))))))))
set_option maxRecDepth 100000 in
set_option maxHeartbeats 4000000 in
theorem ok_X11_walks (X : tp_X)  {a1 : Int}  {M : tp_M} {res : Int × tp_M} (h : fx_X11_walks  a1 M = some res) : tp_Ret X LM 34 1 yX11_walks (Cond.code yX11_walks cX11_walks 3 (some .int)) 8 [vR X 0, vI a1] M res := by
  refine tp_ofW (by decide +kernel) rfl rfl (by show _ ≤ 3; exact Nat.le_of_ble_eq_true rfl) h (fun Y G => ?_)
  show tp_J X Y LM 34 3 8 1 (fx_X11_walks  a1 M) M [(0, vR X 0), (1, vI a1)] [] 0
  unfold fx_X11_walks
  refine tj_aload_n (pc := 0) G 0 dX11_walks_0 rfl rfl ?_
  refine tj_iconst (pc := 1) G dX11_walks_1 ?_
  refine tj_putI (pc := 2) G (k := 0) (j := 0) (j2 := 0) tk_X11 (by decide) lm_0 rfl (by decide) rfl fl_X11_3 rfl rfl dX11_walks_2 (fun M1 => ?_)
  refine tj_aload_n (pc := 5) G 0 dX11_walks_5 rfl rfl ?_
  refine tj_callVv (pc := 6) G [] mf_X11_putsBy (k := 0) (by decide) lm_0 rfl rfl ml_X11_320 (by decide) rfl rfl (Nat.le_of_ble_eq_true rfl) (fun _ h9 => ok_X11_putsBy X  h9) dX11_walks_6 (fun r2 M3 => ?_)
  refine tj_aload_n (pc := 9) G 0 dX11_walks_9 rfl rfl ?_
  refine tj_iload_n (pc := 10) G 1 dX11_walks_10 rfl rfl ?_
  refine tj_callVi (pc := 11) G [vI a1] mf_X11_walksOne (k := 0) (by decide) lm_0 rfl rfl ml_X11_333 (by decide) rfl rfl (Nat.le_of_ble_eq_true rfl) (fun _ h9 => ok_X11_walksOne X  h9) dX11_walks_11 (fun r4 M5 => ?_)
  refine tj_istore_n (pc := 14) G (fun x6 => [(2, vI x6), (0, vR X 0), (1, vI a1)]) dX11_walks_14 rfl (by decide) (fun _ => rfl) (fun x6 => ?_)
  refine tj_iload_n (pc := 15) G 0 dX11_walks_15 rfl rfl ?_
  refine tj_jn0 [(0, vR X 0), (2, vI x6)] [] 33 (fun M7 => ?_) (fun jk33 hj33 => ?_)
  · refine tj_aload_n (pc := 33) G 0 dX11_walks_33 rfl rfl ?_
    refine tj_iload_n (pc := 34) G 1 dX11_walks_34 rfl rfl ?_
    refine tj_callVi (pc := 35) G [vI x6] mf_X11_counted (k := 0) (by decide) lm_0 rfl rfl ml_X11_327 (by decide) rfl rfl (Nat.le_of_ble_eq_true rfl) (fun _ h9 => ok_X11_counted X  h9) dX11_walks_35 (fun r8 M9 => ?_)
    exact tj_iret (pc := 38) G dX11_walks_38
  refine tj_if_lt (pc := 16) G (tgt := 33) (a2 := w32 x6) dX11_walks_16 (by decide) rfl ?_ ?_
  · exact tj_sub [1, 0] rfl (hj33  M5)
  refine tj_aload_n (pc := 19) G 1 dX11_walks_19 rfl rfl ?_
  refine tj_iconst (pc := 20) G dX11_walks_20 ?_
  refine tj_putI (pc := 21) G (k := 0) (j := 1) (j2 := 1) tk_X11 (by decide) lm_0 rfl (by decide) rfl fl_X11_15 rfl rfl dX11_walks_21 (fun M10 => ?_)
  refine tj_aload_n (pc := 24) G 1 dX11_walks_24 rfl rfl ?_
  refine tj_aload_n (pc := 25) G 1 dX11_walks_25 rfl rfl ?_
  refine tj_getI (pc := 26) G (k := 0) (j := 25) (j2 := 25) tk_X11 (by decide) lm_0 rfl (by decide) rfl fl_X11_311 dX11_walks_26 ?_
  refine tj_i2l (pc := 29) G (b := w32 (M10 0 25)) dX11_walks_29 rfl ?_
  refine tj_callVv (pc := 30) G [vL (w32 (M10 0 25))] mf_X11_enters (k := 0) (by decide) lm_0 rfl rfl ml_X11_18 (by decide) rfl rfl (Nat.le_of_ble_eq_true rfl) (fun _ h9 => ok_X11_enters X  h9) dX11_walks_30 (fun r11 M12 => ?_)
  exact tj_sub [1, 0] rfl (hj33  M12)

def fx_X11_bursts  (a1 : Int) (M : tp_M) : tp_O :=
(tp_lm (tp_up M 0 0 0) (fun M1 =>
(tp_bd (fx_X11_putsBy  M1) (fun r2 M3 =>
(tp_bd (fx_X11_burstsOne 4 17 a1 M3) (fun r4 M5 =>
(tp_bd (fx_X11_counted r4 M5) (fun r6 M7 =>
(some (r6, M7))))))))))
set_option maxRecDepth 100000 in
set_option maxHeartbeats 4000000 in
theorem ok_X11_bursts (X : tp_X)  {a1 : Int}  {M : tp_M} {res : Int × tp_M} (h : fx_X11_bursts  a1 M = some res) : tp_Ret X LM 34 1 yX11_bursts (Cond.code yX11_bursts cX11_bursts 2 (some .int)) 4 [vR X 0, vI a1] M res := by
  refine tp_ofW (by decide +kernel) rfl rfl (by show _ ≤ 2; exact Nat.le_of_ble_eq_true rfl) h (fun Y G => ?_)
  show tp_J X Y LM 34 2 4 1 (fx_X11_bursts  a1 M) M [(0, vR X 0), (1, vI a1)] [] 0
  unfold fx_X11_bursts
  refine tj_aload_n (pc := 0) G 0 dX11_bursts_0 rfl rfl ?_
  refine tj_iconst (pc := 1) G dX11_bursts_1 ?_
  refine tj_putI (pc := 2) G (k := 0) (j := 0) (j2 := 0) tk_X11 (by decide) lm_0 rfl (by decide) rfl fl_X11_3 rfl rfl dX11_bursts_2 (fun M1 => ?_)
  refine tj_aload_n (pc := 5) G 0 dX11_bursts_5 rfl rfl ?_
  refine tj_callVv (pc := 6) G [] mf_X11_putsBy (k := 0) (by decide) lm_0 rfl rfl ml_X11_320 (by decide) rfl rfl (Nat.le_of_ble_eq_true rfl) (fun _ h9 => ok_X11_putsBy X  h9) dX11_bursts_6 (fun r2 M3 => ?_)
  refine tj_aload_n (pc := 9) G 0 dX11_bursts_9 rfl rfl ?_
  refine tj_aload_n (pc := 10) G 0 dX11_bursts_10 rfl rfl ?_
  refine tj_aload_n (pc := 11) G 0 dX11_bursts_11 rfl rfl ?_
  refine tj_getR (pc := 12) G (k := 0) (j := 6) (j2 := 6) tk_X11 (by decide) lm_0 rfl (by decide) rfl fl_X11_38 dX11_bursts_12 ?_
  refine tj_iload_n (pc := 15) G 1 dX11_bursts_15 rfl rfl ?_
  refine tj_callVi (pc := 16) G [vR X 4, vI a1] mf_X11_burstsOne (k := 0) (by decide) lm_0 rfl rfl ml_X11_336 (by decide) rfl rfl (Nat.le_of_ble_eq_true rfl) (fun _ h9 => ok_X11_burstsOne X ⟨by decide, lm_4⟩ h9) dX11_bursts_16 (fun r4 M5 => ?_)
  refine tj_callVi (pc := 19) G [vI r4] mf_X11_counted (k := 0) (by decide) lm_0 rfl rfl ml_X11_327 (by decide) rfl rfl (Nat.le_of_ble_eq_true rfl) (fun _ h9 => ok_X11_counted X  h9) dX11_bursts_19 (fun r6 M7 => ?_)
  exact tj_iret (pc := 22) G dX11_bursts_22

def fx_X11_calms_L25 (c1 : Int) (K50 : tp_M → tp_O) (rec : Int → tp_M → tp_O) (z12 : Int) (M13 : tp_M) : tp_O :=
(if w32 z12 < w32 (M13 0 3) then
(tp_ck (w32 z12) 8 (tp_bd (fx_X11_enters (w32 (M13 15 (w32 z12))) M13) (fun r14 M15 =>
(tp_lt (z12 + 1) (fun x16 =>
(rec x16 M15))))))
else
(K50 M13))
def fx_X11_calms   (M : tp_M) : tp_O :=
(tp_lm (tp_up M 0 0 0) (fun M1 =>
(tp_bd (fx_X11_putsBy  M1) (fun r2 M3 =>
(tp_bd (fx_X11_calmsAll  M3) (fun r4 M5 =>
(tp_lt r4 (fun x6 =>
(tp_jn0 (fun M7 => 
(tp_bd (fx_X11_counted x6 M7) (fun r8 M9 =>
(some (r8, M9))))) (fun jk50 =>
(if w32 x6 < 0 then
(jk50 M5)
else
(tp_lm (tp_up M5 0 1 0) (fun M10 =>
(tp_lt 1 (fun x11 =>
(tp_lp1 (fx_X11_calms_L25 x6 (fun M17 =>
(jk50 M17))) tp_F x11 M10))))))))))))))))
set_option maxRecDepth 100000 in
set_option maxHeartbeats 4000000 in
theorem fx_X11_calms_L25_ok {X : tp_X} {Y : tp_Y} (G : tp_Ok X Y 34 cX11_calms 3 RX11 (some .int))  {c1 : Int} {K50 : tp_M → tp_O}   (hK50 : ∀ (M9 : tp_M), tp_J X Y LM 34 3 5 1 (K50  M9) M9 [(0, vR X 0), (1, vI c1)] [] 50) (n : Nat) : ∀ (z12 : Int) (M13 : tp_M), tp_J X Y LM 34 3 5 1 (tp_lp1 (fx_X11_calms_L25  c1 K50) n z12 M13) M13 [(0, vR X 0), (1, vI c1), (2, vI z12)] [] 25 := by
  refine tp_lp1_ok (P := fun o z12 M13 => tp_J X Y LM 34 3 5 1 (o) M13 [(0, vR X 0), (1, vI c1), (2, vI z12)] [] 25) (fun z12 M13 => tj_none) (fun rec hrec z12 M13 => ?_) n
  unfold fx_X11_calms_L25
  refine tj_iload_n (pc := 25) G 2 dX11_calms_25 rfl rfl ?_
  refine tj_aload_n (pc := 26) G 0 dX11_calms_26 rfl rfl ?_
  refine tj_getI (pc := 27) G (k := 0) (j := 3) (j2 := 3) tk_X11 (by decide) lm_0 rfl (by decide) rfl fl_X11_28 dX11_calms_27 ?_
  refine tj_icmp_ge (pc := 30) G (tgt := 50) (a2 := w32 z12) (b2 := w32 (M13 0 3)) dX11_calms_30 (by decide) rfl rfl ?_ ?_
  · exact tj_sub [0, 1] rfl (hK50  M13)
  refine tj_aload_n (pc := 33) G 0 dX11_calms_33 rfl rfl ?_
  refine tj_aload_n (pc := 34) G 0 dX11_calms_34 rfl rfl ?_
  refine tj_getR (pc := 35) G (k := 0) (j := 26) (j2 := 26) tk_X11 (by decide) lm_0 rfl (by decide) rfl fl_X11_71 dX11_calms_35 ?_
  refine tj_iload_n (pc := 38) G 2 dX11_calms_38 rfl rfl ?_
  refine tj_iald (pc := 39) G (k := 15) (i2 := w32 z12) (n2 := 8) (by decide) lm_15 rfl rfl dX11_calms_39 ?_
  refine tj_i2l (pc := 40) G (b := w32 (M13 15 (w32 z12))) dX11_calms_40 rfl ?_
  refine tj_callVv (pc := 41) G [vL (w32 (M13 15 (w32 z12)))] mf_X11_enters (k := 0) (by decide) lm_0 rfl rfl ml_X11_18 (by decide) rfl rfl (Nat.le_of_ble_eq_true rfl) (fun _ h9 => ok_X11_enters X  h9) dX11_calms_41 (fun r14 M15 => ?_)
  refine tj_iinc (pc := 44) G 2 (fun x16 => [(2, vI x16), (0, vR X 0), (1, vI c1)]) dX11_calms_44 rfl (by decide) (fun _ => rfl) (fun x16 => ?_)
  refine tj_goto (pc := 47) G (tgt := 25) dX11_calms_47 (by decide) ?_
  exact tj_sub [1, 2, 0] rfl (hrec x16 M15)
set_option maxRecDepth 100000 in
set_option maxHeartbeats 4000000 in
theorem ok_X11_calms (X : tp_X)    {M : tp_M} {res : Int × tp_M} (h : fx_X11_calms   M = some res) : tp_Ret X LM 34 1 yX11_calms (Cond.code yX11_calms cX11_calms 3 (some .int)) 5 [vR X 0] M res := by
  refine tp_ofW (by decide +kernel) rfl rfl (by show _ ≤ 3; exact Nat.le_of_ble_eq_true rfl) h (fun Y G => ?_)
  show tp_J X Y LM 34 3 5 1 (fx_X11_calms   M) M [(0, vR X 0)] [] 0
  unfold fx_X11_calms
  refine tj_aload_n (pc := 0) G 0 dX11_calms_0 rfl rfl ?_
  refine tj_iconst (pc := 1) G dX11_calms_1 ?_
  refine tj_putI (pc := 2) G (k := 0) (j := 0) (j2 := 0) tk_X11 (by decide) lm_0 rfl (by decide) rfl fl_X11_3 rfl rfl dX11_calms_2 (fun M1 => ?_)
  refine tj_aload_n (pc := 5) G 0 dX11_calms_5 rfl rfl ?_
  refine tj_callVv (pc := 6) G [] mf_X11_putsBy (k := 0) (by decide) lm_0 rfl rfl ml_X11_320 (by decide) rfl rfl (Nat.le_of_ble_eq_true rfl) (fun _ h9 => ok_X11_putsBy X  h9) dX11_calms_6 (fun r2 M3 => ?_)
  refine tj_aload_n (pc := 9) G 0 dX11_calms_9 rfl rfl ?_
  refine tj_callVi (pc := 10) G [] mf_X11_calmsAll (k := 0) (by decide) lm_0 rfl rfl ml_X11_339 (by decide) rfl rfl (Nat.le_of_ble_eq_true rfl) (fun _ h9 => ok_X11_calmsAll X  h9) dX11_calms_10 (fun r4 M5 => ?_)
  refine tj_istore_n (pc := 13) G (fun x6 => [(1, vI x6), (0, vR X 0)]) dX11_calms_13 rfl (by decide) (fun _ => rfl) (fun x6 => ?_)
  refine tj_iload_n (pc := 14) G 0 dX11_calms_14 rfl rfl ?_
  refine tj_jn0 [(0, vR X 0), (1, vI x6)] [] 50 (fun M7 => ?_) (fun jk50 hj50 => ?_)
  · refine tj_aload_n (pc := 50) G 0 dX11_calms_50 rfl rfl ?_
    refine tj_iload_n (pc := 51) G 1 dX11_calms_51 rfl rfl ?_
    refine tj_callVi (pc := 52) G [vI x6] mf_X11_counted (k := 0) (by decide) lm_0 rfl rfl ml_X11_327 (by decide) rfl rfl (Nat.le_of_ble_eq_true rfl) (fun _ h9 => ok_X11_counted X  h9) dX11_calms_52 (fun r8 M9 => ?_)
    exact tj_iret (pc := 55) G dX11_calms_55
  refine tj_if_lt (pc := 15) G (tgt := 50) (a2 := w32 x6) dX11_calms_15 (by decide) rfl ?_ ?_
  · exact tj_sub [1, 0] rfl (hj50  M5)
  refine tj_aload_n (pc := 18) G 1 dX11_calms_18 rfl rfl ?_
  refine tj_iconst (pc := 19) G dX11_calms_19 ?_
  refine tj_putI (pc := 20) G (k := 0) (j := 1) (j2 := 1) tk_X11 (by decide) lm_0 rfl (by decide) rfl fl_X11_15 rfl rfl dX11_calms_20 (fun M10 => ?_)
  refine tj_iconst (pc := 23) G dX11_calms_23 ?_
  refine tj_istore_n (pc := 24) G (fun x11 => [(2, vI x11), (1, vI x6), (0, vR X 0)]) dX11_calms_24 rfl (by decide) (fun _ => rfl) (fun x11 => ?_)
  refine tj_sub [2, 1, 0] rfl (fx_X11_calms_L25_ok G    (fun M17 => ?_) tp_F x11 M10)
  exact tj_sub [0, 1] rfl (hj50  M17)

def fx_X11_points  (a1 : Int) (a2 : Int) (M : tp_M) : tp_O :=
(tp_lm (tp_up M 0 0 0) (fun M1 =>
(tp_bd (fx_X11_putsBy  M1) (fun r2 M3 =>
(tp_bd (fx_X11_pointsTo a1 a2 M3) (fun r4 M5 =>
(tp_bd (fx_X11_counted r4 M5) (fun r6 M7 =>
(some (r6, M7))))))))))
set_option maxRecDepth 100000 in
set_option maxHeartbeats 4000000 in
theorem ok_X11_points (X : tp_X)  {a1 : Int} {a2 : Int}  {M : tp_M} {res : Int × tp_M} (h : fx_X11_points  a1 a2 M = some res) : tp_Ret X LM 34 1 yX11_points (Cond.code yX11_points cX11_points 3 (some .int)) 4 [vR X 0, vI a1, vI a2] M res := by
  refine tp_ofW (by decide +kernel) rfl rfl (by show _ ≤ 3; exact Nat.le_of_ble_eq_true rfl) h (fun Y G => ?_)
  show tp_J X Y LM 34 3 4 1 (fx_X11_points  a1 a2 M) M [(0, vR X 0), (1, vI a1), (2, vI a2)] [] 0
  unfold fx_X11_points
  refine tj_aload_n (pc := 0) G 0 dX11_points_0 rfl rfl ?_
  refine tj_iconst (pc := 1) G dX11_points_1 ?_
  refine tj_putI (pc := 2) G (k := 0) (j := 0) (j2 := 0) tk_X11 (by decide) lm_0 rfl (by decide) rfl fl_X11_3 rfl rfl dX11_points_2 (fun M1 => ?_)
  refine tj_aload_n (pc := 5) G 0 dX11_points_5 rfl rfl ?_
  refine tj_callVv (pc := 6) G [] mf_X11_putsBy (k := 0) (by decide) lm_0 rfl rfl ml_X11_320 (by decide) rfl rfl (Nat.le_of_ble_eq_true rfl) (fun _ h9 => ok_X11_putsBy X  h9) dX11_points_6 (fun r2 M3 => ?_)
  refine tj_aload_n (pc := 9) G 0 dX11_points_9 rfl rfl ?_
  refine tj_aload_n (pc := 10) G 0 dX11_points_10 rfl rfl ?_
  refine tj_iload_n (pc := 11) G 1 dX11_points_11 rfl rfl ?_
  refine tj_iload_n (pc := 12) G 2 dX11_points_12 rfl rfl ?_
  refine tj_callVi (pc := 13) G [vI a1, vI a2] mf_X11_pointsTo (k := 0) (by decide) lm_0 rfl rfl ml_X11_342 (by decide) rfl rfl (Nat.le_of_ble_eq_true rfl) (fun _ h9 => ok_X11_pointsTo X  h9) dX11_points_13 (fun r4 M5 => ?_)
  refine tj_callVi (pc := 16) G [vI r4] mf_X11_counted (k := 0) (by decide) lm_0 rfl rfl ml_X11_327 (by decide) rfl rfl (Nat.le_of_ble_eq_true rfl) (fun _ h9 => ok_X11_counted X  h9) dX11_points_16 (fun r6 M7 => ?_)
  exact tj_iret (pc := 19) G dX11_points_19

def fx_X11_does  (a1 : Int) (M : tp_M) : tp_O :=
(tp_ck (w32 a1) 60 (tp_lt (M 17 (w32 a1)) (fun x1 =>
(tp_ck (w32 a1) 60 (if w32 (M 16 (w32 a1)) = 0 then
(tp_bd (fx_X11_calmsAll  M) (fun r4 M5 =>
(if w32 r4 < 0 then
(some (0, M5))
else
(some (1, M5)))))
else
(if w32 (M 16 (w32 a1)) = 1 then
(tp_bd (fx_X11_goesOne 4 17 x1 M) (fun r8 M9 =>
(if w32 r8 < 0 then
(some (0, M9))
else
(some (1, M9)))))
else
(if w32 (M 16 (w32 a1)) = 2 then
(tp_bd (fx_X11_walksOne x1 M) (fun r12 M13 =>
(if w32 r12 < 0 then
(some (0, M13))
else
(some (1, M13)))))
else
(if w32 (M 16 (w32 a1)) = 3 then
(tp_bd (fx_X11_burstsOne 4 17 x1 M) (fun r16 M17 =>
(if w32 r16 < 0 then
(some (0, M17))
else
(some (1, M17)))))
else
(if w32 (M 16 (w32 a1)) = 4 then
(tp_ck (w32 a1) 60 (tp_bd (fx_X11_comesMany 4 17 x1 (M 18 (w32 a1)) M) (fun r20 M21 =>
(if w32 r20 < 0 then
(some (0, M21))
else
(some (1, M21))))))
else
(tp_ck (w32 a1) 60 (tp_bd (fx_X11_pointsTo x1 (M 18 (w32 a1)) M) (fun r22 M23 =>
(if w32 r22 < 0 then
(some (0, M23))
else
(some (1, M23)))))))))))))))
set_option maxRecDepth 100000 in
set_option maxHeartbeats 4000000 in
theorem ok_X11_does (X : tp_X)  {a1 : Int}  {M : tp_M} {res : Int × tp_M} (h : fx_X11_does  a1 M = some res) : tp_Ret X LM 34 1 yX11_does (Cond.code yX11_does cX11_does 3 (some .boolean)) 8 [vR X 0, vI a1] M res := by
  refine tp_ofW (by decide +kernel) rfl rfl (by show _ ≤ 3; exact Nat.le_of_ble_eq_true rfl) h (fun Y G => ?_)
  show tp_J X Y LM 34 3 8 1 (fx_X11_does  a1 M) M [(0, vR X 0), (1, vI a1)] [] 0
  unfold fx_X11_does
  refine tj_aload_n (pc := 0) G 0 dX11_does_0 rfl rfl ?_
  refine tj_getR (pc := 1) G (k := 0) (j := 28) (j2 := 28) tk_X11 (by decide) lm_0 rfl (by decide) rfl fl_X11_77 dX11_does_1 ?_
  refine tj_iload_n (pc := 4) G 1 dX11_does_4 rfl rfl ?_
  refine tj_iald (pc := 5) G (k := 17) (i2 := w32 a1) (n2 := 60) (by decide) lm_17 rfl rfl dX11_does_5 ?_
  refine tj_istore_n (pc := 6) G (fun x1 => [(2, vI x1), (0, vR X 0), (1, vI a1)]) dX11_does_6 rfl (by decide) (fun _ => rfl) (fun x1 => ?_)
  refine tj_aload_n (pc := 7) G 1 dX11_does_7 rfl rfl ?_
  refine tj_getR (pc := 8) G (k := 0) (j := 27) (j2 := 27) tk_X11 (by decide) lm_0 rfl (by decide) rfl fl_X11_74 dX11_does_8 ?_
  refine tj_iload_n (pc := 11) G 2 dX11_does_11 rfl rfl ?_
  refine tj_iald (pc := 12) G (k := 16) (i2 := w32 a1) (n2 := 60) (by decide) lm_16 rfl rfl dX11_does_12 ?_
  refine tj_case (fun hq2 => ?_) (fun hq3 => ?_)
  · refine tj_tabIn (pc := 13) G (v := 0) (tgt := 48) dX11_does_13 hq2 (by decide) rfl (by decide) ?_
    refine tj_aload_n (pc := 48) G 1 dX11_does_48 rfl rfl ?_
    refine tj_callVi (pc := 49) G [] mf_X11_calmsAll (k := 0) (by decide) lm_0 rfl rfl ml_X11_339 (by decide) rfl rfl (Nat.le_of_ble_eq_true rfl) (fun _ h9 => ok_X11_calmsAll X  h9) dX11_does_49 (fun r4 M5 => ?_)
    refine tj_if_lt (pc := 52) G (tgt := 59) (a2 := w32 r4) dX11_does_52 (by decide) rfl ?_ ?_
    · refine tj_iconst (pc := 59) G dX11_does_59 ?_
      exact tj_zret (pc := 60) G (by decide) dX11_does_60
    refine tj_iconst (pc := 55) G dX11_does_55 ?_
    refine tj_goto (pc := 56) G (tgt := 60) dX11_does_56 (by decide) ?_
    exact tj_zret (pc := 60) G (by decide) dX11_does_60
  refine tj_case (fun hq6 => ?_) (fun hq7 => ?_)
  · refine tj_tabIn (pc := 13) G (v := 1) (tgt := 61) dX11_does_13 hq6 (by decide) rfl (by decide) ?_
    refine tj_aload_n (pc := 61) G 1 dX11_does_61 rfl rfl ?_
    refine tj_aload_n (pc := 62) G 1 dX11_does_62 rfl rfl ?_
    refine tj_getR (pc := 63) G (k := 0) (j := 6) (j2 := 6) tk_X11 (by decide) lm_0 rfl (by decide) rfl fl_X11_38 dX11_does_63 ?_
    refine tj_iload_n (pc := 66) G 0 dX11_does_66 rfl rfl ?_
    refine tj_callVi (pc := 67) G [vR X 4, vI x1] mf_X11_goesOne (k := 0) (by decide) lm_0 rfl rfl ml_X11_330 (by decide) rfl rfl (Nat.le_of_ble_eq_true rfl) (fun _ h9 => ok_X11_goesOne X ⟨by decide, lm_4⟩ h9) dX11_does_67 (fun r8 M9 => ?_)
    refine tj_if_lt (pc := 70) G (tgt := 77) (a2 := w32 r8) dX11_does_70 (by decide) rfl ?_ ?_
    · refine tj_iconst (pc := 77) G dX11_does_77 ?_
      exact tj_zret (pc := 78) G (by decide) dX11_does_78
    refine tj_iconst (pc := 73) G dX11_does_73 ?_
    refine tj_goto (pc := 74) G (tgt := 78) dX11_does_74 (by decide) ?_
    exact tj_zret (pc := 78) G (by decide) dX11_does_78
  refine tj_case (fun hq10 => ?_) (fun hq11 => ?_)
  · refine tj_tabIn (pc := 13) G (v := 2) (tgt := 79) dX11_does_13 hq10 (by decide) rfl (by decide) ?_
    refine tj_aload_n (pc := 79) G 1 dX11_does_79 rfl rfl ?_
    refine tj_iload_n (pc := 80) G 0 dX11_does_80 rfl rfl ?_
    refine tj_callVi (pc := 81) G [vI x1] mf_X11_walksOne (k := 0) (by decide) lm_0 rfl rfl ml_X11_333 (by decide) rfl rfl (Nat.le_of_ble_eq_true rfl) (fun _ h9 => ok_X11_walksOne X  h9) dX11_does_81 (fun r12 M13 => ?_)
    refine tj_if_lt (pc := 84) G (tgt := 91) (a2 := w32 r12) dX11_does_84 (by decide) rfl ?_ ?_
    · refine tj_iconst (pc := 91) G dX11_does_91 ?_
      exact tj_zret (pc := 92) G (by decide) dX11_does_92
    refine tj_iconst (pc := 87) G dX11_does_87 ?_
    refine tj_goto (pc := 88) G (tgt := 92) dX11_does_88 (by decide) ?_
    exact tj_zret (pc := 92) G (by decide) dX11_does_92
  refine tj_case (fun hq14 => ?_) (fun hq15 => ?_)
  · refine tj_tabIn (pc := 13) G (v := 3) (tgt := 93) dX11_does_13 hq14 (by decide) rfl (by decide) ?_
    refine tj_aload_n (pc := 93) G 1 dX11_does_93 rfl rfl ?_
    refine tj_aload_n (pc := 94) G 1 dX11_does_94 rfl rfl ?_
    refine tj_getR (pc := 95) G (k := 0) (j := 6) (j2 := 6) tk_X11 (by decide) lm_0 rfl (by decide) rfl fl_X11_38 dX11_does_95 ?_
    refine tj_iload_n (pc := 98) G 0 dX11_does_98 rfl rfl ?_
    refine tj_callVi (pc := 99) G [vR X 4, vI x1] mf_X11_burstsOne (k := 0) (by decide) lm_0 rfl rfl ml_X11_336 (by decide) rfl rfl (Nat.le_of_ble_eq_true rfl) (fun _ h9 => ok_X11_burstsOne X ⟨by decide, lm_4⟩ h9) dX11_does_99 (fun r16 M17 => ?_)
    refine tj_if_lt (pc := 102) G (tgt := 109) (a2 := w32 r16) dX11_does_102 (by decide) rfl ?_ ?_
    · refine tj_iconst (pc := 109) G dX11_does_109 ?_
      exact tj_zret (pc := 110) G (by decide) dX11_does_110
    refine tj_iconst (pc := 105) G dX11_does_105 ?_
    refine tj_goto (pc := 106) G (tgt := 110) dX11_does_106 (by decide) ?_
    exact tj_zret (pc := 110) G (by decide) dX11_does_110
  refine tj_case (fun hq18 => ?_) (fun hq19 => ?_)
  · refine tj_tabIn (pc := 13) G (v := 4) (tgt := 111) dX11_does_13 hq18 (by decide) rfl (by decide) ?_
    refine tj_aload_n (pc := 111) G 1 dX11_does_111 rfl rfl ?_
    refine tj_aload_n (pc := 112) G 1 dX11_does_112 rfl rfl ?_
    refine tj_getR (pc := 113) G (k := 0) (j := 6) (j2 := 6) tk_X11 (by decide) lm_0 rfl (by decide) rfl fl_X11_38 dX11_does_113 ?_
    refine tj_iload_n (pc := 116) G 0 dX11_does_116 rfl rfl ?_
    refine tj_aload_n (pc := 117) G 1 dX11_does_117 rfl rfl ?_
    refine tj_getR (pc := 118) G (k := 0) (j := 29) (j2 := 29) tk_X11 (by decide) lm_0 rfl (by decide) rfl fl_X11_80 dX11_does_118 ?_
    refine tj_iload_n (pc := 121) G 2 dX11_does_121 rfl rfl ?_
    refine tj_iald (pc := 122) G (k := 18) (i2 := w32 a1) (n2 := 60) (by decide) lm_18 rfl rfl dX11_does_122 ?_
    refine tj_callVi (pc := 123) G [vR X 4, vI x1, vI (M 18 (w32 a1))] mf_X11_comesMany (k := 0) (by decide) lm_0 rfl rfl ml_X11_323 (by decide) rfl rfl (Nat.le_of_ble_eq_true rfl) (fun _ h9 => ok_X11_comesMany X ⟨by decide, lm_4⟩ h9) dX11_does_123 (fun r20 M21 => ?_)
    refine tj_if_lt (pc := 126) G (tgt := 133) (a2 := w32 r20) dX11_does_126 (by decide) rfl ?_ ?_
    · refine tj_iconst (pc := 133) G dX11_does_133 ?_
      exact tj_zret (pc := 134) G (by decide) dX11_does_134
    refine tj_iconst (pc := 129) G dX11_does_129 ?_
    refine tj_goto (pc := 130) G (tgt := 134) dX11_does_130 (by decide) ?_
    exact tj_zret (pc := 134) G (by decide) dX11_does_134
  refine tj_tabOut (pc := 13) G (tgt := 135) dX11_does_13 (by omega) (by decide) ?_
  refine tj_aload_n (pc := 135) G 1 dX11_does_135 rfl rfl ?_
  refine tj_iload_n (pc := 136) G 0 dX11_does_136 rfl rfl ?_
  refine tj_aload_n (pc := 137) G 1 dX11_does_137 rfl rfl ?_
  refine tj_getR (pc := 138) G (k := 0) (j := 29) (j2 := 29) tk_X11 (by decide) lm_0 rfl (by decide) rfl fl_X11_80 dX11_does_138 ?_
  refine tj_iload_n (pc := 141) G 2 dX11_does_141 rfl rfl ?_
  refine tj_iald (pc := 142) G (k := 18) (i2 := w32 a1) (n2 := 60) (by decide) lm_18 rfl rfl dX11_does_142 ?_
  refine tj_callVi (pc := 143) G [vI x1, vI (M 18 (w32 a1))] mf_X11_pointsTo (k := 0) (by decide) lm_0 rfl rfl ml_X11_342 (by decide) rfl rfl (Nat.le_of_ble_eq_true rfl) (fun _ h9 => ok_X11_pointsTo X  h9) dX11_does_143 (fun r22 M23 => ?_)
  refine tj_if_lt (pc := 146) G (tgt := 153) (a2 := w32 r22) dX11_does_146 (by decide) rfl ?_ ?_
  · refine tj_iconst (pc := 153) G dX11_does_153 ?_
    exact tj_zret (pc := 154) G (by decide) dX11_does_154
  refine tj_iconst (pc := 149) G dX11_does_149 ?_
  refine tj_goto (pc := 150) G (tgt := 154) dX11_does_150 (by decide) ?_
  exact tj_zret (pc := 154) G (by decide) dX11_does_154

def fx_X11_stepOf  (k1 : Nat) (k1n : Nat) (a2 : Int) (M : tp_M) : tp_O :=
(tp_bd (fx_X11_turnsPost k1 k1n a2 M) (fun r1 M2 =>
(tp_lt r1 (fun x3 =>
(if w32 x3 = 0 then
(tp_bd (fx_X11_comesTo k1 k1n 0 M2) (fun r4 M5 =>
(some (x3, M5))))
else
(some (x3, M2)))))))
set_option maxRecDepth 100000 in
set_option maxHeartbeats 4000000 in
theorem ok_X11_stepOf (X : tp_X)  {k1 : Nat} {k1n : Nat} {a2 : Int} (hk1 : tg_I LM 34 k1 k1n) {M : tp_M} {res : Int × tp_M} (h : fx_X11_stepOf  k1 k1n a2 M = some res) : tp_Ret X LM 34 1 yX11_stepOf (Cond.code yX11_stepOf cX11_stepOf 4 (some .int)) 6 [vR X 0, vR X k1, vI a2] M res := by
  refine tp_ofW (by decide +kernel) rfl rfl (by show _ ≤ 4; exact Nat.le_of_ble_eq_true rfl) h (fun Y G => ?_)
  show tp_J X Y LM 34 4 6 1 (fx_X11_stepOf  k1 k1n a2 M) M [(0, vR X 0), (1, vR X k1), (2, vI a2)] [] 0
  unfold fx_X11_stepOf
  refine tj_aload_n (pc := 0) G 0 dX11_stepOf_0 rfl rfl ?_
  refine tj_aload_n (pc := 1) G 1 dX11_stepOf_1 rfl rfl ?_
  refine tj_iload_n (pc := 2) G 2 dX11_stepOf_2 rfl rfl ?_
  refine tj_callVi (pc := 3) G [vR X k1, vI a2] mf_X11_turnsPost (k := 0) (by decide) lm_0 rfl rfl ml_X11_296 (by decide) rfl rfl (Nat.le_of_ble_eq_true rfl) (fun _ h9 => ok_X11_turnsPost X ⟨hk1.1, hk1.2⟩ h9) dX11_stepOf_3 (fun r1 M2 => ?_)
  refine tj_istore_n (pc := 6) G (fun x3 => [(3, vI x3), (0, vR X 0), (1, vR X k1), (2, vI a2)]) dX11_stepOf_6 rfl (by decide) (fun _ => rfl) (fun x3 => ?_)
  refine tj_iload_n (pc := 7) G 0 dX11_stepOf_7 rfl rfl ?_
  refine tj_if_ne (pc := 8) G (tgt := 16) (a2 := w32 x3) dX11_stepOf_8 (by decide) rfl ?_ ?_
  · refine tj_iload_n (pc := 16) G 0 dX11_stepOf_16 rfl rfl ?_
    exact tj_iret (pc := 17) G dX11_stepOf_17
  refine tj_aload_n (pc := 11) G 2 dX11_stepOf_11 rfl rfl ?_
  refine tj_iconst (pc := 12) G dX11_stepOf_12 ?_
  refine tj_callSv (pc := 13) G [vR X k1, vI 0] mf_X11_comesTo ml_X11_299 (by decide) rfl rfl (Nat.le_of_ble_eq_true rfl) (fun _ h9 => ok_X11_comesTo X ⟨hk1.1, hk1.2⟩ h9) dX11_stepOf_13 (fun r4 M5 => ?_)
  refine tj_iload_n (pc := 16) G 0 dX11_stepOf_16 rfl rfl ?_
  exact tj_iret (pc := 17) G dX11_stepOf_17

def fx_X11_walkOf_L7 (c2 : Int) (c3 : Int) (K28 : tp_M → tp_O) (rec : Int → tp_M → tp_O) (z4 : Int) (M5 : tp_M) : tp_O :=
(if w32 z4 < 8 then
(tp_ck (w32 z4) 8 (tp_lm (tp_up M5 19 (w32 z4) 0) (fun M6 =>
(tp_lt (z4 + 1) (fun x7 =>
(rec x7 M6))))))
else
(K28 M5))
def fx_X11_walkOf_L28  (K65 : Int → Int → tp_M → tp_O) (rec : Int → Int → tp_M → tp_O) (z9 z10 : Int) (M11 : tp_M) : tp_O :=
(if w32 z9 ≤ 0 then
(K65 z9 z10 M11)
else
(if w32 z10 < 999 then
(tp_ck (w32 z9) 8 (tp_ck (w32 z9) 8 (tp_lm (tp_up M11 19 (w32 z9) ((M11 19 (w32 z9)) + 1)) (fun M14 =>
(tp_bd (fx_X11_stepOf 5 17 z9 M14) (fun r15 M16 =>
(tp_lt r15 (fun x17 =>
(tp_lt (z10 + 1) (fun x18 =>
(rec x17 x18 M16)))))))))))
else
(K65 z9 z10 M11)))
def fx_X11_walkOf  (a1 : Int) (M : tp_M) : tp_O :=
(tp_lt a1 (fun x1 =>
(tp_lt 0 (fun x2 =>
(tp_lt 0 (fun x3 =>
(tp_lp1 (fx_X11_walkOf_L7 x1 x2 (fun M8 =>
(tp_lp2 (fx_X11_walkOf_L28  (fun y12 y13 M19 =>
(if w32 y12 ≤ 0 then
(some (y13, M19))
else
(some ((-3), M19))))) tp_F x1 x2 M8))) tp_F x3 M)))))))
set_option maxRecDepth 100000 in
set_option maxHeartbeats 4000000 in
theorem fx_X11_walkOf_L7_ok {X : tp_X} {Y : tp_Y} (G : tp_Ok X Y 34 cX11_walkOf 5 RX11 (some .int))  {c2 : Int} {c3 : Int} {K28 : tp_M → tp_O}   (hK28 : ∀ (M9 : tp_M), tp_J X Y LM 34 5 7 1 (K28  M9) M9 [(0, vR X 0), (2, vI c2), (3, vI c3)] [] 28) (n : Nat) : ∀ (z4 : Int) (M5 : tp_M), tp_J X Y LM 34 5 7 1 (tp_lp1 (fx_X11_walkOf_L7  c2 c3 K28) n z4 M5) M5 [(0, vR X 0), (2, vI c2), (3, vI c3), (4, vI z4)] [] 7 := by
  refine tp_lp1_ok (P := fun o z4 M5 => tp_J X Y LM 34 5 7 1 (o) M5 [(0, vR X 0), (2, vI c2), (3, vI c3), (4, vI z4)] [] 7) (fun z4 M5 => tj_none) (fun rec hrec z4 M5 => ?_) n
  unfold fx_X11_walkOf_L7
  refine tj_iload (pc := 7) G 3 dX11_walkOf_7 rfl ?_
  refine tj_bipush (pc := 9) G dX11_walkOf_9 rfl ?_
  refine tj_icmp_ge (pc := 11) G (tgt := 28) (a2 := w32 z4) (b2 := 8) dX11_walkOf_11 (by decide) rfl rfl ?_ ?_
  · exact tj_sub [0, 1, 2] rfl (hK28  M5)
  refine tj_aload_n (pc := 14) G 0 dX11_walkOf_14 rfl rfl ?_
  refine tj_getR (pc := 15) G (k := 0) (j := 31) (j2 := 31) tk_X11 (by decide) lm_0 rfl (by decide) rfl fl_X11_83 dX11_walkOf_15 ?_
  refine tj_iload (pc := 18) G 3 dX11_walkOf_18 rfl ?_
  refine tj_iconst (pc := 20) G dX11_walkOf_20 ?_
  refine tj_iast (pc := 21) G (k := 19) (i2 := w32 z4) (n2 := 8) (by decide) lm_19 rfl rfl dX11_walkOf_21 (fun M6 => ?_)
  refine tj_iinc (pc := 22) G 3 (fun x7 => [(4, vI x7), (0, vR X 0), (2, vI c2), (3, vI c3)]) dX11_walkOf_22 rfl (by decide) (fun _ => rfl) (fun x7 => ?_)
  refine tj_goto (pc := 25) G (tgt := 7) dX11_walkOf_25 (by decide) ?_
  exact tj_sub [1, 2, 3, 0] rfl (hrec x7 M6)
set_option maxRecDepth 100000 in
set_option maxHeartbeats 4000000 in
theorem fx_X11_walkOf_L28_ok {X : tp_X} {Y : tp_Y} (G : tp_Ok X Y 34 cX11_walkOf 5 RX11 (some .int))  {K65 : Int → Int → tp_M → tp_O}   (hK65 : ∀ (y12 y13 : Int) (M9 : tp_M), tp_J X Y LM 34 5 7 1 (K65 y12 y13 M9) M9 [(2, vI y12), (3, vI y13)] [] 65) (n : Nat) : ∀ (z9 z10 : Int) (M11 : tp_M), tp_J X Y LM 34 5 7 1 (tp_lp2 (fx_X11_walkOf_L28   K65) n z9 z10 M11) M11 [(0, vR X 0), (2, vI z9), (3, vI z10)] [] 28 := by
  refine tp_lp2_ok (P := fun o z9 z10 M11 => tp_J X Y LM 34 5 7 1 (o) M11 [(0, vR X 0), (2, vI z9), (3, vI z10)] [] 28) (fun z9 z10 M11 => tj_none) (fun rec hrec z9 z10 M11 => ?_) n
  unfold fx_X11_walkOf_L28
  refine tj_iload_n (pc := 28) G 1 dX11_walkOf_28 rfl rfl ?_
  refine tj_if_le (pc := 29) G (tgt := 65) (a2 := w32 z9) dX11_walkOf_29 (by decide) rfl ?_ ?_
  · exact tj_sub [1, 2] rfl (hK65 z9 z10 M11)
  refine tj_iload_n (pc := 32) G 2 dX11_walkOf_32 rfl rfl ?_
  refine tj_sipush (pc := 33) G dX11_walkOf_33 rfl ?_
  refine tj_icmp_ge (pc := 36) G (tgt := 65) (a2 := w32 z10) (b2 := 999) dX11_walkOf_36 (by decide) rfl rfl ?_ ?_
  · exact tj_sub [1, 2] rfl (hK65 z9 z10 M11)
  refine tj_aload_n (pc := 39) G 0 dX11_walkOf_39 rfl rfl ?_
  refine tj_getR (pc := 40) G (k := 0) (j := 31) (j2 := 31) tk_X11 (by decide) lm_0 rfl (by decide) rfl fl_X11_83 dX11_walkOf_40 ?_
  refine tj_iload_n (pc := 43) G 1 dX11_walkOf_43 rfl rfl ?_
  refine tj_dup2 (pc := 44) G dX11_walkOf_44 rfl rfl ?_
  refine tj_iald (pc := 45) G (k := 19) (i2 := w32 z9) (n2 := 8) (by decide) lm_19 rfl rfl dX11_walkOf_45 ?_
  refine tj_iconst (pc := 46) G dX11_walkOf_46 ?_
  refine tj_iadd (pc := 47) G dX11_walkOf_47 ?_
  refine tj_iast (pc := 48) G (k := 19) (i2 := w32 z9) (n2 := 8) (by decide) lm_19 rfl rfl dX11_walkOf_48 (fun M14 => ?_)
  refine tj_aload_n (pc := 49) G 0 dX11_walkOf_49 rfl rfl ?_
  refine tj_aload_n (pc := 50) G 0 dX11_walkOf_50 rfl rfl ?_
  refine tj_getR (pc := 51) G (k := 0) (j := 7) (j2 := 7) tk_X11 (by decide) lm_0 rfl (by decide) rfl fl_X11_41 dX11_walkOf_51 ?_
  refine tj_iload_n (pc := 54) G 1 dX11_walkOf_54 rfl rfl ?_
  refine tj_callVi (pc := 55) G [vR X 5, vI z9] mf_X11_stepOf (k := 0) (by decide) lm_0 rfl rfl ml_X11_356 (by decide) rfl rfl (Nat.le_of_ble_eq_true rfl) (fun _ h9 => ok_X11_stepOf X ⟨by decide, lm_5⟩ h9) dX11_walkOf_55 (fun r15 M16 => ?_)
  refine tj_istore_n (pc := 58) G (fun x17 => [(2, vI x17), (0, vR X 0), (3, vI z10)]) dX11_walkOf_58 rfl (by decide) (fun _ => rfl) (fun x17 => ?_)
  refine tj_iinc (pc := 59) G 2 (fun x18 => [(3, vI x18), (2, vI x17), (0, vR X 0)]) dX11_walkOf_59 rfl (by decide) (fun _ => rfl) (fun x18 => ?_)
  refine tj_goto (pc := 62) G (tgt := 28) dX11_walkOf_62 (by decide) ?_
  exact tj_sub [2, 1, 0] rfl (hrec x17 x18 M16)
set_option maxRecDepth 100000 in
set_option maxHeartbeats 4000000 in
theorem ok_X11_walkOf (X : tp_X)  {a1 : Int}  {M : tp_M} {res : Int × tp_M} (h : fx_X11_walkOf  a1 M = some res) : tp_Ret X LM 34 1 yX11_walkOf (Cond.code yX11_walkOf cX11_walkOf 5 (some .int)) 7 [vR X 0, vI a1] M res := by
  refine tp_ofW (by decide +kernel) rfl rfl (by show _ ≤ 5; exact Nat.le_of_ble_eq_true rfl) h (fun Y G => ?_)
  show tp_J X Y LM 34 5 7 1 (fx_X11_walkOf  a1 M) M [(0, vR X 0), (1, vI a1)] [] 0
  unfold fx_X11_walkOf
  refine tj_iload_n (pc := 0) G 1 dX11_walkOf_0 rfl rfl ?_
  refine tj_istore_n (pc := 1) G (fun x1 => [(2, vI x1), (0, vR X 0), (1, vI a1)]) dX11_walkOf_1 rfl (by decide) (fun _ => rfl) (fun x1 => ?_)
  refine tj_iconst (pc := 2) G dX11_walkOf_2 ?_
  refine tj_istore_n (pc := 3) G (fun x2 => [(3, vI x2), (2, vI x1), (0, vR X 0), (1, vI a1)]) dX11_walkOf_3 rfl (by decide) (fun _ => rfl) (fun x2 => ?_)
  refine tj_iconst (pc := 4) G dX11_walkOf_4 ?_
  refine tj_istore (pc := 5) G (fun x3 => [(4, vI x3), (3, vI x2), (2, vI x1), (0, vR X 0), (1, vI a1)]) dX11_walkOf_5 (by decide) (fun _ => rfl) (fun x3 => ?_)
  refine tj_sub [3, 2, 1, 0] rfl (fx_X11_walkOf_L7_ok G    (fun M8 => ?_) tp_F x3 M)
  refine tj_sub [0, 1, 2] rfl (fx_X11_walkOf_L28_ok G    (fun y12 y13 M19 => ?_) tp_F x1 x2 M8)
  refine tj_iload_n (pc := 65) G 0 dX11_walkOf_65 rfl rfl ?_
  refine tj_if_le (pc := 66) G (tgt := 74) (a2 := w32 y12) dX11_walkOf_66 (by decide) rfl ?_ ?_
  · refine tj_iload_n (pc := 74) G 1 dX11_walkOf_74 rfl rfl ?_
    exact tj_iret (pc := 75) G dX11_walkOf_75
  refine tj_bipush (pc := 69) G dX11_walkOf_69 rfl ?_
  refine tj_goto (pc := 71) G (tgt := 75) dX11_walkOf_71 (by decide) ?_
  exact tj_iret (pc := 75) G dX11_walkOf_75

def fx_X11_placeAfter_L23 (c1 : Int) (c2 : Int) (rec : Int → tp_M → tp_O) (z6 : Int) (M7 : tp_M) : tp_O :=
(if w32 z6 ≤ 0 then
(some (z6, M7))
else
(if w32 (M7 0 32) < w32 c2 then
(tp_bd (fx_X11_stepOf 5 17 z6 M7) (fun r8 M9 =>
(tp_lt r8 (fun x10 =>
(tp_lm (tp_up M9 0 32 ((M9 0 32) + 1)) (fun M11 =>
(tp_jn1 (fun y12 M13 => 
(tp_bd (fx_X11_flag y12 M13) (fun r14 M15 =>
(tp_lm (tp_up M15 0 33 ((M11 0 33) + r14)) (fun M16 =>
(rec x10 M16)))))) (fun jk70 =>
(if w32 x10 = w32 c1 then
(jk70 1 M11)
else
(jk70 0 M11))))))))))
else
(some (z6, M7))))
def fx_X11_placeAfter  (a1 : Int) (a2 : Int) (M : tp_M) : tp_O :=
(tp_bd (fx_X11_copies 5 17 4 17 M) (fun r1 M2 =>
(tp_lt a1 (fun x3 =>
(tp_lm (tp_up M2 0 32 0) (fun M4 =>
(tp_lm (tp_up M4 0 33 1) (fun M5 =>
(tp_lp1 (fx_X11_placeAfter_L23 a1 a2 ) tp_F x3 M5)))))))))
set_option maxRecDepth 100000 in
set_option maxHeartbeats 4000000 in
theorem fx_X11_placeAfter_L23_ok {X : tp_X} {Y : tp_Y} (G : tp_Ok X Y 34 cX11_placeAfter 4 RX11 (some .int))  {c1 : Int} {c2 : Int}    (n : Nat) : ∀ (z6 : Int) (M7 : tp_M), tp_J X Y LM 34 4 7 1 (tp_lp1 (fx_X11_placeAfter_L23  c1 c2 ) n z6 M7) M7 [(0, vR X 0), (1, vI c1), (2, vI c2), (3, vI z6)] [] 23 := by
  refine tp_lp1_ok (P := fun o z6 M7 => tp_J X Y LM 34 4 7 1 (o) M7 [(0, vR X 0), (1, vI c1), (2, vI c2), (3, vI z6)] [] 23) (fun z6 M7 => tj_none) (fun rec hrec z6 M7 => ?_) n
  unfold fx_X11_placeAfter_L23
  refine tj_iload_n (pc := 23) G 3 dX11_placeAfter_23 rfl rfl ?_
  refine tj_if_le (pc := 24) G (tgt := 80) (a2 := w32 z6) dX11_placeAfter_24 (by decide) rfl ?_ ?_
  · refine tj_iload_n (pc := 80) G 3 dX11_placeAfter_80 rfl rfl ?_
    exact tj_iret (pc := 81) G dX11_placeAfter_81
  refine tj_aload_n (pc := 27) G 0 dX11_placeAfter_27 rfl rfl ?_
  refine tj_getI (pc := 28) G (k := 0) (j := 32) (j2 := 32) tk_X11 (by decide) lm_0 rfl (by decide) rfl fl_X11_359 dX11_placeAfter_28 ?_
  refine tj_iload_n (pc := 31) G 2 dX11_placeAfter_31 rfl rfl ?_
  refine tj_icmp_ge (pc := 32) G (tgt := 80) (a2 := w32 (M7 0 32)) (b2 := w32 c2) dX11_placeAfter_32 (by decide) rfl rfl ?_ ?_
  · refine tj_iload_n (pc := 80) G 3 dX11_placeAfter_80 rfl rfl ?_
    exact tj_iret (pc := 81) G dX11_placeAfter_81
  refine tj_aload_n (pc := 35) G 0 dX11_placeAfter_35 rfl rfl ?_
  refine tj_aload_n (pc := 36) G 0 dX11_placeAfter_36 rfl rfl ?_
  refine tj_getR (pc := 37) G (k := 0) (j := 7) (j2 := 7) tk_X11 (by decide) lm_0 rfl (by decide) rfl fl_X11_41 dX11_placeAfter_37 ?_
  refine tj_iload_n (pc := 40) G 3 dX11_placeAfter_40 rfl rfl ?_
  refine tj_callVi (pc := 41) G [vR X 5, vI z6] mf_X11_stepOf (k := 0) (by decide) lm_0 rfl rfl ml_X11_356 (by decide) rfl rfl (Nat.le_of_ble_eq_true rfl) (fun _ h9 => ok_X11_stepOf X ⟨by decide, lm_5⟩ h9) dX11_placeAfter_41 (fun r8 M9 => ?_)
  refine tj_istore_n (pc := 44) G (fun x10 => [(3, vI x10), (0, vR X 0), (1, vI c1), (2, vI c2)]) dX11_placeAfter_44 rfl (by decide) (fun _ => rfl) (fun x10 => ?_)
  refine tj_aload_n (pc := 45) G 1 dX11_placeAfter_45 rfl rfl ?_
  refine tj_dup (pc := 46) G dX11_placeAfter_46 rfl ?_
  refine tj_getI (pc := 47) G (k := 0) (j := 32) (j2 := 32) tk_X11 (by decide) lm_0 rfl (by decide) rfl fl_X11_359 dX11_placeAfter_47 ?_
  refine tj_iconst (pc := 50) G dX11_placeAfter_50 ?_
  refine tj_iadd (pc := 51) G dX11_placeAfter_51 ?_
  refine tj_putI (pc := 52) G (k := 0) (j := 32) (j2 := 32) tk_X11 (by decide) lm_0 rfl (by decide) rfl fl_X11_359 rfl rfl dX11_placeAfter_52 (fun M11 => ?_)
  refine tj_aload_n (pc := 55) G 1 dX11_placeAfter_55 rfl rfl ?_
  refine tj_dup (pc := 56) G dX11_placeAfter_56 rfl ?_
  refine tj_getI (pc := 57) G (k := 0) (j := 33) (j2 := 33) tk_X11 (by decide) lm_0 rfl (by decide) rfl fl_X11_362 dX11_placeAfter_57 ?_
  refine tj_iload_n (pc := 60) G 0 dX11_placeAfter_60 rfl rfl ?_
  refine tj_iload_n (pc := 61) G 2 dX11_placeAfter_61 rfl rfl ?_
  refine tj_jn1 (fun y12 => [(0, vR X 0), (1, vI c1), (2, vI c2), (3, vI x10)]) (fun y12 => [vI y12, vI (M11 0 33), vR X 0]) 70 (fun y12 M13 => ?_) (fun jk70 hj70 => ?_)
  · refine tj_callSi (pc := 70) G [vI y12] mf_X11_flag ml_X11_151 (by decide) rfl rfl (Nat.le_of_ble_eq_true rfl) (fun _ h9 => ok_X11_flag X  h9) dX11_placeAfter_70 (fun r14 M15 => ?_)
    refine tj_iadd (pc := 73) G dX11_placeAfter_73 ?_
    refine tj_putI (pc := 74) G (k := 0) (j := 33) (j2 := 33) tk_X11 (by decide) lm_0 rfl (by decide) rfl fl_X11_362 rfl rfl dX11_placeAfter_74 (fun M16 => ?_)
    refine tj_goto (pc := 77) G (tgt := 23) dX11_placeAfter_77 (by decide) ?_
    exact tj_sub [0, 1, 2, 3] rfl (hrec x10 M16)
  refine tj_icmp_ne (pc := 62) G (tgt := 69) (a2 := w32 x10) (b2 := w32 c1) dX11_placeAfter_62 (by decide) rfl rfl ?_ ?_
  · refine tj_iconst (pc := 69) G dX11_placeAfter_69 ?_
    exact tj_sub [1, 2, 3, 0] rfl (hj70 0 M11)
  refine tj_iconst (pc := 65) G dX11_placeAfter_65 ?_
  refine tj_goto (pc := 66) G (tgt := 70) dX11_placeAfter_66 (by decide) ?_
  exact tj_sub [1, 2, 3, 0] rfl (hj70 1 M11)
set_option maxRecDepth 100000 in
set_option maxHeartbeats 4000000 in
theorem ok_X11_placeAfter (X : tp_X)  {a1 : Int} {a2 : Int}  {M : tp_M} {res : Int × tp_M} (h : fx_X11_placeAfter  a1 a2 M = some res) : tp_Ret X LM 34 1 yX11_placeAfter (Cond.code yX11_placeAfter cX11_placeAfter 4 (some .int)) 7 [vR X 0, vI a1, vI a2] M res := by
  refine tp_ofW (by decide +kernel) rfl rfl (by show _ ≤ 4; exact Nat.le_of_ble_eq_true rfl) h (fun Y G => ?_)
  show tp_J X Y LM 34 4 7 1 (fx_X11_placeAfter  a1 a2 M) M [(0, vR X 0), (1, vI a1), (2, vI a2)] [] 0
  unfold fx_X11_placeAfter
  refine tj_aload_n (pc := 0) G 0 dX11_placeAfter_0 rfl rfl ?_
  refine tj_getR (pc := 1) G (k := 0) (j := 7) (j2 := 7) tk_X11 (by decide) lm_0 rfl (by decide) rfl fl_X11_41 dX11_placeAfter_1 ?_
  refine tj_aload_n (pc := 4) G 0 dX11_placeAfter_4 rfl rfl ?_
  refine tj_getR (pc := 5) G (k := 0) (j := 6) (j2 := 6) tk_X11 (by decide) lm_0 rfl (by decide) rfl fl_X11_38 dX11_placeAfter_5 ?_
  refine tj_callSv (pc := 8) G [vR X 5, vR X 4] mf_X11_copies ml_X11_307 (by decide) rfl rfl (Nat.le_of_ble_eq_true rfl) (fun _ h9 => ok_X11_copies X ⟨by decide, lm_5⟩ ⟨by decide, lm_4⟩ h9) dX11_placeAfter_8 (fun r1 M2 => ?_)
  refine tj_iload_n (pc := 11) G 1 dX11_placeAfter_11 rfl rfl ?_
  refine tj_istore_n (pc := 12) G (fun x3 => [(3, vI x3), (0, vR X 0), (1, vI a1), (2, vI a2)]) dX11_placeAfter_12 rfl (by decide) (fun _ => rfl) (fun x3 => ?_)
  refine tj_aload_n (pc := 13) G 1 dX11_placeAfter_13 rfl rfl ?_
  refine tj_iconst (pc := 14) G dX11_placeAfter_14 ?_
  refine tj_putI (pc := 15) G (k := 0) (j := 32) (j2 := 32) tk_X11 (by decide) lm_0 rfl (by decide) rfl fl_X11_359 rfl rfl dX11_placeAfter_15 (fun M4 => ?_)
  refine tj_aload_n (pc := 18) G 1 dX11_placeAfter_18 rfl rfl ?_
  refine tj_iconst (pc := 19) G dX11_placeAfter_19 ?_
  refine tj_putI (pc := 20) G (k := 0) (j := 33) (j2 := 33) tk_X11 (by decide) lm_0 rfl (by decide) rfl fl_X11_362 rfl rfl dX11_placeAfter_20 (fun M5 => ?_)
  refine tj_sub [1, 2, 3, 0] rfl (fx_X11_placeAfter_L23_ok G     tp_F x3 M5)

def fx_X11_later  (a1 : Int) (a2 : Int) (M : tp_M) : tp_O :=
(tp_lm (tp_up M 0 0 0) (fun M1 =>
(tp_bd (fx_X11_isOut a1 M1) (fun r2 M3 =>
(if w32 r2 = 0 then
(some ((-1), M3))
else
(tp_bd (fx_X11_in (w32 a2) 0 99 M3) (fun r4 M5 =>
(if w32 r4 = 0 then
(some ((-1), M5))
else
(tp_bd (fx_X11_placeAfter a1 a2 M5) (fun r6 M7 =>
(tp_lt r6 (fun x8 =>
(tp_lm (tp_up M7 0 1 0) (fun M9 =>
(tp_bd (fx_X11_enters (w32 (M9 0 32)) M9) (fun r10 M11 =>
(tp_bd (fx_X11_enters (w32 (M11 0 33)) M11) (fun r12 M13 =>
(some (x8, M13))))))))))))))))))))
set_option maxRecDepth 100000 in
set_option maxHeartbeats 4000000 in
theorem ok_X11_later (X : tp_X)  {a1 : Int} {a2 : Int}  {M : tp_M} {res : Int × tp_M} (h : fx_X11_later  a1 a2 M = some res) : tp_Ret X LM 34 1 yX11_later (Cond.code yX11_later cX11_later 4 (some .int)) 8 [vR X 0, vI a1, vI a2] M res := by
  refine tp_ofW (by decide +kernel) rfl rfl (by show _ ≤ 4; exact Nat.le_of_ble_eq_true rfl) h (fun Y G => ?_)
  show tp_J X Y LM 34 4 8 1 (fx_X11_later  a1 a2 M) M [(0, vR X 0), (1, vI a1), (2, vI a2)] [] 0
  unfold fx_X11_later
  refine tj_aload_n (pc := 0) G 0 dX11_later_0 rfl rfl ?_
  refine tj_iconst (pc := 1) G dX11_later_1 ?_
  refine tj_putI (pc := 2) G (k := 0) (j := 0) (j2 := 0) tk_X11 (by decide) lm_0 rfl (by decide) rfl fl_X11_3 rfl rfl dX11_later_2 (fun M1 => ?_)
  refine tj_aload_n (pc := 5) G 0 dX11_later_5 rfl rfl ?_
  refine tj_iload_n (pc := 6) G 1 dX11_later_6 rfl rfl ?_
  refine tj_callVi (pc := 7) G [vI a1] mf_X11_isOut (k := 0) (by decide) lm_0 rfl rfl ml_X11_280 (by decide) rfl rfl (Nat.le_of_ble_eq_true rfl) (fun _ h9 => ok_X11_isOut X  h9) dX11_later_7 (fun r2 M3 => ?_)
  refine tj_if_eq (pc := 10) G (tgt := 25) (a2 := w32 r2) dX11_later_10 (by decide) rfl ?_ ?_
  · refine tj_iconst (pc := 25) G dX11_later_25 ?_
    exact tj_iret (pc := 26) G dX11_later_26
  refine tj_iload_n (pc := 13) G 2 dX11_later_13 rfl rfl ?_
  refine tj_i2l (pc := 14) G (b := w32 a2) dX11_later_14 rfl ?_
  refine tj_lconst (pc := 15) G (v := 0) dX11_later_15 rfl ?_
  refine tj_ldc2 (pc := 16) G (v := 99) dX11_later_16 ct_X11_302 rfl ?_
  refine tj_callSi (pc := 19) G [vL (w32 a2), vL 0, vL 99] mf_X11_in ml_X11_129 (by decide) rfl rfl (Nat.le_of_ble_eq_true rfl) (fun _ h9 => ok_X11_in X  h9) dX11_later_19 (fun r4 M5 => ?_)
  refine tj_if_ne (pc := 22) G (tgt := 27) (a2 := w32 r4) dX11_later_22 (by decide) rfl ?_ ?_
  · refine tj_aload_n (pc := 27) G 0 dX11_later_27 rfl rfl ?_
    refine tj_iload_n (pc := 28) G 1 dX11_later_28 rfl rfl ?_
    refine tj_iload_n (pc := 29) G 2 dX11_later_29 rfl rfl ?_
    refine tj_callVi (pc := 30) G [vI a1, vI a2] mf_X11_placeAfter (k := 0) (by decide) lm_0 rfl rfl ml_X11_365 (by decide) rfl rfl (Nat.le_of_ble_eq_true rfl) (fun _ h9 => ok_X11_placeAfter X  h9) dX11_later_30 (fun r6 M7 => ?_)
    refine tj_istore_n (pc := 33) G (fun x8 => [(3, vI x8), (0, vR X 0), (1, vI a1), (2, vI a2)]) dX11_later_33 rfl (by decide) (fun _ => rfl) (fun x8 => ?_)
    refine tj_aload_n (pc := 34) G 1 dX11_later_34 rfl rfl ?_
    refine tj_iconst (pc := 35) G dX11_later_35 ?_
    refine tj_putI (pc := 36) G (k := 0) (j := 1) (j2 := 1) tk_X11 (by decide) lm_0 rfl (by decide) rfl fl_X11_15 rfl rfl dX11_later_36 (fun M9 => ?_)
    refine tj_aload_n (pc := 39) G 1 dX11_later_39 rfl rfl ?_
    refine tj_aload_n (pc := 40) G 1 dX11_later_40 rfl rfl ?_
    refine tj_getI (pc := 41) G (k := 0) (j := 32) (j2 := 32) tk_X11 (by decide) lm_0 rfl (by decide) rfl fl_X11_359 dX11_later_41 ?_
    refine tj_i2l (pc := 44) G (b := w32 (M9 0 32)) dX11_later_44 rfl ?_
    refine tj_callVv (pc := 45) G [vL (w32 (M9 0 32))] mf_X11_enters (k := 0) (by decide) lm_0 rfl rfl ml_X11_18 (by decide) rfl rfl (Nat.le_of_ble_eq_true rfl) (fun _ h9 => ok_X11_enters X  h9) dX11_later_45 (fun r10 M11 => ?_)
    refine tj_aload_n (pc := 48) G 1 dX11_later_48 rfl rfl ?_
    refine tj_aload_n (pc := 49) G 1 dX11_later_49 rfl rfl ?_
    refine tj_getI (pc := 50) G (k := 0) (j := 33) (j2 := 33) tk_X11 (by decide) lm_0 rfl (by decide) rfl fl_X11_362 dX11_later_50 ?_
    refine tj_i2l (pc := 53) G (b := w32 (M11 0 33)) dX11_later_53 rfl ?_
    refine tj_callVv (pc := 54) G [vL (w32 (M11 0 33))] mf_X11_enters (k := 0) (by decide) lm_0 rfl rfl ml_X11_18 (by decide) rfl rfl (Nat.le_of_ble_eq_true rfl) (fun _ h9 => ok_X11_enters X  h9) dX11_later_54 (fun r12 M13 => ?_)
    refine tj_iload_n (pc := 57) G 0 dX11_later_57 rfl rfl ?_
    exact tj_iret (pc := 58) G dX11_later_58
  refine tj_iconst (pc := 25) G dX11_later_25 ?_
  exact tj_iret (pc := 26) G dX11_later_26

def fx_X11_home_L43 (c2 : Int) (rec : Int → tp_M → tp_O) (z11 : Int) (M12 : tp_M) : tp_O :=
(if w32 z11 < w32 (M12 0 3) then
(tp_ck (w32 z11) 8 (tp_bd (fx_X11_enters (w32 (M12 19 (w32 z11))) M12) (fun r13 M14 =>
(tp_lt (z11 + 1) (fun x15 =>
(rec x15 M14))))))
else
(some (c2, M12)))
def fx_X11_home  (a1 : Int) (M : tp_M) : tp_O :=
(tp_lm (tp_up M 0 0 0) (fun M1 =>
(tp_bd (fx_X11_isOut a1 M1) (fun r2 M3 =>
(if w32 r2 = 0 then
(some ((-1), M3))
else
(tp_bd (fx_X11_copies 5 17 4 17 M3) (fun r4 M5 =>
(tp_bd (fx_X11_walkOf a1 M5) (fun r6 M7 =>
(tp_lt r6 (fun x8 =>
(if w32 x8 < 0 then
(some (x8, M7))
else
(tp_lm (tp_up M7 0 1 0) (fun M9 =>
(tp_lt 1 (fun x10 =>
(tp_lp1 (fx_X11_home_L43 x8 ) tp_F x10 M9)))))))))))))))))
set_option maxRecDepth 100000 in
set_option maxHeartbeats 4000000 in
theorem fx_X11_home_L43_ok {X : tp_X} {Y : tp_Y} (G : tp_Ok X Y 34 cX11_home 4 RX11 (some .int))  {c2 : Int}    (n : Nat) : ∀ (z11 : Int) (M12 : tp_M), tp_J X Y LM 34 4 8 1 (tp_lp1 (fx_X11_home_L43  c2 ) n z11 M12) M12 [(0, vR X 0), (2, vI c2), (3, vI z11)] [] 43 := by
  refine tp_lp1_ok (P := fun o z11 M12 => tp_J X Y LM 34 4 8 1 (o) M12 [(0, vR X 0), (2, vI c2), (3, vI z11)] [] 43) (fun z11 M12 => tj_none) (fun rec hrec z11 M12 => ?_) n
  unfold fx_X11_home_L43
  refine tj_iload_n (pc := 43) G 2 dX11_home_43 rfl rfl ?_
  refine tj_aload_n (pc := 44) G 0 dX11_home_44 rfl rfl ?_
  refine tj_getI (pc := 45) G (k := 0) (j := 3) (j2 := 3) tk_X11 (by decide) lm_0 rfl (by decide) rfl fl_X11_28 dX11_home_45 ?_
  refine tj_icmp_ge (pc := 48) G (tgt := 68) (a2 := w32 z11) (b2 := w32 (M12 0 3)) dX11_home_48 (by decide) rfl rfl ?_ ?_
  · refine tj_iload_n (pc := 68) G 1 dX11_home_68 rfl rfl ?_
    exact tj_iret (pc := 69) G dX11_home_69
  refine tj_aload_n (pc := 51) G 0 dX11_home_51 rfl rfl ?_
  refine tj_aload_n (pc := 52) G 0 dX11_home_52 rfl rfl ?_
  refine tj_getR (pc := 53) G (k := 0) (j := 31) (j2 := 31) tk_X11 (by decide) lm_0 rfl (by decide) rfl fl_X11_83 dX11_home_53 ?_
  refine tj_iload_n (pc := 56) G 2 dX11_home_56 rfl rfl ?_
  refine tj_iald (pc := 57) G (k := 19) (i2 := w32 z11) (n2 := 8) (by decide) lm_19 rfl rfl dX11_home_57 ?_
  refine tj_i2l (pc := 58) G (b := w32 (M12 19 (w32 z11))) dX11_home_58 rfl ?_
  refine tj_callVv (pc := 59) G [vL (w32 (M12 19 (w32 z11)))] mf_X11_enters (k := 0) (by decide) lm_0 rfl rfl ml_X11_18 (by decide) rfl rfl (Nat.le_of_ble_eq_true rfl) (fun _ h9 => ok_X11_enters X  h9) dX11_home_59 (fun r13 M14 => ?_)
  refine tj_iinc (pc := 62) G 2 (fun x15 => [(3, vI x15), (0, vR X 0), (2, vI c2)]) dX11_home_62 rfl (by decide) (fun _ => rfl) (fun x15 => ?_)
  refine tj_goto (pc := 65) G (tgt := 43) dX11_home_65 (by decide) ?_
  exact tj_sub [1, 2, 0] rfl (hrec x15 M14)
set_option maxRecDepth 100000 in
set_option maxHeartbeats 4000000 in
theorem ok_X11_home (X : tp_X)  {a1 : Int}  {M : tp_M} {res : Int × tp_M} (h : fx_X11_home  a1 M = some res) : tp_Ret X LM 34 1 yX11_home (Cond.code yX11_home cX11_home 4 (some .int)) 8 [vR X 0, vI a1] M res := by
  refine tp_ofW (by decide +kernel) rfl rfl (by show _ ≤ 4; exact Nat.le_of_ble_eq_true rfl) h (fun Y G => ?_)
  show tp_J X Y LM 34 4 8 1 (fx_X11_home  a1 M) M [(0, vR X 0), (1, vI a1)] [] 0
  unfold fx_X11_home
  refine tj_aload_n (pc := 0) G 0 dX11_home_0 rfl rfl ?_
  refine tj_iconst (pc := 1) G dX11_home_1 ?_
  refine tj_putI (pc := 2) G (k := 0) (j := 0) (j2 := 0) tk_X11 (by decide) lm_0 rfl (by decide) rfl fl_X11_3 rfl rfl dX11_home_2 (fun M1 => ?_)
  refine tj_aload_n (pc := 5) G 0 dX11_home_5 rfl rfl ?_
  refine tj_iload_n (pc := 6) G 1 dX11_home_6 rfl rfl ?_
  refine tj_callVi (pc := 7) G [vI a1] mf_X11_isOut (k := 0) (by decide) lm_0 rfl rfl ml_X11_280 (by decide) rfl rfl (Nat.le_of_ble_eq_true rfl) (fun _ h9 => ok_X11_isOut X  h9) dX11_home_7 (fun r2 M3 => ?_)
  refine tj_if_ne (pc := 10) G (tgt := 15) (a2 := w32 r2) dX11_home_10 (by decide) rfl ?_ ?_
  · refine tj_aload_n (pc := 15) G 0 dX11_home_15 rfl rfl ?_
    refine tj_getR (pc := 16) G (k := 0) (j := 7) (j2 := 7) tk_X11 (by decide) lm_0 rfl (by decide) rfl fl_X11_41 dX11_home_16 ?_
    refine tj_aload_n (pc := 19) G 0 dX11_home_19 rfl rfl ?_
    refine tj_getR (pc := 20) G (k := 0) (j := 6) (j2 := 6) tk_X11 (by decide) lm_0 rfl (by decide) rfl fl_X11_38 dX11_home_20 ?_
    refine tj_callSv (pc := 23) G [vR X 5, vR X 4] mf_X11_copies ml_X11_307 (by decide) rfl rfl (Nat.le_of_ble_eq_true rfl) (fun _ h9 => ok_X11_copies X ⟨by decide, lm_5⟩ ⟨by decide, lm_4⟩ h9) dX11_home_23 (fun r4 M5 => ?_)
    refine tj_aload_n (pc := 26) G 0 dX11_home_26 rfl rfl ?_
    refine tj_iload_n (pc := 27) G 1 dX11_home_27 rfl rfl ?_
    refine tj_callVi (pc := 28) G [vI a1] mf_X11_walkOf (k := 0) (by decide) lm_0 rfl rfl ml_X11_368 (by decide) rfl rfl (Nat.le_of_ble_eq_true rfl) (fun _ h9 => ok_X11_walkOf X  h9) dX11_home_28 (fun r6 M7 => ?_)
    refine tj_istore_n (pc := 31) G (fun x8 => [(2, vI x8), (0, vR X 0), (1, vI a1)]) dX11_home_31 rfl (by decide) (fun _ => rfl) (fun x8 => ?_)
    refine tj_iload_n (pc := 32) G 0 dX11_home_32 rfl rfl ?_
    refine tj_if_lt (pc := 33) G (tgt := 68) (a2 := w32 x8) dX11_home_33 (by decide) rfl ?_ ?_
    · refine tj_iload_n (pc := 68) G 0 dX11_home_68 rfl rfl ?_
      exact tj_iret (pc := 69) G dX11_home_69
    refine tj_aload_n (pc := 36) G 1 dX11_home_36 rfl rfl ?_
    refine tj_iconst (pc := 37) G dX11_home_37 ?_
    refine tj_putI (pc := 38) G (k := 0) (j := 1) (j2 := 1) tk_X11 (by decide) lm_0 rfl (by decide) rfl fl_X11_15 rfl rfl dX11_home_38 (fun M9 => ?_)
    refine tj_iconst (pc := 41) G dX11_home_41 ?_
    refine tj_istore_n (pc := 42) G (fun x10 => [(3, vI x10), (2, vI x8), (0, vR X 0), (1, vI a1)]) dX11_home_42 rfl (by decide) (fun _ => rfl) (fun x10 => ?_)
    refine tj_sub [2, 1, 0] rfl (fx_X11_home_L43_ok G     tp_F x10 M9)
  refine tj_iconst (pc := 13) G dX11_home_13 ?_
  exact tj_iret (pc := 14) G dX11_home_14
