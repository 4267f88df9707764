def fx_X9_takeNext  (t : Nat) (a1 : Int) (M : tp_M) : tp_O :=
(tp_bd (fx_X10_isDigit a1 M) (fun r1 M2 =>
(if w32 r1 = 0 then
(tp_lm (tp_up M2 t 7 0) (fun M3 =>
(if w32 a1 = 41 then
(if w32 (M3 t 6) = 0 then
(some (0, M3))
else
(tp_bd (fx_X9_emitWaiting t 1 M3) (fun r14 M15 =>
(if w32 (M15 t 5) ≤ 0 then
(tp_lm (tp_up M15 t 6 ((M15 t 6) - 1)) (fun M16 =>
(some (1, M16))))
else
(tp_lm (tp_up M15 t 5 ((M15 t 5) - 1)) (fun M17 =>
(tp_lm (tp_up M17 t 6 ((M17 t 6) - 1)) (fun M18 =>
(some (1, M18))))))))))
else
(tp_bd (fx_X9_strengthOf (2000 + a1) M3) (fun r4 M5 =>
(tp_lt r4 (fun x6 =>
(if w32 x6 = 0 then
(some (0, M5))
else
(tp_jn0 (fun M7 => 
(tp_bd (fx_X9_emitWaiting t x6 M7) (fun r8 M9 =>
(tp_bd (fx_X9_hold t (2000 + a1) M9) (fun r10 M11 =>
(tp_lm (tp_up M11 t 8 1) (fun M12 =>
(some (1, M12))))))))) (fun jk129 =>
(if w32 x6 = 1 then
(if w32 (M5 t 6) < 0 then
(some (0, M5))
else
(if w32 (M5 t 6) ≤ 4 then
(tp_ck (w32 (M5 t 6)) 5 (if w32 (M5 (t + 4) (w32 (M5 t 6))) = 0 then
(tp_ck (w32 (M5 t 6)) 5 (tp_lm (tp_up M5 (t + 4) (w32 (M5 t 6)) 1) (fun M13 =>
(jk129 M13))))
else
(some (0, M5))))
else
(some (0, M5))))
else
(jk129 M5))))))))))))
else
(tp_bd (fx_X9_takeDigit t (a1 - 48) M2) (fun r19 M20 =>
(tp_gd (w32 r19 = 0 ∨ w32 r19 = 1) inferInstance (some (r19, M20))))))))
set_option maxRecDepth 100000 in
set_option maxHeartbeats 4000000 in
theorem ok_X9_takeNext (X : tp_X)  {t : Nat} {a1 : Int} (ht : tg_Turner LC 64 t) {M : tp_M} {res : Int × tp_M} (h : fx_X9_takeNext  t a1 M = some res) : tp_Ret X LC 64 1 yX9_takeNext (Cond.code yX9_takeNext cX9_takeNext 3 (some .boolean)) 3 [vR X t, vI a1] M res := by
  refine tp_ofW (by decide +kernel) rfl rfl (by show _ ≤ 3; exact Nat.le_of_ble_eq_true rfl) h (fun Y G => ?_)
  show tp_J X Y LC 64 3 3 1 (fx_X9_takeNext  t a1 M) M [(0, vR X t), (1, vI a1)] [] 0
  unfold fx_X9_takeNext
  refine tj_iload_n (pc := 0) G 1 dX9_takeNext_0 rfl rfl ?_
  refine tj_callNi (pc := 1) G [vI a1] mf_X10_isDigit mnl_X9_77 (by decide) rfl rfl (Nat.le_of_ble_eq_true rfl) (fun _ h9 => ok_X10_isDigit X  h9) dX9_takeNext_1 (fun r1 M2 => ?_)
  refine tj_if_eq (pc := 4) G (tgt := 16) (a2 := w32 r1) dX9_takeNext_4 (by decide) rfl ?_ ?_
  · refine tj_aload_n (pc := 16) G 0 dX9_takeNext_16 rfl rfl ?_
    refine tj_iconst (pc := 17) G dX9_takeNext_17 ?_
    refine tj_putI (pc := 18) G (k := t) (j := 7) (j2 := 7) tk_X9 (tg_Turner_l0 ht) ht.2.1 rfl (by decide) rfl fl_X9_41 rfl rfl dX9_takeNext_18 (fun M3 => ?_)
    refine tj_iload_n (pc := 21) G 1 dX9_takeNext_21 rfl rfl ?_
    refine tj_bipush (pc := 22) G dX9_takeNext_22 rfl ?_
    refine tj_icmp_ne (pc := 24) G (tgt := 70) (a2 := w32 a1) (b2 := 41) dX9_takeNext_24 (by decide) rfl rfl ?_ ?_
    · refine tj_sipush (pc := 70) G dX9_takeNext_70 rfl ?_
      refine tj_iload_n (pc := 73) G 1 dX9_takeNext_73 rfl rfl ?_
      refine tj_iadd (pc := 74) G dX9_takeNext_74 ?_
      refine tj_callSi (pc := 75) G [vI (2000 + a1)] mf_X9_strengthOf ml_X9_89 (by decide) rfl rfl (Nat.le_of_ble_eq_true rfl) (fun _ h9 => ok_X9_strengthOf X  h9) dX9_takeNext_75 (fun r4 M5 => ?_)
      refine tj_istore_n (pc := 78) G (fun x6 => [(2, vI x6), (0, vR X t), (1, vI a1)]) dX9_takeNext_78 rfl (by decide) (fun _ => rfl) (fun x6 => ?_)
      refine tj_iload_n (pc := 79) G 0 dX9_takeNext_79 rfl rfl ?_
      refine tj_if_ne (pc := 80) G (tgt := 85) (a2 := w32 x6) dX9_takeNext_80 (by decide) rfl ?_ ?_
      · refine tj_iload_n (pc := 85) G 0 dX9_takeNext_85 rfl rfl ?_
        refine tj_iconst (pc := 86) G dX9_takeNext_86 ?_
        refine tj_jn0 [(0, vR X t), (1, vI a1), (2, vI x6)] [] 129 (fun M7 => ?_) (fun jk129 hj129 => ?_)
        · refine tj_aload_n (pc := 129) G 0 dX9_takeNext_129 rfl rfl ?_
          refine tj_iload_n (pc := 130) G 2 dX9_takeNext_130 rfl rfl ?_
          refine tj_callVv (pc := 131) G [vI x6] mf_X9_emitWaiting (k := t) (tg_Turner_l0 ht) ht.2.1 rfl rfl ml_X9_70 (by decide) rfl rfl (Nat.le_of_ble_eq_true rfl) (fun _ h9 => ok_X9_emitWaiting X ht h9) dX9_takeNext_131 (fun r8 M9 => ?_)
          refine tj_aload_n (pc := 134) G 0 dX9_takeNext_134 rfl rfl ?_
          refine tj_sipush (pc := 135) G dX9_takeNext_135 rfl ?_
          refine tj_iload_n (pc := 138) G 1 dX9_takeNext_138 rfl rfl ?_
          refine tj_iadd (pc := 139) G dX9_takeNext_139 ?_
          refine tj_callVv (pc := 140) G [vI (2000 + a1)] mf_X9_hold (k := t) (tg_Turner_l0 ht) ht.2.1 rfl rfl ml_X9_74 (by decide) rfl rfl (Nat.le_of_ble_eq_true rfl) (fun _ h9 => ok_X9_hold X ht h9) dX9_takeNext_140 (fun r10 M11 => ?_)
          refine tj_aload_n (pc := 143) G 0 dX9_takeNext_143 rfl rfl ?_
          refine tj_iconst (pc := 144) G dX9_takeNext_144 ?_
          refine tj_putZ (pc := 145) G (k := t) (j := 8) (j2 := 8) tk_X9 (tg_Turner_l0 ht) ht.2.1 rfl (by decide) rfl fl_X9_44 rfl rfl (by decide) dX9_takeNext_145 (fun M12 => ?_)
          refine tj_iconst (pc := 148) G dX9_takeNext_148 ?_
          exact tj_zret (pc := 149) G (by decide) dX9_takeNext_149
        refine tj_icmp_ne (pc := 87) G (tgt := 129) (a2 := w32 x6) (b2 := 1) dX9_takeNext_87 (by decide) rfl rfl ?_ ?_
        · exact tj_sub [1, 2, 0] rfl (hj129  M5)
        refine tj_aload_n (pc := 90) G 1 dX9_takeNext_90 rfl rfl ?_
        refine tj_getI (pc := 91) G (k := t) (j := 6) (j2 := 6) tk_X9 (tg_Turner_l0 ht) ht.2.1 rfl (by decide) rfl fl_X9_38 dX9_takeNext_91 ?_
        refine tj_if_lt (pc := 94) G (tgt := 117) (a2 := w32 (M5 t 6)) dX9_takeNext_94 (by decide) rfl ?_ ?_
        · refine tj_iconst (pc := 117) G dX9_takeNext_117 ?_
          exact tj_zret (pc := 118) G (by decide) dX9_takeNext_118
        refine tj_aload_n (pc := 97) G 1 dX9_takeNext_97 rfl rfl ?_
        refine tj_getI (pc := 98) G (k := t) (j := 6) (j2 := 6) tk_X9 (tg_Turner_l0 ht) ht.2.1 rfl (by decide) rfl fl_X9_38 dX9_takeNext_98 ?_
        refine tj_iconst (pc := 101) G dX9_takeNext_101 ?_
        refine tj_icmp_gt (pc := 102) G (tgt := 117) (a2 := w32 (M5 t 6)) (b2 := 4) dX9_takeNext_102 (by decide) rfl rfl ?_ ?_
        · refine tj_iconst (pc := 117) G dX9_takeNext_117 ?_
          exact tj_zret (pc := 118) G (by decide) dX9_takeNext_118
        refine tj_aload_n (pc := 105) G 1 dX9_takeNext_105 rfl rfl ?_
        refine tj_getR (pc := 106) G (k := t) (j := 3) (j2 := 3) tk_X9 (tg_Turner_l0 ht) ht.2.1 rfl (by decide) rfl fl_X9_21 dX9_takeNext_106 ?_
        refine tj_aload_n (pc := 109) G 1 dX9_takeNext_109 rfl rfl ?_
        refine tj_getI (pc := 110) G (k := t) (j := 6) (j2 := 6) tk_X9 (tg_Turner_l0 ht) ht.2.1 rfl (by decide) rfl fl_X9_38 dX9_takeNext_110 ?_
        refine tj_zald (pc := 113) G (k := (t + 4)) (i2 := w32 (M5 t 6)) (n2 := 5) (tg_Turner_l4 ht) ht.2.2.2.2.2 rfl rfl dX9_takeNext_113 ?_
        refine tj_if_eq (pc := 114) G (tgt := 119) (a2 := w32 (M5 (t + 4) (w32 (M5 t 6)))) dX9_takeNext_114 (by decide) rfl ?_ ?_
        · refine tj_aload_n (pc := 119) G 1 dX9_takeNext_119 rfl rfl ?_
          refine tj_getR (pc := 120) G (k := t) (j := 3) (j2 := 3) tk_X9 (tg_Turner_l0 ht) ht.2.1 rfl (by decide) rfl fl_X9_21 dX9_takeNext_120 ?_
          refine tj_aload_n (pc := 123) G 1 dX9_takeNext_123 rfl rfl ?_
          refine tj_getI (pc := 124) G (k := t) (j := 6) (j2 := 6) tk_X9 (tg_Turner_l0 ht) ht.2.1 rfl (by decide) rfl fl_X9_38 dX9_takeNext_124 ?_
          refine tj_iconst (pc := 127) G dX9_takeNext_127 ?_
          refine tj_zast (pc := 128) G (k := (t + 4)) (i2 := w32 (M5 t 6)) (n2 := 5) (tg_Turner_l4 ht) ht.2.2.2.2.2 rfl rfl (by decide) dX9_takeNext_128 (fun M13 => ?_)
          exact tj_sub [1, 2, 0] rfl (hj129  M13)
        refine tj_iconst (pc := 117) G dX9_takeNext_117 ?_
        exact tj_zret (pc := 118) G (by decide) dX9_takeNext_118
      refine tj_iconst (pc := 83) G dX9_takeNext_83 ?_
      exact tj_zret (pc := 84) G (by decide) dX9_takeNext_84
    refine tj_aload_n (pc := 27) G 0 dX9_takeNext_27 rfl rfl ?_
    refine tj_getI (pc := 28) G (k := t) (j := 6) (j2 := 6) tk_X9 (tg_Turner_l0 ht) ht.2.1 rfl (by decide) rfl fl_X9_38 dX9_takeNext_28 ?_
    refine tj_if_ne (pc := 31) G (tgt := 36) (a2 := w32 (M3 t 6)) dX9_takeNext_31 (by decide) rfl ?_ ?_
    · refine tj_aload_n (pc := 36) G 0 dX9_takeNext_36 rfl rfl ?_
      refine tj_iconst (pc := 37) G dX9_takeNext_37 ?_
      refine tj_callVv (pc := 38) G [vI 1] mf_X9_emitWaiting (k := t) (tg_Turner_l0 ht) ht.2.1 rfl rfl ml_X9_70 (by decide) rfl rfl (Nat.le_of_ble_eq_true rfl) (fun _ h9 => ok_X9_emitWaiting X ht h9) dX9_takeNext_38 (fun r14 M15 => ?_)
      refine tj_aload_n (pc := 41) G 0 dX9_takeNext_41 rfl rfl ?_
      refine tj_getI (pc := 42) G (k := t) (j := 5) (j2 := 5) tk_X9 (tg_Turner_l0 ht) ht.2.1 rfl (by decide) rfl fl_X9_35 dX9_takeNext_42 ?_
      refine tj_if_le (pc := 45) G (tgt := 58) (a2 := w32 (M15 t 5)) dX9_takeNext_45 (by decide) rfl ?_ ?_
      · refine tj_aload_n (pc := 58) G 0 dX9_takeNext_58 rfl rfl ?_
        refine tj_dup (pc := 59) G dX9_takeNext_59 rfl ?_
        refine tj_getI (pc := 60) G (k := t) (j := 6) (j2 := 6) tk_X9 (tg_Turner_l0 ht) ht.2.1 rfl (by decide) rfl fl_X9_38 dX9_takeNext_60 ?_
        refine tj_iconst (pc := 63) G dX9_takeNext_63 ?_
        refine tj_isub (pc := 64) G dX9_takeNext_64 ?_
        refine tj_putI (pc := 65) G (k := t) (j := 6) (j2 := 6) tk_X9 (tg_Turner_l0 ht) ht.2.1 rfl (by decide) rfl fl_X9_38 rfl rfl dX9_takeNext_65 (fun M16 => ?_)
        refine tj_iconst (pc := 68) G dX9_takeNext_68 ?_
        exact tj_zret (pc := 69) G (by decide) dX9_takeNext_69
      refine tj_aload_n (pc := 48) G 0 dX9_takeNext_48 rfl rfl ?_
      refine tj_dup (pc := 49) G dX9_takeNext_49 rfl ?_
      refine tj_getI (pc := 50) G (k := t) (j := 5) (j2 := 5) tk_X9 (tg_Turner_l0 ht) ht.2.1 rfl (by decide) rfl fl_X9_35 dX9_takeNext_50 ?_
      refine tj_iconst (pc := 53) G dX9_takeNext_53 ?_
      refine tj_isub (pc := 54) G dX9_takeNext_54 ?_
      refine tj_putI (pc := 55) G (k := t) (j := 5) (j2 := 5) tk_X9 (tg_Turner_l0 ht) ht.2.1 rfl (by decide) rfl fl_X9_35 rfl rfl dX9_takeNext_55 (fun M17 => ?_)
      refine tj_aload_n (pc := 58) G 0 dX9_takeNext_58 rfl rfl ?_
      refine tj_dup (pc := 59) G dX9_takeNext_59 rfl ?_
      refine tj_getI (pc := 60) G (k := t) (j := 6) (j2 := 6) tk_X9 (tg_Turner_l0 ht) ht.2.1 rfl (by decide) rfl fl_X9_38 dX9_takeNext_60 ?_
      refine tj_iconst (pc := 63) G dX9_takeNext_63 ?_
      refine tj_isub (pc := 64) G dX9_takeNext_64 ?_
      refine tj_putI (pc := 65) G (k := t) (j := 6) (j2 := 6) tk_X9 (tg_Turner_l0 ht) ht.2.1 rfl (by decide) rfl fl_X9_38 rfl rfl dX9_takeNext_65 (fun M18 => ?_)
      refine tj_iconst (pc := 68) G dX9_takeNext_68 ?_
      exact tj_zret (pc := 69) G (by decide) dX9_takeNext_69
    refine tj_iconst (pc := 34) G dX9_takeNext_34 ?_
    exact tj_zret (pc := 35) G (by decide) dX9_takeNext_35
  refine tj_aload_n (pc := 7) G 0 dX9_takeNext_7 rfl rfl ?_
  refine tj_iload_n (pc := 8) G 1 dX9_takeNext_8 rfl rfl ?_
  refine tj_bipush (pc := 9) G dX9_takeNext_9 rfl ?_
  refine tj_isub (pc := 11) G dX9_takeNext_11 ?_
  refine tj_callVi (pc := 12) G [vI (a1 - 48)] mf_X9_takeDigit (k := t) (tg_Turner_l0 ht) ht.2.1 rfl rfl ml_X9_86 (by decide) rfl rfl (Nat.le_of_ble_eq_true rfl) (fun _ h9 => ok_X9_takeDigit X ht h9) dX9_takeNext_12 (fun r19 M20 => ?_)
  exact tj_gd (fun hz => tj_zret (pc := 15) G hz dX9_takeNext_15)

def fx_X9_isLetter  (a1 : Int) (M : tp_M) : tp_O :=
(if w32 a1 = 99 then
(some (1, M))
else
(if w32 a1 = 100 then
(some (1, M))
else
(if w32 a1 = 101 then
(some (0, M))
else
(if w32 a1 = 102 then
(some (0, M))
else
(if w32 a1 = 103 then
(some (0, M))
else
(if w32 a1 = 104 then
(some (1, M))
else
(if w32 a1 = 105 then
(some (1, M))
else
(if w32 a1 = 106 then
(some (0, M))
else
(if w32 a1 = 107 then
(some (1, M))
else
(if w32 a1 = 108 then
(some (0, M))
else
(if w32 a1 = 109 then
(some (0, M))
else
(if w32 a1 = 110 then
(some (1, M))
else
(if w32 a1 = 111 then
(some (0, M))
else
(if w32 a1 = 112 then
(some (0, M))
else
(if w32 a1 = 113 then
(some (0, M))
else
(if w32 a1 = 114 then
(some (0, M))
else
(if w32 a1 = 115 then
(some (0, M))
else
(if w32 a1 = 116 then
(some (0, M))
else
(if w32 a1 = 117 then
(some (0, M))
else
(if w32 a1 = 118 then
(some (0, M))
else
(if w32 a1 = 119 then
(some (1, M))
else
(some (0, M)))))))))))))))))))))))
set_option maxRecDepth 100000 in
set_option maxHeartbeats 4000000 in
theorem ok_X9_isLetter (X : tp_X)  {a1 : Int}  {M : tp_M} {res : Int × tp_M} (h : fx_X9_isLetter  a1 M = some res) : tp_Ret X LC 64 1 yX9_isLetter (Cond.code yX9_isLetter cX9_isLetter 1 (some .boolean)) 1 [vI a1] M res := by
  refine tp_ofW (by decide +kernel) rfl rfl (by show _ ≤ 1; exact Nat.le_of_ble_eq_true rfl) h (fun Y G => ?_)
  show tp_J X Y LC 64 1 1 1 (fx_X9_isLetter  a1 M) M [(0, vI a1)] [] 0
  unfold fx_X9_isLetter
  refine tj_iload_n (pc := 0) G 0 dX9_isLetter_0 rfl rfl ?_
  refine tj_case (fun hq1 => ?_) (fun hq2 => ?_)
  · refine tj_tabIn (pc := 1) G (v := 99) (tgt := 100) dX9_isLetter_1 hq1 (by decide) rfl (by decide) ?_
    refine tj_iconst (pc := 100) G dX9_isLetter_100 ?_
    exact tj_zret (pc := 101) G (by decide) dX9_isLetter_101
  refine tj_case (fun hq3 => ?_) (fun hq4 => ?_)
  · refine tj_tabIn (pc := 1) G (v := 100) (tgt := 100) dX9_isLetter_1 hq3 (by decide) rfl (by decide) ?_
    refine tj_iconst (pc := 100) G dX9_isLetter_100 ?_
    exact tj_zret (pc := 101) G (by decide) dX9_isLetter_101
  refine tj_case (fun hq5 => ?_) (fun hq6 => ?_)
  · refine tj_tabIn (pc := 1) G (v := 101) (tgt := 102) dX9_isLetter_1 hq5 (by decide) rfl (by decide) ?_
    refine tj_iconst (pc := 102) G dX9_isLetter_102 ?_
    exact tj_zret (pc := 103) G (by decide) dX9_isLetter_103
  refine tj_case (fun hq7 => ?_) (fun hq8 => ?_)
  · refine tj_tabIn (pc := 1) G (v := 102) (tgt := 102) dX9_isLetter_1 hq7 (by decide) rfl (by decide) ?_
    refine tj_iconst (pc := 102) G dX9_isLetter_102 ?_
    exact tj_zret (pc := 103) G (by decide) dX9_isLetter_103
  refine tj_case (fun hq9 => ?_) (fun hq10 => ?_)
  · refine tj_tabIn (pc := 1) G (v := 103) (tgt := 102) dX9_isLetter_1 hq9 (by decide) rfl (by decide) ?_
    refine tj_iconst (pc := 102) G dX9_isLetter_102 ?_
    exact tj_zret (pc := 103) G (by decide) dX9_isLetter_103
  refine tj_case (fun hq11 => ?_) (fun hq12 => ?_)
  · refine tj_tabIn (pc := 1) G (v := 104) (tgt := 100) dX9_isLetter_1 hq11 (by decide) rfl (by decide) ?_
    refine tj_iconst (pc := 100) G dX9_isLetter_100 ?_
    exact tj_zret (pc := 101) G (by decide) dX9_isLetter_101
  refine tj_case (fun hq13 => ?_) (fun hq14 => ?_)
  · refine tj_tabIn (pc := 1) G (v := 105) (tgt := 100) dX9_isLetter_1 hq13 (by decide) rfl (by decide) ?_
    refine tj_iconst (pc := 100) G dX9_isLetter_100 ?_
    exact tj_zret (pc := 101) G (by decide) dX9_isLetter_101
  refine tj_case (fun hq15 => ?_) (fun hq16 => ?_)
  · refine tj_tabIn (pc := 1) G (v := 106) (tgt := 102) dX9_isLetter_1 hq15 (by decide) rfl (by decide) ?_
    refine tj_iconst (pc := 102) G dX9_isLetter_102 ?_
    exact tj_zret (pc := 103) G (by decide) dX9_isLetter_103
  refine tj_case (fun hq17 => ?_) (fun hq18 => ?_)
  · refine tj_tabIn (pc := 1) G (v := 107) (tgt := 100) dX9_isLetter_1 hq17 (by decide) rfl (by decide) ?_
    refine tj_iconst (pc := 100) G dX9_isLetter_100 ?_
    exact tj_zret (pc := 101) G (by decide) dX9_isLetter_101
  refine tj_case (fun hq19 => ?_) (fun hq20 => ?_)
  · refine tj_tabIn (pc := 1) G (v := 108) (tgt := 102) dX9_isLetter_1 hq19 (by decide) rfl (by decide) ?_
    refine tj_iconst (pc := 102) G dX9_isLetter_102 ?_
    exact tj_zret (pc := 103) G (by decide) dX9_isLetter_103
  refine tj_case (fun hq21 => ?_) (fun hq22 => ?_)
  · refine tj_tabIn (pc := 1) G (v := 109) (tgt := 102) dX9_isLetter_1 hq21 (by decide) rfl (by decide) ?_
    refine tj_iconst (pc := 102) G dX9_isLetter_102 ?_
    exact tj_zret (pc := 103) G (by decide) dX9_isLetter_103
  refine tj_case (fun hq23 => ?_) (fun hq24 => ?_)
  · refine tj_tabIn (pc := 1) G (v := 110) (tgt := 100) dX9_isLetter_1 hq23 (by decide) rfl (by decide) ?_
    refine tj_iconst (pc := 100) G dX9_isLetter_100 ?_
    exact tj_zret (pc := 101) G (by decide) dX9_isLetter_101
  refine tj_case (fun hq25 => ?_) (fun hq26 => ?_)
  · refine tj_tabIn (pc := 1) G (v := 111) (tgt := 102) dX9_isLetter_1 hq25 (by decide) rfl (by decide) ?_
    refine tj_iconst (pc := 102) G dX9_isLetter_102 ?_
    exact tj_zret (pc := 103) G (by decide) dX9_isLetter_103
  refine tj_case (fun hq27 => ?_) (fun hq28 => ?_)
  · refine tj_tabIn (pc := 1) G (v := 112) (tgt := 102) dX9_isLetter_1 hq27 (by decide) rfl (by decide) ?_
    refine tj_iconst (pc := 102) G dX9_isLetter_102 ?_
    exact tj_zret (pc := 103) G (by decide) dX9_isLetter_103
  refine tj_case (fun hq29 => ?_) (fun hq30 => ?_)
  · refine tj_tabIn (pc := 1) G (v := 113) (tgt := 102) dX9_isLetter_1 hq29 (by decide) rfl (by decide) ?_
    refine tj_iconst (pc := 102) G dX9_isLetter_102 ?_
    exact tj_zret (pc := 103) G (by decide) dX9_isLetter_103
  refine tj_case (fun hq31 => ?_) (fun hq32 => ?_)
  · refine tj_tabIn (pc := 1) G (v := 114) (tgt := 102) dX9_isLetter_1 hq31 (by decide) rfl (by decide) ?_
    refine tj_iconst (pc := 102) G dX9_isLetter_102 ?_
    exact tj_zret (pc := 103) G (by decide) dX9_isLetter_103
  refine tj_case (fun hq33 => ?_) (fun hq34 => ?_)
  · refine tj_tabIn (pc := 1) G (v := 115) (tgt := 102) dX9_isLetter_1 hq33 (by decide) rfl (by decide) ?_
    refine tj_iconst (pc := 102) G dX9_isLetter_102 ?_
    exact tj_zret (pc := 103) G (by decide) dX9_isLetter_103
  refine tj_case (fun hq35 => ?_) (fun hq36 => ?_)
  · refine tj_tabIn (pc := 1) G (v := 116) (tgt := 102) dX9_isLetter_1 hq35 (by decide) rfl (by decide) ?_
    refine tj_iconst (pc := 102) G dX9_isLetter_102 ?_
    exact tj_zret (pc := 103) G (by decide) dX9_isLetter_103
  refine tj_case (fun hq37 => ?_) (fun hq38 => ?_)
  · refine tj_tabIn (pc := 1) G (v := 117) (tgt := 102) dX9_isLetter_1 hq37 (by decide) rfl (by decide) ?_
    refine tj_iconst (pc := 102) G dX9_isLetter_102 ?_
    exact tj_zret (pc := 103) G (by decide) dX9_isLetter_103
  refine tj_case (fun hq39 => ?_) (fun hq40 => ?_)
  · refine tj_tabIn (pc := 1) G (v := 118) (tgt := 102) dX9_isLetter_1 hq39 (by decide) rfl (by decide) ?_
    refine tj_iconst (pc := 102) G dX9_isLetter_102 ?_
    exact tj_zret (pc := 103) G (by decide) dX9_isLetter_103
  refine tj_case (fun hq41 => ?_) (fun hq42 => ?_)
  · refine tj_tabIn (pc := 1) G (v := 119) (tgt := 100) dX9_isLetter_1 hq41 (by decide) rfl (by decide) ?_
    refine tj_iconst (pc := 100) G dX9_isLetter_100 ?_
    exact tj_zret (pc := 101) G (by decide) dX9_isLetter_101
  refine tj_tabOut (pc := 1) G (tgt := 102) dX9_isLetter_1 (by omega) (by decide) ?_
  refine tj_iconst (pc := 102) G dX9_isLetter_102 ?_
  exact tj_zret (pc := 103) G (by decide) dX9_isLetter_103

def fx_X9_takeThing  (t : Nat) (a1 : Int) (M : tp_M) : tp_O :=
(if w32 a1 = 45 then
(tp_bd (fx_X9_hold t 3000 M) (fun r19 M20 =>
(some (1, M20))))
else
(if w32 a1 = 40 then
(if w32 (M t 6) < 4 then
(tp_lm (tp_up M t 6 ((M t 6) + 1)) (fun M15 =>
(tp_ck (w32 (M15 t 6)) 5 (tp_lm (tp_up M15 (t + 4) (w32 (M15 t 6)) 0) (fun M16 =>
(tp_bd (fx_X9_hold t 3001 M16) (fun r17 M18 =>
(some (1, M18)))))))))
else
(some (0, M)))
else
(tp_bd (fx_X10_isDigit a1 M) (fun r1 M2 =>
(tp_lt r1 (fun x3 =>
(tp_jn0 (fun M4 => 
(tp_jn1 (fun y5 M6 => 
(tp_bd (fx_X9_emit t y5 M6) (fun r7 M8 =>
(if w32 x3 = 0 then
(tp_lm (tp_up M8 t 7 0) (fun M9 =>
(tp_lm (tp_up M9 t 8 0) (fun M10 =>
(some (1, M10))))))
else
(tp_lm (tp_up M8 t 7 1) (fun M11 =>
(tp_lm (tp_up M11 t 8 0) (fun M12 =>
(some (1, M12)))))))))) (fun jk95 =>
(if w32 x3 = 0 then
(jk95 (1000 + a1) M4)
else
(jk95 (a1 - 48) M4))))) (fun jk78 =>
(if w32 x3 = 0 then
(tp_bd (fx_X9_isLetter a1 M2) (fun r13 M14 =>
(if w32 r13 = 0 then
(some (0, M14))
else
(jk78 M14))))
else
(jk78 M2))))))))))
set_option maxRecDepth 100000 in
set_option maxHeartbeats 4000000 in
theorem ok_X9_takeThing (X : tp_X)  {t : Nat} {a1 : Int} (ht : tg_Turner LC 64 t) {M : tp_M} {res : Int × tp_M} (h : fx_X9_takeThing  t a1 M = some res) : tp_Ret X LC 64 1 yX9_takeThing (Cond.code yX9_takeThing cX9_takeThing 3 (some .boolean)) 2 [vR X t, vI a1] M res := by
  refine tp_ofW (by decide +kernel) rfl rfl (by show _ ≤ 3; exact Nat.le_of_ble_eq_true rfl) h (fun Y G => ?_)
  show tp_J X Y LC 64 3 2 1 (fx_X9_takeThing  t a1 M) M [(0, vR X t), (1, vI a1)] [] 0
  unfold fx_X9_takeThing
  refine tj_iload_n (pc := 0) G 1 dX9_takeThing_0 rfl rfl ?_
  refine tj_bipush (pc := 1) G dX9_takeThing_1 rfl ?_
  refine tj_icmp_ne (pc := 3) G (tgt := 15) (a2 := w32 a1) (b2 := 45) dX9_takeThing_3 (by decide) rfl rfl ?_ ?_
  · refine tj_iload_n (pc := 15) G 1 dX9_takeThing_15 rfl rfl ?_
    refine tj_bipush (pc := 16) G dX9_takeThing_16 rfl ?_
    refine tj_icmp_ne (pc := 18) G (tgt := 60) (a2 := w32 a1) (b2 := 40) dX9_takeThing_18 (by decide) rfl rfl ?_ ?_
    · refine tj_iload_n (pc := 60) G 1 dX9_takeThing_60 rfl rfl ?_
      refine tj_callNi (pc := 61) G [vI a1] mf_X10_isDigit mnl_X9_77 (by decide) rfl rfl (Nat.le_of_ble_eq_true rfl) (fun _ h9 => ok_X10_isDigit X  h9) dX9_takeThing_61 (fun r1 M2 => ?_)
      refine tj_istore_n (pc := 64) G (fun x3 => [(2, vI x3), (0, vR X t), (1, vI a1)]) dX9_takeThing_64 rfl (by decide) (fun _ => rfl) (fun x3 => ?_)
      refine tj_iload_n (pc := 65) G 0 dX9_takeThing_65 rfl rfl ?_
      refine tj_jn0 [(0, vR X t), (1, vI a1), (2, vI x3)] [] 78 (fun M4 => ?_) (fun jk78 hj78 => ?_)
      · refine tj_aload_n (pc := 78) G 0 dX9_takeThing_78 rfl rfl ?_
        refine tj_iload_n (pc := 79) G 2 dX9_takeThing_79 rfl rfl ?_
        refine tj_jn1 (fun y5 => [(0, vR X t), (2, vI x3)]) (fun y5 => [vI y5, vR X t]) 95 (fun y5 M6 => ?_) (fun jk95 hj95 => ?_)
        · refine tj_callVv (pc := 95) G [vI y5] mf_X9_emit (k := t) (tg_Turner_l0 ht) ht.2.1 rfl rfl ml_X9_83 (by decide) rfl rfl (Nat.le_of_ble_eq_true rfl) (fun _ h9 => ok_X9_emit X ht h9) dX9_takeThing_95 (fun r7 M8 => ?_)
          refine tj_aload_n (pc := 98) G 0 dX9_takeThing_98 rfl rfl ?_
          refine tj_iload_n (pc := 99) G 1 dX9_takeThing_99 rfl rfl ?_
          refine tj_if_eq (pc := 100) G (tgt := 107) (a2 := w32 x3) dX9_takeThing_100 (by decide) rfl ?_ ?_
          · refine tj_iconst (pc := 107) G dX9_takeThing_107 ?_
            refine tj_putI (pc := 108) G (k := t) (j := 7) (j2 := 7) tk_X9 (tg_Turner_l0 ht) ht.2.1 rfl (by decide) rfl fl_X9_41 rfl rfl dX9_takeThing_108 (fun M9 => ?_)
            refine tj_aload_n (pc := 111) G 0 dX9_takeThing_111 rfl rfl ?_
            refine tj_iconst (pc := 112) G dX9_takeThing_112 ?_
            refine tj_putZ (pc := 113) G (k := t) (j := 8) (j2 := 8) tk_X9 (tg_Turner_l0 ht) ht.2.1 rfl (by decide) rfl fl_X9_44 rfl rfl (by decide) dX9_takeThing_113 (fun M10 => ?_)
            refine tj_iconst (pc := 116) G dX9_takeThing_116 ?_
            exact tj_zret (pc := 117) G (by decide) dX9_takeThing_117
          refine tj_iconst (pc := 103) G dX9_takeThing_103 ?_
          refine tj_goto (pc := 104) G (tgt := 108) dX9_takeThing_104 (by decide) ?_
          refine tj_putI (pc := 108) G (k := t) (j := 7) (j2 := 7) tk_X9 (tg_Turner_l0 ht) ht.2.1 rfl (by decide) rfl fl_X9_41 rfl rfl dX9_takeThing_108 (fun M11 => ?_)
          refine tj_aload_n (pc := 111) G 0 dX9_takeThing_111 rfl rfl ?_
          refine tj_iconst (pc := 112) G dX9_takeThing_112 ?_
          refine tj_putZ (pc := 113) G (k := t) (j := 8) (j2 := 8) tk_X9 (tg_Turner_l0 ht) ht.2.1 rfl (by decide) rfl fl_X9_44 rfl rfl (by decide) dX9_takeThing_113 (fun M12 => ?_)
          refine tj_iconst (pc := 116) G dX9_takeThing_116 ?_
          exact tj_zret (pc := 117) G (by decide) dX9_takeThing_117
        refine tj_if_eq (pc := 80) G (tgt := 90) (a2 := w32 x3) dX9_takeThing_80 (by decide) rfl ?_ ?_
        · refine tj_sipush (pc := 90) G dX9_takeThing_90 rfl ?_
          refine tj_iload_n (pc := 93) G 1 dX9_takeThing_93 rfl rfl ?_
          refine tj_iadd (pc := 94) G dX9_takeThing_94 ?_
          exact tj_sub [0, 2] rfl (hj95 (1000 + a1) M4)
        refine tj_iload_n (pc := 83) G 1 dX9_takeThing_83 rfl rfl ?_
        refine tj_bipush (pc := 84) G dX9_takeThing_84 rfl ?_
        refine tj_isub (pc := 86) G dX9_takeThing_86 ?_
        refine tj_goto (pc := 87) G (tgt := 95) dX9_takeThing_87 (by decide) ?_
        exact tj_sub [0, 2] rfl (hj95 (a1 - 48) M4)
      refine tj_if_ne (pc := 66) G (tgt := 78) (a2 := w32 x3) dX9_takeThing_66 (by decide) rfl ?_ ?_
      · exact tj_sub [1, 2, 0] rfl (hj78  M2)
      refine tj_iload_n (pc := 69) G 2 dX9_takeThing_69 rfl rfl ?_
      refine tj_callSi (pc := 70) G [vI a1] mf_X9_isLetter ml_X9_80 (by decide) rfl rfl (Nat.le_of_ble_eq_true rfl) (fun _ h9 => ok_X9_isLetter X  h9) dX9_takeThing_70 (fun r13 M14 => ?_)
      refine tj_if_ne (pc := 73) G (tgt := 78) (a2 := w32 r13) dX9_takeThing_73 (by decide) rfl ?_ ?_
      · exact tj_sub [1, 2, 0] rfl (hj78  M14)
      refine tj_iconst (pc := 76) G dX9_takeThing_76 ?_
      exact tj_zret (pc := 77) G (by decide) dX9_takeThing_77
    refine tj_aload_n (pc := 21) G 0 dX9_takeThing_21 rfl rfl ?_
    refine tj_getI (pc := 22) G (k := t) (j := 6) (j2 := 6) tk_X9 (tg_Turner_l0 ht) ht.2.1 rfl (by decide) rfl fl_X9_38 dX9_takeThing_22 ?_
    refine tj_iconst (pc := 25) G dX9_takeThing_25 ?_
    refine tj_icmp_lt (pc := 26) G (tgt := 31) (a2 := w32 (M t 6)) (b2 := 4) dX9_takeThing_26 (by decide) rfl rfl ?_ ?_
    · refine tj_aload_n (pc := 31) G 0 dX9_takeThing_31 rfl rfl ?_
      refine tj_dup (pc := 32) G dX9_takeThing_32 rfl ?_
      refine tj_getI (pc := 33) G (k := t) (j := 6) (j2 := 6) tk_X9 (tg_Turner_l0 ht) ht.2.1 rfl (by decide) rfl fl_X9_38 dX9_takeThing_33 ?_
      refine tj_iconst (pc := 36) G dX9_takeThing_36 ?_
      refine tj_iadd (pc := 37) G dX9_takeThing_37 ?_
      refine tj_putI (pc := 38) G (k := t) (j := 6) (j2 := 6) tk_X9 (tg_Turner_l0 ht) ht.2.1 rfl (by decide) rfl fl_X9_38 rfl rfl dX9_takeThing_38 (fun M15 => ?_)
      refine tj_aload_n (pc := 41) G 0 dX9_takeThing_41 rfl rfl ?_
      refine tj_getR (pc := 42) G (k := t) (j := 3) (j2 := 3) tk_X9 (tg_Turner_l0 ht) ht.2.1 rfl (by decide) rfl fl_X9_21 dX9_takeThing_42 ?_
      refine tj_aload_n (pc := 45) G 0 dX9_takeThing_45 rfl rfl ?_
      refine tj_getI (pc := 46) G (k := t) (j := 6) (j2 := 6) tk_X9 (tg_Turner_l0 ht) ht.2.1 rfl (by decide) rfl fl_X9_38 dX9_takeThing_46 ?_
      refine tj_iconst (pc := 49) G dX9_takeThing_49 ?_
      refine tj_zast (pc := 50) G (k := (t + 4)) (i2 := w32 (M15 t 6)) (n2 := 5) (tg_Turner_l4 ht) ht.2.2.2.2.2 rfl rfl (by decide) dX9_takeThing_50 (fun M16 => ?_)
      refine tj_aload_n (pc := 51) G 0 dX9_takeThing_51 rfl rfl ?_
      refine tj_sipush (pc := 52) G dX9_takeThing_52 rfl ?_
      refine tj_callVv (pc := 55) G [vI 3001] mf_X9_hold (k := t) (tg_Turner_l0 ht) ht.2.1 rfl rfl ml_X9_74 (by decide) rfl rfl (Nat.le_of_ble_eq_true rfl) (fun _ h9 => ok_X9_hold X ht h9) dX9_takeThing_55 (fun r17 M18 => ?_)
      refine tj_iconst (pc := 58) G dX9_takeThing_58 ?_
      exact tj_zret (pc := 59) G (by decide) dX9_takeThing_59
    refine tj_iconst (pc := 29) G dX9_takeThing_29 ?_
    exact tj_zret (pc := 30) G (by decide) dX9_takeThing_30
  refine tj_aload_n (pc := 6) G 0 dX9_takeThing_6 rfl rfl ?_
  refine tj_sipush (pc := 7) G dX9_takeThing_7 rfl ?_
  refine tj_callVv (pc := 10) G [vI 3000] mf_X9_hold (k := t) (tg_Turner_l0 ht) ht.2.1 rfl rfl ml_X9_74 (by decide) rfl rfl (Nat.le_of_ble_eq_true rfl) (fun _ h9 => ok_X9_hold X ht h9) dX9_takeThing_10 (fun r19 M20 => ?_)
  refine tj_iconst (pc := 13) G dX9_takeThing_13 ?_
  exact tj_zret (pc := 14) G (by decide) dX9_takeThing_14

def fx_X9_read_L44 (t : Nat) (c2 : Int) (K94 : tp_M → tp_O) (rec : Int → tp_M → tp_O) (z11 : Int) (M12 : tp_M) : tp_O :=
(if w32 z11 < w32 c2 then
(tp_jn1 (fun y13 M14 => 
(tp_lt y13 (fun x15 =>
(if w32 x15 = 0 then
(some ((-1) - z11, M14))
else
(tp_lt (z11 + 1) (fun x16 =>
(rec x16 M14))))))) (fun jk77 =>
(if w32 (M12 t 8) = 0 then
(tp_bd (fx_X7_at z11 M12) (fun r17 M18 =>
(tp_bd (fx_X9_takeNext t r17 M18) (fun r19 M20 =>
(jk77 r19 M20)))))
else
(tp_bd (fx_X7_at z11 M12) (fun r21 M22 =>
(tp_bd (fx_X9_takeThing t r21 M22) (fun r23 M24 =>
(jk77 r23 M24))))))))
else
(K94 M12))
def fx_X9_read  (t : Nat) (M : tp_M) : tp_O :=
(tp_lm (tp_up M t 4 0) (fun M1 =>
(tp_lm (tp_up M1 t 5 0) (fun M2 =>
(tp_lm (tp_up M2 t 6 0) (fun M3 =>
(tp_lm (tp_up M3 t 7 0) (fun M4 =>
(tp_lm (tp_up M4 t 8 1) (fun M5 =>
(tp_lm (tp_up M5 (t + 4) 0 0) (fun M6 =>
(tp_bd (fx_X7_size  M6) (fun r7 M8 =>
(tp_lt (min (w32 r7) 40) (fun x9 =>
(tp_lt 0 (fun x10 =>
(tp_lp1 (fx_X9_read_L44 t x9 (fun M25 =>
(tp_bd (fx_X7_size  M25) (fun r26 M27 =>
(if w32 r26 ≤ 40 then
(tp_bd (fx_X7_size  M27) (fun r28 M29 =>
(tp_jn0 (fun M30 => 
(tp_bd (fx_X9_emitWaiting t 1 M30) (fun r31 M32 =>
(some (0, M32))))) (fun jk134 =>
(if w32 r28 ≤ 0 then
(jk134 M29)
else
(tp_jn0 (fun M33 => 
(tp_bd (fx_X7_size  M33) (fun r34 M35 =>
(some ((-1) - r34, M35))))) (fun jk127 =>
(if w32 (M29 t 8) = 0 then
(if w32 (M29 t 6) ≤ 0 then
(jk134 M29)
else
(jk127 M29))
else
(jk127 M29)))))))))
else
(some ((-41), M27))))))) tp_F x10 M8)))))))))))))))))))
set_option maxRecDepth 100000 in
set_option maxHeartbeats 4000000 in
theorem fx_X9_read_L44_ok {X : tp_X} {Y : tp_Y} (G : tp_Ok X Y 64 cX9_read 5 RX9 (some .int))  {t : Nat} {c2 : Int} {K94 : tp_M → tp_O} (ht : tg_Turner LC 64 t)  (hK94 : ∀ (M9 : tp_M), tp_J X Y LC 64 5 4 1 (K94  M9) M9 [(0, vR X t), (1, vR X 1)] [] 94) (n : Nat) : ∀ (z11 : Int) (M12 : tp_M), tp_J X Y LC 64 5 4 1 (tp_lp1 (fx_X9_read_L44 t c2 K94) n z11 M12) M12 [(0, vR X t), (1, vR X 1), (2, vI c2), (3, vI z11)] [] 44 := by
  refine tp_lp1_ok (P := fun o z11 M12 => tp_J X Y LC 64 5 4 1 (o) M12 [(0, vR X t), (1, vR X 1), (2, vI c2), (3, vI z11)] [] 44) (fun z11 M12 => tj_none) (fun rec hrec z11 M12 => ?_) n
  unfold fx_X9_read_L44
  refine tj_iload_n (pc := 44) G 3 dX9_read_44 rfl rfl ?_
  refine tj_iload_n (pc := 45) G 2 dX9_read_45 rfl rfl ?_
  refine tj_icmp_ge (pc := 46) G (tgt := 94) (a2 := w32 z11) (b2 := w32 c2) dX9_read_46 (by decide) rfl rfl ?_ ?_
  · exact tj_sub [0, 1] rfl (hK94  M12)
  refine tj_aload_n (pc := 49) G 0 dX9_read_49 rfl rfl ?_
  refine tj_getI (pc := 50) G (k := t) (j := 8) (j2 := 8) tk_X9 (tg_Turner_l0 ht) ht.2.1 rfl (by decide) rfl fl_X9_44 dX9_read_50 ?_
  refine tj_jn1 (fun y13 => [(0, vR X t), (1, vR X 1), (2, vI c2), (3, vI z11)]) (fun y13 => [vI y13]) 77 (fun y13 M14 => ?_) (fun jk77 hj77 => ?_)
  · refine tj_istore (pc := 77) G (fun x15 => [(4, vI x15), (0, vR X t), (1, vR X 1), (2, vI c2), (3, vI z11)]) dX9_read_77 (by decide) (fun _ => rfl) (fun x15 => ?_)
    refine tj_iload (pc := 79) G 0 dX9_read_79 rfl ?_
    refine tj_if_ne (pc := 81) G (tgt := 88) (a2 := w32 x15) dX9_read_81 (by decide) rfl ?_ ?_
    · refine tj_iinc (pc := 88) G 4 (fun x16 => [(3, vI x16), (4, vI x15), (0, vR X t), (1, vR X 1), (2, vI c2)]) dX9_read_88 rfl (by decide) (fun _ => rfl) (fun x16 => ?_)
      refine tj_goto (pc := 91) G (tgt := 44) dX9_read_91 (by decide) ?_
      exact tj_sub [2, 3, 4, 0] rfl (hrec x16 M14)
    refine tj_iconst (pc := 84) G dX9_read_84 ?_
    refine tj_iload_n (pc := 85) G 4 dX9_read_85 rfl rfl ?_
    refine tj_isub (pc := 86) G dX9_read_86 ?_
    exact tj_iret (pc := 87) G dX9_read_87
  refine tj_if_eq (pc := 53) G (tgt := 68) (a2 := w32 (M12 t 8)) dX9_read_53 (by decide) rfl ?_ ?_
  · refine tj_aload_n (pc := 68) G 0 dX9_read_68 rfl rfl ?_
    refine tj_aload_n (pc := 69) G 1 dX9_read_69 rfl rfl ?_
    refine tj_iload_n (pc := 70) G 3 dX9_read_70 rfl rfl ?_
    refine tj_callVi (pc := 71) G [vI z11] mf_X7_at (k := 1) (by decide) lc_1 rfl rfl ml_X9_59 (by decide) rfl rfl (Nat.le_of_ble_eq_true rfl) (fun _ h9 => ok_X7_at X  h9) dX9_read_71 (fun r17 M18 => ?_)
    refine tj_callVi (pc := 74) G [vI r17] mf_X9_takeNext (k := t) (tg_Turner_l0 ht) ht.2.1 rfl rfl ml_X9_67 (by decide) rfl rfl (Nat.le_of_ble_eq_true rfl) (fun _ h9 => ok_X9_takeNext X ht h9) dX9_read_74 (fun r19 M20 => ?_)
    exact tj_sub [0, 1, 2, 3] rfl (hj77 r19 M20)
  refine tj_aload_n (pc := 56) G 0 dX9_read_56 rfl rfl ?_
  refine tj_aload_n (pc := 57) G 1 dX9_read_57 rfl rfl ?_
  refine tj_iload_n (pc := 58) G 3 dX9_read_58 rfl rfl ?_
  refine tj_callVi (pc := 59) G [vI z11] mf_X7_at (k := 1) (by decide) lc_1 rfl rfl ml_X9_59 (by decide) rfl rfl (Nat.le_of_ble_eq_true rfl) (fun _ h9 => ok_X7_at X  h9) dX9_read_59 (fun r21 M22 => ?_)
  refine tj_callVi (pc := 62) G [vI r21] mf_X9_takeThing (k := t) (tg_Turner_l0 ht) ht.2.1 rfl rfl ml_X9_63 (by decide) rfl rfl (Nat.le_of_ble_eq_true rfl) (fun _ h9 => ok_X9_takeThing X ht h9) dX9_read_62 (fun r23 M24 => ?_)
  refine tj_goto (pc := 65) G (tgt := 77) dX9_read_65 (by decide) ?_
  exact tj_sub [0, 1, 2, 3] rfl (hj77 r23 M24)
set_option maxRecDepth 100000 in
set_option maxHeartbeats 4000000 in
theorem ok_X9_read (X : tp_X)  {t : Nat} (ht : tg_Turner LC 64 t) {M : tp_M} {res : Int × tp_M} (h : fx_X9_read  t M = some res) : tp_Ret X LC 64 1 yX9_read (Cond.code yX9_read cX9_read 5 (some .int)) 4 [vR X t, vR X 1] M res := by
  refine tp_ofW (by decide +kernel) rfl rfl (by show _ ≤ 5; exact Nat.le_of_ble_eq_true rfl) h (fun Y G => ?_)
  show tp_J X Y LC 64 5 4 1 (fx_X9_read  t M) M [(0, vR X t), (1, vR X 1)] [] 0
  unfold fx_X9_read
  refine tj_aload_n (pc := 0) G 0 dX9_read_0 rfl rfl ?_
  refine tj_iconst (pc := 1) G dX9_read_1 ?_
  refine tj_putI (pc := 2) G (k := t) (j := 4) (j2 := 4) tk_X9 (tg_Turner_l0 ht) ht.2.1 rfl (by decide) rfl fl_X9_25 rfl rfl dX9_read_2 (fun M1 => ?_)
  refine tj_aload_n (pc := 5) G 0 dX9_read_5 rfl rfl ?_
  refine tj_iconst (pc := 6) G dX9_read_6 ?_
  refine tj_putI (pc := 7) G (k := t) (j := 5) (j2 := 5) tk_X9 (tg_Turner_l0 ht) ht.2.1 rfl (by decide) rfl fl_X9_35 rfl rfl dX9_read_7 (fun M2 => ?_)
  refine tj_aload_n (pc := 10) G 0 dX9_read_10 rfl rfl ?_
  refine tj_iconst (pc := 11) G dX9_read_11 ?_
  refine tj_putI (pc := 12) G (k := t) (j := 6) (j2 := 6) tk_X9 (tg_Turner_l0 ht) ht.2.1 rfl (by decide) rfl fl_X9_38 rfl rfl dX9_read_12 (fun M3 => ?_)
  refine tj_aload_n (pc := 15) G 0 dX9_read_15 rfl rfl ?_
  refine tj_iconst (pc := 16) G dX9_read_16 ?_
  refine tj_putI (pc := 17) G (k := t) (j := 7) (j2 := 7) tk_X9 (tg_Turner_l0 ht) ht.2.1 rfl (by decide) rfl fl_X9_41 rfl rfl dX9_read_17 (fun M4 => ?_)
  refine tj_aload_n (pc := 20) G 0 dX9_read_20 rfl rfl ?_
  refine tj_iconst (pc := 21) G dX9_read_21 ?_
  refine tj_putZ (pc := 22) G (k := t) (j := 8) (j2 := 8) tk_X9 (tg_Turner_l0 ht) ht.2.1 rfl (by decide) rfl fl_X9_44 rfl rfl (by decide) dX9_read_22 (fun M5 => ?_)
  refine tj_aload_n (pc := 25) G 0 dX9_read_25 rfl rfl ?_
  refine tj_getR (pc := 26) G (k := t) (j := 3) (j2 := 3) tk_X9 (tg_Turner_l0 ht) ht.2.1 rfl (by decide) rfl fl_X9_21 dX9_read_26 ?_
  refine tj_iconst (pc := 29) G dX9_read_29 ?_
  refine tj_iconst (pc := 30) G dX9_read_30 ?_
  refine tj_zast1 (pc := 31) G (k := (t + 4)) (i2 := 0) (n2 := 0) (tg_Turner_l4 ht) ht.2.2.2.2.2 rfl (by decide) (by decide) dX9_read_31 (fun M6 => ?_)
  refine tj_aload_n (pc := 32) G 1 dX9_read_32 rfl rfl ?_
  refine tj_callVi (pc := 33) G [] mf_X7_size (k := 1) (by decide) lc_1 rfl rfl ml_X9_48 (by decide) rfl rfl (Nat.le_of_ble_eq_true rfl) (fun _ h9 => ok_X7_size X  h9) dX9_read_33 (fun r7 M8 => ?_)
  refine tj_bipush (pc := 36) G dX9_read_36 rfl ?_
  refine tj_min (pc := 38) G (a2 := w32 r7) (b2 := 40) rfl rfl ml_X9_53 mw_min (by decide) (Nat.le_of_ble_eq_true rfl) dX9_read_38 ?_
  refine tj_istore_n (pc := 41) G (fun x9 => [(2, vI x9), (0, vR X t), (1, vR X 1)]) dX9_read_41 rfl (by decide) (fun _ => rfl) (fun x9 => ?_)
  refine tj_iconst (pc := 42) G dX9_read_42 ?_
  refine tj_istore_n (pc := 43) G (fun x10 => [(3, vI x10), (2, vI x9), (0, vR X t), (1, vR X 1)]) dX9_read_43 rfl (by decide) (fun _ => rfl) (fun x10 => ?_)
  refine tj_sub [2, 3, 1, 0] rfl (fx_X9_read_L44_ok G  ht  (fun M25 => ?_) tp_F x10 M8)
  refine tj_aload_n (pc := 94) G 1 dX9_read_94 rfl rfl ?_
  refine tj_callVi (pc := 95) G [] mf_X7_size (k := 1) (by decide) lc_1 rfl rfl ml_X9_48 (by decide) rfl rfl (Nat.le_of_ble_eq_true rfl) (fun _ h9 => ok_X7_size X  h9) dX9_read_95 (fun r26 M27 => ?_)
  refine tj_bipush (pc := 98) G dX9_read_98 rfl ?_
  refine tj_icmp_le (pc := 100) G (tgt := 106) (a2 := w32 r26) (b2 := 40) dX9_read_100 (by decide) rfl rfl ?_ ?_
  · refine tj_aload_n (pc := 106) G 1 dX9_read_106 rfl rfl ?_
    refine tj_callVi (pc := 107) G [] mf_X7_size (k := 1) (by decide) lc_1 rfl rfl ml_X9_48 (by decide) rfl rfl (Nat.le_of_ble_eq_true rfl) (fun _ h9 => ok_X7_size X  h9) dX9_read_107 (fun r28 M29 => ?_)
    refine tj_jn0 [(0, vR X t)] [] 134 (fun M30 => ?_) (fun jk134 hj134 => ?_)
    · refine tj_aload_n (pc := 134) G 0 dX9_read_134 rfl rfl ?_
      refine tj_iconst (pc := 135) G dX9_read_135 ?_
      refine tj_callVv (pc := 136) G [vI 1] mf_X9_emitWaiting (k := t) (tg_Turner_l0 ht) ht.2.1 rfl rfl ml_X9_70 (by decide) rfl rfl (Nat.le_of_ble_eq_true rfl) (fun _ h9 => ok_X9_emitWaiting X ht h9) dX9_read_136 (fun r31 M32 => ?_)
      refine tj_iconst (pc := 139) G dX9_read_139 ?_
      exact tj_iret (pc := 140) G dX9_read_140
    refine tj_if_le (pc := 110) G (tgt := 134) (a2 := w32 r28) dX9_read_110 (by decide) rfl ?_ ?_
    · exact tj_sub [0] rfl (hj134  M29)
    refine tj_aload_n (pc := 113) G 0 dX9_read_113 rfl rfl ?_
    refine tj_getI (pc := 114) G (k := t) (j := 8) (j2 := 8) tk_X9 (tg_Turner_l0 ht) ht.2.1 rfl (by decide) rfl fl_X9_44 dX9_read_114 ?_
    refine tj_jn0 [(1, vR X 1)] [] 127 (fun M33 => ?_) (fun jk127 hj127 => ?_)
    · refine tj_iconst (pc := 127) G dX9_read_127 ?_
      refine tj_aload_n (pc := 128) G 0 dX9_read_128 rfl rfl ?_
      refine tj_callVi (pc := 129) G [] mf_X7_size (k := 1) (by decide) lc_1 rfl rfl ml_X9_48 (by decide) rfl rfl (Nat.le_of_ble_eq_true rfl) (fun _ h9 => ok_X7_size X  h9) dX9_read_129 (fun r34 M35 => ?_)
      refine tj_isub (pc := 132) G dX9_read_132 ?_
      exact tj_iret (pc := 133) G dX9_read_133
    refine tj_if_ne (pc := 117) G (tgt := 127) (a2 := w32 (M29 t 8)) dX9_read_117 (by decide) rfl ?_ ?_
    · exact tj_sub [1] rfl (hj127  M29)
    refine tj_aload_n (pc := 120) G 0 dX9_read_120 rfl rfl ?_
    refine tj_getI (pc := 121) G (k := t) (j := 6) (j2 := 6) tk_X9 (tg_Turner_l0 ht) ht.2.1 rfl (by decide) rfl fl_X9_38 dX9_read_121 ?_
    refine tj_if_le (pc := 124) G (tgt := 134) (a2 := w32 (M29 t 6)) dX9_read_124 (by decide) rfl ?_ ?_
    · exact tj_sub [0] rfl (hj134  M29)
    exact tj_sub [1] rfl (hj127  M29)
  refine tj_bipush (pc := 103) G dX9_read_103 rfl ?_
  exact tj_iret (pc := 105) G dX9_read_105

def fx_X9_joined  (a1 : Int) (a2 : Int) (a3 : Int) (M : tp_M) : tp_O :=
(if w32 a1 = 42 then
(some (a2 * a3, M))
else
(if w32 a1 = 43 then
(some (a2 + a3, M))
else
(if w32 a1 = 45 then
(some (a2 - a3, M))
else
(if w32 a1 = 60 then
(if w32 a2 < w32 a3 then
(some (1, M))
else
(some (0, M)))
else
(if w32 a1 = 61 then
(if w32 a2 = w32 a3 then
(some (1, M))
else
(some (0, M)))
else
(if w32 a1 = 62 then
(if w32 a2 ≤ w32 a3 then
(some (0, M))
else
(some (1, M)))
else
(if w32 a3 = 0 then
(some (0, M))
else
(tp_nz (w32 a3) (some (x_div a2 a3, M))))))))))
set_option maxRecDepth 100000 in
set_option maxHeartbeats 4000000 in
theorem ok_X9_joined (X : tp_X)  {a1 : Int} {a2 : Int} {a3 : Int}  {M : tp_M} {res : Int × tp_M} (h : fx_X9_joined  a1 a2 a3 M = some res) : tp_Ret X LC 64 1 yX9_joined (Cond.code yX9_joined cX9_joined 3 (some .int)) 1 [vI a1, vI a2, vI a3] M res := by
  refine tp_ofW (by decide +kernel) rfl rfl (by show _ ≤ 3; exact Nat.le_of_ble_eq_true rfl) h (fun Y G => ?_)
  show tp_J X Y LC 64 3 1 1 (fx_X9_joined  a1 a2 a3 M) M [(0, vI a1), (1, vI a2), (2, vI a3)] [] 0
  unfold fx_X9_joined
  refine tj_iload_n (pc := 0) G 0 dX9_joined_0 rfl rfl ?_
  refine tj_case (fun hq1 => ?_) (fun hq2 => ?_)
  · refine tj_look (pc := 1) G (tgt := 101) dX9_joined_1 (by decide) (by rw [hq1] <;> rfl) (by decide) ?_
    refine tj_iload_n (pc := 101) G 1 dX9_joined_101 rfl rfl ?_
    refine tj_iload_n (pc := 102) G 2 dX9_joined_102 rfl rfl ?_
    refine tj_imul (pc := 103) G dX9_joined_103 ?_
    exact tj_iret (pc := 104) G dX9_joined_104
  refine tj_case (fun hq3 => ?_) (fun hq4 => ?_)
  · refine tj_look (pc := 1) G (tgt := 93) dX9_joined_1 (by decide) (by rw [hq3] <;> rfl) (by decide) ?_
    refine tj_iload_n (pc := 93) G 1 dX9_joined_93 rfl rfl ?_
    refine tj_iload_n (pc := 94) G 2 dX9_joined_94 rfl rfl ?_
    refine tj_iadd (pc := 95) G dX9_joined_95 ?_
    exact tj_iret (pc := 96) G dX9_joined_96
  refine tj_case (fun hq5 => ?_) (fun hq6 => ?_)
  · refine tj_look (pc := 1) G (tgt := 97) dX9_joined_1 (by decide) (by rw [hq5] <;> rfl) (by decide) ?_
    refine tj_iload_n (pc := 97) G 1 dX9_joined_97 rfl rfl ?_
    refine tj_iload_n (pc := 98) G 2 dX9_joined_98 rfl rfl ?_
    refine tj_isub (pc := 99) G dX9_joined_99 ?_
    exact tj_iret (pc := 100) G dX9_joined_100
  refine tj_case (fun hq7 => ?_) (fun hq8 => ?_)
  · refine tj_look (pc := 1) G (tgt := 60) dX9_joined_1 (by decide) (by rw [hq7] <;> rfl) (by decide) ?_
    refine tj_iload_n (pc := 60) G 1 dX9_joined_60 rfl rfl ?_
    refine tj_iload_n (pc := 61) G 2 dX9_joined_61 rfl rfl ?_
    refine tj_icmp_ge (pc := 62) G (tgt := 69) (a2 := w32 a2) (b2 := w32 a3) dX9_joined_62 (by decide) rfl rfl ?_ ?_
    · refine tj_iconst (pc := 69) G dX9_joined_69 ?_
      exact tj_iret (pc := 70) G dX9_joined_70
    refine tj_iconst (pc := 65) G dX9_joined_65 ?_
    refine tj_goto (pc := 66) G (tgt := 70) dX9_joined_66 (by decide) ?_
    exact tj_iret (pc := 70) G dX9_joined_70
  refine tj_case (fun hq9 => ?_) (fun hq10 => ?_)
  · refine tj_look (pc := 1) G (tgt := 82) dX9_joined_1 (by decide) (by rw [hq9] <;> rfl) (by decide) ?_
    refine tj_iload_n (pc := 82) G 1 dX9_joined_82 rfl rfl ?_
    refine tj_iload_n (pc := 83) G 2 dX9_joined_83 rfl rfl ?_
    refine tj_icmp_ne (pc := 84) G (tgt := 91) (a2 := w32 a2) (b2 := w32 a3) dX9_joined_84 (by decide) rfl rfl ?_ ?_
    · refine tj_iconst (pc := 91) G dX9_joined_91 ?_
      exact tj_iret (pc := 92) G dX9_joined_92
    refine tj_iconst (pc := 87) G dX9_joined_87 ?_
    refine tj_goto (pc := 88) G (tgt := 92) dX9_joined_88 (by decide) ?_
    exact tj_iret (pc := 92) G dX9_joined_92
  refine tj_case (fun hq11 => ?_) (fun hq12 => ?_)
  · refine tj_look (pc := 1) G (tgt := 71) dX9_joined_1 (by decide) (by rw [hq11] <;> rfl) (by decide) ?_
    refine tj_iload_n (pc := 71) G 1 dX9_joined_71 rfl rfl ?_
    refine tj_iload_n (pc := 72) G 2 dX9_joined_72 rfl rfl ?_
    refine tj_icmp_le (pc := 73) G (tgt := 80) (a2 := w32 a2) (b2 := w32 a3) dX9_joined_73 (by decide) rfl rfl ?_ ?_
    · refine tj_iconst (pc := 80) G dX9_joined_80 ?_
      exact tj_iret (pc := 81) G dX9_joined_81
    refine tj_iconst (pc := 76) G dX9_joined_76 ?_
    refine tj_goto (pc := 77) G (tgt := 81) dX9_joined_77 (by decide) ?_
    exact tj_iret (pc := 81) G dX9_joined_81
  refine tj_look (pc := 1) G (off := 104) (tgt := 105) dX9_joined_1 (by decide) (by simp only [Op.lookupswitch.offset]; (repeat rw [if_neg (by omega)])) (by decide) ?_
  refine tj_iload_n (pc := 105) G 2 dX9_joined_105 rfl rfl ?_
  refine tj_if_ne (pc := 106) G (tgt := 113) (a2 := w32 a3) dX9_joined_106 (by decide) rfl ?_ ?_
  · refine tj_iload_n (pc := 113) G 1 dX9_joined_113 rfl rfl ?_
    refine tj_iload_n (pc := 114) G 2 dX9_joined_114 rfl rfl ?_
    refine tj_idiv (pc := 115) G (b2 := w32 a3) dX9_joined_115 rfl ?_
    exact tj_iret (pc := 116) G dX9_joined_116
  refine tj_iconst (pc := 109) G dX9_joined_109 ?_
  refine tj_goto (pc := 110) G (tgt := 116) dX9_joined_110 (by decide) ?_
  exact tj_iret (pc := 116) G dX9_joined_116

def fx_X9_letterValue  (a1 : Int) (k2 : Nat) (a3 : Int) (a4 : Int) (a5 : Int) (M : tp_M) : tp_O :=
(if w32 a3 < 1 then
(some (0, M))
else
(if w32 a3 < 8 then
(if w32 a1 = 99 then
(tp_ck (w32 a3) 8 (some (M (k2 + 2) (w32 a3), M)))
else
(if w32 a1 = 100 then
(some (a4, M))
else
(if w32 a1 = 104 then
(tp_nz 7 (some (x_rem (M k2 2) 7, M)))
else
(if w32 a1 = 105 then
(some (a3, M))
else
(if w32 a1 = 107 then
(tp_ck (w32 a3) 8 (some (M (k2 + 1) (w32 a3), M)))
else
(if w32 a1 = 119 then
(some (a5, M))
else
(tp_nz 7 (some (x_rem (M k2 3) 7, M)))))))))
else
(some (0, M))))
set_option maxRecDepth 100000 in
set_option maxHeartbeats 4000000 in
theorem ok_X9_letterValue (X : tp_X)  {a1 : Int} {k2 : Nat} {a3 : Int} {a4 : Int} {a5 : Int} (hk2 : tg_Moor LC 64 k2) {M : tp_M} {res : Int × tp_M} (h : fx_X9_letterValue  a1 k2 a3 a4 a5 M = some res) : tp_Ret X LC 64 1 yX9_letterValue (Cond.code yX9_letterValue cX9_letterValue 5 (some .int)) 1 [vI a1, vR X k2, vI a3, vI a4, vI a5] M res := by
  refine tp_ofW (by decide +kernel) rfl rfl (by show _ ≤ 5; exact Nat.le_of_ble_eq_true rfl) h (fun Y G => ?_)
  show tp_J X Y LC 64 5 1 1 (fx_X9_letterValue  a1 k2 a3 a4 a5 M) M [(0, vI a1), (1, vR X k2), (2, vI a3), (3, vI a4), (4, vI a5)] [] 0
  unfold fx_X9_letterValue
  refine tj_iload_n (pc := 0) G 2 dX9_letterValue_0 rfl rfl ?_
  refine tj_iconst (pc := 1) G dX9_letterValue_1 ?_
  refine tj_icmp_lt (pc := 2) G (tgt := 11) (a2 := w32 a3) (b2 := 1) dX9_letterValue_2 (by decide) rfl rfl ?_ ?_
  · refine tj_iconst (pc := 11) G dX9_letterValue_11 ?_
    exact tj_iret (pc := 12) G dX9_letterValue_12
  refine tj_iload_n (pc := 5) G 2 dX9_letterValue_5 rfl rfl ?_
  refine tj_bipush (pc := 6) G dX9_letterValue_6 rfl ?_
  refine tj_icmp_lt (pc := 8) G (tgt := 13) (a2 := w32 a3) (b2 := 8) dX9_letterValue_8 (by decide) rfl rfl ?_ ?_
  · refine tj_iload_n (pc := 13) G 0 dX9_letterValue_13 rfl rfl ?_
    refine tj_case (fun hq1 => ?_) (fun hq2 => ?_)
    · refine tj_look (pc := 14) G (tgt := 84) dX9_letterValue_14 (by decide) (by rw [hq1] <;> rfl) (by decide) ?_
      refine tj_aload_n (pc := 84) G 1 dX9_letterValue_84 rfl rfl ?_
      refine tj_getRN (pc := 85) G (k := k2) (j := 1) (j2 := 1) tk_X2 (tg_Moor_l0 hk2) hk2.2.1 rfl (by decide) rfl fn_X9_108 dX9_letterValue_85 ?_
      refine tj_iload_n (pc := 88) G 2 dX9_letterValue_88 rfl rfl ?_
      refine tj_iald (pc := 89) G (k := (k2 + 2)) (i2 := w32 a3) (n2 := 8) (tg_Moor_l2 hk2) hk2.2.2.2 rfl rfl dX9_letterValue_89 ?_
      exact tj_iret (pc := 90) G dX9_letterValue_90
    refine tj_case (fun hq3 => ?_) (fun hq4 => ?_)
    · refine tj_look (pc := 14) G (tgt := 72) dX9_letterValue_14 (by decide) (by rw [hq3] <;> rfl) (by decide) ?_
      refine tj_iload_n (pc := 72) G 3 dX9_letterValue_72 rfl rfl ?_
      exact tj_iret (pc := 73) G dX9_letterValue_73
    refine tj_case (fun hq5 => ?_) (fun hq6 => ?_)
    · refine tj_look (pc := 14) G (tgt := 93) dX9_letterValue_14 (by decide) (by rw [hq5] <;> rfl) (by decide) ?_
      refine tj_aload_n (pc := 93) G 1 dX9_letterValue_93 rfl rfl ?_
      refine tj_getIN (pc := 94) G (k := k2) (j := 2) (j2 := 2) tk_X2 (tg_Moor_l0 hk2) hk2.2.1 rfl (by decide) rfl fn_X9_111 dX9_letterValue_94 ?_
      refine tj_bipush (pc := 97) G dX9_letterValue_97 rfl ?_
      refine tj_irem (pc := 99) G (b2 := 7) dX9_letterValue_99 rfl ?_
      exact tj_iret (pc := 100) G dX9_letterValue_100
    refine tj_case (fun hq7 => ?_) (fun hq8 => ?_)
    · refine tj_look (pc := 14) G (tgt := 91) dX9_letterValue_14 (by decide) (by rw [hq7] <;> rfl) (by decide) ?_
      refine tj_iload_n (pc := 91) G 2 dX9_letterValue_91 rfl rfl ?_
      exact tj_iret (pc := 92) G dX9_letterValue_92
    refine tj_case (fun hq9 => ?_) (fun hq10 => ?_)
    · refine tj_look (pc := 14) G (tgt := 74) dX9_letterValue_14 (by decide) (by rw [hq9] <;> rfl) (by decide) ?_
      refine tj_aload_n (pc := 74) G 1 dX9_letterValue_74 rfl rfl ?_
      refine tj_getRN (pc := 75) G (k := k2) (j := 0) (j2 := 0) tk_X2 (tg_Moor_l0 hk2) hk2.2.1 rfl (by decide) rfl fn_X9_103 dX9_letterValue_75 ?_
      refine tj_iload_n (pc := 78) G 2 dX9_letterValue_78 rfl rfl ?_
      refine tj_iald (pc := 79) G (k := (k2 + 1)) (i2 := w32 a3) (n2 := 8) (tg_Moor_l1 hk2) hk2.2.2.1 rfl rfl dX9_letterValue_79 ?_
      exact tj_iret (pc := 80) G dX9_letterValue_80
    refine tj_case (fun hq11 => ?_) (fun hq12 => ?_)
    · refine tj_look (pc := 14) G (tgt := 81) dX9_letterValue_14 (by decide) (by rw [hq11] <;> rfl) (by decide) ?_
      refine tj_iload (pc := 81) G 4 dX9_letterValue_81 rfl ?_
      exact tj_iret (pc := 83) G dX9_letterValue_83
    refine tj_look (pc := 14) G (off := 87) (tgt := 101) dX9_letterValue_14 (by decide) (by simp only [Op.lookupswitch.offset]; (repeat rw [if_neg (by omega)])) (by decide) ?_
    refine tj_aload_n (pc := 101) G 1 dX9_letterValue_101 rfl rfl ?_
    refine tj_getIN (pc := 102) G (k := k2) (j := 3) (j2 := 3) tk_X2 (tg_Moor_l0 hk2) hk2.2.1 rfl (by decide) rfl fn_X9_114 dX9_letterValue_102 ?_
    refine tj_bipush (pc := 105) G dX9_letterValue_105 rfl ?_
    refine tj_irem (pc := 107) G (b2 := 7) dX9_letterValue_107 rfl ?_
    exact tj_iret (pc := 108) G dX9_letterValue_108
  refine tj_iconst (pc := 11) G dX9_letterValue_11 ?_
  exact tj_iret (pc := 12) G dX9_letterValue_12

def fx_X9_turn_L15 (t : Nat) (k1 : Nat) (c2 : Int) (c3 : Int) (c4 : Int) (K175 : tp_M → tp_O) (rec : Int → Int → tp_M → tp_O) (z3 z4 : Int) (M5 : tp_M) : tp_O :=
(if w32 z4 < w32 (M5 t 4) then
(tp_ck (w32 z4) 40 (tp_lt (M5 (t + 1) (w32 z4)) (fun x6 =>
(tp_jn1 (fun y7 M8 => 
(tp_lt (z4 + 1) (fun x9 =>
(rec y7 x9 M8)))) (fun jk169 =>
(if w32 x6 < 2000 then
(if w32 z3 < 40 then
(tp_jn1 (fun y15 M16 => 
(tp_ck (w32 z3) 40 (tp_lm (tp_up M16 (t + 3) (w32 z3) y15) (fun M17 =>
(tp_lt (z3 + 1) (fun x18 =>
(jk169 x18 M17))))))) (fun jk84 =>
(if w32 x6 < 1000 then
(jk84 x6 M5)
else
(tp_bd (fx_X9_letterValue (x6 - 1000) k1 c2 c3 c4 M5) (fun r19 M20 =>
(jk84 r19 M20))))))
else
(jk169 z3 M5))
else
(if w32 x6 = 3000 then
(if w32 z3 ≤ 0 then
(jk169 z3 M5)
else
(tp_ck (w32 (z3 - 1)) 40 (tp_ck (w32 (z3 - 1)) 40 (tp_lm (tp_up M5 (t + 3) (w32 (z3 - 1)) (-(M5 (t + 3) (w32 (z3 - 1))))) (fun M14 =>
(jk169 z3 M14))))))
else
(if w32 z3 ≤ 1 then
(jk169 z3 M5)
else
(tp_lt (z3 + (-1)) (fun x10 =>
(tp_ck (w32 (x10 - 1)) 40 (tp_ck (w32 x10) 40 (tp_bd (fx_X9_joined (x6 - 2000) (M5 (t + 3) (w32 (x10 - 1))) (M5 (t + 3) (w32 x10)) M5) (fun r11 M12 =>
(tp_ck (w32 (x10 - 1)) 40 (tp_lm (tp_up M12 (t + 3) (w32 (x10 - 1)) r11) (fun M13 =>
(jk169 x10 M13))))))))))))))))))
else
(K175 M5))
def fx_X9_turn  (t : Nat) (k1 : Nat) (a2 : Int) (a3 : Int) (a4 : Int) (M : tp_M) : tp_O :=
(if w32 (M t 4) = 0 then
(some (1, M))
else
(tp_lt 0 (fun x1 =>
(tp_lt 0 (fun x2 =>
(tp_lp2 (fx_X9_turn_L15 t k1 a2 a3 a4 (fun M21 =>
(some (max 0 (w32 (min 9 (w32 (M21 (t + 3) 0)))), M21)))) tp_F x1 x2 M))))))
set_option maxRecDepth 100000 in
set_option maxHeartbeats 4000000 in
theorem fx_X9_turn_L15_ok {X : tp_X} {Y : tp_Y} (G : tp_Ok X Y 64 cX9_turn 8 RX9 (some .int))  {t : Nat} {k1 : Nat} {c2 : Int} {c3 : Int} {c4 : Int} {K175 : tp_M → tp_O} (ht : tg_Turner LC 64 t) (hk1 : tg_Moor LC 64 k1)  (hK175 : ∀ (M9 : tp_M), tp_J X Y LC 64 8 2 1 (K175  M9) M9 [(0, vR X t)] [] 175) (n : Nat) : ∀ (z3 z4 : Int) (M5 : tp_M), tp_J X Y LC 64 8 2 1 (tp_lp2 (fx_X9_turn_L15 t k1 c2 c3 c4 K175) n z3 z4 M5) M5 [(0, vR X t), (1, vR X k1), (2, vI c2), (3, vI c3), (4, vI c4), (5, vI z3), (6, vI z4)] [] 15 := by
  refine tp_lp2_ok (P := fun o z3 z4 M5 => tp_J X Y LC 64 8 2 1 (o) M5 [(0, vR X t), (1, vR X k1), (2, vI c2), (3, vI c3), (4, vI c4), (5, vI z3), (6, vI z4)] [] 15) (fun z3 z4 M5 => tj_none) (fun rec hrec z3 z4 M5 => ?_) n
  unfold fx_X9_turn_L15
  refine tj_iload (pc := 15) G 6 dX9_turn_15 rfl ?_
  refine tj_aload_n (pc := 17) G 0 dX9_turn_17 rfl rfl ?_
  refine tj_getI (pc := 18) G (k := t) (j := 4) (j2 := 4) tk_X9 (tg_Turner_l0 ht) ht.2.1 rfl (by decide) rfl fl_X9_25 dX9_turn_18 ?_
  refine tj_icmp_ge (pc := 21) G (tgt := 175) (a2 := w32 z4) (b2 := w32 (M5 t 4)) dX9_turn_21 (by decide) rfl rfl ?_ ?_
  · exact tj_sub [0] rfl (hK175  M5)
  refine tj_aload_n (pc := 24) G 0 dX9_turn_24 rfl rfl ?_
  refine tj_getR (pc := 25) G (k := t) (j := 0) (j2 := 0) tk_X9 (tg_Turner_l0 ht) ht.2.1 rfl (by decide) rfl fl_X9_9 dX9_turn_25 ?_
  refine tj_iload (pc := 28) G 6 dX9_turn_28 rfl ?_
  refine tj_iald (pc := 30) G (k := (t + 1)) (i2 := w32 z4) (n2 := 40) (tg_Turner_l1 ht) ht.2.2.1 rfl rfl dX9_turn_30 ?_
  refine tj_istore (pc := 31) G (fun x6 => [(7, vI x6), (0, vR X t), (1, vR X k1), (2, vI c2), (3, vI c3), (4, vI c4), (5, vI z3), (6, vI z4)]) dX9_turn_31 (by decide) (fun _ => rfl) (fun x6 => ?_)
  refine tj_iload (pc := 33) G 0 dX9_turn_33 rfl ?_
  refine tj_sipush (pc := 35) G dX9_turn_35 rfl ?_
  refine tj_jn1 (fun y7 => [(0, vR X t), (1, vR X k1), (2, vI c2), (3, vI c3), (4, vI c4), (5, vI y7), (6, vI z4)]) (fun y7 => []) 169 (fun y7 M8 => ?_) (fun jk169 hj169 => ?_)
  · refine tj_iinc (pc := 169) G 6 (fun x9 => [(6, vI x9), (0, vR X t), (1, vR X k1), (2, vI c2), (3, vI c3), (4, vI c4), (5, vI y7)]) dX9_turn_169 rfl (by decide) (fun _ => rfl) (fun x9 => ?_)
    refine tj_goto (pc := 172) G (tgt := 15) dX9_turn_172 (by decide) ?_
    exact tj_sub [1, 2, 3, 4, 5, 6, 0] rfl (hrec y7 x9 M8)
  refine tj_icmp_ge (pc := 38) G (tgt := 91) (a2 := w32 x6) (b2 := 2000) dX9_turn_38 (by decide) rfl rfl ?_ ?_
  · refine tj_iload (pc := 91) G 0 dX9_turn_91 rfl ?_
    refine tj_sipush (pc := 93) G dX9_turn_93 rfl ?_
    refine tj_icmp_ne (pc := 96) G (tgt := 126) (a2 := w32 x6) (b2 := 3000) dX9_turn_96 (by decide) rfl rfl ?_ ?_
    · refine tj_iload (pc := 126) G 6 dX9_turn_126 rfl ?_
      refine tj_iconst (pc := 128) G dX9_turn_128 ?_
      refine tj_icmp_le (pc := 129) G (tgt := 169) (a2 := w32 z3) (b2 := 1) dX9_turn_129 (by decide) rfl rfl ?_ ?_
      · exact tj_sub [1, 2, 3, 4, 5, 6, 7] rfl (hj169 z3 M5)
      refine tj_iinc (pc := 132) G 6 (fun x10 => [(5, vI x10), (7, vI x6), (0, vR X t), (1, vR X k1), (2, vI c2), (3, vI c3), (4, vI c4), (6, vI z4)]) dX9_turn_132 rfl (by decide) (fun _ => rfl) (fun x10 => ?_)
      refine tj_aload_n (pc := 135) G 2 dX9_turn_135 rfl rfl ?_
      refine tj_getR (pc := 136) G (k := t) (j := 2) (j2 := 2) tk_X9 (tg_Turner_l0 ht) ht.2.1 rfl (by decide) rfl fl_X9_18 dX9_turn_136 ?_
      refine tj_iload (pc := 139) G 0 dX9_turn_139 rfl ?_
      refine tj_iconst (pc := 141) G dX9_turn_141 ?_
      refine tj_isub (pc := 142) G dX9_turn_142 ?_
      refine tj_iload (pc := 143) G 1 dX9_turn_143 rfl ?_
      refine tj_sipush (pc := 145) G dX9_turn_145 rfl ?_
      refine tj_isub (pc := 148) G dX9_turn_148 ?_
      refine tj_aload_n (pc := 149) G 2 dX9_turn_149 rfl rfl ?_
      refine tj_getR (pc := 150) G (k := t) (j := 2) (j2 := 2) tk_X9 (tg_Turner_l0 ht) ht.2.1 rfl (by decide) rfl fl_X9_18 dX9_turn_150 ?_
      refine tj_iload (pc := 153) G 0 dX9_turn_153 rfl ?_
      refine tj_iconst (pc := 155) G dX9_turn_155 ?_
      refine tj_isub (pc := 156) G dX9_turn_156 ?_
      refine tj_iald (pc := 157) G (k := (t + 3)) (i2 := w32 (x10 - 1)) (n2 := 40) (tg_Turner_l3 ht) ht.2.2.2.2.1 rfl rfl dX9_turn_157 ?_
      refine tj_aload_n (pc := 158) G 2 dX9_turn_158 rfl rfl ?_
      refine tj_getR (pc := 159) G (k := t) (j := 2) (j2 := 2) tk_X9 (tg_Turner_l0 ht) ht.2.1 rfl (by decide) rfl fl_X9_18 dX9_turn_159 ?_
      refine tj_iload (pc := 162) G 0 dX9_turn_162 rfl ?_
      refine tj_iald (pc := 164) G (k := (t + 3)) (i2 := w32 x10) (n2 := 40) (tg_Turner_l3 ht) ht.2.2.2.2.1 rfl rfl dX9_turn_164 ?_
      refine tj_callSi (pc := 165) G [vI (x6 - 2000), vI (M5 (t + 3) (w32 (x10 - 1))), vI (M5 (t + 3) (w32 x10))] mf_X9_joined ml_X9_96 (by decide) rfl rfl (Nat.le_of_ble_eq_true rfl) (fun _ h9 => ok_X9_joined X  h9) dX9_turn_165 (fun r11 M12 => ?_)
      refine tj_iast (pc := 168) G (k := (t + 3)) (i2 := w32 (x10 - 1)) (n2 := 40) (tg_Turner_l3 ht) ht.2.2.2.2.1 rfl rfl dX9_turn_168 (fun M13 => ?_)
      exact tj_sub [2, 3, 4, 5, 6, 0, 7] rfl (hj169 x10 M13)
    refine tj_iload (pc := 99) G 6 dX9_turn_99 rfl ?_
    refine tj_if_le (pc := 101) G (tgt := 169) (a2 := w32 z3) dX9_turn_101 (by decide) rfl ?_ ?_
    · exact tj_sub [1, 2, 3, 4, 5, 6, 7] rfl (hj169 z3 M5)
    refine tj_aload_n (pc := 104) G 1 dX9_turn_104 rfl rfl ?_
    refine tj_getR (pc := 105) G (k := t) (j := 2) (j2 := 2) tk_X9 (tg_Turner_l0 ht) ht.2.1 rfl (by decide) rfl fl_X9_18 dX9_turn_105 ?_
    refine tj_iload (pc := 108) G 6 dX9_turn_108 rfl ?_
    refine tj_iconst (pc := 110) G dX9_turn_110 ?_
    refine tj_isub (pc := 111) G dX9_turn_111 ?_
    refine tj_aload_n (pc := 112) G 1 dX9_turn_112 rfl rfl ?_
    refine tj_getR (pc := 113) G (k := t) (j := 2) (j2 := 2) tk_X9 (tg_Turner_l0 ht) ht.2.1 rfl (by decide) rfl fl_X9_18 dX9_turn_113 ?_
    refine tj_iload (pc := 116) G 6 dX9_turn_116 rfl ?_
    refine tj_iconst (pc := 118) G dX9_turn_118 ?_
    refine tj_isub (pc := 119) G dX9_turn_119 ?_
    refine tj_iald (pc := 120) G (k := (t + 3)) (i2 := w32 (z3 - 1)) (n2 := 40) (tg_Turner_l3 ht) ht.2.2.2.2.1 rfl rfl dX9_turn_120 ?_
    refine tj_ineg (pc := 121) G dX9_turn_121 ?_
    refine tj_iast (pc := 122) G (k := (t + 3)) (i2 := w32 (z3 - 1)) (n2 := 40) (tg_Turner_l3 ht) ht.2.2.2.2.1 rfl rfl dX9_turn_122 (fun M14 => ?_)
    refine tj_goto (pc := 123) G (tgt := 169) dX9_turn_123 (by decide) ?_
    exact tj_sub [1, 2, 3, 4, 5, 6, 7] rfl (hj169 z3 M14)
  refine tj_iload (pc := 41) G 6 dX9_turn_41 rfl ?_
  refine tj_aload_n (pc := 43) G 1 dX9_turn_43 rfl rfl ?_
  refine tj_getR (pc := 44) G (k := t) (j := 2) (j2 := 2) tk_X9 (tg_Turner_l0 ht) ht.2.1 rfl (by decide) rfl fl_X9_18 dX9_turn_44 ?_
  refine tj_alen (pc := 47) G (k := (t + 3)) (n2 := 40) (tg_Turner_l3 ht) ht.2.2.2.2.1 rfl (by decide) dX9_turn_47 ?_
  refine tj_icmp_ge (pc := 48) G (tgt := 169) (a2 := w32 z3) (b2 := 40) dX9_turn_48 (by decide) rfl rfl ?_ ?_
  · exact tj_sub [1, 2, 3, 4, 5, 6, 7] rfl (hj169 z3 M5)
  refine tj_aload_n (pc := 51) G 1 dX9_turn_51 rfl rfl ?_
  refine tj_getR (pc := 52) G (k := t) (j := 2) (j2 := 2) tk_X9 (tg_Turner_l0 ht) ht.2.1 rfl (by decide) rfl fl_X9_18 dX9_turn_52 ?_
  refine tj_iload (pc := 55) G 6 dX9_turn_55 rfl ?_
  refine tj_iload (pc := 57) G 0 dX9_turn_57 rfl ?_
  refine tj_sipush (pc := 59) G dX9_turn_59 rfl ?_
  refine tj_jn1 (fun y15 => [(0, vR X t), (1, vR X k1), (2, vI c2), (3, vI c3), (4, vI c4), (5, vI z3), (6, vI z4)]) (fun y15 => [vI y15, vI z3, vR X (t + 3)]) 84 (fun y15 M16 => ?_) (fun jk84 hj84 => ?_)
  · refine tj_iast (pc := 84) G (k := (t + 3)) (i2 := w32 z3) (n2 := 40) (tg_Turner_l3 ht) ht.2.2.2.2.1 rfl rfl dX9_turn_84 (fun M17 => ?_)
    refine tj_iinc (pc := 85) G 5 (fun x18 => [(5, vI x18), (0, vR X t), (1, vR X k1), (2, vI c2), (3, vI c3), (4, vI c4), (6, vI z4)]) dX9_turn_85 rfl (by decide) (fun _ => rfl) (fun x18 => ?_)
    refine tj_goto (pc := 88) G (tgt := 169) dX9_turn_88 (by decide) ?_
    exact tj_sub [1, 2, 3, 4, 5, 0, 6] rfl (hj169 x18 M17)
  refine tj_icmp_ge (pc := 62) G (tgt := 70) (a2 := w32 x6) (b2 := 1000) dX9_turn_62 (by decide) rfl rfl ?_ ?_
  · refine tj_iload (pc := 70) G 0 dX9_turn_70 rfl ?_
    refine tj_sipush (pc := 72) G dX9_turn_72 rfl ?_
    refine tj_isub (pc := 75) G dX9_turn_75 ?_
    refine tj_aload_n (pc := 76) G 2 dX9_turn_76 rfl rfl ?_
    refine tj_iload_n (pc := 77) G 3 dX9_turn_77 rfl rfl ?_
    refine tj_iload_n (pc := 78) G 4 dX9_turn_78 rfl rfl ?_
    refine tj_iload (pc := 79) G 5 dX9_turn_79 rfl ?_
    refine tj_callSi (pc := 81) G [vI (x6 - 1000), vR X k1, vI c2, vI c3, vI c4] mf_X9_letterValue ml_X9_92 (by decide) rfl rfl (Nat.le_of_ble_eq_true rfl) (fun _ h9 => ok_X9_letterValue X hk1 h9) dX9_turn_81 (fun r19 M20 => ?_)
    exact tj_sub [1, 2, 3, 4, 5, 6, 7] rfl (hj84 r19 M20)
  refine tj_iload (pc := 65) G 0 dX9_turn_65 rfl ?_
  refine tj_goto (pc := 67) G (tgt := 84) dX9_turn_67 (by decide) ?_
  exact tj_sub [1, 2, 3, 4, 5, 6, 7] rfl (hj84 x6 M5)
set_option maxRecDepth 100000 in
set_option maxHeartbeats 4000000 in
theorem ok_X9_turn (X : tp_X)  {t : Nat} {k1 : Nat} {a2 : Int} {a3 : Int} {a4 : Int} (ht : tg_Turner LC 64 t) (hk1 : tg_Moor LC 64 k1) {M : tp_M} {res : Int × tp_M} (h : fx_X9_turn  t k1 a2 a3 a4 M = some res) : tp_Ret X LC 64 1 yX9_turn (Cond.code yX9_turn cX9_turn 8 (some .int)) 2 [vR X t, vR X k1, vI a2, vI a3, vI a4] M res := by
  refine tp_ofW (by decide +kernel) rfl rfl (by show _ ≤ 8; exact Nat.le_of_ble_eq_true rfl) h (fun Y G => ?_)
  show tp_J X Y LC 64 8 2 1 (fx_X9_turn  t k1 a2 a3 a4 M) M [(0, vR X t), (1, vR X k1), (2, vI a2), (3, vI a3), (4, vI a4)] [] 0
  unfold fx_X9_turn
  refine tj_aload_n (pc := 0) G 0 dX9_turn_0 rfl rfl ?_
  refine tj_getI (pc := 1) G (k := t) (j := 4) (j2 := 4) tk_X9 (tg_Turner_l0 ht) ht.2.1 rfl (by decide) rfl fl_X9_25 dX9_turn_1 ?_
  refine tj_if_ne (pc := 4) G (tgt := 9) (a2 := w32 (M t 4)) dX9_turn_4 (by decide) rfl ?_ ?_
  · refine tj_iconst (pc := 9) G dX9_turn_9 ?_
    refine tj_istore (pc := 10) G (fun x1 => [(5, vI x1), (0, vR X t), (1, vR X k1), (2, vI a2), (3, vI a3), (4, vI a4)]) dX9_turn_10 (by decide) (fun _ => rfl) (fun x1 => ?_)
    refine tj_iconst (pc := 12) G dX9_turn_12 ?_
    refine tj_istore (pc := 13) G (fun x2 => [(6, vI x2), (5, vI x1), (0, vR X t), (1, vR X k1), (2, vI a2), (3, vI a3), (4, vI a4)]) dX9_turn_13 (by decide) (fun _ => rfl) (fun x2 => ?_)
    refine tj_sub [2, 3, 4, 5, 6, 1, 0] rfl (fx_X9_turn_L15_ok G  ht hk1  (fun M21 => ?_) tp_F x1 x2 M)
    refine tj_iconst (pc := 175) G dX9_turn_175 ?_
    refine tj_bipush (pc := 176) G dX9_turn_176 rfl ?_
    refine tj_aload_n (pc := 178) G 0 dX9_turn_178 rfl rfl ?_
    refine tj_getR (pc := 179) G (k := t) (j := 2) (j2 := 2) tk_X9 (tg_Turner_l0 ht) ht.2.1 rfl (by decide) rfl fl_X9_18 dX9_turn_179 ?_
    refine tj_iconst (pc := 182) G dX9_turn_182 ?_
    refine tj_iald1 (pc := 183) G (k := (t + 3)) (i2 := 0) (n2 := 0) (tg_Turner_l3 ht) ht.2.2.2.2.1 rfl (by decide) dX9_turn_183 ?_
    refine tj_min (pc := 184) G (a2 := 9) (b2 := w32 (M21 (t + 3) 0)) rfl rfl ml_X9_53 mw_min (by decide) (Nat.le_of_ble_eq_true rfl) dX9_turn_184 ?_
    refine tj_max (pc := 187) G (a2 := 0) (b2 := w32 (min 9 (w32 (M21 (t + 3) 0)))) rfl rfl ml_X9_100 mw_max (by decide) (Nat.le_of_ble_eq_true rfl) dX9_turn_187 ?_
    exact tj_iret (pc := 190) G dX9_turn_190
  refine tj_iconst (pc := 7) G dX9_turn_7 ?_
  exact tj_iret (pc := 8) G dX9_turn_8

def fx_X10_sign  (a1 : Int) (M : tp_M) : tp_O :=
(tp_bd (fx_X7_size  M) (fun r1 M2 =>
(if w32 (r1 + 4) ≤ 80 then
(tp_bd (fx_X7_add (x_ushr a1 24) M2) (fun r3 M4 =>
(tp_bd (fx_X7_add (x_and (x_ushr a1 16) 255) M4) (fun r5 M6 =>
(tp_bd (fx_X7_add (x_and (x_ushr a1 8) 255) M6) (fun r7 M8 =>
(tp_bd (fx_X7_add (x_and a1 255) M8) (fun r9 M10 =>
(tp_bd (fx_X7_size  M10) (fun r11 M12 =>
(some (r11, M12))))))))))))
else
(some ((-1), M2)))))
set_option maxRecDepth 100000 in
set_option maxHeartbeats 4000000 in
theorem ok_X10_sign (X : tp_X)  {a1 : Int}  {M : tp_M} {res : Int × tp_M} (h : fx_X10_sign  a1 M = some res) : tp_Ret X LC 64 1 yX10_sign (Cond.code yX10_sign cX10_sign 2 (some .int)) 2 [vR X 0, vI a1] M res := by
  refine tp_ofW (by decide +kernel) rfl rfl (by show _ ≤ 2; exact Nat.le_of_ble_eq_true rfl) h (fun Y G => ?_)
  show tp_J X Y LC 64 2 2 1 (fx_X10_sign  a1 M) M [(0, vR X 0), (1, vI a1)] [] 0
  unfold fx_X10_sign
  refine tj_aload_n (pc := 0) G 0 dX10_sign_0 rfl rfl ?_
  refine tj_getR (pc := 1) G (k := 0) (j := 0) (j2 := 0) tk_X10 (by decide) lc_0 rfl (by decide) rfl fl_X10_12 dX10_sign_1 ?_
  refine tj_callVi (pc := 4) G [] mf_X7_size (k := 1) (by decide) lc_1 rfl rfl ml_X10_114 (by decide) rfl rfl (Nat.le_of_ble_eq_true rfl) (fun _ h9 => ok_X7_size X  h9) dX10_sign_4 (fun r1 M2 => ?_)
  refine tj_iconst (pc := 7) G dX10_sign_7 ?_
  refine tj_iadd (pc := 8) G dX10_sign_8 ?_
  refine tj_bipush (pc := 9) G dX10_sign_9 rfl ?_
  refine tj_icmp_le (pc := 11) G (tgt := 16) (a2 := w32 (r1 + 4)) (b2 := 80) dX10_sign_11 (by decide) rfl rfl ?_ ?_
  · refine tj_aload_n (pc := 16) G 0 dX10_sign_16 rfl rfl ?_
    refine tj_getR (pc := 17) G (k := 0) (j := 0) (j2 := 0) tk_X10 (by decide) lc_0 rfl (by decide) rfl fl_X10_12 dX10_sign_17 ?_
    refine tj_iload_n (pc := 20) G 1 dX10_sign_20 rfl rfl ?_
    refine tj_bipush (pc := 21) G dX10_sign_21 rfl ?_
    refine tj_iushr (pc := 23) G dX10_sign_23 ?_
    refine tj_callVv (pc := 24) G [vI (x_ushr a1 24)] mf_X7_add (k := 1) (by decide) lc_1 rfl rfl ml_X10_118 (by decide) rfl rfl (Nat.le_of_ble_eq_true rfl) (fun _ h9 => ok_X7_add X  h9) dX10_sign_24 (fun r3 M4 => ?_)
    refine tj_aload_n (pc := 27) G 0 dX10_sign_27 rfl rfl ?_
    refine tj_getR (pc := 28) G (k := 0) (j := 0) (j2 := 0) tk_X10 (by decide) lc_0 rfl (by decide) rfl fl_X10_12 dX10_sign_28 ?_
    refine tj_iload_n (pc := 31) G 1 dX10_sign_31 rfl rfl ?_
    refine tj_bipush (pc := 32) G dX10_sign_32 rfl ?_
    refine tj_iushr (pc := 34) G dX10_sign_34 ?_
    refine tj_sipush (pc := 35) G dX10_sign_35 rfl ?_
    refine tj_iand (pc := 38) G dX10_sign_38 ?_
    refine tj_callVv (pc := 39) G [vI (x_and (x_ushr a1 16) 255)] mf_X7_add (k := 1) (by decide) lc_1 rfl rfl ml_X10_118 (by decide) rfl rfl (Nat.le_of_ble_eq_true rfl) (fun _ h9 => ok_X7_add X  h9) dX10_sign_39 (fun r5 M6 => ?_)
    refine tj_aload_n (pc := 42) G 0 dX10_sign_42 rfl rfl ?_
    refine tj_getR (pc := 43) G (k := 0) (j := 0) (j2 := 0) tk_X10 (by decide) lc_0 rfl (by decide) rfl fl_X10_12 dX10_sign_43 ?_
    refine tj_iload_n (pc := 46) G 1 dX10_sign_46 rfl rfl ?_
    refine tj_bipush (pc := 47) G dX10_sign_47 rfl ?_
    refine tj_iushr (pc := 49) G dX10_sign_49 ?_
    refine tj_sipush (pc := 50) G dX10_sign_50 rfl ?_
    refine tj_iand (pc := 53) G dX10_sign_53 ?_
    refine tj_callVv (pc := 54) G [vI (x_and (x_ushr a1 8) 255)] mf_X7_add (k := 1) (by decide) lc_1 rfl rfl ml_X10_118 (by decide) rfl rfl (Nat.le_of_ble_eq_true rfl) (fun _ h9 => ok_X7_add X  h9) dX10_sign_54 (fun r7 M8 => ?_)
    refine tj_aload_n (pc := 57) G 0 dX10_sign_57 rfl rfl ?_
    refine tj_getR (pc := 58) G (k := 0) (j := 0) (j2 := 0) tk_X10 (by decide) lc_0 rfl (by decide) rfl fl_X10_12 dX10_sign_58 ?_
    refine tj_iload_n (pc := 61) G 1 dX10_sign_61 rfl rfl ?_
    refine tj_sipush (pc := 62) G dX10_sign_62 rfl ?_
    refine tj_iand (pc := 65) G dX10_sign_65 ?_
    refine tj_callVv (pc := 66) G [vI (x_and a1 255)] mf_X7_add (k := 1) (by decide) lc_1 rfl rfl ml_X10_118 (by decide) rfl rfl (Nat.le_of_ble_eq_true rfl) (fun _ h9 => ok_X7_add X  h9) dX10_sign_66 (fun r9 M10 => ?_)
    refine tj_aload_n (pc := 69) G 0 dX10_sign_69 rfl rfl ?_
    refine tj_getR (pc := 70) G (k := 0) (j := 0) (j2 := 0) tk_X10 (by decide) lc_0 rfl (by decide) rfl fl_X10_12 dX10_sign_70 ?_
    refine tj_callVi (pc := 73) G [] mf_X7_size (k := 1) (by decide) lc_1 rfl rfl ml_X10_114 (by decide) rfl rfl (Nat.le_of_ble_eq_true rfl) (fun _ h9 => ok_X7_size X  h9) dX10_sign_73 (fun r11 M12 => ?_)
    exact tj_iret (pc := 76) G dX10_sign_76
  refine tj_iconst (pc := 14) G dX10_sign_14 ?_
  exact tj_iret (pc := 15) G dX10_sign_15

def fx_X10_end  (a1 : Int) (M : tp_M) : tp_O :=
(if w32 a1 < 0 then
(some (0, M))
else
(tp_bd (fx_X7_size  M) (fun r1 M2 =>
(if w32 a1 ≤ w32 r1 then
(tp_bd (fx_X7_cut a1 M2) (fun r3 M4 =>
(some (1, M4))))
else
(some (0, M2))))))
set_option maxRecDepth 100000 in
set_option maxHeartbeats 4000000 in
theorem ok_X10_end (X : tp_X)  {a1 : Int}  {M : tp_M} {res : Int × tp_M} (h : fx_X10_end  a1 M = some res) : tp_Ret X LC 64 1 yX10_end (Cond.code yX10_end cX10_end 2 (some .boolean)) 2 [vR X 0, vI a1] M res := by
  refine tp_ofW (by decide +kernel) rfl rfl (by show _ ≤ 2; exact Nat.le_of_ble_eq_true rfl) h (fun Y G => ?_)
  show tp_J X Y LC 64 2 2 1 (fx_X10_end  a1 M) M [(0, vR X 0), (1, vI a1)] [] 0
  unfold fx_X10_end
  refine tj_iload_n (pc := 0) G 1 dX10_end_0 rfl rfl ?_
  refine tj_if_lt (pc := 1) G (tgt := 15) (a2 := w32 a1) dX10_end_1 (by decide) rfl ?_ ?_
  · refine tj_iconst (pc := 15) G dX10_end_15 ?_
    exact tj_zret (pc := 16) G (by decide) dX10_end_16
  refine tj_iload_n (pc := 4) G 1 dX10_end_4 rfl rfl ?_
  refine tj_aload_n (pc := 5) G 0 dX10_end_5 rfl rfl ?_
  refine tj_getR (pc := 6) G (k := 0) (j := 0) (j2 := 0) tk_X10 (by decide) lc_0 rfl (by decide) rfl fl_X10_12 dX10_end_6 ?_
  refine tj_callVi (pc := 9) G [] mf_X7_size (k := 1) (by decide) lc_1 rfl rfl ml_X10_114 (by decide) rfl rfl (Nat.le_of_ble_eq_true rfl) (fun _ h9 => ok_X7_size X  h9) dX10_end_9 (fun r1 M2 => ?_)
  refine tj_icmp_le (pc := 12) G (tgt := 17) (a2 := w32 a1) (b2 := w32 r1) dX10_end_12 (by decide) rfl rfl ?_ ?_
  · refine tj_aload_n (pc := 17) G 0 dX10_end_17 rfl rfl ?_
    refine tj_getR (pc := 18) G (k := 0) (j := 0) (j2 := 0) tk_X10 (by decide) lc_0 rfl (by decide) rfl fl_X10_12 dX10_end_18 ?_
    refine tj_iload_n (pc := 21) G 1 dX10_end_21 rfl rfl ?_
    refine tj_callVv (pc := 22) G [vI a1] mf_X7_cut (k := 1) (by decide) lc_1 rfl rfl ml_X10_122 (by decide) rfl rfl (Nat.le_of_ble_eq_true rfl) (fun _ h9 => ok_X7_cut X  h9) dX10_end_22 (fun r3 M4 => ?_)
    refine tj_iconst (pc := 25) G dX10_end_25 ?_
    exact tj_zret (pc := 26) G (by decide) dX10_end_26
  refine tj_iconst (pc := 15) G dX10_end_15 ?_
  exact tj_zret (pc := 16) G (by decide) dX10_end_16

def fx_X10_net   (M : tp_M) : tp_O :=
(tp_bd (fx_X4_read 10 M) (fun r1 M2 =>
(tp_lt r1 (fun x3 =>
(tp_bd (fx_X7_cut 0 M2) (fun r4 M5 =>
(if w32 x3 < 0 then
(some (x3, M5))
else
(tp_bd (fx_X4_copyFrom 5 10 M5) (fun r6 M7 =>
(tp_bd (fx_X2_clear 25 M7) (fun r8 M9 =>
(tp_bd (fx_X3_forgetAll  M9) (fun r10 M11 =>
(tp_bd (fx_X6_clear  M11) (fun r12 M13 =>
(tp_bd (fx_X1_clear  M13) (fun r14 M15 =>
(some (x3, M15)))))))))))))))))))
set_option maxRecDepth 100000 in
set_option maxHeartbeats 4000000 in
theorem ok_X10_net (X : tp_X)    {M : tp_M} {res : Int × tp_M} (h : fx_X10_net   M = some res) : tp_Ret X LC 64 1 yX10_net (Cond.code yX10_net cX10_net 2 (some .int)) 4 [vR X 0] M res := by
  refine tp_ofW (by decide +kernel) rfl rfl (by show _ ≤ 2; exact Nat.le_of_ble_eq_true rfl) h (fun Y G => ?_)
  show tp_J X Y LC 64 2 4 1 (fx_X10_net   M) M [(0, vR X 0)] [] 0
  unfold fx_X10_net
  refine tj_aload_n (pc := 0) G 0 dX10_net_0 rfl rfl ?_
  refine tj_getR (pc := 1) G (k := 0) (j := 3) (j2 := 3) tk_X10 (by decide) lc_0 rfl (by decide) rfl fl_X10_30 dX10_net_1 ?_
  refine tj_aload_n (pc := 4) G 0 dX10_net_4 rfl rfl ?_
  refine tj_getR (pc := 5) G (k := 0) (j := 0) (j2 := 0) tk_X10 (by decide) lc_0 rfl (by decide) rfl fl_X10_12 dX10_net_5 ?_
  refine tj_callVi (pc := 8) G [vR X 1] mf_X4_read (k := 10) (by decide) lc_10 rfl rfl ml_X10_125 (by decide) rfl rfl (Nat.le_of_ble_eq_true rfl) (fun _ h9 => ok_X4_read X gg_Paths_10 h9) dX10_net_8 (fun r1 M2 => ?_)
  refine tj_istore_n (pc := 11) G (fun x3 => [(1, vI x3), (0, vR X 0)]) dX10_net_11 rfl (by decide) (fun _ => rfl) (fun x3 => ?_)
  refine tj_aload_n (pc := 12) G 1 dX10_net_12 rfl rfl ?_
  refine tj_getR (pc := 13) G (k := 0) (j := 0) (j2 := 0) tk_X10 (by decide) lc_0 rfl (by decide) rfl fl_X10_12 dX10_net_13 ?_
  refine tj_iconst (pc := 16) G dX10_net_16 ?_
  refine tj_callVv (pc := 17) G [vI 0] mf_X7_cut (k := 1) (by decide) lc_1 rfl rfl ml_X10_122 (by decide) rfl rfl (Nat.le_of_ble_eq_true rfl) (fun _ h9 => ok_X7_cut X  h9) dX10_net_17 (fun r4 M5 => ?_)
  refine tj_iload_n (pc := 20) G 0 dX10_net_20 rfl rfl ?_
  refine tj_if_ge (pc := 21) G (tgt := 26) (a2 := w32 x3) dX10_net_21 (by decide) rfl ?_ ?_
  · refine tj_aload_n (pc := 26) G 1 dX10_net_26 rfl rfl ?_
    refine tj_getR (pc := 27) G (k := 0) (j := 2) (j2 := 2) tk_X10 (by decide) lc_0 rfl (by decide) rfl fl_X10_26 dX10_net_27 ?_
    refine tj_aload_n (pc := 30) G 1 dX10_net_30 rfl rfl ?_
    refine tj_getR (pc := 31) G (k := 0) (j := 3) (j2 := 3) tk_X10 (by decide) lc_0 rfl (by decide) rfl fl_X10_30 dX10_net_31 ?_
    refine tj_callVv (pc := 34) G [vR X 10] mf_X4_copyFrom (k := 5) (by decide) lc_5 rfl rfl ml_X10_129 (by decide) rfl rfl (Nat.le_of_ble_eq_true rfl) (fun _ h9 => ok_X4_copyFrom X gg_Paths_5 gg_Paths_10 h9) dX10_net_34 (fun r6 M7 => ?_)
    refine tj_aload_n (pc := 37) G 1 dX10_net_37 rfl rfl ?_
    refine tj_getR (pc := 38) G (k := 0) (j := 6) (j2 := 6) tk_X10 (by decide) lc_0 rfl (by decide) rfl fl_X10_46 dX10_net_38 ?_
    refine tj_callVv (pc := 41) G [] mf_X2_clear (k := 25) (by decide) lc_25 rfl rfl ml_X10_133 (by decide) rfl rfl (Nat.le_of_ble_eq_true rfl) (fun _ h9 => ok_X2_clear X gg_Moor_25 h9) dX10_net_41 (fun r8 M9 => ?_)
    refine tj_aload_n (pc := 44) G 1 dX10_net_44 rfl rfl ?_
    refine tj_getR (pc := 45) G (k := 0) (j := 9) (j2 := 9) tk_X10 (by decide) lc_0 rfl (by decide) rfl fl_X10_59 dX10_net_45 ?_
    refine tj_callVv (pc := 48) G [] mf_X3_forgetAll (k := 34) (by decide) lc_34 rfl rfl ml_X10_136 (by decide) rfl rfl (Nat.le_of_ble_eq_true rfl) (fun _ h9 => ok_X3_forgetAll X  h9) dX10_net_48 (fun r10 M11 => ?_)
    refine tj_aload_n (pc := 51) G 1 dX10_net_51 rfl rfl ?_
    refine tj_getR (pc := 52) G (k := 0) (j := 12) (j2 := 12) tk_X10 (by decide) lc_0 rfl (by decide) rfl fl_X10_80 dX10_net_52 ?_
    refine tj_callVv (pc := 55) G [] mf_X6_clear (k := 52) (by decide) lc_52 rfl rfl ml_X10_139 (by decide) rfl rfl (Nat.le_of_ble_eq_true rfl) (fun _ h9 => ok_X6_clear X  h9) dX10_net_55 (fun r12 M13 => ?_)
    refine tj_aload_n (pc := 58) G 1 dX10_net_58 rfl rfl ?_
    refine tj_getR (pc := 59) G (k := 0) (j := 13) (j2 := 13) tk_X10 (by decide) lc_0 rfl (by decide) rfl fl_X10_87 dX10_net_59 ?_
    refine tj_callVv (pc := 62) G [] mf_X1_clear (k := 56) (by decide) lc_56 rfl rfl ml_X10_140 (by decide) rfl rfl (Nat.le_of_ble_eq_true rfl) (fun _ h9 => ok_X1_clear X  h9) dX10_net_62 (fun r14 M15 => ?_)
    refine tj_iload_n (pc := 65) G 0 dX10_net_65 rfl rfl ?_
    exact tj_iret (pc := 66) G dX10_net_66
  refine tj_iload_n (pc := 24) G 0 dX10_net_24 rfl rfl ?_
  exact tj_iret (pc := 25) G dX10_net_25

def fx_X10_rule   (M : tp_M) : tp_O :=
(tp_bd (fx_X9_read 20 M) (fun r1 M2 =>
(tp_lt r1 (fun x3 =>
(tp_bd (fx_X7_cut 0 M2) (fun r4 M5 =>
(if w32 x3 < 0 then
(some (x3, M5))
else
(tp_bd (fx_X9_copyFrom 15 20 M5) (fun r6 M7 =>
(some (0, M7)))))))))))
set_option maxRecDepth 100000 in
set_option maxHeartbeats 4000000 in
theorem ok_X10_rule (X : tp_X)    {M : tp_M} {res : Int × tp_M} (h : fx_X10_rule   M = some res) : tp_Ret X LC 64 1 yX10_rule (Cond.code yX10_rule cX10_rule 2 (some .int)) 5 [vR X 0] M res := by
  refine tp_ofW (by decide +kernel) rfl rfl (by show _ ≤ 2; exact Nat.le_of_ble_eq_true rfl) h (fun Y G => ?_)
  show tp_J X Y LC 64 2 5 1 (fx_X10_rule   M) M [(0, vR X 0)] [] 0
  unfold fx_X10_rule
  refine tj_aload_n (pc := 0) G 0 dX10_rule_0 rfl rfl ?_
  refine tj_getR (pc := 1) G (k := 0) (j := 5) (j2 := 5) tk_X10 (by decide) lc_0 rfl (by decide) rfl fl_X10_40 dX10_rule_1 ?_
  refine tj_aload_n (pc := 4) G 0 dX10_rule_4 rfl rfl ?_
  refine tj_getR (pc := 5) G (k := 0) (j := 0) (j2 := 0) tk_X10 (by decide) lc_0 rfl (by decide) rfl fl_X10_12 dX10_rule_5 ?_
  refine tj_callVi (pc := 8) G [vR X 1] mf_X9_read (k := 20) (by decide) lc_20 rfl rfl ml_X10_141 (by decide) rfl rfl (Nat.le_of_ble_eq_true rfl) (fun _ h9 => ok_X9_read X gg_Turner_20 h9) dX10_rule_8 (fun r1 M2 => ?_)
  refine tj_istore_n (pc := 11) G (fun x3 => [(1, vI x3), (0, vR X 0)]) dX10_rule_11 rfl (by decide) (fun _ => rfl) (fun x3 => ?_)
  refine tj_aload_n (pc := 12) G 1 dX10_rule_12 rfl rfl ?_
  refine tj_getR (pc := 13) G (k := 0) (j := 0) (j2 := 0) tk_X10 (by decide) lc_0 rfl (by decide) rfl fl_X10_12 dX10_rule_13 ?_
  refine tj_iconst (pc := 16) G dX10_rule_16 ?_
  refine tj_callVv (pc := 17) G [vI 0] mf_X7_cut (k := 1) (by decide) lc_1 rfl rfl ml_X10_122 (by decide) rfl rfl (Nat.le_of_ble_eq_true rfl) (fun _ h9 => ok_X7_cut X  h9) dX10_rule_17 (fun r4 M5 => ?_)
  refine tj_iload_n (pc := 20) G 0 dX10_rule_20 rfl rfl ?_
  refine tj_if_ge (pc := 21) G (tgt := 26) (a2 := w32 x3) dX10_rule_21 (by decide) rfl ?_ ?_
  · refine tj_aload_n (pc := 26) G 1 dX10_rule_26 rfl rfl ?_
    refine tj_getR (pc := 27) G (k := 0) (j := 4) (j2 := 4) tk_X10 (by decide) lc_0 rfl (by decide) rfl fl_X10_36 dX10_rule_27 ?_
    refine tj_aload_n (pc := 30) G 1 dX10_rule_30 rfl rfl ?_
    refine tj_getR (pc := 31) G (k := 0) (j := 5) (j2 := 5) tk_X10 (by decide) lc_0 rfl (by decide) rfl fl_X10_40 dX10_rule_31 ?_
    refine tj_callVv (pc := 34) G [vR X 20] mf_X9_copyFrom (k := 15) (by decide) lc_15 rfl rfl ml_X10_142 (by decide) rfl rfl (Nat.le_of_ble_eq_true rfl) (fun _ h9 => ok_X9_copyFrom X gg_Turner_15 gg_Turner_20 h9) dX10_rule_34 (fun r6 M7 => ?_)
    refine tj_iconst (pc := 37) G dX10_rule_37 ?_
    exact tj_iret (pc := 38) G dX10_rule_38
  refine tj_iload_n (pc := 24) G 0 dX10_rule_24 rfl rfl ?_
  exact tj_iret (pc := 25) G dX10_rule_25

def fx_X10_turnNow  (a1 : Int) (M : tp_M) : tp_O :=
(tp_bd (fx_X4_hasPost 5 a1 M) (fun r1 M2 =>
(if w32 r1 = 0 then
(some (0, M2))
else
(tp_bd (fx_X4_degree 5 a1 M2) (fun r3 M4 =>
(tp_ck (w32 a1) 8 (tp_bd (fx_X4_goal 5 a1 (M4 26 (w32 a1)) M4) (fun r5 M6 =>
(tp_bd (fx_X9_turn 15 25 a1 r3 r5 M6) (fun r7 M8 =>
(some (r7, M8))))))))))))
set_option maxRecDepth 100000 in
set_option maxHeartbeats 4000000 in
theorem ok_X10_turnNow (X : tp_X)  {a1 : Int}  {M : tp_M} {res : Int × tp_M} (h : fx_X10_turnNow  a1 M = some res) : tp_Ret X LC 64 1 yX10_turnNow (Cond.code yX10_turnNow cX10_turnNow 2 (some .int)) 3 [vR X 0, vI a1] M res := by
  refine tp_ofW (by decide +kernel) rfl rfl (by show _ ≤ 2; exact Nat.le_of_ble_eq_true rfl) h (fun Y G => ?_)
  show tp_J X Y LC 64 2 3 1 (fx_X10_turnNow  a1 M) M [(0, vR X 0), (1, vI a1)] [] 0
  unfold fx_X10_turnNow
  refine tj_aload_n (pc := 0) G 0 dX10_turnNow_0 rfl rfl ?_
  refine tj_getR (pc := 1) G (k := 0) (j := 2) (j2 := 2) tk_X10 (by decide) lc_0 rfl (by decide) rfl fl_X10_26 dX10_turnNow_1 ?_
  refine tj_iload_n (pc := 4) G 1 dX10_turnNow_4 rfl rfl ?_
  refine tj_callVi (pc := 5) G [vI a1] mf_X4_hasPost (k := 5) (by decide) lc_5 rfl rfl ml_X10_176 (by decide) rfl rfl (Nat.le_of_ble_eq_true rfl) (fun _ h9 => ok_X4_hasPost X gg_Paths_5 h9) dX10_turnNow_5 (fun r1 M2 => ?_)
  refine tj_if_ne (pc := 8) G (tgt := 13) (a2 := w32 r1) dX10_turnNow_8 (by decide) rfl ?_ ?_
  · refine tj_aload_n (pc := 13) G 0 dX10_turnNow_13 rfl rfl ?_
    refine tj_getR (pc := 14) G (k := 0) (j := 4) (j2 := 4) tk_X10 (by decide) lc_0 rfl (by decide) rfl fl_X10_36 dX10_turnNow_14 ?_
    refine tj_aload_n (pc := 17) G 0 dX10_turnNow_17 rfl rfl ?_
    refine tj_getR (pc := 18) G (k := 0) (j := 6) (j2 := 6) tk_X10 (by decide) lc_0 rfl (by decide) rfl fl_X10_46 dX10_turnNow_18 ?_
    refine tj_iload_n (pc := 21) G 1 dX10_turnNow_21 rfl rfl ?_
    refine tj_aload_n (pc := 22) G 0 dX10_turnNow_22 rfl rfl ?_
    refine tj_getR (pc := 23) G (k := 0) (j := 2) (j2 := 2) tk_X10 (by decide) lc_0 rfl (by decide) rfl fl_X10_26 dX10_turnNow_23 ?_
    refine tj_iload_n (pc := 26) G 1 dX10_turnNow_26 rfl rfl ?_
    refine tj_callVi (pc := 27) G [vI a1] mf_X4_degree (k := 5) (by decide) lc_5 rfl rfl ml_X10_156 (by decide) rfl rfl (Nat.le_of_ble_eq_true rfl) (fun _ h9 => ok_X4_degree X gg_Paths_5 h9) dX10_turnNow_27 (fun r3 M4 => ?_)
    refine tj_aload_n (pc := 30) G 0 dX10_turnNow_30 rfl rfl ?_
    refine tj_getR (pc := 31) G (k := 0) (j := 2) (j2 := 2) tk_X10 (by decide) lc_0 rfl (by decide) rfl fl_X10_26 dX10_turnNow_31 ?_
    refine tj_iload_n (pc := 34) G 1 dX10_turnNow_34 rfl rfl ?_
    refine tj_aload_n (pc := 35) G 0 dX10_turnNow_35 rfl rfl ?_
    refine tj_getR (pc := 36) G (k := 0) (j := 6) (j2 := 6) tk_X10 (by decide) lc_0 rfl (by decide) rfl fl_X10_46 dX10_turnNow_36 ?_
    refine tj_getRN (pc := 39) G (k := 25) (j := 0) (j2 := 0) tk_X2 (by decide) lc_25 rfl (by decide) rfl fn_X10_160 dX10_turnNow_39 ?_
    refine tj_iload_n (pc := 42) G 1 dX10_turnNow_42 rfl rfl ?_
    refine tj_iald (pc := 43) G (k := 26) (i2 := w32 a1) (n2 := 8) (by decide) lc_26 rfl rfl dX10_turnNow_43 ?_
    refine tj_callVi (pc := 44) G [vI a1, vI (M4 26 (w32 a1))] mf_X4_goal (k := 5) (by decide) lc_5 rfl rfl ml_X10_163 (by decide) rfl rfl (Nat.le_of_ble_eq_true rfl) (fun _ h9 => ok_X4_goal X gg_Paths_5 h9) dX10_turnNow_44 (fun r5 M6 => ?_)
    refine tj_callVi (pc := 47) G [vR X 25, vI a1, vI r3, vI r5] mf_X9_turn (k := 15) (by decide) lc_15 rfl rfl ml_X10_179 (by decide) rfl rfl (Nat.le_of_ble_eq_true rfl) (fun _ h9 => ok_X9_turn X gg_Turner_15 gg_Moor_25 h9) dX10_turnNow_47 (fun r7 M8 => ?_)
    exact tj_iret (pc := 50) G dX10_turnNow_50
  refine tj_iconst (pc := 11) G dX10_turnNow_11 ?_
  exact tj_iret (pc := 12) G dX10_turnNow_12

def fx_X10_sheetEntry  (a1 : Int) (a2 : Int) (M : tp_M) : tp_O :=
(tp_lt a2 (fun x1 =>
(tp_jn1 (fun y2 M3 => 
(tp_jn1 (fun y4 M5 => 
(some (max 0 (w32 (min 9 (w32 y4))), M5))) (fun jk17 =>
(if w32 a1 = 1 then
(tp_lt (x_i2s a2) (fun x6 =>
(jk17 x6 M3)))
else
(jk17 y2 M3))))) (fun jk9 =>
(if w32 a1 = 0 then
(tp_lt (x_i2b a2) (fun x7 =>
(jk9 x7 M)))
else
(jk9 x1 M))))))
set_option maxRecDepth 100000 in
set_option maxHeartbeats 4000000 in
theorem ok_X10_sheetEntry (X : tp_X)  {a1 : Int} {a2 : Int}  {M : tp_M} {res : Int × tp_M} (h : fx_X10_sheetEntry  a1 a2 M = some res) : tp_Ret X LC 64 1 yX10_sheetEntry (Cond.code yX10_sheetEntry cX10_sheetEntry 3 (some .int)) 1 [vI a1, vI a2] M res := by
  refine tp_ofW (by decide +kernel) rfl rfl (by show _ ≤ 3; exact Nat.le_of_ble_eq_true rfl) h (fun Y G => ?_)
  show tp_J X Y LC 64 3 1 1 (fx_X10_sheetEntry  a1 a2 M) M [(0, vI a1), (1, vI a2)] [] 0
  unfold fx_X10_sheetEntry
  refine tj_iload_n (pc := 0) G 1 dX10_sheetEntry_0 rfl rfl ?_
  refine tj_istore_n (pc := 1) G (fun x1 => [(2, vI x1), (0, vI a1), (1, vI a2)]) dX10_sheetEntry_1 rfl (by decide) (fun _ => rfl) (fun x1 => ?_)
  refine tj_iload_n (pc := 2) G 1 dX10_sheetEntry_2 rfl rfl ?_
  refine tj_jn1 (fun y2 => [(0, vI a1), (1, vI a2), (2, vI y2)]) (fun y2 => []) 9 (fun y2 M3 => ?_) (fun jk9 hj9 => ?_)
  · refine tj_iload_n (pc := 9) G 0 dX10_sheetEntry_9 rfl rfl ?_
    refine tj_iconst (pc := 10) G dX10_sheetEntry_10 ?_
    refine tj_jn1 (fun y4 => [(2, vI y4)]) (fun y4 => []) 17 (fun y4 M5 => ?_) (fun jk17 hj17 => ?_)
    · refine tj_iconst (pc := 17) G dX10_sheetEntry_17 ?_
      refine tj_bipush (pc := 18) G dX10_sheetEntry_18 rfl ?_
      refine tj_iload_n (pc := 20) G 0 dX10_sheetEntry_20 rfl rfl ?_
      refine tj_min (pc := 21) G (a2 := 9) (b2 := w32 y4) rfl rfl ml_X10_193 mw_min (by decide) (Nat.le_of_ble_eq_true rfl) dX10_sheetEntry_21 ?_
      refine tj_max (pc := 24) G (a2 := 0) (b2 := w32 (min 9 (w32 y4))) rfl rfl ml_X10_198 mw_max (by decide) (Nat.le_of_ble_eq_true rfl) dX10_sheetEntry_24 ?_
      exact tj_iret (pc := 27) G dX10_sheetEntry_27
    refine tj_icmp_ne (pc := 11) G (tgt := 17) (a2 := w32 a1) (b2 := 1) dX10_sheetEntry_11 (by decide) rfl rfl ?_ ?_
    · exact tj_sub [2] rfl (hj17 y2 M3)
    refine tj_iload_n (pc := 14) G 1 dX10_sheetEntry_14 rfl rfl ?_
    refine tj_i2s (pc := 15) G dX10_sheetEntry_15 ?_
    refine tj_istore_n (pc := 16) G (fun x6 => [(2, vI x6), (0, vI a1), (1, vI a2)]) dX10_sheetEntry_16 rfl (by decide) (fun _ => rfl) (fun x6 => ?_)
    exact tj_sub [0] rfl (hj17 x6 M3)
  refine tj_if_ne (pc := 3) G (tgt := 9) (a2 := w32 a1) dX10_sheetEntry_3 (by decide) rfl ?_ ?_
  · exact tj_sub [1, 2, 0] rfl (hj9 x1 M)
  refine tj_iload_n (pc := 6) G 2 dX10_sheetEntry_6 rfl rfl ?_
  refine tj_i2b (pc := 7) G dX10_sheetEntry_7 ?_
  refine tj_istore_n (pc := 8) G (fun x7 => [(2, vI x7), (0, vI a1), (1, vI a2)]) dX10_sheetEntry_8 rfl (by decide) (fun _ => rfl) (fun x7 => ?_)
  exact tj_sub [1, 2, 0] rfl (hj9 x7 M)

def fx_X10_sheet_L44 (c1 : Int) (c3 : Int) (c4 : Int) (c5 : Int) (K115 : tp_M → tp_O) (rec : Int → tp_M → tp_O) (z6 : Int) (M7 : tp_M) : tp_O :=
(if w32 z6 < 8 then
(tp_jn1 (fun y8 M9 => 
(tp_lt y8 (fun x10 =>
(tp_jn1 (fun y11 M12 => 
(tp_ck (w32 z6) 8 (tp_lm (tp_up M12 27 (w32 z6) y11) (fun M13 =>
(tp_lt (z6 + 1) (fun x14 =>
(rec x14 M13))))))) (fun jk108 =>
(if w32 x10 = 0 then
(jk108 0 M9)
else
(tp_bd (fx_X10_sheetEntry c1 (c3 + ((z6 - 1) * c4)) M9) (fun r15 M16 =>
(jk108 r15 M16))))))))) (fun jk75 =>
(tp_jn0 (fun M17 => 
(jk75 0 M17)) (fun jk74 =>
(if w32 z6 ≤ w32 c5 then
(tp_bd (fx_X4_hasPost 5 z6 M7) (fun r18 M19 =>
(if w32 r18 = 0 then
(jk74 M19)
else
(jk75 1 M19))))
else
(jk74 M7))))))
else
(K115 M7))
def fx_X10_sheet  (a1 : Int) (a2 : Int) (a3 : Int) (a4 : Int) (M : tp_M) : tp_O :=
(if w32 a1 < 0 then
(some ((-1), M))
else
(if w32 a1 ≤ 3 then
(if w32 a2 < 8 then
(tp_jn0 (fun M1 => 
(tp_jn1 (fun y2 M3 => 
(tp_lt y2 (fun x4 =>
(tp_lt 1 (fun x5 =>
(tp_lp1 (fx_X10_sheet_L44 a1 a3 a4 x4 (fun M20 =>
(if w32 a1 = 3 then
(some ((-3), M20))
else
(tp_bd (fx_X2_walkers 25 M20) (fun r21 M22 =>
(some (r21, M22))))))) tp_F x5 M3)))))) (fun jk39 =>
(if w32 a1 = 3 then
(jk39 0 M1)
else
(jk39 a2 M1))))) (fun jk29 =>
(if w32 a1 = 3 then
(jk29 M)
else
(if w32 a2 < 0 then
(some ((-2), M))
else
(jk29 M)))))
else
(some ((-1), M)))
else
(some ((-1), M))))
set_option maxRecDepth 100000 in
set_option maxHeartbeats 4000000 in
theorem fx_X10_sheet_L44_ok {X : tp_X} {Y : tp_Y} (G : tp_Ok X Y 64 cX10_sheet 8 RX10 (some .int))  {c1 : Int} {c3 : Int} {c4 : Int} {c5 : Int} {K115 : tp_M → tp_O}   (hK115 : ∀ (M9 : tp_M), tp_J X Y LC 64 8 2 1 (K115  M9) M9 [(0, vR X 0), (1, vI c1)] [] 115) (n : Nat) : ∀ (z6 : Int) (M7 : tp_M), tp_J X Y LC 64 8 2 1 (tp_lp1 (fx_X10_sheet_L44  c1 c3 c4 c5 K115) n z6 M7) M7 [(0, vR X 0), (1, vI c1), (3, vI c3), (4, vI c4), (5, vI c5), (6, vI z6)] [] 44 := by
  refine tp_lp1_ok (P := fun o z6 M7 => tp_J X Y LC 64 8 2 1 (o) M7 [(0, vR X 0), (1, vI c1), (3, vI c3), (4, vI c4), (5, vI c5), (6, vI z6)] [] 44) (fun z6 M7 => tj_none) (fun rec hrec z6 M7 => ?_) n
  unfold fx_X10_sheet_L44
  refine tj_iload (pc := 44) G 5 dX10_sheet_44 rfl ?_
  refine tj_bipush (pc := 46) G dX10_sheet_46 rfl ?_
  refine tj_icmp_ge (pc := 48) G (tgt := 115) (a2 := w32 z6) (b2 := 8) dX10_sheet_48 (by decide) rfl rfl ?_ ?_
  · exact tj_sub [0, 1] rfl (hK115  M7)
  refine tj_iload (pc := 51) G 5 dX10_sheet_51 rfl ?_
  refine tj_iload (pc := 53) G 4 dX10_sheet_53 rfl ?_
  refine tj_jn1 (fun y8 => [(0, vR X 0), (1, vI c1), (3, vI c3), (4, vI c4), (5, vI c5), (6, vI z6)]) (fun y8 => [vI y8]) 75 (fun y8 M9 => ?_) (fun jk75 hj75 => ?_)
  · refine tj_istore (pc := 75) G (fun x10 => [(7, vI x10), (0, vR X 0), (1, vI c1), (3, vI c3), (4, vI c4), (5, vI c5), (6, vI z6)]) dX10_sheet_75 (by decide) (fun _ => rfl) (fun x10 => ?_)
    refine tj_aload_n (pc := 77) G 1 dX10_sheet_77 rfl rfl ?_
    refine tj_getR (pc := 78) G (k := 0) (j := 6) (j2 := 6) tk_X10 (by decide) lc_0 rfl (by decide) rfl fl_X10_46 dX10_sheet_78 ?_
    refine tj_getRN (pc := 81) G (k := 25) (j := 1) (j2 := 1) tk_X2 (by decide) lc_25 rfl (by decide) rfl fn_X10_167 dX10_sheet_81 ?_
    refine tj_iload (pc := 84) G 6 dX10_sheet_84 rfl ?_
    refine tj_iload (pc := 86) G 0 dX10_sheet_86 rfl ?_
    refine tj_jn1 (fun y11 => [(0, vR X 0), (1, vI c1), (3, vI c3), (4, vI c4), (5, vI c5), (6, vI z6)]) (fun y11 => [vI y11, vI z6, vR X 27]) 108 (fun y11 M12 => ?_) (fun jk108 hj108 => ?_)
    · refine tj_iast (pc := 108) G (k := 27) (i2 := w32 z6) (n2 := 8) (by decide) lc_27 rfl rfl dX10_sheet_108 (fun M13 => ?_)
      refine tj_iinc (pc := 109) G 5 (fun x14 => [(6, vI x14), (0, vR X 0), (1, vI c1), (3, vI c3), (4, vI c4), (5, vI c5)]) dX10_sheet_109 rfl (by decide) (fun _ => rfl) (fun x14 => ?_)
      refine tj_goto (pc := 112) G (tgt := 44) dX10_sheet_112 (by decide) ?_
      exact tj_sub [1, 2, 3, 4, 5, 0] rfl (hrec x14 M13)
    refine tj_if_eq (pc := 88) G (tgt := 107) (a2 := w32 x10) dX10_sheet_88 (by decide) rfl ?_ ?_
    · refine tj_iconst (pc := 107) G dX10_sheet_107 ?_
      exact tj_sub [1, 2, 3, 4, 5, 6] rfl (hj108 0 M9)
    refine tj_iload_n (pc := 91) G 2 dX10_sheet_91 rfl rfl ?_
    refine tj_iload_n (pc := 92) G 3 dX10_sheet_92 rfl rfl ?_
    refine tj_iload (pc := 93) G 6 dX10_sheet_93 rfl ?_
    refine tj_iconst (pc := 95) G dX10_sheet_95 ?_
    refine tj_isub (pc := 96) G dX10_sheet_96 ?_
    refine tj_iload (pc := 97) G 4 dX10_sheet_97 rfl ?_
    refine tj_imul (pc := 99) G dX10_sheet_99 ?_
    refine tj_iadd (pc := 100) G dX10_sheet_100 ?_
    refine tj_callSi (pc := 101) G [vI c1, vI (c3 + ((z6 - 1) * c4))] mf_X10_sheetEntry ml_X10_187 (by decide) rfl rfl (Nat.le_of_ble_eq_true rfl) (fun _ h9 => ok_X10_sheetEntry X  h9) dX10_sheet_101 (fun r15 M16 => ?_)
    refine tj_goto (pc := 104) G (tgt := 108) dX10_sheet_104 (by decide) ?_
    exact tj_sub [1, 2, 3, 4, 5, 6] rfl (hj108 r15 M16)
  refine tj_jn0 [(0, vR X 0), (1, vI c1), (3, vI c3), (4, vI c4), (5, vI c5), (6, vI z6)] [] 74 (fun M17 => ?_) (fun jk74 hj74 => ?_)
  · refine tj_iconst (pc := 74) G dX10_sheet_74 ?_
    exact tj_sub [0, 1, 2, 3, 4, 5] rfl (hj75 0 M17)
  refine tj_icmp_gt (pc := 55) G (tgt := 74) (a2 := w32 z6) (b2 := w32 c5) dX10_sheet_55 (by decide) rfl rfl ?_ ?_
  · exact tj_sub [0, 1, 2, 3, 4, 5] rfl (hj74  M7)
  refine tj_aload_n (pc := 58) G 0 dX10_sheet_58 rfl rfl ?_
  refine tj_getR (pc := 59) G (k := 0) (j := 2) (j2 := 2) tk_X10 (by decide) lc_0 rfl (by decide) rfl fl_X10_26 dX10_sheet_59 ?_
  refine tj_iload (pc := 62) G 5 dX10_sheet_62 rfl ?_
  refine tj_callVi (pc := 64) G [vI z6] mf_X4_hasPost (k := 5) (by decide) lc_5 rfl rfl ml_X10_176 (by decide) rfl rfl (Nat.le_of_ble_eq_true rfl) (fun _ h9 => ok_X4_hasPost X gg_Paths_5 h9) dX10_sheet_64 (fun r18 M19 => ?_)
  refine tj_if_eq (pc := 67) G (tgt := 74) (a2 := w32 r18) dX10_sheet_67 (by decide) rfl ?_ ?_
  · exact tj_sub [0, 1, 2, 3, 4, 5] rfl (hj74  M19)
  refine tj_iconst (pc := 70) G dX10_sheet_70 ?_
  refine tj_goto (pc := 71) G (tgt := 75) dX10_sheet_71 (by decide) ?_
  exact tj_sub [0, 1, 2, 3, 4, 5] rfl (hj75 1 M19)
set_option maxRecDepth 100000 in
set_option maxHeartbeats 4000000 in
theorem ok_X10_sheet (X : tp_X)  {a1 : Int} {a2 : Int} {a3 : Int} {a4 : Int}  {M : tp_M} {res : Int × tp_M} (h : fx_X10_sheet  a1 a2 a3 a4 M = some res) : tp_Ret X LC 64 1 yX10_sheet (Cond.code yX10_sheet cX10_sheet 8 (some .int)) 2 [vR X 0, vI a1, vI a2, vI a3, vI a4] M res := by
  refine tp_ofW (by decide +kernel) rfl rfl (by show _ ≤ 8; exact Nat.le_of_ble_eq_true rfl) h (fun Y G => ?_)
  show tp_J X Y LC 64 8 2 1 (fx_X10_sheet  a1 a2 a3 a4 M) M [(0, vR X 0), (1, vI a1), (2, vI a2), (3, vI a3), (4, vI a4)] [] 0
  unfold fx_X10_sheet
  refine tj_iload_n (pc := 0) G 1 dX10_sheet_0 rfl rfl ?_
  refine tj_if_lt (pc := 1) G (tgt := 15) (a2 := w32 a1) dX10_sheet_1 (by decide) rfl ?_ ?_
  · refine tj_iconst (pc := 15) G dX10_sheet_15 ?_
    exact tj_iret (pc := 16) G dX10_sheet_16
  refine tj_iload_n (pc := 4) G 1 dX10_sheet_4 rfl rfl ?_
  refine tj_iconst (pc := 5) G dX10_sheet_5 ?_
  refine tj_icmp_gt (pc := 6) G (tgt := 15) (a2 := w32 a1) (b2 := 3) dX10_sheet_6 (by decide) rfl rfl ?_ ?_
  · refine tj_iconst (pc := 15) G dX10_sheet_15 ?_
    exact tj_iret (pc := 16) G dX10_sheet_16
  refine tj_iload_n (pc := 9) G 2 dX10_sheet_9 rfl rfl ?_
  refine tj_bipush (pc := 10) G dX10_sheet_10 rfl ?_
  refine tj_icmp_lt (pc := 12) G (tgt := 17) (a2 := w32 a2) (b2 := 8) dX10_sheet_12 (by decide) rfl rfl ?_ ?_
  · refine tj_iload_n (pc := 17) G 1 dX10_sheet_17 rfl rfl ?_
    refine tj_iconst (pc := 18) G dX10_sheet_18 ?_
    refine tj_jn0 [(0, vR X 0), (1, vI a1), (2, vI a2), (3, vI a3), (4, vI a4)] [] 29 (fun M1 => ?_) (fun jk29 hj29 => ?_)
    · refine tj_iload_n (pc := 29) G 1 dX10_sheet_29 rfl rfl ?_
      refine tj_iconst (pc := 30) G dX10_sheet_30 ?_
      refine tj_jn1 (fun y2 => [(0, vR X 0), (1, vI a1), (3, vI a3), (4, vI a4)]) (fun y2 => [vI y2]) 39 (fun y2 M3 => ?_) (fun jk39 hj39 => ?_)
      · refine tj_istore (pc := 39) G (fun x4 => [(5, vI x4), (0, vR X 0), (1, vI a1), (3, vI a3), (4, vI a4)]) dX10_sheet_39 (by decide) (fun _ => rfl) (fun x4 => ?_)
        refine tj_iconst (pc := 41) G dX10_sheet_41 ?_
        refine tj_istore (pc := 42) G (fun x5 => [(6, vI x5), (5, vI x4), (0, vR X 0), (1, vI a1), (3, vI a3), (4, vI a4)]) dX10_sheet_42 (by decide) (fun _ => rfl) (fun x5 => ?_)
        refine tj_sub [2, 3, 4, 5, 1, 0] rfl (fx_X10_sheet_L44_ok G    (fun M20 => ?_) tp_F x5 M3)
        refine tj_iload_n (pc := 115) G 1 dX10_sheet_115 rfl rfl ?_
        refine tj_iconst (pc := 116) G dX10_sheet_116 ?_
        refine tj_icmp_ne (pc := 117) G (tgt := 125) (a2 := w32 a1) (b2 := 3) dX10_sheet_117 (by decide) rfl rfl ?_ ?_
        · refine tj_aload_n (pc := 125) G 0 dX10_sheet_125 rfl rfl ?_
          refine tj_getR (pc := 126) G (k := 0) (j := 6) (j2 := 6) tk_X10 (by decide) lc_0 rfl (by decide) rfl fl_X10_46 dX10_sheet_126 ?_
          refine tj_callVi (pc := 129) G [] mf_X2_walkers (k := 25) (by decide) lc_25 rfl rfl ml_X10_190 (by decide) rfl rfl (Nat.le_of_ble_eq_true rfl) (fun _ h9 => ok_X2_walkers X gg_Moor_25 h9) dX10_sheet_129 (fun r21 M22 => ?_)
          exact tj_iret (pc := 132) G dX10_sheet_132
        refine tj_bipush (pc := 120) G dX10_sheet_120 rfl ?_
        refine tj_goto (pc := 122) G (tgt := 132) dX10_sheet_122 (by decide) ?_
        exact tj_iret (pc := 132) G dX10_sheet_132
      refine tj_icmp_ne (pc := 31) G (tgt := 38) (a2 := w32 a1) (b2 := 3) dX10_sheet_31 (by decide) rfl rfl ?_ ?_
      · refine tj_iload_n (pc := 38) G 2 dX10_sheet_38 rfl rfl ?_
        exact tj_sub [0, 1, 3, 4] rfl (hj39 a2 M1)
      refine tj_iconst (pc := 34) G dX10_sheet_34 ?_
      refine tj_goto (pc := 35) G (tgt := 39) dX10_sheet_35 (by decide) ?_
      exact tj_sub [0, 1, 3, 4] rfl (hj39 0 M1)
    refine tj_icmp_eq (pc := 19) G (tgt := 29) (a2 := w32 a1) (b2 := 3) dX10_sheet_19 (by decide) rfl rfl ?_ ?_
    · exact tj_sub [0, 1, 2, 3, 4] rfl (hj29  M)
    refine tj_iload_n (pc := 22) G 2 dX10_sheet_22 rfl rfl ?_
    refine tj_if_ge (pc := 23) G (tgt := 29) (a2 := w32 a2) dX10_sheet_23 (by decide) rfl ?_ ?_
    · exact tj_sub [0, 1, 2, 3, 4] rfl (hj29  M)
    refine tj_bipush (pc := 26) G dX10_sheet_26 rfl ?_
    exact tj_iret (pc := 28) G dX10_sheet_28
  refine tj_iconst (pc := 15) G dX10_sheet_15 ?_
  exact tj_iret (pc := 16) G dX10_sheet_16

def fx_X10_actComes  (a1 : Int) (a2 : Int) (M : tp_M) : tp_O :=
(tp_bd (fx_X4_hasPost 5 a1 M) (fun r1 M2 =>
(if w32 r1 = 0 then
(some ((-1), M2))
else
(if w32 a2 < 1 then
(some ((-1), M2))
else
(if w32 a2 ≤ 99 then
(tp_ck (w32 a1) 8 (if w32 ((M2 27 (w32 a1)) + a2) ≤ 99 then
(tp_ck (w32 a1) 8 (tp_ck (w32 a1) 8 (tp_lm (tp_up M2 27 (w32 a1) ((M2 27 (w32 a1)) + a2)) (fun M3 =>
(tp_ck (w32 a1) 8 (some (M3 27 (w32 a1), M3)))))))
else
(some ((-2), M2))))
else
(some ((-1), M2)))))))
set_option maxRecDepth 100000 in
set_option maxHeartbeats 4000000 in
theorem ok_X10_actComes (X : tp_X)  {a1 : Int} {a2 : Int}  {M : tp_M} {res : Int × tp_M} (h : fx_X10_actComes  a1 a2 M = some res) : tp_Ret X LC 64 1 yX10_actComes (Cond.code yX10_actComes cX10_actComes 3 (some .int)) 2 [vR X 0, vI a1, vI a2] M res := by
  refine tp_ofW (by decide +kernel) rfl rfl (by show _ ≤ 3; exact Nat.le_of_ble_eq_true rfl) h (fun Y G => ?_)
  show tp_J X Y LC 64 3 2 1 (fx_X10_actComes  a1 a2 M) M [(0, vR X 0), (1, vI a1), (2, vI a2)] [] 0
  unfold fx_X10_actComes
  refine tj_aload_n (pc := 0) G 0 dX10_actComes_0 rfl rfl ?_
  refine tj_getR (pc := 1) G (k := 0) (j := 2) (j2 := 2) tk_X10 (by decide) lc_0 rfl (by decide) rfl fl_X10_26 dX10_actComes_1 ?_
  refine tj_iload_n (pc := 4) G 1 dX10_actComes_4 rfl rfl ?_
  refine tj_callVi (pc := 5) G [vI a1] mf_X4_hasPost (k := 5) (by decide) lc_5 rfl rfl ml_X10_176 (by decide) rfl rfl (Nat.le_of_ble_eq_true rfl) (fun _ h9 => ok_X4_hasPost X gg_Paths_5 h9) dX10_actComes_5 (fun r1 M2 => ?_)
  refine tj_if_eq (pc := 8) G (tgt := 22) (a2 := w32 r1) dX10_actComes_8 (by decide) rfl ?_ ?_
  · refine tj_iconst (pc := 22) G dX10_actComes_22 ?_
    exact tj_iret (pc := 23) G dX10_actComes_23
  refine tj_iload_n (pc := 11) G 2 dX10_actComes_11 rfl rfl ?_
  refine tj_iconst (pc := 12) G dX10_actComes_12 ?_
  refine tj_icmp_lt (pc := 13) G (tgt := 22) (a2 := w32 a2) (b2 := 1) dX10_actComes_13 (by decide) rfl rfl ?_ ?_
  · refine tj_iconst (pc := 22) G dX10_actComes_22 ?_
    exact tj_iret (pc := 23) G dX10_actComes_23
  refine tj_iload_n (pc := 16) G 2 dX10_actComes_16 rfl rfl ?_
  refine tj_bipush (pc := 17) G dX10_actComes_17 rfl ?_
  refine tj_icmp_le (pc := 19) G (tgt := 24) (a2 := w32 a2) (b2 := 99) dX10_actComes_19 (by decide) rfl rfl ?_ ?_
  · refine tj_aload_n (pc := 24) G 0 dX10_actComes_24 rfl rfl ?_
    refine tj_getR (pc := 25) G (k := 0) (j := 6) (j2 := 6) tk_X10 (by decide) lc_0 rfl (by decide) rfl fl_X10_46 dX10_actComes_25 ?_
    refine tj_getRN (pc := 28) G (k := 25) (j := 1) (j2 := 1) tk_X2 (by decide) lc_25 rfl (by decide) rfl fn_X10_167 dX10_actComes_28 ?_
    refine tj_iload_n (pc := 31) G 1 dX10_actComes_31 rfl rfl ?_
    refine tj_iald (pc := 32) G (k := 27) (i2 := w32 a1) (n2 := 8) (by decide) lc_27 rfl rfl dX10_actComes_32 ?_
    refine tj_iload_n (pc := 33) G 2 dX10_actComes_33 rfl rfl ?_
    refine tj_iadd (pc := 34) G dX10_actComes_34 ?_
    refine tj_bipush (pc := 35) G dX10_actComes_35 rfl ?_
    refine tj_icmp_le (pc := 37) G (tgt := 43) (a2 := w32 ((M2 27 (w32 a1)) + a2)) (b2 := 99) dX10_actComes_37 (by decide) rfl rfl ?_ ?_
    · refine tj_aload_n (pc := 43) G 0 dX10_actComes_43 rfl rfl ?_
      refine tj_getR (pc := 44) G (k := 0) (j := 6) (j2 := 6) tk_X10 (by decide) lc_0 rfl (by decide) rfl fl_X10_46 dX10_actComes_44 ?_
      refine tj_getRN (pc := 47) G (k := 25) (j := 1) (j2 := 1) tk_X2 (by decide) lc_25 rfl (by decide) rfl fn_X10_167 dX10_actComes_47 ?_
      refine tj_iload_n (pc := 50) G 1 dX10_actComes_50 rfl rfl ?_
      refine tj_dup2 (pc := 51) G dX10_actComes_51 rfl rfl ?_
      refine tj_iald (pc := 52) G (k := 27) (i2 := w32 a1) (n2 := 8) (by decide) lc_27 rfl rfl dX10_actComes_52 ?_
      refine tj_iload_n (pc := 53) G 2 dX10_actComes_53 rfl rfl ?_
      refine tj_iadd (pc := 54) G dX10_actComes_54 ?_
      refine tj_iast (pc := 55) G (k := 27) (i2 := w32 a1) (n2 := 8) (by decide) lc_27 rfl rfl dX10_actComes_55 (fun M3 => ?_)
      refine tj_aload_n (pc := 56) G 0 dX10_actComes_56 rfl rfl ?_
      refine tj_getR (pc := 57) G (k := 0) (j := 6) (j2 := 6) tk_X10 (by decide) lc_0 rfl (by decide) rfl fl_X10_46 dX10_actComes_57 ?_
      refine tj_getRN (pc := 60) G (k := 25) (j := 1) (j2 := 1) tk_X2 (by decide) lc_25 rfl (by decide) rfl fn_X10_167 dX10_actComes_60 ?_
      refine tj_iload_n (pc := 63) G 1 dX10_actComes_63 rfl rfl ?_
      refine tj_iald (pc := 64) G (k := 27) (i2 := w32 a1) (n2 := 8) (by decide) lc_27 rfl rfl dX10_actComes_64 ?_
      exact tj_iret (pc := 65) G dX10_actComes_65
    refine tj_bipush (pc := 40) G dX10_actComes_40 rfl ?_
    exact tj_iret (pc := 42) G dX10_actComes_42
  refine tj_iconst (pc := 22) G dX10_actComes_22 ?_
  exact tj_iret (pc := 23) G dX10_actComes_23

def fx_X10_kept  (a1 : Int) (M : tp_M) : tp_O :=
(if w32 a1 < 0 then
(some (a1, M))
else
(tp_bd (fx_X3_push 31 M) (fun r1 M2 =>
(some (a1, M2)))))
set_option maxRecDepth 100000 in
set_option maxHeartbeats 4000000 in
theorem ok_X10_kept (X : tp_X)  {a1 : Int}  {M : tp_M} {res : Int × tp_M} (h : fx_X10_kept  a1 M = some res) : tp_Ret X LC 64 1 yX10_kept (Cond.code yX10_kept cX10_kept 2 (some .int)) 3 [vR X 0, vI a1] M res := by
  refine tp_ofW (by decide +kernel) rfl rfl (by show _ ≤ 2; exact Nat.le_of_ble_eq_true rfl) h (fun Y G => ?_)
  show tp_J X Y LC 64 2 3 1 (fx_X10_kept  a1 M) M [(0, vR X 0), (1, vI a1)] [] 0
  unfold fx_X10_kept
  refine tj_iload_n (pc := 0) G 1 dX10_kept_0 rfl rfl ?_
  refine tj_if_lt (pc := 1) G (tgt := 15) (a2 := w32 a1) dX10_kept_1 (by decide) rfl ?_ ?_
  · refine tj_iload_n (pc := 15) G 1 dX10_kept_15 rfl rfl ?_
    exact tj_iret (pc := 16) G dX10_kept_16
  refine tj_aload_n (pc := 4) G 0 dX10_kept_4 rfl rfl ?_
  refine tj_getR (pc := 5) G (k := 0) (j := 9) (j2 := 9) tk_X10 (by decide) lc_0 rfl (by decide) rfl fl_X10_59 dX10_kept_5 ?_
  refine tj_aload_n (pc := 8) G 0 dX10_kept_8 rfl rfl ?_
  refine tj_getR (pc := 9) G (k := 0) (j := 8) (j2 := 8) tk_X10 (by decide) lc_0 rfl (by decide) rfl fl_X10_53 dX10_kept_9 ?_
  refine tj_callVv (pc := 12) G [vR X 31] mf_X3_push (k := 34) (by decide) lc_34 rfl rfl ml_X10_238 (by decide) rfl rfl (Nat.le_of_ble_eq_true rfl) (fun _ h9 => ok_X3_push X gg_Moor_31 h9) dX10_kept_12 (fun r1 M2 => ?_)
  refine tj_iload_n (pc := 15) G 1 dX10_kept_15 rfl rfl ?_
  exact tj_iret (pc := 16) G dX10_kept_16

def fx_X10_comes  (a1 : Int) (a2 : Int) (M : tp_M) : tp_O :=
(tp_bd (fx_X2_copyFrom 31 25 M) (fun r1 M2 =>
(tp_bd (fx_X10_actComes a1 a2 M2) (fun r3 M4 =>
(tp_bd (fx_X10_kept r3 M4) (fun r5 M6 =>
(some (r5, M6))))))))
set_option maxRecDepth 100000 in
set_option maxHeartbeats 4000000 in
theorem ok_X10_comes (X : tp_X)  {a1 : Int} {a2 : Int}  {M : tp_M} {res : Int × tp_M} (h : fx_X10_comes  a1 a2 M = some res) : tp_Ret X LC 64 1 yX10_comes (Cond.code yX10_comes cX10_comes 3 (some .int)) 4 [vR X 0, vI a1, vI a2] M res := by
  refine tp_ofW (by decide +kernel) rfl rfl (by show _ ≤ 3; exact Nat.le_of_ble_eq_true rfl) h (fun Y G => ?_)
  show tp_J X Y LC 64 3 4 1 (fx_X10_comes  a1 a2 M) M [(0, vR X 0), (1, vI a1), (2, vI a2)] [] 0
  unfold fx_X10_comes
  refine tj_aload_n (pc := 0) G 0 dX10_comes_0 rfl rfl ?_
  refine tj_getR (pc := 1) G (k := 0) (j := 8) (j2 := 8) tk_X10 (by decide) lc_0 rfl (by decide) rfl fl_X10_53 dX10_comes_1 ?_
  refine tj_aload_n (pc := 4) G 0 dX10_comes_4 rfl rfl ?_
  refine tj_getR (pc := 5) G (k := 0) (j := 6) (j2 := 6) tk_X10 (by decide) lc_0 rfl (by decide) rfl fl_X10_46 dX10_comes_5 ?_
  refine tj_callVv (pc := 8) G [vR X 25] mf_X2_copyFrom (k := 31) (by decide) lc_31 rfl rfl ml_X10_201 (by decide) rfl rfl (Nat.le_of_ble_eq_true rfl) (fun _ h9 => ok_X2_copyFrom X gg_Moor_31 gg_Moor_25 h9) dX10_comes_8 (fun r1 M2 => ?_)
  refine tj_aload_n (pc := 11) G 0 dX10_comes_11 rfl rfl ?_
  refine tj_aload_n (pc := 12) G 0 dX10_comes_12 rfl rfl ?_
  refine tj_iload_n (pc := 13) G 1 dX10_comes_13 rfl rfl ?_
  refine tj_iload_n (pc := 14) G 2 dX10_comes_14 rfl rfl ?_
  refine tj_callVi (pc := 15) G [vI a1, vI a2] mf_X10_actComes (k := 0) (by decide) lc_0 rfl rfl ml_X10_204 (by decide) rfl rfl (Nat.le_of_ble_eq_true rfl) (fun _ h9 => ok_X10_actComes X  h9) dX10_comes_15 (fun r3 M4 => ?_)
  refine tj_callVi (pc := 18) G [vI r3] mf_X10_kept (k := 0) (by decide) lc_0 rfl rfl ml_X10_207 (by decide) rfl rfl (Nat.le_of_ble_eq_true rfl) (fun _ h9 => ok_X10_kept X  h9) dX10_comes_18 (fun r5 M6 => ?_)
  exact tj_iret (pc := 21) G dX10_comes_21

def fx_X10_stride  (k1 : Nat) (k2 : Nat) (a3 : Int) (M : tp_M) : tp_O :=
(tp_bd (fx_X4_degree 5 a3 M) (fun r1 M2 =>
(tp_lt r1 (fun x3 =>
(if w32 x3 < 1 then
(some (0, M2))
else
(tp_ck (w32 a3) 8 (tp_bd (fx_X4_goal 5 a3 (M2 (k1 + 1) (w32 a3)) M2) (fun r4 M5 =>
(tp_lt r4 (fun x6 =>
(tp_bd (fx_X9_turn k2 k1 a3 x3 x6 M5) (fun r7 M8 =>
(tp_lt r7 (fun x9 =>
(tp_ck (w32 a3) 8 (tp_nz (w32 x3) (tp_ck (w32 a3) 8 (tp_lm (tp_up M8 (k1 + 1) (w32 a3) (x_rem ((M8 (k1 + 1) (w32 a3)) + x9) x3)) (fun M10 =>
(tp_jn0 (fun M11 => 
(tp_lm (tp_up M11 k1 3 (min 99999 (w32 ((M11 k1 3) + 1)))) (fun M12 =>
(some (x6, M12))))) (fun jk74 =>
(if w32 x6 = 0 then
(tp_bd (fx_X2_house k1 1 M10) (fun r13 M14 =>
(jk74 M14)))
else
(jk74 M10)))))))))))))))))))))))
set_option maxRecDepth 100000 in
set_option maxHeartbeats 4000000 in
theorem ok_X10_stride (X : tp_X)  {k1 : Nat} {k2 : Nat} {a3 : Int} (hk1 : tg_Moor LC 64 k1) (hk2 : tg_Turner LC 64 k2) {M : tp_M} {res : Int × tp_M} (h : fx_X10_stride  k1 k2 a3 M = some res) : tp_Ret X LC 64 1 yX10_stride (Cond.code yX10_stride cX10_stride 7 (some .int)) 3 [vR X 0, vR X k1, vR X k2, vI a3] M res := by
  refine tp_ofW (by decide +kernel) rfl rfl (by show _ ≤ 7; exact Nat.le_of_ble_eq_true rfl) h (fun Y G => ?_)
  show tp_J X Y LC 64 7 3 1 (fx_X10_stride  k1 k2 a3 M) M [(0, vR X 0), (1, vR X k1), (2, vR X k2), (3, vI a3)] [] 0
  unfold fx_X10_stride
  refine tj_aload_n (pc := 0) G 0 dX10_stride_0 rfl rfl ?_
  refine tj_getR (pc := 1) G (k := 0) (j := 2) (j2 := 2) tk_X10 (by decide) lc_0 rfl (by decide) rfl fl_X10_26 dX10_stride_1 ?_
  refine tj_iload_n (pc := 4) G 3 dX10_stride_4 rfl rfl ?_
  refine tj_callVi (pc := 5) G [vI a3] mf_X4_degree (k := 5) (by decide) lc_5 rfl rfl ml_X10_156 (by decide) rfl rfl (Nat.le_of_ble_eq_true rfl) (fun _ h9 => ok_X4_degree X gg_Paths_5 h9) dX10_stride_5 (fun r1 M2 => ?_)
  refine tj_istore (pc := 8) G (fun x3 => [(4, vI x3), (0, vR X 0), (1, vR X k1), (2, vR X k2), (3, vI a3)]) dX10_stride_8 (by decide) (fun _ => rfl) (fun x3 => ?_)
  refine tj_iload (pc := 10) G 0 dX10_stride_10 rfl ?_
  refine tj_iconst (pc := 12) G dX10_stride_12 ?_
  refine tj_icmp_ge (pc := 13) G (tgt := 18) (a2 := w32 x3) (b2 := 1) dX10_stride_13 (by decide) rfl rfl ?_ ?_
  · refine tj_aload_n (pc := 18) G 1 dX10_stride_18 rfl rfl ?_
    refine tj_getR (pc := 19) G (k := 0) (j := 2) (j2 := 2) tk_X10 (by decide) lc_0 rfl (by decide) rfl fl_X10_26 dX10_stride_19 ?_
    refine tj_iload_n (pc := 22) G 4 dX10_stride_22 rfl rfl ?_
    refine tj_aload_n (pc := 23) G 2 dX10_stride_23 rfl rfl ?_
    refine tj_getRN (pc := 24) G (k := k1) (j := 0) (j2 := 0) tk_X2 (tg_Moor_l0 hk1) hk1.2.1 rfl (by decide) rfl fn_X10_160 dX10_stride_24 ?_
    refine tj_iload_n (pc := 27) G 4 dX10_stride_27 rfl rfl ?_
    refine tj_iald (pc := 28) G (k := (k1 + 1)) (i2 := w32 a3) (n2 := 8) (tg_Moor_l1 hk1) hk1.2.2.1 rfl rfl dX10_stride_28 ?_
    refine tj_callVi (pc := 29) G [vI a3, vI (M2 (k1 + 1) (w32 a3))] mf_X4_goal (k := 5) (by decide) lc_5 rfl rfl ml_X10_163 (by decide) rfl rfl (Nat.le_of_ble_eq_true rfl) (fun _ h9 => ok_X4_goal X gg_Paths_5 h9) dX10_stride_29 (fun r4 M5 => ?_)
    refine tj_istore (pc := 32) G (fun x6 => [(5, vI x6), (4, vI x3), (0, vR X 0), (1, vR X k1), (2, vR X k2), (3, vI a3)]) dX10_stride_32 (by decide) (fun _ => rfl) (fun x6 => ?_)
    refine tj_aload_n (pc := 34) G 4 dX10_stride_34 rfl rfl ?_
    refine tj_aload_n (pc := 35) G 3 dX10_stride_35 rfl rfl ?_
    refine tj_iload_n (pc := 36) G 5 dX10_stride_36 rfl rfl ?_
    refine tj_iload (pc := 37) G 1 dX10_stride_37 rfl ?_
    refine tj_iload (pc := 39) G 0 dX10_stride_39 rfl ?_
    refine tj_callVi (pc := 41) G [vR X k1, vI a3, vI x3, vI x6] mf_X9_turn (k := k2) (tg_Turner_l0 hk2) hk2.2.1 rfl rfl ml_X10_179 (by decide) rfl rfl (Nat.le_of_ble_eq_true rfl) (fun _ h9 => ok_X9_turn X hk2 hk1 h9) dX10_stride_41 (fun r7 M8 => ?_)
    refine tj_istore (pc := 44) G (fun x9 => [(6, vI x9), (5, vI x6), (4, vI x3), (0, vR X 0), (1, vR X k1), (2, vR X k2), (3, vI a3)]) dX10_stride_44 (by decide) (fun _ => rfl) (fun x9 => ?_)
    refine tj_aload_n (pc := 46) G 4 dX10_stride_46 rfl rfl ?_
    refine tj_getRN (pc := 47) G (k := k1) (j := 0) (j2 := 0) tk_X2 (tg_Moor_l0 hk1) hk1.2.1 rfl (by decide) rfl fn_X10_160 dX10_stride_47 ?_
    refine tj_iload_n (pc := 50) G 6 dX10_stride_50 rfl rfl ?_
    refine tj_aload_n (pc := 51) G 4 dX10_stride_51 rfl rfl ?_
    refine tj_getRN (pc := 52) G (k := k1) (j := 0) (j2 := 0) tk_X2 (tg_Moor_l0 hk1) hk1.2.1 rfl (by decide) rfl fn_X10_160 dX10_stride_52 ?_
    refine tj_iload_n (pc := 55) G 6 dX10_stride_55 rfl rfl ?_
    refine tj_iald (pc := 56) G (k := (k1 + 1)) (i2 := w32 a3) (n2 := 8) (tg_Moor_l1 hk1) hk1.2.2.1 rfl rfl dX10_stride_56 ?_
    refine tj_iload (pc := 57) G 0 dX10_stride_57 rfl ?_
    refine tj_iadd (pc := 59) G dX10_stride_59 ?_
    refine tj_iload (pc := 60) G 2 dX10_stride_60 rfl ?_
    refine tj_irem (pc := 62) G (b2 := w32 x3) dX10_stride_62 rfl ?_
    refine tj_iast (pc := 63) G (k := (k1 + 1)) (i2 := w32 a3) (n2 := 8) (tg_Moor_l1 hk1) hk1.2.2.1 rfl rfl dX10_stride_63 (fun M10 => ?_)
    refine tj_iload (pc := 64) G 1 dX10_stride_64 rfl ?_
    refine tj_jn0 [(1, vR X k1), (5, vI x6)] [] 74 (fun M11 => ?_) (fun jk74 hj74 => ?_)
    · refine tj_aload_n (pc := 74) G 0 dX10_stride_74 rfl rfl ?_
      refine tj_ldcw (pc := 75) G (v := 99999) dX10_stride_75 ct_X10_306 rfl ?_
      refine tj_aload_n (pc := 78) G 0 dX10_stride_78 rfl rfl ?_
      refine tj_getIN (pc := 79) G (k := k1) (j := 3) (j2 := 3) tk_X2 (tg_Moor_l0 hk1) hk1.2.1 rfl (by decide) rfl fn_X10_307 dX10_stride_79 ?_
      refine tj_iconst (pc := 82) G dX10_stride_82 ?_
      refine tj_iadd (pc := 83) G dX10_stride_83 ?_
      refine tj_min (pc := 84) G (a2 := 99999) (b2 := w32 ((M11 k1 3) + 1)) rfl rfl ml_X10_193 mw_min (by decide) (Nat.le_of_ble_eq_true rfl) dX10_stride_84 ?_
      refine tj_putIN (pc := 87) G (k := k1) (j := 3) (j2 := 3) tk_X2 (tg_Moor_l0 hk1) hk1.2.1 rfl (by decide) rfl fn_X10_307 rfl rfl dX10_stride_87 (fun M12 => ?_)
      refine tj_iload (pc := 90) G 1 dX10_stride_90 rfl ?_
      exact tj_iret (pc := 92) G dX10_stride_92
    refine tj_if_ne (pc := 66) G (tgt := 74) (a2 := w32 x6) dX10_stride_66 (by decide) rfl ?_ ?_
    · exact tj_sub [4, 1] rfl (hj74  M10)
    refine tj_aload_n (pc := 69) G 4 dX10_stride_69 rfl rfl ?_
    refine tj_iconst (pc := 70) G dX10_stride_70 ?_
    refine tj_callVv (pc := 71) G [vI 1] mf_X2_house (k := k1) (tg_Moor_l0 hk1) hk1.2.1 rfl rfl ml_X10_287 (by decide) rfl rfl (Nat.le_of_ble_eq_true rfl) (fun _ h9 => ok_X2_house X hk1 h9) dX10_stride_71 (fun r13 M14 => ?_)
    exact tj_sub [4, 1] rfl (hj74  M14)
  refine tj_iconst (pc := 16) G dX10_stride_16 ?_
  exact tj_iret (pc := 17) G dX10_stride_17
