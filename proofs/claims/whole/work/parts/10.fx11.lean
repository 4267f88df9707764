def fx_X11_pass_L55 (c1 : Int) (c2 : Int) (c3 : Int) (K111 : Int → Int → tp_M → tp_O) (rec : Int → Int → Int → tp_M → tp_O) (z13 z14 z15 : Int) (M16 : tp_M) : tp_O :=
(if w32 z15 < w32 c3 then
(tp_bd (fx_X11_walkOf c1 M16) (fun r19 M20 =>
(tp_lt r19 (fun x21 =>
(if w32 x21 < 0 then
(some ((-3), M20))
else
(tp_ck (w32 c2) 8 (tp_jn1 (fun y22 M23 => 
(tp_bd (fx_X11_flag y22 M23) (fun r24 M25 =>
(tp_lt (z13 + r24) (fun x26 =>
(tp_lt (z14 + x21) (fun x27 =>
(tp_lt (z15 + 1) (fun x28 =>
(rec x26 x27 x28 M25)))))))))) (fun jk92 =>
(if w32 (M20 19 (w32 c2)) ≤ 0 then
(jk92 0 M20)
else
(jk92 1 M20))))))))))
else
(K111 z13 z14 M16))
def fx_X11_pass  (a1 : Int) (a2 : Int) (a3 : Int) (M : tp_M) : tp_O :=
(tp_lm (tp_up M 0 0 0) (fun M1 =>
(tp_bd (fx_X11_isOut a1 M1) (fun r2 M3 =>
(if w32 r2 = 0 then
(some ((-1), M3))
else
(tp_bd (fx_X11_isOut a2 M3) (fun r4 M5 =>
(if w32 r4 = 0 then
(some ((-1), M5))
else
(tp_bd (fx_X11_in (w32 a3) 1 60 M5) (fun r6 M7 =>
(if w32 r6 = 0 then
(some ((-1), M7))
else
(tp_bd (fx_X11_copies 5 17 4 17 M7) (fun r8 M9 =>
(tp_lt 0 (fun x10 =>
(tp_lt 0 (fun x11 =>
(tp_lt 0 (fun x12 =>
(tp_lp3 (fx_X11_pass_L55 a1 a2 a3 (fun y17 y18 M29 =>
(tp_lm (tp_up M29 0 1 0) (fun M30 =>
(tp_bd (fx_X11_enters (w32 y18) M30) (fun r31 M32 =>
(some (y17, M32)))))))) tp_F x10 x11 x12 M9))))))))))))))))))))
set_option maxRecDepth 100000 in
set_option maxHeartbeats 4000000 in
theorem fx_X11_pass_L55_ok {X : tp_X} {Y : tp_Y} (G : tp_Ok X Y 34 cX11_pass 8 RX11 (some .int))  {c1 : Int} {c2 : Int} {c3 : Int} {K111 : Int → Int → tp_M → tp_O}   (hK111 : ∀ (y17 y18 : Int) (M9 : tp_M), tp_J X Y LM 34 8 8 1 (K111 y17 y18 M9) M9 [(0, vR X 0), (4, vI y17), (5, vI y18)] [] 111) (n : Nat) : ∀ (z13 z14 z15 : Int) (M16 : tp_M), tp_J X Y LM 34 8 8 1 (tp_lp3 (fx_X11_pass_L55  c1 c2 c3 K111) n z13 z14 z15 M16) M16 [(0, vR X 0), (1, vI c1), (2, vI c2), (3, vI c3), (4, vI z13), (5, vI z14), (6, vI z15)] [] 55 := by
  refine tp_lp3_ok (P := fun o z13 z14 z15 M16 => tp_J X Y LM 34 8 8 1 (o) M16 [(0, vR X 0), (1, vI c1), (2, vI c2), (3, vI c3), (4, vI z13), (5, vI z14), (6, vI z15)] [] 55) (fun z13 z14 z15 M16 => tj_none) (fun rec hrec z13 z14 z15 M16 => ?_) n
  unfold fx_X11_pass_L55
  refine tj_iload (pc := 55) G 6 dX11_pass_55 rfl ?_
  refine tj_iload_n (pc := 57) G 3 dX11_pass_57 rfl rfl ?_
  refine tj_icmp_ge (pc := 58) G (tgt := 111) (a2 := w32 z15) (b2 := w32 c3) dX11_pass_58 (by decide) rfl rfl ?_ ?_
  · exact tj_sub [0, 4, 5] rfl (hK111 z13 z14 M16)
  refine tj_aload_n (pc := 61) G 0 dX11_pass_61 rfl rfl ?_
  refine tj_iload_n (pc := 62) G 1 dX11_pass_62 rfl rfl ?_
  refine tj_callVi (pc := 63) G [vI c1] mf_X11_walkOf (k := 0) (by decide) lm_0 rfl rfl ml_X11_368 (by decide) rfl rfl (Nat.le_of_ble_eq_true rfl) (fun _ h9 => ok_X11_walkOf X  h9) dX11_pass_63 (fun r19 M20 => ?_)
  refine tj_istore (pc := 66) G (fun x21 => [(7, vI x21), (0, vR X 0), (1, vI c1), (2, vI c2), (3, vI c3), (4, vI z13), (5, vI z14), (6, vI z15)]) dX11_pass_66 (by decide) (fun _ => rfl) (fun x21 => ?_)
  refine tj_iload (pc := 68) G 0 dX11_pass_68 rfl ?_
  refine tj_if_ge (pc := 70) G (tgt := 76) (a2 := w32 x21) dX11_pass_70 (by decide) rfl ?_ ?_
  · refine tj_iload (pc := 76) G 5 dX11_pass_76 rfl ?_
    refine tj_aload_n (pc := 78) G 1 dX11_pass_78 rfl rfl ?_
    refine tj_getR (pc := 79) G (k := 0) (j := 31) (j2 := 31) tk_X11 (by decide) lm_0 rfl (by decide) rfl fl_X11_83 dX11_pass_79 ?_
    refine tj_iload_n (pc := 82) G 3 dX11_pass_82 rfl rfl ?_
    refine tj_iald (pc := 83) G (k := 19) (i2 := w32 c2) (n2 := 8) (by decide) lm_19 rfl rfl dX11_pass_83 ?_
    refine tj_jn1 (fun y22 => [(0, vR X 0), (1, vI c1), (2, vI c2), (3, vI c3), (5, vI z14), (6, vI z15), (7, vI x21)]) (fun y22 => [vI y22, vI z13]) 92 (fun y22 M23 => ?_) (fun jk92 hj92 => ?_)
    · refine tj_callSi (pc := 92) G [vI y22] mf_X11_flag ml_X11_151 (by decide) rfl rfl (Nat.le_of_ble_eq_true rfl) (fun _ h9 => ok_X11_flag X  h9) dX11_pass_92 (fun r24 M25 => ?_)
      refine tj_iadd (pc := 95) G dX11_pass_95 ?_
      refine tj_istore (pc := 96) G (fun x26 => [(4, vI x26), (0, vR X 0), (1, vI c1), (2, vI c2), (3, vI c3), (5, vI z14), (6, vI z15), (7, vI x21)]) dX11_pass_96 (by decide) (fun _ => rfl) (fun x26 => ?_)
      refine tj_iload (pc := 98) G 5 dX11_pass_98 rfl ?_
      refine tj_iload (pc := 100) G 7 dX11_pass_100 rfl ?_
      refine tj_iadd (pc := 102) G dX11_pass_102 ?_
      refine tj_istore (pc := 103) G (fun x27 => [(5, vI x27), (4, vI x26), (0, vR X 0), (1, vI c1), (2, vI c2), (3, vI c3), (6, vI z15), (7, vI x21)]) dX11_pass_103 (by decide) (fun _ => rfl) (fun x27 => ?_)
      refine tj_iinc (pc := 105) G 6 (fun x28 => [(6, vI x28), (5, vI x27), (4, vI x26), (0, vR X 0), (1, vI c1), (2, vI c2), (3, vI c3), (7, vI x21)]) dX11_pass_105 rfl (by decide) (fun _ => rfl) (fun x28 => ?_)
      refine tj_goto (pc := 108) G (tgt := 55) dX11_pass_108 (by decide) ?_
      exact tj_sub [3, 4, 5, 6, 2, 1, 0] rfl (hrec x26 x27 x28 M25)
    refine tj_if_le (pc := 84) G (tgt := 91) (a2 := w32 (M20 19 (w32 c2))) dX11_pass_84 (by decide) rfl ?_ ?_
    · refine tj_iconst (pc := 91) G dX11_pass_91 ?_
      exact tj_sub [1, 2, 3, 4, 6, 7, 0] rfl (hj92 0 M20)
    refine tj_iconst (pc := 87) G dX11_pass_87 ?_
    refine tj_goto (pc := 88) G (tgt := 92) dX11_pass_88 (by decide) ?_
    exact tj_sub [1, 2, 3, 4, 6, 7, 0] rfl (hj92 1 M20)
  refine tj_bipush (pc := 73) G dX11_pass_73 rfl ?_
  exact tj_iret (pc := 75) G dX11_pass_75
set_option maxRecDepth 100000 in
set_option maxHeartbeats 4000000 in
theorem ok_X11_pass (X : tp_X)  {a1 : Int} {a2 : Int} {a3 : Int}  {M : tp_M} {res : Int × tp_M} (h : fx_X11_pass  a1 a2 a3 M = some res) : tp_Ret X LM 34 1 yX11_pass (Cond.code yX11_pass cX11_pass 8 (some .int)) 8 [vR X 0, vI a1, vI a2, vI a3] M res := by
  refine tp_ofW (by decide +kernel) rfl rfl (by show _ ≤ 8; exact Nat.le_of_ble_eq_true rfl) h (fun Y G => ?_)
  show tp_J X Y LM 34 8 8 1 (fx_X11_pass  a1 a2 a3 M) M [(0, vR X 0), (1, vI a1), (2, vI a2), (3, vI a3)] [] 0
  unfold fx_X11_pass
  refine tj_aload_n (pc := 0) G 0 dX11_pass_0 rfl rfl ?_
  refine tj_iconst (pc := 1) G dX11_pass_1 ?_
  refine tj_putI (pc := 2) G (k := 0) (j := 0) (j2 := 0) tk_X11 (by decide) lm_0 rfl (by decide) rfl fl_X11_3 rfl rfl dX11_pass_2 (fun M1 => ?_)
  refine tj_aload_n (pc := 5) G 0 dX11_pass_5 rfl rfl ?_
  refine tj_iload_n (pc := 6) G 1 dX11_pass_6 rfl rfl ?_
  refine tj_callVi (pc := 7) G [vI a1] mf_X11_isOut (k := 0) (by decide) lm_0 rfl rfl ml_X11_280 (by decide) rfl rfl (Nat.le_of_ble_eq_true rfl) (fun _ h9 => ok_X11_isOut X  h9) dX11_pass_7 (fun r2 M3 => ?_)
  refine tj_if_eq (pc := 10) G (tgt := 33) (a2 := w32 r2) dX11_pass_10 (by decide) rfl ?_ ?_
  · refine tj_iconst (pc := 33) G dX11_pass_33 ?_
    exact tj_iret (pc := 34) G dX11_pass_34
  refine tj_aload_n (pc := 13) G 0 dX11_pass_13 rfl rfl ?_
  refine tj_iload_n (pc := 14) G 2 dX11_pass_14 rfl rfl ?_
  refine tj_callVi (pc := 15) G [vI a2] mf_X11_isOut (k := 0) (by decide) lm_0 rfl rfl ml_X11_280 (by decide) rfl rfl (Nat.le_of_ble_eq_true rfl) (fun _ h9 => ok_X11_isOut X  h9) dX11_pass_15 (fun r4 M5 => ?_)
  refine tj_if_eq (pc := 18) G (tgt := 33) (a2 := w32 r4) dX11_pass_18 (by decide) rfl ?_ ?_
  · refine tj_iconst (pc := 33) G dX11_pass_33 ?_
    exact tj_iret (pc := 34) G dX11_pass_34
  refine tj_iload_n (pc := 21) G 3 dX11_pass_21 rfl rfl ?_
  refine tj_i2l (pc := 22) G (b := w32 a3) dX11_pass_22 rfl ?_
  refine tj_lconst (pc := 23) G (v := 1) dX11_pass_23 rfl ?_
  refine tj_ldc2 (pc := 24) G (v := 60) dX11_pass_24 ct_X11_371 rfl ?_
  refine tj_callSi (pc := 27) G [vL (w32 a3), vL 1, vL 60] mf_X11_in ml_X11_129 (by decide) rfl rfl (Nat.le_of_ble_eq_true rfl) (fun _ h9 => ok_X11_in X  h9) dX11_pass_27 (fun r6 M7 => ?_)
  refine tj_if_ne (pc := 30) G (tgt := 35) (a2 := w32 r6) dX11_pass_30 (by decide) rfl ?_ ?_
  · refine tj_aload_n (pc := 35) G 0 dX11_pass_35 rfl rfl ?_
    refine tj_getR (pc := 36) G (k := 0) (j := 7) (j2 := 7) tk_X11 (by decide) lm_0 rfl (by decide) rfl fl_X11_41 dX11_pass_36 ?_
    refine tj_aload_n (pc := 39) G 0 dX11_pass_39 rfl rfl ?_
    refine tj_getR (pc := 40) G (k := 0) (j := 6) (j2 := 6) tk_X11 (by decide) lm_0 rfl (by decide) rfl fl_X11_38 dX11_pass_40 ?_
    refine tj_callSv (pc := 43) G [vR X 5, vR X 4] mf_X11_copies ml_X11_307 (by decide) rfl rfl (Nat.le_of_ble_eq_true rfl) (fun _ h9 => ok_X11_copies X ⟨by decide, lm_5⟩ ⟨by decide, lm_4⟩ h9) dX11_pass_43 (fun r8 M9 => ?_)
    refine tj_iconst (pc := 46) G dX11_pass_46 ?_
    refine tj_istore (pc := 47) G (fun x10 => [(4, vI x10), (0, vR X 0), (1, vI a1), (2, vI a2), (3, vI a3)]) dX11_pass_47 (by decide) (fun _ => rfl) (fun x10 => ?_)
    refine tj_iconst (pc := 49) G dX11_pass_49 ?_
    refine tj_istore (pc := 50) G (fun x11 => [(5, vI x11), (4, vI x10), (0, vR X 0), (1, vI a1), (2, vI a2), (3, vI a3)]) dX11_pass_50 (by decide) (fun _ => rfl) (fun x11 => ?_)
    refine tj_iconst (pc := 52) G dX11_pass_52 ?_
    refine tj_istore (pc := 53) G (fun x12 => [(6, vI x12), (5, vI x11), (4, vI x10), (0, vR X 0), (1, vI a1), (2, vI a2), (3, vI a3)]) dX11_pass_53 (by decide) (fun _ => rfl) (fun x12 => ?_)
    refine tj_sub [3, 4, 5, 6, 2, 1, 0] rfl (fx_X11_pass_L55_ok G    (fun y17 y18 M29 => ?_) tp_F x10 x11 x12 M9)
    refine tj_aload_n (pc := 111) G 0 dX11_pass_111 rfl rfl ?_
    refine tj_iconst (pc := 112) G dX11_pass_112 ?_
    refine tj_putI (pc := 113) G (k := 0) (j := 1) (j2 := 1) tk_X11 (by decide) lm_0 rfl (by decide) rfl fl_X11_15 rfl rfl dX11_pass_113 (fun M30 => ?_)
    refine tj_aload_n (pc := 116) G 0 dX11_pass_116 rfl rfl ?_
    refine tj_iload (pc := 117) G 2 dX11_pass_117 rfl ?_
    refine tj_i2l (pc := 119) G (b := w32 y18) dX11_pass_119 rfl ?_
    refine tj_callVv (pc := 120) G [vL (w32 y18)] mf_X11_enters (k := 0) (by decide) lm_0 rfl rfl ml_X11_18 (by decide) rfl rfl (Nat.le_of_ble_eq_true rfl) (fun _ h9 => ok_X11_enters X  h9) dX11_pass_120 (fun r31 M32 => ?_)
    refine tj_iload (pc := 123) G 1 dX11_pass_123 rfl ?_
    exact tj_iret (pc := 125) G dX11_pass_125
  refine tj_iconst (pc := 33) G dX11_pass_33 ?_
  exact tj_iret (pc := 34) G dX11_pass_34

def fx_X11_arePosts_L5 (k1 : Nat) (k1n : Nat) (k2 : Nat) (k2n : Nat)  (rec : Int → Int → tp_M → tp_O) (z3 z4 : Int) (M5 : tp_M) : tp_O :=
(if w32 z4 < w32 (M5 0 3) then
(tp_jn1 (fun y6 M7 => 
(tp_lt y6 (fun x8 =>
(tp_lt (z4 + 1) (fun x9 =>
(rec x8 x9 M7)))))) (fun jk34 =>
(tp_jn0 (fun M10 => 
(jk34 0 M10)) (fun jk33 =>
(if w32 z3 = 0 then
(jk33 M5)
else
(tp_ck (w32 z4) k1n (tp_ck (w32 z4) k2n (if w32 (M5 k1 (w32 z4)) = w32 (M5 k2 (w32 z4)) then
(jk34 1 M5)
else
(jk33 M5)))))))))
else
(tp_gd (w32 z3 = 0 ∨ w32 z3 = 1) inferInstance (some (z3, M5))))
def fx_X11_arePosts  (k1 : Nat) (k1n : Nat) (k2 : Nat) (k2n : Nat) (M : tp_M) : tp_O :=
(tp_lt 1 (fun x1 =>
(tp_lt 1 (fun x2 =>
(tp_lp2 (fx_X11_arePosts_L5 k1 k1n k2 k2n ) tp_F x1 x2 M)))))
set_option maxRecDepth 100000 in
set_option maxHeartbeats 4000000 in
theorem fx_X11_arePosts_L5_ok {X : tp_X} {Y : tp_Y} (G : tp_Ok X Y 34 cX11_arePosts 5 RX11 (some .boolean))  {k1 : Nat} {k1n : Nat} {k2 : Nat} {k2n : Nat} (hk1 : tg_I LM 34 k1 k1n) (hk2 : tg_I LM 34 k2 k2n)   (n : Nat) : ∀ (z3 z4 : Int) (M5 : tp_M), tp_J X Y LM 34 5 1 1 (tp_lp2 (fx_X11_arePosts_L5 k1 k1n k2 k2n  ) n z3 z4 M5) M5 [(0, vR X 0), (1, vR X k1), (2, vR X k2), (3, vI z3), (4, vI z4)] [] 5 := by
  refine tp_lp2_ok (P := fun o z3 z4 M5 => tp_J X Y LM 34 5 1 1 (o) M5 [(0, vR X 0), (1, vR X k1), (2, vR X k2), (3, vI z3), (4, vI z4)] [] 5) (fun z3 z4 M5 => tj_none) (fun rec hrec z3 z4 M5 => ?_) n
  unfold fx_X11_arePosts_L5
  refine tj_iload (pc := 5) G 4 dX11_arePosts_5 rfl ?_
  refine tj_aload_n (pc := 7) G 0 dX11_arePosts_7 rfl rfl ?_
  refine tj_getI (pc := 8) G (k := 0) (j := 3) (j2 := 3) tk_X11 (by decide) lm_0 rfl (by decide) rfl fl_X11_28 dX11_arePosts_8 ?_
  refine tj_icmp_ge (pc := 11) G (tgt := 41) (a2 := w32 z4) (b2 := w32 (M5 0 3)) dX11_arePosts_11 (by decide) rfl rfl ?_ ?_
  · refine tj_iload_n (pc := 41) G 3 dX11_arePosts_41 rfl rfl ?_
    exact tj_gd (fun hz => tj_zret (pc := 42) G hz dX11_arePosts_42)
  refine tj_iload_n (pc := 14) G 3 dX11_arePosts_14 rfl rfl ?_
  refine tj_jn1 (fun y6 => [(0, vR X 0), (1, vR X k1), (2, vR X k2), (4, vI z4)]) (fun y6 => [vI y6]) 34 (fun y6 M7 => ?_) (fun jk34 hj34 => ?_)
  · refine tj_istore_n (pc := 34) G (fun x8 => [(3, vI x8), (0, vR X 0), (1, vR X k1), (2, vR X k2), (4, vI z4)]) dX11_arePosts_34 rfl (by decide) (fun _ => rfl) (fun x8 => ?_)
    refine tj_iinc (pc := 35) G 4 (fun x9 => [(4, vI x9), (3, vI x8), (0, vR X 0), (1, vR X k1), (2, vR X k2)]) dX11_arePosts_35 rfl (by decide) (fun _ => rfl) (fun x9 => ?_)
    refine tj_goto (pc := 38) G (tgt := 5) dX11_arePosts_38 (by decide) ?_
    exact tj_sub [2, 3, 4, 1, 0] rfl (hrec x8 x9 M7)
  refine tj_jn0 [(0, vR X 0), (1, vR X k1), (2, vR X k2), (4, vI z4)] [] 33 (fun M10 => ?_) (fun jk33 hj33 => ?_)
  · refine tj_iconst (pc := 33) G dX11_arePosts_33 ?_
    exact tj_sub [0, 1, 2, 3] rfl (hj34 0 M10)
  refine tj_if_eq (pc := 15) G (tgt := 33) (a2 := w32 z3) dX11_arePosts_15 (by decide) rfl ?_ ?_
  · exact tj_sub [0, 1, 2, 4] rfl (hj33  M5)
  refine tj_aload_n (pc := 18) G 1 dX11_arePosts_18 rfl rfl ?_
  refine tj_iload (pc := 19) G 4 dX11_arePosts_19 rfl ?_
  refine tj_iald (pc := 21) G (k := k1) (i2 := w32 z4) (n2 := k1n) hk1.1 hk1.2 rfl rfl dX11_arePosts_21 ?_
  refine tj_aload_n (pc := 22) G 2 dX11_arePosts_22 rfl rfl ?_
  refine tj_iload (pc := 23) G 4 dX11_arePosts_23 rfl ?_
  refine tj_iald (pc := 25) G (k := k2) (i2 := w32 z4) (n2 := k2n) hk2.1 hk2.2 rfl rfl dX11_arePosts_25 ?_
  refine tj_icmp_ne (pc := 26) G (tgt := 33) (a2 := w32 (M5 k1 (w32 z4))) (b2 := w32 (M5 k2 (w32 z4))) dX11_arePosts_26 (by decide) rfl rfl ?_ ?_
  · exact tj_sub [0, 1, 2, 4] rfl (hj33  M5)
  refine tj_iconst (pc := 29) G dX11_arePosts_29 ?_
  refine tj_goto (pc := 30) G (tgt := 34) dX11_arePosts_30 (by decide) ?_
  exact tj_sub [0, 1, 2, 4] rfl (hj34 1 M5)
set_option maxRecDepth 100000 in
set_option maxHeartbeats 4000000 in
theorem ok_X11_arePosts (X : tp_X)  {k1 : Nat} {k1n : Nat} {k2 : Nat} {k2n : Nat} (hk1 : tg_I LM 34 k1 k1n) (hk2 : tg_I LM 34 k2 k2n) {M : tp_M} {res : Int × tp_M} (h : fx_X11_arePosts  k1 k1n k2 k2n M = some res) : tp_Ret X LM 34 1 yX11_arePosts (Cond.code yX11_arePosts cX11_arePosts 5 (some .boolean)) 1 [vR X 0, vR X k1, vR X k2] M res := by
  refine tp_ofW (by decide +kernel) rfl rfl (by show _ ≤ 5; exact Nat.le_of_ble_eq_true rfl) h (fun Y G => ?_)
  show tp_J X Y LM 34 5 1 1 (fx_X11_arePosts  k1 k1n k2 k2n M) M [(0, vR X 0), (1, vR X k1), (2, vR X k2)] [] 0
  unfold fx_X11_arePosts
  refine tj_iconst (pc := 0) G dX11_arePosts_0 ?_
  refine tj_istore_n (pc := 1) G (fun x1 => [(3, vI x1), (0, vR X 0), (1, vR X k1), (2, vR X k2)]) dX11_arePosts_1 rfl (by decide) (fun _ => rfl) (fun x1 => ?_)
  refine tj_iconst (pc := 2) G dX11_arePosts_2 ?_
  refine tj_istore (pc := 3) G (fun x2 => [(4, vI x2), (3, vI x1), (0, vR X 0), (1, vR X k1), (2, vR X k2)]) dX11_arePosts_3 (by decide) (fun _ => rfl) (fun x2 => ?_)
  refine tj_sub [2, 3, 4, 1, 0] rfl (fx_X11_arePosts_L5_ok G  hk1 hk2   tp_F x1 x2 M)

def fx_X11_round_L30 (c1 : Int) (K72 : Int → Int → tp_M → tp_O) (rec : Int → Int → tp_M → tp_O) (z8 z9 : Int) (M10 : tp_M) : tp_O :=
(if w32 z9 ≤ 300 then
(tp_bd (fx_X11_walkOf c1 M10) (fun r13 M14 =>
(tp_lt r13 (fun x15 =>
(if w32 x15 < 0 then
(some ((-3), M14))
else
(tp_lt (z8 + x15) (fun x16 =>
(tp_bd (fx_X11_arePosts 5 17 4 17 M14) (fun r17 M18 =>
(if w32 r17 = 0 then
(tp_lt (z9 + 1) (fun x19 =>
(rec x16 x19 M18)))
else
(K72 x16 z9 M18)))))))))))
else
(some ((-2), M10)))
def fx_X11_round  (a1 : Int) (M : tp_M) : tp_O :=
(tp_lm (tp_up M 0 0 0) (fun M1 =>
(tp_bd (fx_X11_isOut a1 M1) (fun r2 M3 =>
(if w32 r2 = 0 then
(some ((-1), M3))
else
(tp_bd (fx_X11_copies 5 17 4 17 M3) (fun r4 M5 =>
(tp_lt 0 (fun x6 =>
(tp_lt 1 (fun x7 =>
(tp_lp2 (fx_X11_round_L30 a1 (fun y11 y12 M20 =>
(tp_lm (tp_up M20 0 1 0) (fun M21 =>
(tp_bd (fx_X11_enters (w32 y11) M21) (fun r22 M23 =>
(some (y12, M23)))))))) tp_F x6 x7 M5))))))))))))
set_option maxRecDepth 100000 in
set_option maxHeartbeats 4000000 in
theorem fx_X11_round_L30_ok {X : tp_X} {Y : tp_Y} (G : tp_Ok X Y 34 cX11_round 5 RX11 (some .int))  {c1 : Int} {K72 : Int → Int → tp_M → tp_O}   (hK72 : ∀ (y11 y12 : Int) (M9 : tp_M), tp_J X Y LM 34 5 8 1 (K72 y11 y12 M9) M9 [(0, vR X 0), (2, vI y11), (3, vI y12)] [] 72) (n : Nat) : ∀ (z8 z9 : Int) (M10 : tp_M), tp_J X Y LM 34 5 8 1 (tp_lp2 (fx_X11_round_L30  c1 K72) n z8 z9 M10) M10 [(0, vR X 0), (1, vI c1), (2, vI z8), (3, vI z9)] [] 30 := by
  refine tp_lp2_ok (P := fun o z8 z9 M10 => tp_J X Y LM 34 5 8 1 (o) M10 [(0, vR X 0), (1, vI c1), (2, vI z8), (3, vI z9)] [] 30) (fun z8 z9 M10 => tj_none) (fun rec hrec z8 z9 M10 => ?_) n
  unfold fx_X11_round_L30
  refine tj_iload_n (pc := 30) G 3 dX11_round_30 rfl rfl ?_
  refine tj_sipush (pc := 31) G dX11_round_31 rfl ?_
  refine tj_icmp_gt (pc := 34) G (tgt := 91) (a2 := w32 z9) (b2 := 300) dX11_round_34 (by decide) rfl rfl ?_ ?_
  · refine tj_bipush (pc := 91) G dX11_round_91 rfl ?_
    exact tj_iret (pc := 93) G dX11_round_93
  refine tj_aload_n (pc := 37) G 0 dX11_round_37 rfl rfl ?_
  refine tj_iload_n (pc := 38) G 1 dX11_round_38 rfl rfl ?_
  refine tj_callVi (pc := 39) G [vI c1] mf_X11_walkOf (k := 0) (by decide) lm_0 rfl rfl ml_X11_368 (by decide) rfl rfl (Nat.le_of_ble_eq_true rfl) (fun _ h9 => ok_X11_walkOf X  h9) dX11_round_39 (fun r13 M14 => ?_)
  refine tj_istore (pc := 42) G (fun x15 => [(4, vI x15), (0, vR X 0), (1, vI c1), (2, vI z8), (3, vI z9)]) dX11_round_42 (by decide) (fun _ => rfl) (fun x15 => ?_)
  refine tj_iload (pc := 44) G 0 dX11_round_44 rfl ?_
  refine tj_if_ge (pc := 46) G (tgt := 52) (a2 := w32 x15) dX11_round_46 (by decide) rfl ?_ ?_
  · refine tj_iload_n (pc := 52) G 3 dX11_round_52 rfl rfl ?_
    refine tj_iload (pc := 53) G 0 dX11_round_53 rfl ?_
    refine tj_iadd (pc := 55) G dX11_round_55 ?_
    refine tj_istore_n (pc := 56) G (fun x16 => [(2, vI x16), (4, vI x15), (0, vR X 0), (1, vI c1), (3, vI z9)]) dX11_round_56 rfl (by decide) (fun _ => rfl) (fun x16 => ?_)
    refine tj_aload_n (pc := 57) G 2 dX11_round_57 rfl rfl ?_
    refine tj_aload_n (pc := 58) G 2 dX11_round_58 rfl rfl ?_
    refine tj_getR (pc := 59) G (k := 0) (j := 7) (j2 := 7) tk_X11 (by decide) lm_0 rfl (by decide) rfl fl_X11_41 dX11_round_59 ?_
    refine tj_aload_n (pc := 62) G 2 dX11_round_62 rfl rfl ?_
    refine tj_getR (pc := 63) G (k := 0) (j := 6) (j2 := 6) tk_X11 (by decide) lm_0 rfl (by decide) rfl fl_X11_38 dX11_round_63 ?_
    refine tj_callVi (pc := 66) G [vR X 5, vR X 4] mf_X11_arePosts (k := 0) (by decide) lm_0 rfl rfl ml_X11_373 (by decide) rfl rfl (Nat.le_of_ble_eq_true rfl) (fun _ h9 => ok_X11_arePosts X ⟨by decide, lm_5⟩ ⟨by decide, lm_4⟩ h9) dX11_round_66 (fun r17 M18 => ?_)
    refine tj_if_eq (pc := 69) G (tgt := 85) (a2 := w32 r17) dX11_round_69 (by decide) rfl ?_ ?_
    · refine tj_iinc (pc := 85) G 4 (fun x19 => [(3, vI x19), (2, vI x16), (4, vI x15), (0, vR X 0), (1, vI c1)]) dX11_round_85 rfl (by decide) (fun _ => rfl) (fun x19 => ?_)
      refine tj_goto (pc := 88) G (tgt := 30) dX11_round_88 (by decide) ?_
      exact tj_sub [3, 4, 1, 0] rfl (hrec x16 x19 M18)
    exact tj_sub [2, 0, 4] rfl (hK72 x16 z9 M18)
  refine tj_bipush (pc := 49) G dX11_round_49 rfl ?_
  exact tj_iret (pc := 51) G dX11_round_51
set_option maxRecDepth 100000 in
set_option maxHeartbeats 4000000 in
theorem ok_X11_round (X : tp_X)  {a1 : Int}  {M : tp_M} {res : Int × tp_M} (h : fx_X11_round  a1 M = some res) : tp_Ret X LM 34 1 yX11_round (Cond.code yX11_round cX11_round 5 (some .int)) 8 [vR X 0, vI a1] M res := by
  refine tp_ofW (by decide +kernel) rfl rfl (by show _ ≤ 5; exact Nat.le_of_ble_eq_true rfl) h (fun Y G => ?_)
  show tp_J X Y LM 34 5 8 1 (fx_X11_round  a1 M) M [(0, vR X 0), (1, vI a1)] [] 0
  unfold fx_X11_round
  refine tj_aload_n (pc := 0) G 0 dX11_round_0 rfl rfl ?_
  refine tj_iconst (pc := 1) G dX11_round_1 ?_
  refine tj_putI (pc := 2) G (k := 0) (j := 0) (j2 := 0) tk_X11 (by decide) lm_0 rfl (by decide) rfl fl_X11_3 rfl rfl dX11_round_2 (fun M1 => ?_)
  refine tj_aload_n (pc := 5) G 0 dX11_round_5 rfl rfl ?_
  refine tj_iload_n (pc := 6) G 1 dX11_round_6 rfl rfl ?_
  refine tj_callVi (pc := 7) G [vI a1] mf_X11_isOut (k := 0) (by decide) lm_0 rfl rfl ml_X11_280 (by decide) rfl rfl (Nat.le_of_ble_eq_true rfl) (fun _ h9 => ok_X11_isOut X  h9) dX11_round_7 (fun r2 M3 => ?_)
  refine tj_if_ne (pc := 10) G (tgt := 15) (a2 := w32 r2) dX11_round_10 (by decide) rfl ?_ ?_
  · refine tj_aload_n (pc := 15) G 0 dX11_round_15 rfl rfl ?_
    refine tj_getR (pc := 16) G (k := 0) (j := 7) (j2 := 7) tk_X11 (by decide) lm_0 rfl (by decide) rfl fl_X11_41 dX11_round_16 ?_
    refine tj_aload_n (pc := 19) G 0 dX11_round_19 rfl rfl ?_
    refine tj_getR (pc := 20) G (k := 0) (j := 6) (j2 := 6) tk_X11 (by decide) lm_0 rfl (by decide) rfl fl_X11_38 dX11_round_20 ?_
    refine tj_callSv (pc := 23) G [vR X 5, vR X 4] mf_X11_copies ml_X11_307 (by decide) rfl rfl (Nat.le_of_ble_eq_true rfl) (fun _ h9 => ok_X11_copies X ⟨by decide, lm_5⟩ ⟨by decide, lm_4⟩ h9) dX11_round_23 (fun r4 M5 => ?_)
    refine tj_iconst (pc := 26) G dX11_round_26 ?_
    refine tj_istore_n (pc := 27) G (fun x6 => [(2, vI x6), (0, vR X 0), (1, vI a1)]) dX11_round_27 rfl (by decide) (fun _ => rfl) (fun x6 => ?_)
    refine tj_iconst (pc := 28) G dX11_round_28 ?_
    refine tj_istore_n (pc := 29) G (fun x7 => [(3, vI x7), (2, vI x6), (0, vR X 0), (1, vI a1)]) dX11_round_29 rfl (by decide) (fun _ => rfl) (fun x7 => ?_)
    refine tj_sub [2, 3, 1, 0] rfl (fx_X11_round_L30_ok G    (fun y11 y12 M20 => ?_) tp_F x6 x7 M5)
    refine tj_aload_n (pc := 72) G 0 dX11_round_72 rfl rfl ?_
    refine tj_iconst (pc := 73) G dX11_round_73 ?_
    refine tj_putI (pc := 74) G (k := 0) (j := 1) (j2 := 1) tk_X11 (by decide) lm_0 rfl (by decide) rfl fl_X11_15 rfl rfl dX11_round_74 (fun M21 => ?_)
    refine tj_aload_n (pc := 77) G 0 dX11_round_77 rfl rfl ?_
    refine tj_iload_n (pc := 78) G 1 dX11_round_78 rfl rfl ?_
    refine tj_i2l (pc := 79) G (b := w32 y11) dX11_round_79 rfl ?_
    refine tj_callVv (pc := 80) G [vL (w32 y11)] mf_X11_enters (k := 0) (by decide) lm_0 rfl rfl ml_X11_18 (by decide) rfl rfl (Nat.le_of_ble_eq_true rfl) (fun _ h9 => ok_X11_enters X  h9) dX11_round_80 (fun r22 M23 => ?_)
    refine tj_iload_n (pc := 83) G 2 dX11_round_83 rfl rfl ?_
    exact tj_iret (pc := 84) G dX11_round_84
  refine tj_iconst (pc := 13) G dX11_round_13 ?_
  exact tj_iret (pc := 14) G dX11_round_14

def fx_X11_follows_L34  (K70 : Int → Int → Int → tp_M → tp_O) (rec : Int → Int → Int → tp_M → tp_O) (z9 z10 z11 : Int) (M12 : tp_M) : tp_O :=
(if w32 z10 ≤ 0 then
(K70 z9 z10 z11 M12)
else
(tp_bd (fx_X11_has z9 z10 M12) (fun r16 M17 =>
(if w32 r16 = 0 then
(tp_lt (x_or z9 (x_shl 1 z10)) (fun x18 =>
(tp_ck (w32 z10) 17 (tp_bd (fx_X11_goalOf z10 (M17 4 (w32 z10)) M17) (fun r19 M20 =>
(tp_lt r19 (fun x21 =>
(tp_lt (z11 + 1) (fun x22 =>
(rec x18 x21 x22 M20))))))))))
else
(K70 z9 z10 z11 M17)))))
def fx_X11_follows  (a1 : Int) (M : tp_M) : tp_O :=
(tp_lm (tp_up M 0 0 0) (fun M1 =>
(tp_bd (fx_X11_isOut a1 M1) (fun r2 M3 =>
(if w32 r2 = 0 then
(some ((-1), M3))
else
(tp_lt (x_shl 1 a1) (fun x4 =>
(tp_ck (w32 a1) 17 (tp_bd (fx_X11_goalOf a1 (M3 4 (w32 a1)) M3) (fun r5 M6 =>
(tp_lt r5 (fun x7 =>
(tp_lt 1 (fun x8 =>
(tp_lp3 (fx_X11_follows_L34  (fun y13 y14 y15 M23 =>
(tp_lt (x_or y13 (x_shl 1 y14)) (fun x24 =>
(tp_lm (tp_up M23 0 1 0) (fun M25 =>
(tp_jn1 (fun y26 M27 => 
(tp_bd (fx_X11_flag y26 M27) (fun r28 M29 =>
(tp_bd (fx_X11_enters (w32 r28) M29) (fun r30 M31 =>
(tp_bd (fx_X11_enters (w32 y15) M31) (fun r32 M33 =>
(some (x24, M33))))))))) (fun jk91 =>
(if w32 y14 = 0 then
(jk91 1 M25)
else
(jk91 0 M25)))))))))) tp_F x4 x7 x8 M6)))))))))))))))
set_option maxRecDepth 100000 in
set_option maxHeartbeats 4000000 in
theorem fx_X11_follows_L34_ok {X : tp_X} {Y : tp_Y} (G : tp_Ok X Y 34 cX11_follows 5 RX11 (some .int))  {K70 : Int → Int → Int → tp_M → tp_O}   (hK70 : ∀ (y13 y14 y15 : Int) (M9 : tp_M), tp_J X Y LM 34 5 3 1 (K70 y13 y14 y15 M9) M9 [(0, vR X 0), (2, vI y13), (3, vI y14), (4, vI y15)] [] 70) (n : Nat) : ∀ (z9 z10 z11 : Int) (M12 : tp_M), tp_J X Y LM 34 5 3 1 (tp_lp3 (fx_X11_follows_L34   K70) n z9 z10 z11 M12) M12 [(0, vR X 0), (2, vI z9), (3, vI z10), (4, vI z11)] [] 34 := by
  refine tp_lp3_ok (P := fun o z9 z10 z11 M12 => tp_J X Y LM 34 5 3 1 (o) M12 [(0, vR X 0), (2, vI z9), (3, vI z10), (4, vI z11)] [] 34) (fun z9 z10 z11 M12 => tj_none) (fun rec hrec z9 z10 z11 M12 => ?_) n
  unfold fx_X11_follows_L34
  refine tj_iload_n (pc := 34) G 2 dX11_follows_34 rfl rfl ?_
  refine tj_if_le (pc := 35) G (tgt := 70) (a2 := w32 z10) dX11_follows_35 (by decide) rfl ?_ ?_
  · exact tj_sub [0, 1, 2, 3] rfl (hK70 z9 z10 z11 M12)
  refine tj_iload_n (pc := 38) G 1 dX11_follows_38 rfl rfl ?_
  refine tj_iload_n (pc := 39) G 2 dX11_follows_39 rfl rfl ?_
  refine tj_callSi (pc := 40) G [vI z9, vI z10] mf_X11_has ml_X11_183 (by decide) rfl rfl (Nat.le_of_ble_eq_true rfl) (fun _ h9 => ok_X11_has X  h9) dX11_follows_40 (fun r16 M17 => ?_)
  refine tj_if_ne (pc := 43) G (tgt := 70) (a2 := w32 r16) dX11_follows_43 (by decide) rfl ?_ ?_
  · exact tj_sub [0, 1, 2, 3] rfl (hK70 z9 z10 z11 M17)
  refine tj_iload_n (pc := 46) G 1 dX11_follows_46 rfl rfl ?_
  refine tj_iconst (pc := 47) G dX11_follows_47 ?_
  refine tj_iload_n (pc := 48) G 2 dX11_follows_48 rfl rfl ?_
  refine tj_ishl (pc := 49) G dX11_follows_49 ?_
  refine tj_ior (pc := 50) G dX11_follows_50 ?_
  refine tj_istore_n (pc := 51) G (fun x18 => [(2, vI x18), (0, vR X 0), (3, vI z10), (4, vI z11)]) dX11_follows_51 rfl (by decide) (fun _ => rfl) (fun x18 => ?_)
  refine tj_aload_n (pc := 52) G 1 dX11_follows_52 rfl rfl ?_
  refine tj_iload_n (pc := 53) G 2 dX11_follows_53 rfl rfl ?_
  refine tj_aload_n (pc := 54) G 1 dX11_follows_54 rfl rfl ?_
  refine tj_getR (pc := 55) G (k := 0) (j := 6) (j2 := 6) tk_X11 (by decide) lm_0 rfl (by decide) rfl fl_X11_38 dX11_follows_55 ?_
  refine tj_iload_n (pc := 58) G 2 dX11_follows_58 rfl rfl ?_
  refine tj_iald (pc := 59) G (k := 4) (i2 := w32 z10) (n2 := 17) (by decide) lm_4 rfl rfl dX11_follows_59 ?_
  refine tj_callVi (pc := 60) G [vI z10, vI (M17 4 (w32 z10))] mf_X11_goalOf (k := 0) (by decide) lm_0 rfl rfl ml_X11_255 (by decide) rfl rfl (Nat.le_of_ble_eq_true rfl) (fun _ h9 => ok_X11_goalOf X  h9) dX11_follows_60 (fun r19 M20 => ?_)
  refine tj_istore_n (pc := 63) G (fun x21 => [(3, vI x21), (2, vI x18), (0, vR X 0), (4, vI z11)]) dX11_follows_63 rfl (by decide) (fun _ => rfl) (fun x21 => ?_)
  refine tj_iinc (pc := 64) G 3 (fun x22 => [(4, vI x22), (3, vI x21), (2, vI x18), (0, vR X 0)]) dX11_follows_64 rfl (by decide) (fun _ => rfl) (fun x22 => ?_)
  refine tj_goto (pc := 67) G (tgt := 34) dX11_follows_67 (by decide) ?_
  exact tj_sub [3, 2, 1, 0] rfl (hrec x18 x21 x22 M20)
set_option maxRecDepth 100000 in
set_option maxHeartbeats 4000000 in
theorem ok_X11_follows (X : tp_X)  {a1 : Int}  {M : tp_M} {res : Int × tp_M} (h : fx_X11_follows  a1 M = some res) : tp_Ret X LM 34 1 yX11_follows (Cond.code yX11_follows cX11_follows 5 (some .int)) 3 [vR X 0, vI a1] M res := by
  refine tp_ofW (by decide +kernel) rfl rfl (by show _ ≤ 5; exact Nat.le_of_ble_eq_true rfl) h (fun Y G => ?_)
  show tp_J X Y LM 34 5 3 1 (fx_X11_follows  a1 M) M [(0, vR X 0), (1, vI a1)] [] 0
  unfold fx_X11_follows
  refine tj_aload_n (pc := 0) G 0 dX11_follows_0 rfl rfl ?_
  refine tj_iconst (pc := 1) G dX11_follows_1 ?_
  refine tj_putI (pc := 2) G (k := 0) (j := 0) (j2 := 0) tk_X11 (by decide) lm_0 rfl (by decide) rfl fl_X11_3 rfl rfl dX11_follows_2 (fun M1 => ?_)
  refine tj_aload_n (pc := 5) G 0 dX11_follows_5 rfl rfl ?_
  refine tj_iload_n (pc := 6) G 1 dX11_follows_6 rfl rfl ?_
  refine tj_callVi (pc := 7) G [vI a1] mf_X11_isOut (k := 0) (by decide) lm_0 rfl rfl ml_X11_280 (by decide) rfl rfl (Nat.le_of_ble_eq_true rfl) (fun _ h9 => ok_X11_isOut X  h9) dX11_follows_7 (fun r2 M3 => ?_)
  refine tj_if_ne (pc := 10) G (tgt := 15) (a2 := w32 r2) dX11_follows_10 (by decide) rfl ?_ ?_
  · refine tj_iconst (pc := 15) G dX11_follows_15 ?_
    refine tj_iload_n (pc := 16) G 1 dX11_follows_16 rfl rfl ?_
    refine tj_ishl (pc := 17) G dX11_follows_17 ?_
    refine tj_istore_n (pc := 18) G (fun x4 => [(2, vI x4), (0, vR X 0), (1, vI a1)]) dX11_follows_18 rfl (by decide) (fun _ => rfl) (fun x4 => ?_)
    refine tj_aload_n (pc := 19) G 1 dX11_follows_19 rfl rfl ?_
    refine tj_iload_n (pc := 20) G 2 dX11_follows_20 rfl rfl ?_
    refine tj_aload_n (pc := 21) G 1 dX11_follows_21 rfl rfl ?_
    refine tj_getR (pc := 22) G (k := 0) (j := 6) (j2 := 6) tk_X11 (by decide) lm_0 rfl (by decide) rfl fl_X11_38 dX11_follows_22 ?_
    refine tj_iload_n (pc := 25) G 2 dX11_follows_25 rfl rfl ?_
    refine tj_iald (pc := 26) G (k := 4) (i2 := w32 a1) (n2 := 17) (by decide) lm_4 rfl rfl dX11_follows_26 ?_
    refine tj_callVi (pc := 27) G [vI a1, vI (M3 4 (w32 a1))] mf_X11_goalOf (k := 0) (by decide) lm_0 rfl rfl ml_X11_255 (by decide) rfl rfl (Nat.le_of_ble_eq_true rfl) (fun _ h9 => ok_X11_goalOf X  h9) dX11_follows_27 (fun r5 M6 => ?_)
    refine tj_istore_n (pc := 30) G (fun x7 => [(3, vI x7), (2, vI x4), (0, vR X 0), (1, vI a1)]) dX11_follows_30 rfl (by decide) (fun _ => rfl) (fun x7 => ?_)
    refine tj_iconst (pc := 31) G dX11_follows_31 ?_
    refine tj_istore (pc := 32) G (fun x8 => [(4, vI x8), (3, vI x7), (2, vI x4), (0, vR X 0), (1, vI a1)]) dX11_follows_32 (by decide) (fun _ => rfl) (fun x8 => ?_)
    refine tj_sub [3, 2, 1, 0] rfl (fx_X11_follows_L34_ok G    (fun y13 y14 y15 M23 => ?_) tp_F x4 x7 x8 M6)
    refine tj_iload_n (pc := 70) G 1 dX11_follows_70 rfl rfl ?_
    refine tj_iconst (pc := 71) G dX11_follows_71 ?_
    refine tj_iload_n (pc := 72) G 2 dX11_follows_72 rfl rfl ?_
    refine tj_ishl (pc := 73) G dX11_follows_73 ?_
    refine tj_ior (pc := 74) G dX11_follows_74 ?_
    refine tj_istore_n (pc := 75) G (fun x24 => [(2, vI x24), (0, vR X 0), (3, vI y14), (4, vI y15)]) dX11_follows_75 rfl (by decide) (fun _ => rfl) (fun x24 => ?_)
    refine tj_aload_n (pc := 76) G 1 dX11_follows_76 rfl rfl ?_
    refine tj_iconst (pc := 77) G dX11_follows_77 ?_
    refine tj_putI (pc := 78) G (k := 0) (j := 1) (j2 := 1) tk_X11 (by decide) lm_0 rfl (by decide) rfl fl_X11_15 rfl rfl dX11_follows_78 (fun M25 => ?_)
    refine tj_aload_n (pc := 81) G 1 dX11_follows_81 rfl rfl ?_
    refine tj_iload_n (pc := 82) G 2 dX11_follows_82 rfl rfl ?_
    refine tj_jn1 (fun y26 => [(0, vR X 0), (2, vI x24), (4, vI y15)]) (fun y26 => [vI y26, vR X 0]) 91 (fun y26 M27 => ?_) (fun jk91 hj91 => ?_)
    · refine tj_callSi (pc := 91) G [vI y26] mf_X11_flag ml_X11_151 (by decide) rfl rfl (Nat.le_of_ble_eq_true rfl) (fun _ h9 => ok_X11_flag X  h9) dX11_follows_91 (fun r28 M29 => ?_)
      refine tj_i2l (pc := 94) G (b := w32 r28) dX11_follows_94 rfl ?_
      refine tj_callVv (pc := 95) G [vL (w32 r28)] mf_X11_enters (k := 0) (by decide) lm_0 rfl rfl ml_X11_18 (by decide) rfl rfl (Nat.le_of_ble_eq_true rfl) (fun _ h9 => ok_X11_enters X  h9) dX11_follows_95 (fun r30 M31 => ?_)
      refine tj_aload_n (pc := 98) G 0 dX11_follows_98 rfl rfl ?_
      refine tj_iload (pc := 99) G 2 dX11_follows_99 rfl ?_
      refine tj_i2l (pc := 101) G (b := w32 y15) dX11_follows_101 rfl ?_
      refine tj_callVv (pc := 102) G [vL (w32 y15)] mf_X11_enters (k := 0) (by decide) lm_0 rfl rfl ml_X11_18 (by decide) rfl rfl (Nat.le_of_ble_eq_true rfl) (fun _ h9 => ok_X11_enters X  h9) dX11_follows_102 (fun r32 M33 => ?_)
      refine tj_iload_n (pc := 105) G 1 dX11_follows_105 rfl rfl ?_
      exact tj_iret (pc := 106) G dX11_follows_106
    refine tj_if_ne (pc := 83) G (tgt := 90) (a2 := w32 y14) dX11_follows_83 (by decide) rfl ?_ ?_
    · refine tj_iconst (pc := 90) G dX11_follows_90 ?_
      exact tj_sub [1, 0, 3] rfl (hj91 0 M25)
    refine tj_iconst (pc := 86) G dX11_follows_86 ?_
    refine tj_goto (pc := 87) G (tgt := 91) dX11_follows_87 (by decide) ?_
    exact tj_sub [1, 0, 3] rfl (hj91 1 M25)
  refine tj_iconst (pc := 13) G dX11_follows_13 ?_
  exact tj_iret (pc := 14) G dX11_follows_14

def fx_X11_comesBy_L18 (k1 : Nat) (k1n : Nat) (c2 : Int) (c3 : Int) (K48 : Int → tp_M → tp_O) (rec : Int → Int → tp_M → tp_O) (z8 z9 : Int) (M10 : tp_M) : tp_O :=
(if w32 z9 < 8 then
(if w32 z8 ≤ 0 then
(K48 z8 M10)
else
(tp_ck (w32 z8) k1n (tp_bd (fx_X11_goalOf z8 (M10 k1 (w32 z8)) M10) (fun r12 M13 =>
(tp_lt r12 (fun x14 =>
(tp_lt (z9 + 1) (fun x15 =>
(rec x14 x15 M13)))))))))
else
(K48 z8 M10))
def fx_X11_comesBy_L4 (k1 : Nat) (k1n : Nat)  (rec : Int → Int → tp_M → tp_O) (z3 z4 : Int) (M5 : tp_M) : tp_O :=
(if w32 z4 < w32 (M5 0 3) then
(tp_lt z4 (fun x6 =>
(tp_lt 0 (fun x7 =>
(tp_lp2 (fx_X11_comesBy_L18 k1 k1n z3 z4 (fun y11 M16 =>
(tp_jn1 (fun y17 M18 => 
(tp_bd (fx_X11_flag y17 M18) (fun r19 M20 =>
(tp_lt (z3 + r19) (fun x21 =>
(tp_lt (z4 + 1) (fun x22 =>
(rec x21 x22 M20)))))))) (fun jk59 =>
(if w32 y11 = 0 then
(jk59 1 M16)
else
(jk59 0 M16)))))) tp_F x6 x7 M5)))))
else
(some (z3, M5)))
def fx_X11_comesBy  (k1 : Nat) (k1n : Nat) (M : tp_M) : tp_O :=
(tp_lt 0 (fun x1 =>
(tp_lt 1 (fun x2 =>
(tp_lp2 (fx_X11_comesBy_L4 k1 k1n ) tp_F x1 x2 M)))))
set_option maxRecDepth 100000 in
set_option maxHeartbeats 4000000 in
theorem fx_X11_comesBy_L18_ok {X : tp_X} {Y : tp_Y} (G : tp_Ok X Y 34 cX11_comesBy 6 RX11 (some .int))  {k1 : Nat} {k1n : Nat} {c2 : Int} {c3 : Int} {K48 : Int → tp_M → tp_O} (hk1 : tg_I LM 34 k1 k1n)  (hK48 : ∀ (y11 : Int) (M9 : tp_M), tp_J X Y LM 34 6 2 1 (K48 y11 M9) M9 [(0, vR X 0), (1, vR X k1), (2, vI c2), (3, vI c3), (4, vI y11)] [] 48) (n : Nat) : ∀ (z8 z9 : Int) (M10 : tp_M), tp_J X Y LM 34 6 2 1 (tp_lp2 (fx_X11_comesBy_L18 k1 k1n c2 c3 K48) n z8 z9 M10) M10 [(0, vR X 0), (1, vR X k1), (2, vI c2), (3, vI c3), (4, vI z8), (5, vI z9)] [] 18 := by
  refine tp_lp2_ok (P := fun o z8 z9 M10 => tp_J X Y LM 34 6 2 1 (o) M10 [(0, vR X 0), (1, vR X k1), (2, vI c2), (3, vI c3), (4, vI z8), (5, vI z9)] [] 18) (fun z8 z9 M10 => tj_none) (fun rec hrec z8 z9 M10 => ?_) n
  unfold fx_X11_comesBy_L18
  refine tj_iload (pc := 18) G 5 dX11_comesBy_18 rfl ?_
  refine tj_bipush (pc := 20) G dX11_comesBy_20 rfl ?_
  refine tj_icmp_ge (pc := 22) G (tgt := 48) (a2 := w32 z9) (b2 := 8) dX11_comesBy_22 (by decide) rfl rfl ?_ ?_
  · exact tj_sub [0, 1, 2, 3, 4] rfl (hK48 z8 M10)
  refine tj_iload (pc := 25) G 4 dX11_comesBy_25 rfl ?_
  refine tj_if_le (pc := 27) G (tgt := 48) (a2 := w32 z8) dX11_comesBy_27 (by decide) rfl ?_ ?_
  · exact tj_sub [0, 1, 2, 3, 4] rfl (hK48 z8 M10)
  refine tj_aload_n (pc := 30) G 0 dX11_comesBy_30 rfl rfl ?_
  refine tj_iload (pc := 31) G 4 dX11_comesBy_31 rfl ?_
  refine tj_aload_n (pc := 33) G 1 dX11_comesBy_33 rfl rfl ?_
  refine tj_iload (pc := 34) G 4 dX11_comesBy_34 rfl ?_
  refine tj_iald (pc := 36) G (k := k1) (i2 := w32 z8) (n2 := k1n) hk1.1 hk1.2 rfl rfl dX11_comesBy_36 ?_
  refine tj_callVi (pc := 37) G [vI z8, vI (M10 k1 (w32 z8))] mf_X11_goalOf (k := 0) (by decide) lm_0 rfl rfl ml_X11_255 (by decide) rfl rfl (Nat.le_of_ble_eq_true rfl) (fun _ h9 => ok_X11_goalOf X  h9) dX11_comesBy_37 (fun r12 M13 => ?_)
  refine tj_istore (pc := 40) G (fun x14 => [(4, vI x14), (0, vR X 0), (1, vR X k1), (2, vI c2), (3, vI c3), (5, vI z9)]) dX11_comesBy_40 (by decide) (fun _ => rfl) (fun x14 => ?_)
  refine tj_iinc (pc := 42) G 5 (fun x15 => [(5, vI x15), (4, vI x14), (0, vR X 0), (1, vR X k1), (2, vI c2), (3, vI c3)]) dX11_comesBy_42 rfl (by decide) (fun _ => rfl) (fun x15 => ?_)
  refine tj_goto (pc := 45) G (tgt := 18) dX11_comesBy_45 (by decide) ?_
  exact tj_sub [2, 3, 4, 5, 1, 0] rfl (hrec x14 x15 M13)
set_option maxRecDepth 100000 in
set_option maxHeartbeats 4000000 in
theorem fx_X11_comesBy_L4_ok {X : tp_X} {Y : tp_Y} (G : tp_Ok X Y 34 cX11_comesBy 6 RX11 (some .int))  {k1 : Nat} {k1n : Nat} (hk1 : tg_I LM 34 k1 k1n)   (n : Nat) : ∀ (z3 z4 : Int) (M5 : tp_M), tp_J X Y LM 34 6 2 1 (tp_lp2 (fx_X11_comesBy_L4 k1 k1n  ) n z3 z4 M5) M5 [(0, vR X 0), (1, vR X k1), (2, vI z3), (3, vI z4)] [] 4 := by
  refine tp_lp2_ok (P := fun o z3 z4 M5 => tp_J X Y LM 34 6 2 1 (o) M5 [(0, vR X 0), (1, vR X k1), (2, vI z3), (3, vI z4)] [] 4) (fun z3 z4 M5 => tj_none) (fun rec hrec z3 z4 M5 => ?_) n
  unfold fx_X11_comesBy_L4
  refine tj_iload_n (pc := 4) G 3 dX11_comesBy_4 rfl rfl ?_
  refine tj_aload_n (pc := 5) G 0 dX11_comesBy_5 rfl rfl ?_
  refine tj_getI (pc := 6) G (k := 0) (j := 3) (j2 := 3) tk_X11 (by decide) lm_0 rfl (by decide) rfl fl_X11_28 dX11_comesBy_6 ?_
  refine tj_icmp_ge (pc := 9) G (tgt := 70) (a2 := w32 z4) (b2 := w32 (M5 0 3)) dX11_comesBy_9 (by decide) rfl rfl ?_ ?_
  · refine tj_iload_n (pc := 70) G 2 dX11_comesBy_70 rfl rfl ?_
    exact tj_iret (pc := 71) G dX11_comesBy_71
  refine tj_iload_n (pc := 12) G 3 dX11_comesBy_12 rfl rfl ?_
  refine tj_istore (pc := 13) G (fun x6 => [(4, vI x6), (0, vR X 0), (1, vR X k1), (2, vI z3), (3, vI z4)]) dX11_comesBy_13 (by decide) (fun _ => rfl) (fun x6 => ?_)
  refine tj_iconst (pc := 15) G dX11_comesBy_15 ?_
  refine tj_istore (pc := 16) G (fun x7 => [(5, vI x7), (4, vI x6), (0, vR X 0), (1, vR X k1), (2, vI z3), (3, vI z4)]) dX11_comesBy_16 (by decide) (fun _ => rfl) (fun x7 => ?_)
  refine tj_sub [2, 3, 4, 5, 1, 0] rfl (fx_X11_comesBy_L18_ok G  hk1  (fun y11 M16 => ?_) tp_F x6 x7 M5)
  refine tj_iload_n (pc := 48) G 2 dX11_comesBy_48 rfl rfl ?_
  refine tj_iload (pc := 49) G 4 dX11_comesBy_49 rfl ?_
  refine tj_jn1 (fun y17 => [(0, vR X 0), (1, vR X k1), (3, vI z4)]) (fun y17 => [vI y17, vI z3]) 59 (fun y17 M18 => ?_) (fun jk59 hj59 => ?_)
  · refine tj_callSi (pc := 59) G [vI y17] mf_X11_flag ml_X11_151 (by decide) rfl rfl (Nat.le_of_ble_eq_true rfl) (fun _ h9 => ok_X11_flag X  h9) dX11_comesBy_59 (fun r19 M20 => ?_)
    refine tj_iadd (pc := 62) G dX11_comesBy_62 ?_
    refine tj_istore_n (pc := 63) G (fun x21 => [(2, vI x21), (0, vR X 0), (1, vR X k1), (3, vI z4)]) dX11_comesBy_63 rfl (by decide) (fun _ => rfl) (fun x21 => ?_)
    refine tj_iinc (pc := 64) G 3 (fun x22 => [(3, vI x22), (2, vI x21), (0, vR X 0), (1, vR X k1)]) dX11_comesBy_64 rfl (by decide) (fun _ => rfl) (fun x22 => ?_)
    refine tj_goto (pc := 67) G (tgt := 4) dX11_comesBy_67 (by decide) ?_
    exact tj_sub [2, 3, 1, 0] rfl (hrec x21 x22 M20)
  refine tj_if_ne (pc := 51) G (tgt := 58) (a2 := w32 y11) dX11_comesBy_51 (by decide) rfl ?_ ?_
  · refine tj_iconst (pc := 58) G dX11_comesBy_58 ?_
    exact tj_sub [0, 1, 3] rfl (hj59 0 M16)
  refine tj_iconst (pc := 54) G dX11_comesBy_54 ?_
  refine tj_goto (pc := 55) G (tgt := 59) dX11_comesBy_55 (by decide) ?_
  exact tj_sub [0, 1, 3] rfl (hj59 1 M16)
set_option maxRecDepth 100000 in
set_option maxHeartbeats 4000000 in
theorem ok_X11_comesBy (X : tp_X)  {k1 : Nat} {k1n : Nat} (hk1 : tg_I LM 34 k1 k1n) {M : tp_M} {res : Int × tp_M} (h : fx_X11_comesBy  k1 k1n M = some res) : tp_Ret X LM 34 1 yX11_comesBy (Cond.code yX11_comesBy cX11_comesBy 6 (some .int)) 2 [vR X 0, vR X k1] M res := by
  refine tp_ofW (by decide +kernel) rfl rfl (by show _ ≤ 6; exact Nat.le_of_ble_eq_true rfl) h (fun Y G => ?_)
  show tp_J X Y LM 34 6 2 1 (fx_X11_comesBy  k1 k1n M) M [(0, vR X 0), (1, vR X k1)] [] 0
  unfold fx_X11_comesBy
  refine tj_iconst (pc := 0) G dX11_comesBy_0 ?_
  refine tj_istore_n (pc := 1) G (fun x1 => [(2, vI x1), (0, vR X 0), (1, vR X k1)]) dX11_comesBy_1 rfl (by decide) (fun _ => rfl) (fun x1 => ?_)
  refine tj_iconst (pc := 2) G dX11_comesBy_2 ?_
  refine tj_istore_n (pc := 3) G (fun x2 => [(3, vI x2), (2, vI x1), (0, vR X 0), (1, vR X k1)]) dX11_comesBy_3 rfl (by decide) (fun _ => rfl) (fun x2 => ?_)
  refine tj_sub [2, 3, 1, 0] rfl (fx_X11_comesBy_L4_ok G  hk1   tp_F x1 x2 M)

def fx_X11_ringsBy_L25 (k1 : Nat) (k1n : Nat) (c2 : Int) (c3 : Int) (K56 : Int → tp_M → tp_O) (rec : Int → Int → tp_M → tp_O) (z10 z11 : Int) (M12 : tp_M) : tp_O :=
(if w32 z10 ≤ w32 c3 then
(K56 z10 M12)
else
(if w32 z11 < 8 then
(tp_ck (w32 z10) k1n (tp_bd (fx_X11_goalOf z10 (M12 k1 (w32 z10)) M12) (fun r14 M15 =>
(tp_lt r14 (fun x16 =>
(tp_lt (z11 + 1) (fun x17 =>
(rec x16 x17 M15))))))))
else
(K56 z10 M12)))
def fx_X11_ringsBy_L4 (k1 : Nat) (k1n : Nat)  (rec : Int → Int → tp_M → tp_O) (z3 z4 : Int) (M5 : tp_M) : tp_O :=
(if w32 z4 < w32 (M5 0 3) then
(tp_ck (w32 z4) k1n (tp_bd (fx_X11_goalOf z4 (M5 k1 (w32 z4)) M5) (fun r6 M7 =>
(tp_lt r6 (fun x8 =>
(tp_lt 0 (fun x9 =>
(tp_lp2 (fx_X11_ringsBy_L25 k1 k1n z3 z4 (fun y13 M18 =>
(tp_jn1 (fun y19 M20 => 
(tp_bd (fx_X11_flag y19 M20) (fun r21 M22 =>
(tp_lt (z3 + r21) (fun x23 =>
(tp_lt (z4 + 1) (fun x24 =>
(rec x23 x24 M22)))))))) (fun jk68 =>
(if w32 y13 = w32 z4 then
(jk68 1 M18)
else
(jk68 0 M18)))))) tp_F x8 x9 M7))))))))
else
(some (z3, M5)))
def fx_X11_ringsBy  (k1 : Nat) (k1n : Nat) (M : tp_M) : tp_O :=
(tp_lt 0 (fun x1 =>
(tp_lt 1 (fun x2 =>
(tp_lp2 (fx_X11_ringsBy_L4 k1 k1n ) tp_F x1 x2 M)))))
set_option maxRecDepth 100000 in
set_option maxHeartbeats 4000000 in
theorem fx_X11_ringsBy_L25_ok {X : tp_X} {Y : tp_Y} (G : tp_Ok X Y 34 cX11_ringsBy 6 RX11 (some .int))  {k1 : Nat} {k1n : Nat} {c2 : Int} {c3 : Int} {K56 : Int → tp_M → tp_O} (hk1 : tg_I LM 34 k1 k1n)  (hK56 : ∀ (y13 : Int) (M9 : tp_M), tp_J X Y LM 34 6 2 1 (K56 y13 M9) M9 [(0, vR X 0), (1, vR X k1), (2, vI c2), (3, vI c3), (4, vI y13)] [] 56) (n : Nat) : ∀ (z10 z11 : Int) (M12 : tp_M), tp_J X Y LM 34 6 2 1 (tp_lp2 (fx_X11_ringsBy_L25 k1 k1n c2 c3 K56) n z10 z11 M12) M12 [(0, vR X 0), (1, vR X k1), (2, vI c2), (3, vI c3), (4, vI z10), (5, vI z11)] [] 25 := by
  refine tp_lp2_ok (P := fun o z10 z11 M12 => tp_J X Y LM 34 6 2 1 (o) M12 [(0, vR X 0), (1, vR X k1), (2, vI c2), (3, vI c3), (4, vI z10), (5, vI z11)] [] 25) (fun z10 z11 M12 => tj_none) (fun rec hrec z10 z11 M12 => ?_) n
  unfold fx_X11_ringsBy_L25
  refine tj_iload (pc := 25) G 4 dX11_ringsBy_25 rfl ?_
  refine tj_iload_n (pc := 27) G 3 dX11_ringsBy_27 rfl rfl ?_
  refine tj_icmp_le (pc := 28) G (tgt := 56) (a2 := w32 z10) (b2 := w32 c3) dX11_ringsBy_28 (by decide) rfl rfl ?_ ?_
  · exact tj_sub [0, 1, 2, 3, 4] rfl (hK56 z10 M12)
  refine tj_iload (pc := 31) G 5 dX11_ringsBy_31 rfl ?_
  refine tj_bipush (pc := 33) G dX11_ringsBy_33 rfl ?_
  refine tj_icmp_ge (pc := 35) G (tgt := 56) (a2 := w32 z11) (b2 := 8) dX11_ringsBy_35 (by decide) rfl rfl ?_ ?_
  · exact tj_sub [0, 1, 2, 3, 4] rfl (hK56 z10 M12)
  refine tj_aload_n (pc := 38) G 0 dX11_ringsBy_38 rfl rfl ?_
  refine tj_iload (pc := 39) G 4 dX11_ringsBy_39 rfl ?_
  refine tj_aload_n (pc := 41) G 1 dX11_ringsBy_41 rfl rfl ?_
  refine tj_iload (pc := 42) G 4 dX11_ringsBy_42 rfl ?_
  refine tj_iald (pc := 44) G (k := k1) (i2 := w32 z10) (n2 := k1n) hk1.1 hk1.2 rfl rfl dX11_ringsBy_44 ?_
  refine tj_callVi (pc := 45) G [vI z10, vI (M12 k1 (w32 z10))] mf_X11_goalOf (k := 0) (by decide) lm_0 rfl rfl ml_X11_255 (by decide) rfl rfl (Nat.le_of_ble_eq_true rfl) (fun _ h9 => ok_X11_goalOf X  h9) dX11_ringsBy_45 (fun r14 M15 => ?_)
  refine tj_istore (pc := 48) G (fun x16 => [(4, vI x16), (0, vR X 0), (1, vR X k1), (2, vI c2), (3, vI c3), (5, vI z11)]) dX11_ringsBy_48 (by decide) (fun _ => rfl) (fun x16 => ?_)
  refine tj_iinc (pc := 50) G 5 (fun x17 => [(5, vI x17), (4, vI x16), (0, vR X 0), (1, vR X k1), (2, vI c2), (3, vI c3)]) dX11_ringsBy_50 rfl (by decide) (fun _ => rfl) (fun x17 => ?_)
  refine tj_goto (pc := 53) G (tgt := 25) dX11_ringsBy_53 (by decide) ?_
  exact tj_sub [2, 3, 4, 5, 1, 0] rfl (hrec x16 x17 M15)
set_option maxRecDepth 100000 in
set_option maxHeartbeats 4000000 in
theorem fx_X11_ringsBy_L4_ok {X : tp_X} {Y : tp_Y} (G : tp_Ok X Y 34 cX11_ringsBy 6 RX11 (some .int))  {k1 : Nat} {k1n : Nat} (hk1 : tg_I LM 34 k1 k1n)   (n : Nat) : ∀ (z3 z4 : Int) (M5 : tp_M), tp_J X Y LM 34 6 2 1 (tp_lp2 (fx_X11_ringsBy_L4 k1 k1n  ) n z3 z4 M5) M5 [(0, vR X 0), (1, vR X k1), (2, vI z3), (3, vI z4)] [] 4 := by
  refine tp_lp2_ok (P := fun o z3 z4 M5 => tp_J X Y LM 34 6 2 1 (o) M5 [(0, vR X 0), (1, vR X k1), (2, vI z3), (3, vI z4)] [] 4) (fun z3 z4 M5 => tj_none) (fun rec hrec z3 z4 M5 => ?_) n
  unfold fx_X11_ringsBy_L4
  refine tj_iload_n (pc := 4) G 3 dX11_ringsBy_4 rfl rfl ?_
  refine tj_aload_n (pc := 5) G 0 dX11_ringsBy_5 rfl rfl ?_
  refine tj_getI (pc := 6) G (k := 0) (j := 3) (j2 := 3) tk_X11 (by decide) lm_0 rfl (by decide) rfl fl_X11_28 dX11_ringsBy_6 ?_
  refine tj_icmp_ge (pc := 9) G (tgt := 79) (a2 := w32 z4) (b2 := w32 (M5 0 3)) dX11_ringsBy_9 (by decide) rfl rfl ?_ ?_
  · refine tj_iload_n (pc := 79) G 2 dX11_ringsBy_79 rfl rfl ?_
    exact tj_iret (pc := 80) G dX11_ringsBy_80
  refine tj_aload_n (pc := 12) G 0 dX11_ringsBy_12 rfl rfl ?_
  refine tj_iload_n (pc := 13) G 3 dX11_ringsBy_13 rfl rfl ?_
  refine tj_aload_n (pc := 14) G 1 dX11_ringsBy_14 rfl rfl ?_
  refine tj_iload_n (pc := 15) G 3 dX11_ringsBy_15 rfl rfl ?_
  refine tj_iald (pc := 16) G (k := k1) (i2 := w32 z4) (n2 := k1n) hk1.1 hk1.2 rfl rfl dX11_ringsBy_16 ?_
  refine tj_callVi (pc := 17) G [vI z4, vI (M5 k1 (w32 z4))] mf_X11_goalOf (k := 0) (by decide) lm_0 rfl rfl ml_X11_255 (by decide) rfl rfl (Nat.le_of_ble_eq_true rfl) (fun _ h9 => ok_X11_goalOf X  h9) dX11_ringsBy_17 (fun r6 M7 => ?_)
  refine tj_istore (pc := 20) G (fun x8 => [(4, vI x8), (0, vR X 0), (1, vR X k1), (2, vI z3), (3, vI z4)]) dX11_ringsBy_20 (by decide) (fun _ => rfl) (fun x8 => ?_)
  refine tj_iconst (pc := 22) G dX11_ringsBy_22 ?_
  refine tj_istore (pc := 23) G (fun x9 => [(5, vI x9), (4, vI x8), (0, vR X 0), (1, vR X k1), (2, vI z3), (3, vI z4)]) dX11_ringsBy_23 (by decide) (fun _ => rfl) (fun x9 => ?_)
  refine tj_sub [2, 3, 4, 5, 1, 0] rfl (fx_X11_ringsBy_L25_ok G  hk1  (fun y13 M18 => ?_) tp_F x8 x9 M7)
  refine tj_iload_n (pc := 56) G 2 dX11_ringsBy_56 rfl rfl ?_
  refine tj_iload (pc := 57) G 4 dX11_ringsBy_57 rfl ?_
  refine tj_iload_n (pc := 59) G 3 dX11_ringsBy_59 rfl rfl ?_
  refine tj_jn1 (fun y19 => [(0, vR X 0), (1, vR X k1), (3, vI z4)]) (fun y19 => [vI y19, vI z3]) 68 (fun y19 M20 => ?_) (fun jk68 hj68 => ?_)
  · refine tj_callSi (pc := 68) G [vI y19] mf_X11_flag ml_X11_151 (by decide) rfl rfl (Nat.le_of_ble_eq_true rfl) (fun _ h9 => ok_X11_flag X  h9) dX11_ringsBy_68 (fun r21 M22 => ?_)
    refine tj_iadd (pc := 71) G dX11_ringsBy_71 ?_
    refine tj_istore_n (pc := 72) G (fun x23 => [(2, vI x23), (0, vR X 0), (1, vR X k1), (3, vI z4)]) dX11_ringsBy_72 rfl (by decide) (fun _ => rfl) (fun x23 => ?_)
    refine tj_iinc (pc := 73) G 3 (fun x24 => [(3, vI x24), (2, vI x23), (0, vR X 0), (1, vR X k1)]) dX11_ringsBy_73 rfl (by decide) (fun _ => rfl) (fun x24 => ?_)
    refine tj_goto (pc := 76) G (tgt := 4) dX11_ringsBy_76 (by decide) ?_
    exact tj_sub [2, 3, 1, 0] rfl (hrec x23 x24 M22)
  refine tj_icmp_ne (pc := 60) G (tgt := 67) (a2 := w32 y13) (b2 := w32 z4) dX11_ringsBy_60 (by decide) rfl rfl ?_ ?_
  · refine tj_iconst (pc := 67) G dX11_ringsBy_67 ?_
    exact tj_sub [0, 1, 3] rfl (hj68 0 M18)
  refine tj_iconst (pc := 63) G dX11_ringsBy_63 ?_
  refine tj_goto (pc := 64) G (tgt := 68) dX11_ringsBy_64 (by decide) ?_
  exact tj_sub [0, 1, 3] rfl (hj68 1 M18)
set_option maxRecDepth 100000 in
set_option maxHeartbeats 4000000 in
theorem ok_X11_ringsBy (X : tp_X)  {k1 : Nat} {k1n : Nat} (hk1 : tg_I LM 34 k1 k1n) {M : tp_M} {res : Int × tp_M} (h : fx_X11_ringsBy  k1 k1n M = some res) : tp_Ret X LM 34 1 yX11_ringsBy (Cond.code yX11_ringsBy cX11_ringsBy 6 (some .int)) 2 [vR X 0, vR X k1] M res := by
  refine tp_ofW (by decide +kernel) rfl rfl (by show _ ≤ 6; exact Nat.le_of_ble_eq_true rfl) h (fun Y G => ?_)
  show tp_J X Y LM 34 6 2 1 (fx_X11_ringsBy  k1 k1n M) M [(0, vR X 0), (1, vR X k1)] [] 0
  unfold fx_X11_ringsBy
  refine tj_iconst (pc := 0) G dX11_ringsBy_0 ?_
  refine tj_istore_n (pc := 1) G (fun x1 => [(2, vI x1), (0, vR X 0), (1, vR X k1)]) dX11_ringsBy_1 rfl (by decide) (fun _ => rfl) (fun x1 => ?_)
  refine tj_iconst (pc := 2) G dX11_ringsBy_2 ?_
  refine tj_istore_n (pc := 3) G (fun x2 => [(3, vI x2), (2, vI x1), (0, vR X 0), (1, vR X k1)]) dX11_ringsBy_3 rfl (by decide) (fun _ => rfl) (fun x2 => ?_)
  refine tj_sub [2, 3, 1, 0] rfl (fx_X11_ringsBy_L4_ok G  hk1   tp_F x1 x2 M)

def fx_X11_tree   (M : tp_M) : tp_O :=
(tp_lm (tp_up M 0 0 0) (fun M1 =>
(tp_bd (fx_X11_comesBy 4 17 M1) (fun r2 M3 =>
(tp_lt r2 (fun x4 =>
(tp_lm (tp_up M3 0 1 0) (fun M5 =>
(tp_jn1 (fun y6 M7 => 
(tp_bd (fx_X11_flag y6 M7) (fun r8 M9 =>
(tp_bd (fx_X11_enters (w32 r8) M9) (fun r10 M11 =>
(tp_bd (fx_X11_ringsBy 4 17 M11) (fun r12 M13 =>
(tp_bd (fx_X11_enters (w32 r12) M13) (fun r14 M15 =>
(some (x4, M15))))))))))) (fun jk35 =>
(if w32 x4 = w32 ((M5 0 3) - 1) then
(jk35 1 M5)
else
(jk35 0 M5))))))))))))
set_option maxRecDepth 100000 in
set_option maxHeartbeats 4000000 in
theorem ok_X11_tree (X : tp_X)    {M : tp_M} {res : Int × tp_M} (h : fx_X11_tree   M = some res) : tp_Ret X LM 34 1 yX11_tree (Cond.code yX11_tree cX11_tree 2 (some .int)) 3 [vR X 0] M res := by
  refine tp_ofW (by decide +kernel) rfl rfl (by show _ ≤ 2; exact Nat.le_of_ble_eq_true rfl) h (fun Y G => ?_)
  show tp_J X Y LM 34 2 3 1 (fx_X11_tree   M) M [(0, vR X 0)] [] 0
  unfold fx_X11_tree
  refine tj_aload_n (pc := 0) G 0 dX11_tree_0 rfl rfl ?_
  refine tj_iconst (pc := 1) G dX11_tree_1 ?_
  refine tj_putI (pc := 2) G (k := 0) (j := 0) (j2 := 0) tk_X11 (by decide) lm_0 rfl (by decide) rfl fl_X11_3 rfl rfl dX11_tree_2 (fun M1 => ?_)
  refine tj_aload_n (pc := 5) G 0 dX11_tree_5 rfl rfl ?_
  refine tj_aload_n (pc := 6) G 0 dX11_tree_6 rfl rfl ?_
  refine tj_getR (pc := 7) G (k := 0) (j := 6) (j2 := 6) tk_X11 (by decide) lm_0 rfl (by decide) rfl fl_X11_38 dX11_tree_7 ?_
  refine tj_callVi (pc := 10) G [vR X 4] mf_X11_comesBy (k := 0) (by decide) lm_0 rfl rfl ml_X11_377 (by decide) rfl rfl (Nat.le_of_ble_eq_true rfl) (fun _ h9 => ok_X11_comesBy X ⟨by decide, lm_4⟩ h9) dX11_tree_10 (fun r2 M3 => ?_)
  refine tj_istore_n (pc := 13) G (fun x4 => [(1, vI x4), (0, vR X 0)]) dX11_tree_13 rfl (by decide) (fun _ => rfl) (fun x4 => ?_)
  refine tj_aload_n (pc := 14) G 1 dX11_tree_14 rfl rfl ?_
  refine tj_iconst (pc := 15) G dX11_tree_15 ?_
  refine tj_putI (pc := 16) G (k := 0) (j := 1) (j2 := 1) tk_X11 (by decide) lm_0 rfl (by decide) rfl fl_X11_15 rfl rfl dX11_tree_16 (fun M5 => ?_)
  refine tj_aload_n (pc := 19) G 1 dX11_tree_19 rfl rfl ?_
  refine tj_iload_n (pc := 20) G 0 dX11_tree_20 rfl rfl ?_
  refine tj_aload_n (pc := 21) G 1 dX11_tree_21 rfl rfl ?_
  refine tj_getI (pc := 22) G (k := 0) (j := 3) (j2 := 3) tk_X11 (by decide) lm_0 rfl (by decide) rfl fl_X11_28 dX11_tree_22 ?_
  refine tj_iconst (pc := 25) G dX11_tree_25 ?_
  refine tj_isub (pc := 26) G dX11_tree_26 ?_
  refine tj_jn1 (fun y6 => [(0, vR X 0), (1, vI x4)]) (fun y6 => [vI y6, vR X 0]) 35 (fun y6 M7 => ?_) (fun jk35 hj35 => ?_)
  · refine tj_callSi (pc := 35) G [vI y6] mf_X11_flag ml_X11_151 (by decide) rfl rfl (Nat.le_of_ble_eq_true rfl) (fun _ h9 => ok_X11_flag X  h9) dX11_tree_35 (fun r8 M9 => ?_)
    refine tj_i2l (pc := 38) G (b := w32 r8) dX11_tree_38 rfl ?_
    refine tj_callVv (pc := 39) G [vL (w32 r8)] mf_X11_enters (k := 0) (by decide) lm_0 rfl rfl ml_X11_18 (by decide) rfl rfl (Nat.le_of_ble_eq_true rfl) (fun _ h9 => ok_X11_enters X  h9) dX11_tree_39 (fun r10 M11 => ?_)
    refine tj_aload_n (pc := 42) G 0 dX11_tree_42 rfl rfl ?_
    refine tj_aload_n (pc := 43) G 0 dX11_tree_43 rfl rfl ?_
    refine tj_aload_n (pc := 44) G 0 dX11_tree_44 rfl rfl ?_
    refine tj_getR (pc := 45) G (k := 0) (j := 6) (j2 := 6) tk_X11 (by decide) lm_0 rfl (by decide) rfl fl_X11_38 dX11_tree_45 ?_
    refine tj_callVi (pc := 48) G [vR X 4] mf_X11_ringsBy (k := 0) (by decide) lm_0 rfl rfl ml_X11_380 (by decide) rfl rfl (Nat.le_of_ble_eq_true rfl) (fun _ h9 => ok_X11_ringsBy X ⟨by decide, lm_4⟩ h9) dX11_tree_48 (fun r12 M13 => ?_)
    refine tj_i2l (pc := 51) G (b := w32 r12) dX11_tree_51 rfl ?_
    refine tj_callVv (pc := 52) G [vL (w32 r12)] mf_X11_enters (k := 0) (by decide) lm_0 rfl rfl ml_X11_18 (by decide) rfl rfl (Nat.le_of_ble_eq_true rfl) (fun _ h9 => ok_X11_enters X  h9) dX11_tree_52 (fun r14 M15 => ?_)
    refine tj_iload_n (pc := 55) G 1 dX11_tree_55 rfl rfl ?_
    exact tj_iret (pc := 56) G dX11_tree_56
  refine tj_icmp_ne (pc := 27) G (tgt := 34) (a2 := w32 x4) (b2 := w32 ((M5 0 3) - 1)) dX11_tree_27 (by decide) rfl rfl ?_ ?_
  · refine tj_iconst (pc := 34) G dX11_tree_34 ?_
    exact tj_sub [1, 0] rfl (hj35 0 M5)
  refine tj_iconst (pc := 30) G dX11_tree_30 ?_
  refine tj_goto (pc := 31) G (tgt := 35) dX11_tree_31 (by decide) ?_
  exact tj_sub [1, 0] rfl (hj35 1 M5)

def fx_X11_settings_L4  (rec : Int → Int → tp_M → tp_O) (z3 z4 : Int) (M5 : tp_M) : tp_O :=
(if w32 z4 < w32 (M5 0 3) then
(tp_ck (w32 z4) 8 (tp_lt (z3 * (M5 2 (w32 z4))) (fun x6 =>
(tp_lt (z4 + 1) (fun x7 =>
(rec x6 x7 M5))))))
else
(some (z3, M5)))
def fx_X11_settings   (M : tp_M) : tp_O :=
(tp_lt 1 (fun x1 =>
(tp_lt 1 (fun x2 =>
(tp_lp2 (fx_X11_settings_L4  ) tp_F x1 x2 M)))))
set_option maxRecDepth 100000 in
set_option maxHeartbeats 4000000 in
theorem fx_X11_settings_L4_ok {X : tp_X} {Y : tp_Y} (G : tp_Ok X Y 34 cX11_settings 3 RX11 (some .int))      (n : Nat) : ∀ (z3 z4 : Int) (M5 : tp_M), tp_J X Y LM 34 3 1 1 (tp_lp2 (fx_X11_settings_L4   ) n z3 z4 M5) M5 [(0, vR X 0), (1, vI z3), (2, vI z4)] [] 4 := by
  refine tp_lp2_ok (P := fun o z3 z4 M5 => tp_J X Y LM 34 3 1 1 (o) M5 [(0, vR X 0), (1, vI z3), (2, vI z4)] [] 4) (fun z3 z4 M5 => tj_none) (fun rec hrec z3 z4 M5 => ?_) n
  unfold fx_X11_settings_L4
  refine tj_iload_n (pc := 4) G 2 dX11_settings_4 rfl rfl ?_
  refine tj_aload_n (pc := 5) G 0 dX11_settings_5 rfl rfl ?_
  refine tj_getI (pc := 6) G (k := 0) (j := 3) (j2 := 3) tk_X11 (by decide) lm_0 rfl (by decide) rfl fl_X11_28 dX11_settings_6 ?_
  refine tj_icmp_ge (pc := 9) G (tgt := 27) (a2 := w32 z4) (b2 := w32 (M5 0 3)) dX11_settings_9 (by decide) rfl rfl ?_ ?_
  · refine tj_iload_n (pc := 27) G 1 dX11_settings_27 rfl rfl ?_
    exact tj_iret (pc := 28) G dX11_settings_28
  refine tj_iload_n (pc := 12) G 1 dX11_settings_12 rfl rfl ?_
  refine tj_aload_n (pc := 13) G 0 dX11_settings_13 rfl rfl ?_
  refine tj_getR (pc := 14) G (k := 0) (j := 4) (j2 := 4) tk_X11 (by decide) lm_0 rfl (by decide) rfl fl_X11_31 dX11_settings_14 ?_
  refine tj_iload_n (pc := 17) G 2 dX11_settings_17 rfl rfl ?_
  refine tj_iald (pc := 18) G (k := 2) (i2 := w32 z4) (n2 := 8) (by decide) lm_2 rfl rfl dX11_settings_18 ?_
  refine tj_imul (pc := 19) G dX11_settings_19 ?_
  refine tj_istore_n (pc := 20) G (fun x6 => [(1, vI x6), (0, vR X 0), (2, vI z4)]) dX11_settings_20 rfl (by decide) (fun _ => rfl) (fun x6 => ?_)
  refine tj_iinc (pc := 21) G 2 (fun x7 => [(2, vI x7), (1, vI x6), (0, vR X 0)]) dX11_settings_21 rfl (by decide) (fun _ => rfl) (fun x7 => ?_)
  refine tj_goto (pc := 24) G (tgt := 4) dX11_settings_24 (by decide) ?_
  exact tj_sub [2, 1, 0] rfl (hrec x6 x7 M5)
set_option maxRecDepth 100000 in
set_option maxHeartbeats 4000000 in
theorem ok_X11_settings (X : tp_X)    {M : tp_M} {res : Int × tp_M} (h : fx_X11_settings   M = some res) : tp_Ret X LM 34 1 yX11_settings (Cond.code yX11_settings cX11_settings 3 (some .int)) 1 [vR X 0] M res := by
  refine tp_ofW (by decide +kernel) rfl rfl (by show _ ≤ 3; exact Nat.le_of_ble_eq_true rfl) h (fun Y G => ?_)
  show tp_J X Y LM 34 3 1 1 (fx_X11_settings   M) M [(0, vR X 0)] [] 0
  unfold fx_X11_settings
  refine tj_iconst (pc := 0) G dX11_settings_0 ?_
  refine tj_istore_n (pc := 1) G (fun x1 => [(1, vI x1), (0, vR X 0)]) dX11_settings_1 rfl (by decide) (fun _ => rfl) (fun x1 => ?_)
  refine tj_iconst (pc := 2) G dX11_settings_2 ?_
  refine tj_istore_n (pc := 3) G (fun x2 => [(2, vI x2), (1, vI x1), (0, vR X 0)]) dX11_settings_3 rfl (by decide) (fun _ => rfl) (fun x2 => ?_)
  refine tj_sub [2, 1, 0] rfl (fx_X11_settings_L4_ok G     tp_F x1 x2 M)

def fx_X11_laysSetting_L9  (K42 : tp_M → tp_O) (rec : Int → Int → tp_M → tp_O) (z3 z4 : Int) (M5 : tp_M) : tp_O :=
(if w32 z4 ≤ 0 then
(K42 M5)
else
(tp_ck (w32 z4) 8 (tp_nz (w32 (M5 2 (w32 z4))) (tp_ck (w32 z4) 8 (tp_lm (tp_up M5 20 (w32 z4) (x_rem z3 (M5 2 (w32 z4)))) (fun M6 =>
(tp_ck (w32 z4) 8 (tp_nz (w32 (M6 2 (w32 z4))) (tp_lt (x_div z3 (M6 2 (w32 z4))) (fun x7 =>
(tp_lt (z4 + (-1)) (fun x8 =>
(rec x7 x8 M6)))))))))))))
def fx_X11_laysSetting  (a1 : Int) (M : tp_M) : tp_O :=
(tp_lt a1 (fun x1 =>
(tp_lt ((M 0 3) - 1) (fun x2 =>
(tp_lp2 (fx_X11_laysSetting_L9  (fun M9 =>
(tp_bd (fx_X11_comesBy 20 8 M9) (fun r10 M11 =>
(if w32 r10 = w32 ((M11 0 3) - 1) then
(some (1, M11))
else
(some (0, M11))))))) tp_F x1 x2 M)))))
set_option maxRecDepth 100000 in
set_option maxHeartbeats 4000000 in
theorem fx_X11_laysSetting_L9_ok {X : tp_X} {Y : tp_Y} (G : tp_Ok X Y 34 cX11_laysSetting 4 RX11 (some .boolean))  {K42 : tp_M → tp_O}   (hK42 : ∀ (M9 : tp_M), tp_J X Y LM 34 4 3 1 (K42  M9) M9 [(0, vR X 0)] [] 42) (n : Nat) : ∀ (z3 z4 : Int) (M5 : tp_M), tp_J X Y LM 34 4 3 1 (tp_lp2 (fx_X11_laysSetting_L9   K42) n z3 z4 M5) M5 [(0, vR X 0), (2, vI z3), (3, vI z4)] [] 9 := by
  refine tp_lp2_ok (P := fun o z3 z4 M5 => tp_J X Y LM 34 4 3 1 (o) M5 [(0, vR X 0), (2, vI z3), (3, vI z4)] [] 9) (fun z3 z4 M5 => tj_none) (fun rec hrec z3 z4 M5 => ?_) n
  unfold fx_X11_laysSetting_L9
  refine tj_iload_n (pc := 9) G 2 dX11_laysSetting_9 rfl rfl ?_
  refine tj_if_le (pc := 10) G (tgt := 42) (a2 := w32 z4) dX11_laysSetting_10 (by decide) rfl ?_ ?_
  · exact tj_sub [0] rfl (hK42  M5)
  refine tj_aload_n (pc := 13) G 0 dX11_laysSetting_13 rfl rfl ?_
  refine tj_getR (pc := 14) G (k := 0) (j := 34) (j2 := 34) tk_X11 (by decide) lm_0 rfl (by decide) rfl fl_X11_86 dX11_laysSetting_14 ?_
  refine tj_iload_n (pc := 17) G 2 dX11_laysSetting_17 rfl rfl ?_
  refine tj_iload_n (pc := 18) G 1 dX11_laysSetting_18 rfl rfl ?_
  refine tj_aload_n (pc := 19) G 0 dX11_laysSetting_19 rfl rfl ?_
  refine tj_getR (pc := 20) G (k := 0) (j := 4) (j2 := 4) tk_X11 (by decide) lm_0 rfl (by decide) rfl fl_X11_31 dX11_laysSetting_20 ?_
  refine tj_iload_n (pc := 23) G 2 dX11_laysSetting_23 rfl rfl ?_
  refine tj_iald (pc := 24) G (k := 2) (i2 := w32 z4) (n2 := 8) (by decide) lm_2 rfl rfl dX11_laysSetting_24 ?_
  refine tj_irem (pc := 25) G (b2 := w32 (M5 2 (w32 z4))) dX11_laysSetting_25 rfl ?_
  refine tj_iast (pc := 26) G (k := 20) (i2 := w32 z4) (n2 := 8) (by decide) lm_20 rfl rfl dX11_laysSetting_26 (fun M6 => ?_)
  refine tj_iload_n (pc := 27) G 1 dX11_laysSetting_27 rfl rfl ?_
  refine tj_aload_n (pc := 28) G 0 dX11_laysSetting_28 rfl rfl ?_
  refine tj_getR (pc := 29) G (k := 0) (j := 4) (j2 := 4) tk_X11 (by decide) lm_0 rfl (by decide) rfl fl_X11_31 dX11_laysSetting_29 ?_
  refine tj_iload_n (pc := 32) G 2 dX11_laysSetting_32 rfl rfl ?_
  refine tj_iald (pc := 33) G (k := 2) (i2 := w32 z4) (n2 := 8) (by decide) lm_2 rfl rfl dX11_laysSetting_33 ?_
  refine tj_idiv (pc := 34) G (b2 := w32 (M6 2 (w32 z4))) dX11_laysSetting_34 rfl ?_
  refine tj_istore_n (pc := 35) G (fun x7 => [(2, vI x7), (0, vR X 0), (3, vI z4)]) dX11_laysSetting_35 rfl (by decide) (fun _ => rfl) (fun x7 => ?_)
  refine tj_iinc (pc := 36) G 2 (fun x8 => [(3, vI x8), (2, vI x7), (0, vR X 0)]) dX11_laysSetting_36 rfl (by decide) (fun _ => rfl) (fun x8 => ?_)
  refine tj_goto (pc := 39) G (tgt := 9) dX11_laysSetting_39 (by decide) ?_
  exact tj_sub [2, 1, 0] rfl (hrec x7 x8 M6)
set_option maxRecDepth 100000 in
set_option maxHeartbeats 4000000 in
theorem ok_X11_laysSetting (X : tp_X)  {a1 : Int}  {M : tp_M} {res : Int × tp_M} (h : fx_X11_laysSetting  a1 M = some res) : tp_Ret X LM 34 1 yX11_laysSetting (Cond.code yX11_laysSetting cX11_laysSetting 4 (some .boolean)) 3 [vR X 0, vI a1] M res := by
  refine tp_ofW (by decide +kernel) rfl rfl (by show _ ≤ 4; exact Nat.le_of_ble_eq_true rfl) h (fun Y G => ?_)
  show tp_J X Y LM 34 4 3 1 (fx_X11_laysSetting  a1 M) M [(0, vR X 0), (1, vI a1)] [] 0
  unfold fx_X11_laysSetting
  refine tj_iload_n (pc := 0) G 1 dX11_laysSetting_0 rfl rfl ?_
  refine tj_istore_n (pc := 1) G (fun x1 => [(2, vI x1), (0, vR X 0), (1, vI a1)]) dX11_laysSetting_1 rfl (by decide) (fun _ => rfl) (fun x1 => ?_)
  refine tj_aload_n (pc := 2) G 1 dX11_laysSetting_2 rfl rfl ?_
  refine tj_getI (pc := 3) G (k := 0) (j := 3) (j2 := 3) tk_X11 (by decide) lm_0 rfl (by decide) rfl fl_X11_28 dX11_laysSetting_3 ?_
  refine tj_iconst (pc := 6) G dX11_laysSetting_6 ?_
  refine tj_isub (pc := 7) G dX11_laysSetting_7 ?_
  refine tj_istore_n (pc := 8) G (fun x2 => [(3, vI x2), (2, vI x1), (0, vR X 0), (1, vI a1)]) dX11_laysSetting_8 rfl (by decide) (fun _ => rfl) (fun x2 => ?_)
  refine tj_sub [2, 1, 0] rfl (fx_X11_laysSetting_L9_ok G    (fun M9 => ?_) tp_F x1 x2 M)
  refine tj_aload_n (pc := 42) G 0 dX11_laysSetting_42 rfl rfl ?_
  refine tj_aload_n (pc := 43) G 0 dX11_laysSetting_43 rfl rfl ?_
  refine tj_getR (pc := 44) G (k := 0) (j := 34) (j2 := 34) tk_X11 (by decide) lm_0 rfl (by decide) rfl fl_X11_86 dX11_laysSetting_44 ?_
  refine tj_callVi (pc := 47) G [vR X 20] mf_X11_comesBy (k := 0) (by decide) lm_0 rfl rfl ml_X11_377 (by decide) rfl rfl (Nat.le_of_ble_eq_true rfl) (fun _ h9 => ok_X11_comesBy X ⟨by decide, lm_20⟩ h9) dX11_laysSetting_47 (fun r10 M11 => ?_)
  refine tj_aload_n (pc := 50) G 0 dX11_laysSetting_50 rfl rfl ?_
  refine tj_getI (pc := 51) G (k := 0) (j := 3) (j2 := 3) tk_X11 (by decide) lm_0 rfl (by decide) rfl fl_X11_28 dX11_laysSetting_51 ?_
  refine tj_iconst (pc := 54) G dX11_laysSetting_54 ?_
  refine tj_isub (pc := 55) G dX11_laysSetting_55 ?_
  refine tj_icmp_ne (pc := 56) G (tgt := 63) (a2 := w32 r10) (b2 := w32 ((M11 0 3) - 1)) dX11_laysSetting_56 (by decide) rfl rfl ?_ ?_
  · refine tj_iconst (pc := 63) G dX11_laysSetting_63 ?_
    exact tj_zret (pc := 64) G (by decide) dX11_laysSetting_64
  refine tj_iconst (pc := 59) G dX11_laysSetting_59 ?_
  refine tj_goto (pc := 60) G (tgt := 64) dX11_laysSetting_60 (by decide) ?_
  exact tj_zret (pc := 64) G (by decide) dX11_laysSetting_64

def fx_X11_entersPosts_L13  (rec : Int → tp_M → tp_O) (z5 : Int) (M6 : tp_M) : tp_O :=
(if w32 z5 < w32 (M6 0 3) then
(tp_ck (w32 z5) 8 (tp_bd (fx_X11_enters (w32 (M6 20 (w32 z5))) M6) (fun r7 M8 =>
(tp_lt (z5 + 1) (fun x9 =>
(rec x9 M8))))))
else
(some (0, M6)))
def fx_X11_entersPosts  (a1 : Int) (M : tp_M) : tp_O :=
(tp_bd (fx_X11_laysSetting a1 M) (fun r1 M2 =>
(tp_lm (tp_up M2 0 1 0) (fun M3 =>
(tp_lt 1 (fun x4 =>
(tp_lp1 (fx_X11_entersPosts_L13  ) tp_F x4 M3)))))))
set_option maxRecDepth 100000 in
set_option maxHeartbeats 4000000 in
theorem fx_X11_entersPosts_L13_ok {X : tp_X} {Y : tp_Y} (G : tp_Ok X Y 34 cX11_entersPosts 3 RX11 none)      (n : Nat) : ∀ (z5 : Int) (M6 : tp_M), tp_J X Y LM 34 3 4 0 (tp_lp1 (fx_X11_entersPosts_L13   ) n z5 M6) M6 [(0, vR X 0), (2, vI z5)] [] 13 := by
  refine tp_lp1_ok (P := fun o z5 M6 => tp_J X Y LM 34 3 4 0 (o) M6 [(0, vR X 0), (2, vI z5)] [] 13) (fun z5 M6 => tj_none) (fun rec hrec z5 M6 => ?_) n
  unfold fx_X11_entersPosts_L13
  refine tj_iload_n (pc := 13) G 1 dX11_entersPosts_13 rfl rfl ?_
  refine tj_aload_n (pc := 14) G 0 dX11_entersPosts_14 rfl rfl ?_
  refine tj_getI (pc := 15) G (k := 0) (j := 3) (j2 := 3) tk_X11 (by decide) lm_0 rfl (by decide) rfl fl_X11_28 dX11_entersPosts_15 ?_
  refine tj_icmp_ge (pc := 18) G (tgt := 38) (a2 := w32 z5) (b2 := w32 (M6 0 3)) dX11_entersPosts_18 (by decide) rfl rfl ?_ ?_
  · exact tj_vret (pc := 38) G dX11_entersPosts_38
  refine tj_aload_n (pc := 21) G 0 dX11_entersPosts_21 rfl rfl ?_
  refine tj_aload_n (pc := 22) G 0 dX11_entersPosts_22 rfl rfl ?_
  refine tj_getR (pc := 23) G (k := 0) (j := 34) (j2 := 34) tk_X11 (by decide) lm_0 rfl (by decide) rfl fl_X11_86 dX11_entersPosts_23 ?_
  refine tj_iload_n (pc := 26) G 1 dX11_entersPosts_26 rfl rfl ?_
  refine tj_iald (pc := 27) G (k := 20) (i2 := w32 z5) (n2 := 8) (by decide) lm_20 rfl rfl dX11_entersPosts_27 ?_
  refine tj_i2l (pc := 28) G (b := w32 (M6 20 (w32 z5))) dX11_entersPosts_28 rfl ?_
  refine tj_callVv (pc := 29) G [vL (w32 (M6 20 (w32 z5)))] mf_X11_enters (k := 0) (by decide) lm_0 rfl rfl ml_X11_18 (by decide) rfl rfl (Nat.le_of_ble_eq_true rfl) (fun _ h9 => ok_X11_enters X  h9) dX11_entersPosts_29 (fun r7 M8 => ?_)
  refine tj_iinc (pc := 32) G 1 (fun x9 => [(2, vI x9), (0, vR X 0)]) dX11_entersPosts_32 rfl (by decide) (fun _ => rfl) (fun x9 => ?_)
  refine tj_goto (pc := 35) G (tgt := 13) dX11_entersPosts_35 (by decide) ?_
  exact tj_sub [1, 0] rfl (hrec x9 M8)
set_option maxRecDepth 100000 in
set_option maxHeartbeats 4000000 in
theorem ok_X11_entersPosts (X : tp_X)  {a1 : Int}  {M : tp_M} {res : Int × tp_M} (h : fx_X11_entersPosts  a1 M = some res) : tp_Ret X LM 34 0 yX11_entersPosts (Cond.code yX11_entersPosts cX11_entersPosts 3 none) 4 [vR X 0, vI a1] M res := by
  refine tp_ofW (by decide +kernel) rfl rfl (by show _ ≤ 3; exact Nat.le_of_ble_eq_true rfl) h (fun Y G => ?_)
  show tp_J X Y LM 34 3 4 0 (fx_X11_entersPosts  a1 M) M [(0, vR X 0), (1, vI a1)] [] 0
  unfold fx_X11_entersPosts
  refine tj_aload_n (pc := 0) G 0 dX11_entersPosts_0 rfl rfl ?_
  refine tj_iload_n (pc := 1) G 1 dX11_entersPosts_1 rfl rfl ?_
  refine tj_callVi (pc := 2) G [vI a1] mf_X11_laysSetting (k := 0) (by decide) lm_0 rfl rfl ml_X11_383 (by decide) rfl rfl (Nat.le_of_ble_eq_true rfl) (fun _ h9 => ok_X11_laysSetting X  h9) dX11_entersPosts_2 (fun r1 M2 => ?_)
  refine tj_pop (pc := 5) G dX11_entersPosts_5 rfl ?_
  refine tj_aload_n (pc := 6) G 0 dX11_entersPosts_6 rfl rfl ?_
  refine tj_iconst (pc := 7) G dX11_entersPosts_7 ?_
  refine tj_putI (pc := 8) G (k := 0) (j := 1) (j2 := 1) tk_X11 (by decide) lm_0 rfl (by decide) rfl fl_X11_15 rfl rfl dX11_entersPosts_8 (fun M3 => ?_)
  refine tj_iconst (pc := 11) G dX11_entersPosts_11 ?_
  refine tj_istore_n (pc := 12) G (fun x4 => [(2, vI x4), (0, vR X 0), (1, vI a1)]) dX11_entersPosts_12 rfl (by decide) (fun _ => rfl) (fun x4 => ?_)
  refine tj_sub [1, 0] rfl (fx_X11_entersPosts_L13_ok G     tp_F x4 M3)

def fx_X11_trees_L9  (K34 : Int → tp_M → tp_O) (rec : Int → Int → tp_M → tp_O) (z4 z5 : Int) (M6 : tp_M) : tp_O :=
(tp_bd (fx_X11_settings  M6) (fun r8 M9 =>
(if w32 z5 < w32 r8 then
(tp_bd (fx_X11_laysSetting z5 M9) (fun r10 M11 =>
(tp_bd (fx_X11_flag r10 M11) (fun r12 M13 =>
(tp_lt (z4 + r12) (fun x14 =>
(tp_lt (z5 + 1) (fun x15 =>
(rec x14 x15 M13)))))))))
else
(K34 z4 M9))))
def fx_X11_trees   (M : tp_M) : tp_O :=
(tp_lm (tp_up M 0 0 0) (fun M1 =>
(tp_lt 0 (fun x2 =>
(tp_lt 0 (fun x3 =>
(tp_lp2 (fx_X11_trees_L9  (fun y7 M16 =>
(tp_lm (tp_up M16 0 1 0) (fun M17 =>
(tp_bd (fx_X11_settings  M17) (fun r18 M19 =>
(tp_bd (fx_X11_enters (w32 r18) M19) (fun r20 M21 =>
(some (y7, M21)))))))))) tp_F x2 x3 M1)))))))
set_option maxRecDepth 100000 in
set_option maxHeartbeats 4000000 in
theorem fx_X11_trees_L9_ok {X : tp_X} {Y : tp_Y} (G : tp_Ok X Y 34 cX11_trees 3 RX11 (some .int))  {K34 : Int → tp_M → tp_O}   (hK34 : ∀ (y7 : Int) (M9 : tp_M), tp_J X Y LM 34 3 4 1 (K34 y7 M9) M9 [(0, vR X 0), (1, vI y7)] [] 34) (n : Nat) : ∀ (z4 z5 : Int) (M6 : tp_M), tp_J X Y LM 34 3 4 1 (tp_lp2 (fx_X11_trees_L9   K34) n z4 z5 M6) M6 [(0, vR X 0), (1, vI z4), (2, vI z5)] [] 9 := by
  refine tp_lp2_ok (P := fun o z4 z5 M6 => tp_J X Y LM 34 3 4 1 (o) M6 [(0, vR X 0), (1, vI z4), (2, vI z5)] [] 9) (fun z4 z5 M6 => tj_none) (fun rec hrec z4 z5 M6 => ?_) n
  unfold fx_X11_trees_L9
  refine tj_iload_n (pc := 9) G 2 dX11_trees_9 rfl rfl ?_
  refine tj_aload_n (pc := 10) G 0 dX11_trees_10 rfl rfl ?_
  refine tj_callVi (pc := 11) G [] mf_X11_settings (k := 0) (by decide) lm_0 rfl rfl ml_X11_386 (by decide) rfl rfl (Nat.le_of_ble_eq_true rfl) (fun _ h9 => ok_X11_settings X  h9) dX11_trees_11 (fun r8 M9 => ?_)
  refine tj_icmp_ge (pc := 14) G (tgt := 34) (a2 := w32 z5) (b2 := w32 r8) dX11_trees_14 (by decide) rfl rfl ?_ ?_
  · exact tj_sub [0, 1] rfl (hK34 z4 M9)
  refine tj_iload_n (pc := 17) G 1 dX11_trees_17 rfl rfl ?_
  refine tj_aload_n (pc := 18) G 0 dX11_trees_18 rfl rfl ?_
  refine tj_iload_n (pc := 19) G 2 dX11_trees_19 rfl rfl ?_
  refine tj_callVi (pc := 20) G [vI z5] mf_X11_laysSetting (k := 0) (by decide) lm_0 rfl rfl ml_X11_383 (by decide) rfl rfl (Nat.le_of_ble_eq_true rfl) (fun _ h9 => ok_X11_laysSetting X  h9) dX11_trees_20 (fun r10 M11 => ?_)
  refine tj_callSi (pc := 23) G [vI r10] mf_X11_flag ml_X11_151 (by decide) rfl rfl (Nat.le_of_ble_eq_true rfl) (fun _ h9 => ok_X11_flag X  h9) dX11_trees_23 (fun r12 M13 => ?_)
  refine tj_iadd (pc := 26) G dX11_trees_26 ?_
  refine tj_istore_n (pc := 27) G (fun x14 => [(1, vI x14), (0, vR X 0), (2, vI z5)]) dX11_trees_27 rfl (by decide) (fun _ => rfl) (fun x14 => ?_)
  refine tj_iinc (pc := 28) G 2 (fun x15 => [(2, vI x15), (1, vI x14), (0, vR X 0)]) dX11_trees_28 rfl (by decide) (fun _ => rfl) (fun x15 => ?_)
  refine tj_goto (pc := 31) G (tgt := 9) dX11_trees_31 (by decide) ?_
  exact tj_sub [2, 1, 0] rfl (hrec x14 x15 M13)
set_option maxRecDepth 100000 in
set_option maxHeartbeats 4000000 in
theorem ok_X11_trees (X : tp_X)    {M : tp_M} {res : Int × tp_M} (h : fx_X11_trees   M = some res) : tp_Ret X LM 34 1 yX11_trees (Cond.code yX11_trees cX11_trees 3 (some .int)) 4 [vR X 0] M res := by
  refine tp_ofW (by decide +kernel) rfl rfl (by show _ ≤ 3; exact Nat.le_of_ble_eq_true rfl) h (fun Y G => ?_)
  show tp_J X Y LM 34 3 4 1 (fx_X11_trees   M) M [(0, vR X 0)] [] 0
  unfold fx_X11_trees
  refine tj_aload_n (pc := 0) G 0 dX11_trees_0 rfl rfl ?_
  refine tj_iconst (pc := 1) G dX11_trees_1 ?_
  refine tj_putI (pc := 2) G (k := 0) (j := 0) (j2 := 0) tk_X11 (by decide) lm_0 rfl (by decide) rfl fl_X11_3 rfl rfl dX11_trees_2 (fun M1 => ?_)
  refine tj_iconst (pc := 5) G dX11_trees_5 ?_
  refine tj_istore_n (pc := 6) G (fun x2 => [(1, vI x2), (0, vR X 0)]) dX11_trees_6 rfl (by decide) (fun _ => rfl) (fun x2 => ?_)
  refine tj_iconst (pc := 7) G dX11_trees_7 ?_
  refine tj_istore_n (pc := 8) G (fun x3 => [(2, vI x3), (1, vI x2), (0, vR X 0)]) dX11_trees_8 rfl (by decide) (fun _ => rfl) (fun x3 => ?_)
  refine tj_sub [2, 1, 0] rfl (fx_X11_trees_L9_ok G    (fun y7 M16 => ?_) tp_F x2 x3 M1)
  refine tj_aload_n (pc := 34) G 0 dX11_trees_34 rfl rfl ?_
  refine tj_iconst (pc := 35) G dX11_trees_35 ?_
  refine tj_putI (pc := 36) G (k := 0) (j := 1) (j2 := 1) tk_X11 (by decide) lm_0 rfl (by decide) rfl fl_X11_15 rfl rfl dX11_trees_36 (fun M17 => ?_)
  refine tj_aload_n (pc := 39) G 0 dX11_trees_39 rfl rfl ?_
  refine tj_aload_n (pc := 40) G 0 dX11_trees_40 rfl rfl ?_
  refine tj_callVi (pc := 41) G [] mf_X11_settings (k := 0) (by decide) lm_0 rfl rfl ml_X11_386 (by decide) rfl rfl (Nat.le_of_ble_eq_true rfl) (fun _ h9 => ok_X11_settings X  h9) dX11_trees_41 (fun r18 M19 => ?_)
  refine tj_i2l (pc := 44) G (b := w32 r18) dX11_trees_44 rfl ?_
  refine tj_callVv (pc := 45) G [vL (w32 r18)] mf_X11_enters (k := 0) (by decide) lm_0 rfl rfl ml_X11_18 (by decide) rfl rfl (Nat.le_of_ble_eq_true rfl) (fun _ h9 => ok_X11_enters X  h9) dX11_trees_45 (fun r20 M21 => ?_)
  refine tj_iload_n (pc := 48) G 1 dX11_trees_48 rfl rfl ?_
  exact tj_iret (pc := 49) G dX11_trees_49

def fx_X11_plants_L23 (c1 : Int) (K44 : Int → tp_M → tp_O) (rec : Int → Int → tp_M → tp_O) (z6 z7 : Int) (M8 : tp_M) : tp_O :=
(tp_bd (fx_X11_settings  M8) (fun r10 M11 =>
(if w32 z7 < w32 r10 then
(tp_bd (fx_X11_laysSetting z7 M11) (fun r12 M13 =>
(tp_jn1 (fun y14 M15 => 
(tp_lt (z7 + 1) (fun x16 =>
(rec y14 x16 M15)))) (fun jk54 =>
(if w32 r12 = 0 then
(jk54 z6 M13)
else
(if w32 z6 = w32 c1 then
(K44 z7 M13)
else
(tp_lt (z6 + 1) (fun x17 =>
(jk54 x17 M13)))))))))
else
(some ((-2), M11)))))
def fx_X11_plants  (a1 : Int) (M : tp_M) : tp_O :=
(tp_lm (tp_up M 0 0 0) (fun M1 =>
(tp_bd (fx_X11_in (w32 a1) 0 999 M1) (fun r2 M3 =>
(if w32 r2 = 0 then
(some ((-1), M3))
else
(tp_lt 0 (fun x4 =>
(tp_lt 0 (fun x5 =>
(tp_lp2 (fx_X11_plants_L23 a1 (fun y9 M18 =>
(tp_bd (fx_X11_entersPosts y9 M18) (fun r19 M20 =>
(some (0, M20)))))) tp_F x4 x5 M3))))))))))
set_option maxRecDepth 100000 in
set_option maxHeartbeats 4000000 in
theorem fx_X11_plants_L23_ok {X : tp_X} {Y : tp_Y} (G : tp_Ok X Y 34 cX11_plants 4 RX11 (some .int))  {c1 : Int} {K44 : Int → tp_M → tp_O}   (hK44 : ∀ (y9 : Int) (M9 : tp_M), tp_J X Y LM 34 4 5 1 (K44 y9 M9) M9 [(0, vR X 0), (3, vI y9)] [] 44) (n : Nat) : ∀ (z6 z7 : Int) (M8 : tp_M), tp_J X Y LM 34 4 5 1 (tp_lp2 (fx_X11_plants_L23  c1 K44) n z6 z7 M8) M8 [(0, vR X 0), (1, vI c1), (2, vI z6), (3, vI z7)] [] 23 := by
  refine tp_lp2_ok (P := fun o z6 z7 M8 => tp_J X Y LM 34 4 5 1 (o) M8 [(0, vR X 0), (1, vI c1), (2, vI z6), (3, vI z7)] [] 23) (fun z6 z7 M8 => tj_none) (fun rec hrec z6 z7 M8 => ?_) n
  unfold fx_X11_plants_L23
  refine tj_iload_n (pc := 23) G 3 dX11_plants_23 rfl rfl ?_
  refine tj_aload_n (pc := 24) G 0 dX11_plants_24 rfl rfl ?_
  refine tj_callVi (pc := 25) G [] mf_X11_settings (k := 0) (by decide) lm_0 rfl rfl ml_X11_386 (by decide) rfl rfl (Nat.le_of_ble_eq_true rfl) (fun _ h9 => ok_X11_settings X  h9) dX11_plants_25 (fun r10 M11 => ?_)
  refine tj_icmp_ge (pc := 28) G (tgt := 60) (a2 := w32 z7) (b2 := w32 r10) dX11_plants_28 (by decide) rfl rfl ?_ ?_
  · refine tj_bipush (pc := 60) G dX11_plants_60 rfl ?_
    exact tj_iret (pc := 62) G dX11_plants_62
  refine tj_aload_n (pc := 31) G 0 dX11_plants_31 rfl rfl ?_
  refine tj_iload_n (pc := 32) G 3 dX11_plants_32 rfl rfl ?_
  refine tj_callVi (pc := 33) G [vI z7] mf_X11_laysSetting (k := 0) (by decide) lm_0 rfl rfl ml_X11_383 (by decide) rfl rfl (Nat.le_of_ble_eq_true rfl) (fun _ h9 => ok_X11_laysSetting X  h9) dX11_plants_33 (fun r12 M13 => ?_)
  refine tj_jn1 (fun y14 => [(0, vR X 0), (1, vI c1), (2, vI y14), (3, vI z7)]) (fun y14 => []) 54 (fun y14 M15 => ?_) (fun jk54 hj54 => ?_)
  · refine tj_iinc (pc := 54) G 3 (fun x16 => [(3, vI x16), (0, vR X 0), (1, vI c1), (2, vI y14)]) dX11_plants_54 rfl (by decide) (fun _ => rfl) (fun x16 => ?_)
    refine tj_goto (pc := 57) G (tgt := 23) dX11_plants_57 (by decide) ?_
    exact tj_sub [1, 2, 3, 0] rfl (hrec y14 x16 M15)
  refine tj_if_eq (pc := 36) G (tgt := 54) (a2 := w32 r12) dX11_plants_36 (by decide) rfl ?_ ?_
  · exact tj_sub [0, 1, 2, 3] rfl (hj54 z6 M13)
  refine tj_iload_n (pc := 39) G 2 dX11_plants_39 rfl rfl ?_
  refine tj_iload_n (pc := 40) G 1 dX11_plants_40 rfl rfl ?_
  refine tj_icmp_ne (pc := 41) G (tgt := 51) (a2 := w32 z6) (b2 := w32 c1) dX11_plants_41 (by decide) rfl rfl ?_ ?_
  · refine tj_iinc (pc := 51) G 2 (fun x17 => [(2, vI x17), (0, vR X 0), (1, vI c1), (3, vI z7)]) dX11_plants_51 rfl (by decide) (fun _ => rfl) (fun x17 => ?_)
    exact tj_sub [1, 2, 0, 3] rfl (hj54 x17 M13)
  exact tj_sub [0, 3] rfl (hK44 z7 M13)
set_option maxRecDepth 100000 in
set_option maxHeartbeats 4000000 in
theorem ok_X11_plants (X : tp_X)  {a1 : Int}  {M : tp_M} {res : Int × tp_M} (h : fx_X11_plants  a1 M = some res) : tp_Ret X LM 34 1 yX11_plants (Cond.code yX11_plants cX11_plants 4 (some .int)) 5 [vR X 0, vI a1] M res := by
  refine tp_ofW (by decide +kernel) rfl rfl (by show _ ≤ 4; exact Nat.le_of_ble_eq_true rfl) h (fun Y G => ?_)
  show tp_J X Y LM 34 4 5 1 (fx_X11_plants  a1 M) M [(0, vR X 0), (1, vI a1)] [] 0
  unfold fx_X11_plants
  refine tj_aload_n (pc := 0) G 0 dX11_plants_0 rfl rfl ?_
  refine tj_iconst (pc := 1) G dX11_plants_1 ?_
  refine tj_putI (pc := 2) G (k := 0) (j := 0) (j2 := 0) tk_X11 (by decide) lm_0 rfl (by decide) rfl fl_X11_3 rfl rfl dX11_plants_2 (fun M1 => ?_)
  refine tj_iload_n (pc := 5) G 1 dX11_plants_5 rfl rfl ?_
  refine tj_i2l (pc := 6) G (b := w32 a1) dX11_plants_6 rfl ?_
  refine tj_lconst (pc := 7) G (v := 0) dX11_plants_7 rfl ?_
  refine tj_ldc2 (pc := 8) G (v := 999) dX11_plants_8 ct_X11_389 rfl ?_
  refine tj_callSi (pc := 11) G [vL (w32 a1), vL 0, vL 999] mf_X11_in ml_X11_129 (by decide) rfl rfl (Nat.le_of_ble_eq_true rfl) (fun _ h9 => ok_X11_in X  h9) dX11_plants_11 (fun r2 M3 => ?_)
  refine tj_if_ne (pc := 14) G (tgt := 19) (a2 := w32 r2) dX11_plants_14 (by decide) rfl ?_ ?_
  · refine tj_iconst (pc := 19) G dX11_plants_19 ?_
    refine tj_istore_n (pc := 20) G (fun x4 => [(2, vI x4), (0, vR X 0), (1, vI a1)]) dX11_plants_20 rfl (by decide) (fun _ => rfl) (fun x4 => ?_)
    refine tj_iconst (pc := 21) G dX11_plants_21 ?_
    refine tj_istore_n (pc := 22) G (fun x5 => [(3, vI x5), (2, vI x4), (0, vR X 0), (1, vI a1)]) dX11_plants_22 rfl (by decide) (fun _ => rfl) (fun x5 => ?_)
    refine tj_sub [2, 3, 1, 0] rfl (fx_X11_plants_L23_ok G    (fun y9 M18 => ?_) tp_F x4 x5 M3)
    refine tj_aload_n (pc := 44) G 0 dX11_plants_44 rfl rfl ?_
    refine tj_iload_n (pc := 45) G 1 dX11_plants_45 rfl rfl ?_
    refine tj_callVv (pc := 46) G [vI y9] mf_X11_entersPosts (k := 0) (by decide) lm_0 rfl rfl ml_X11_391 (by decide) rfl rfl (Nat.le_of_ble_eq_true rfl) (fun _ h9 => ok_X11_entersPosts X  h9) dX11_plants_46 (fun r19 M20 => ?_)
    refine tj_iconst (pc := 49) G dX11_plants_49 ?_
    exact tj_iret (pc := 50) G dX11_plants_50
  refine tj_iconst (pc := 17) G dX11_plants_17 ?_
  exact tj_iret (pc := 18) G dX11_plants_18

def fx_X11_grown_L9  (rec : Int → Int → tp_M → tp_O) (z4 z5 : Int) (M6 : tp_M) : tp_O :=
(tp_bd (fx_X11_settings  M6) (fun r7 M8 =>
(if w32 z5 < w32 r7 then
(tp_bd (fx_X11_laysSetting z5 M8) (fun r9 M10 =>
(tp_jn1 (fun y11 M12 => 
(tp_lt (z5 + 1) (fun x13 =>
(rec y11 x13 M12)))) (fun jk45 =>
(if w32 r9 = 0 then
(jk45 z4 M10)
else
(tp_bd (fx_X11_arePosts 20 8 4 17 M10) (fun r14 M15 =>
(if w32 r14 = 0 then
(tp_lt (z4 + 1) (fun x16 =>
(jk45 x16 M15)))
else
(some (z4, M15))))))))))
else
(some ((-2), M8)))))
def fx_X11_grown   (M : tp_M) : tp_O :=
(tp_lm (tp_up M 0 0 0) (fun M1 =>
(tp_lt 0 (fun x2 =>
(tp_lt 0 (fun x3 =>
(tp_lp2 (fx_X11_grown_L9  ) tp_F x2 x3 M1)))))))
set_option maxRecDepth 100000 in
set_option maxHeartbeats 4000000 in
theorem fx_X11_grown_L9_ok {X : tp_X} {Y : tp_Y} (G : tp_Ok X Y 34 cX11_grown 3 RX11 (some .int))      (n : Nat) : ∀ (z4 z5 : Int) (M6 : tp_M), tp_J X Y LM 34 3 4 1 (tp_lp2 (fx_X11_grown_L9   ) n z4 z5 M6) M6 [(0, vR X 0), (1, vI z4), (2, vI z5)] [] 9 := by
  refine tp_lp2_ok (P := fun o z4 z5 M6 => tp_J X Y LM 34 3 4 1 (o) M6 [(0, vR X 0), (1, vI z4), (2, vI z5)] [] 9) (fun z4 z5 M6 => tj_none) (fun rec hrec z4 z5 M6 => ?_) n
  unfold fx_X11_grown_L9
  refine tj_iload_n (pc := 9) G 2 dX11_grown_9 rfl rfl ?_
  refine tj_aload_n (pc := 10) G 0 dX11_grown_10 rfl rfl ?_
  refine tj_callVi (pc := 11) G [] mf_X11_settings (k := 0) (by decide) lm_0 rfl rfl ml_X11_386 (by decide) rfl rfl (Nat.le_of_ble_eq_true rfl) (fun _ h9 => ok_X11_settings X  h9) dX11_grown_11 (fun r7 M8 => ?_)
  refine tj_icmp_ge (pc := 14) G (tgt := 51) (a2 := w32 z5) (b2 := w32 r7) dX11_grown_14 (by decide) rfl rfl ?_ ?_
  · refine tj_bipush (pc := 51) G dX11_grown_51 rfl ?_
    exact tj_iret (pc := 53) G dX11_grown_53
  refine tj_aload_n (pc := 17) G 0 dX11_grown_17 rfl rfl ?_
  refine tj_iload_n (pc := 18) G 2 dX11_grown_18 rfl rfl ?_
  refine tj_callVi (pc := 19) G [vI z5] mf_X11_laysSetting (k := 0) (by decide) lm_0 rfl rfl ml_X11_383 (by decide) rfl rfl (Nat.le_of_ble_eq_true rfl) (fun _ h9 => ok_X11_laysSetting X  h9) dX11_grown_19 (fun r9 M10 => ?_)
  refine tj_jn1 (fun y11 => [(0, vR X 0), (1, vI y11), (2, vI z5)]) (fun y11 => []) 45 (fun y11 M12 => ?_) (fun jk45 hj45 => ?_)
  · refine tj_iinc (pc := 45) G 2 (fun x13 => [(2, vI x13), (0, vR X 0), (1, vI y11)]) dX11_grown_45 rfl (by decide) (fun _ => rfl) (fun x13 => ?_)
    refine tj_goto (pc := 48) G (tgt := 9) dX11_grown_48 (by decide) ?_
    exact tj_sub [1, 2, 0] rfl (hrec y11 x13 M12)
  refine tj_if_eq (pc := 22) G (tgt := 45) (a2 := w32 r9) dX11_grown_22 (by decide) rfl ?_ ?_
  · exact tj_sub [0, 1, 2] rfl (hj45 z4 M10)
  refine tj_aload_n (pc := 25) G 0 dX11_grown_25 rfl rfl ?_
  refine tj_aload_n (pc := 26) G 0 dX11_grown_26 rfl rfl ?_
  refine tj_getR (pc := 27) G (k := 0) (j := 34) (j2 := 34) tk_X11 (by decide) lm_0 rfl (by decide) rfl fl_X11_86 dX11_grown_27 ?_
  refine tj_aload_n (pc := 30) G 0 dX11_grown_30 rfl rfl ?_
  refine tj_getR (pc := 31) G (k := 0) (j := 6) (j2 := 6) tk_X11 (by decide) lm_0 rfl (by decide) rfl fl_X11_38 dX11_grown_31 ?_
  refine tj_callVi (pc := 34) G [vR X 20, vR X 4] mf_X11_arePosts (k := 0) (by decide) lm_0 rfl rfl ml_X11_373 (by decide) rfl rfl (Nat.le_of_ble_eq_true rfl) (fun _ h9 => ok_X11_arePosts X ⟨by decide, lm_20⟩ ⟨by decide, lm_4⟩ h9) dX11_grown_34 (fun r14 M15 => ?_)
  refine tj_if_eq (pc := 37) G (tgt := 42) (a2 := w32 r14) dX11_grown_37 (by decide) rfl ?_ ?_
  · refine tj_iinc (pc := 42) G 1 (fun x16 => [(1, vI x16), (0, vR X 0), (2, vI z5)]) dX11_grown_42 rfl (by decide) (fun _ => rfl) (fun x16 => ?_)
    exact tj_sub [1, 0, 2] rfl (hj45 x16 M15)
  refine tj_iload_n (pc := 40) G 1 dX11_grown_40 rfl rfl ?_
  exact tj_iret (pc := 41) G dX11_grown_41
set_option maxRecDepth 100000 in
set_option maxHeartbeats 4000000 in
theorem ok_X11_grown (X : tp_X)    {M : tp_M} {res : Int × tp_M} (h : fx_X11_grown   M = some res) : tp_Ret X LM 34 1 yX11_grown (Cond.code yX11_grown cX11_grown 3 (some .int)) 4 [vR X 0] M res := by
  refine tp_ofW (by decide +kernel) rfl rfl (by show _ ≤ 3; exact Nat.le_of_ble_eq_true rfl) h (fun Y G => ?_)
  show tp_J X Y LM 34 3 4 1 (fx_X11_grown   M) M [(0, vR X 0)] [] 0
  unfold fx_X11_grown
  refine tj_aload_n (pc := 0) G 0 dX11_grown_0 rfl rfl ?_
  refine tj_iconst (pc := 1) G dX11_grown_1 ?_
  refine tj_putI (pc := 2) G (k := 0) (j := 0) (j2 := 0) tk_X11 (by decide) lm_0 rfl (by decide) rfl fl_X11_3 rfl rfl dX11_grown_2 (fun M1 => ?_)
  refine tj_iconst (pc := 5) G dX11_grown_5 ?_
  refine tj_istore_n (pc := 6) G (fun x2 => [(1, vI x2), (0, vR X 0)]) dX11_grown_6 rfl (by decide) (fun _ => rfl) (fun x2 => ?_)
  refine tj_iconst (pc := 7) G dX11_grown_7 ?_
  refine tj_istore_n (pc := 8) G (fun x3 => [(2, vI x3), (1, vI x2), (0, vR X 0)]) dX11_grown_8 rfl (by decide) (fun _ => rfl) (fun x3 => ?_)
  refine tj_sub [2, 1, 0] rfl (fx_X11_grown_L9_ok G     tp_F x2 x3 M1)

def fx_X11_mends_L34 (c1 : Int) (c2 : Int) (c3 : Int) (c4 : Int) (K79 : Int → tp_M → tp_O) (rec : Int → Int → tp_M → tp_O) (z18 z19 : Int) (M20 : tp_M) : tp_O :=
(if w32 z19 < w32 (M20 0 3) then
(tp_ck (w32 z19) 8 (tp_ck (w32 z19) 17 (tp_jn1 (fun y22 M23 => 
(tp_bd (fx_X11_flag y22 M23) (fun r24 M25 =>
(tp_lt (z18 + r24) (fun x26 =>
(tp_lt (z19 + 1) (fun x27 =>
(rec x26 x27 M25)))))))) (fun jk67 =>
(if w32 (M20 20 (w32 z19)) = w32 (M20 4 (w32 z19)) then
(jk67 0 M20)
else
(jk67 1 M20))))))
else
(K79 z18 M20))
def fx_X11_mends_L13  (K118 : Int → Int → tp_M → tp_O) (rec : Int → Int → Int → tp_M → tp_O) (z5 z6 z7 : Int) (M8 : tp_M) : tp_O :=
(tp_bd (fx_X11_settings  M8) (fun r11 M12 =>
(if w32 z7 < w32 r11 then
(tp_bd (fx_X11_laysSetting z7 M12) (fun r13 M14 =>
(tp_lt r13 (fun x15 =>
(tp_lt 0 (fun x16 =>
(tp_lt 1 (fun x17 =>
(tp_lp2 (fx_X11_mends_L34 z5 z6 z7 x15 (fun y21 M28 =>
(tp_jn1 (fun y29 M30 => 
(tp_lt y29 (fun x31 =>
(tp_jn1 (fun y32 M33 => 
(tp_lt y32 (fun x34 =>
(tp_lt (z7 + 1) (fun x35 =>
(rec x31 x34 x35 M33)))))) (fun jk111 =>
(if w32 x15 = 0 then
(jk111 z6 M30)
else
(jk111 (min (w32 z6) (w32 y21)) M30))))))) (fun jk95 =>
(tp_jn0 (fun M36 => 
(jk95 z5 M36)) (fun jk94 =>
(if w32 x15 = 0 then
(jk94 M28)
else
(if w32 y21 < w32 z6 then
(jk95 z7 M28)
else
(jk94 M28))))))))) tp_F x16 x17 M14)))))))))
else
(K118 z5 z6 M12))))
def fx_X11_mends   (M : tp_M) : tp_O :=
(tp_lm (tp_up M 0 0 0) (fun M1 =>
(tp_lt (-1) (fun x2 =>
(tp_lt 1000000 (fun x3 =>
(tp_lt 0 (fun x4 =>
(tp_lp3 (fx_X11_mends_L13  (fun y9 y10 M37 =>
(tp_bd (fx_X11_entersPosts y9 M37) (fun r38 M39 =>
(some (y10, M39)))))) tp_F x2 x3 x4 M1)))))))))
set_option maxRecDepth 100000 in
set_option maxHeartbeats 4000000 in
theorem fx_X11_mends_L34_ok {X : tp_X} {Y : tp_Y} (G : tp_Ok X Y 34 cX11_mends 7 RX11 (some .int))  {c1 : Int} {c2 : Int} {c3 : Int} {c4 : Int} {K79 : Int → tp_M → tp_O}   (hK79 : ∀ (y21 : Int) (M9 : tp_M), tp_J X Y LM 34 7 5 1 (K79 y21 M9) M9 [(0, vR X 0), (1, vI c1), (2, vI c2), (3, vI c3), (4, vI c4), (5, vI y21)] [] 79) (n : Nat) : ∀ (z18 z19 : Int) (M20 : tp_M), tp_J X Y LM 34 7 5 1 (tp_lp2 (fx_X11_mends_L34  c1 c2 c3 c4 K79) n z18 z19 M20) M20 [(0, vR X 0), (1, vI c1), (2, vI c2), (3, vI c3), (4, vI c4), (5, vI z18), (6, vI z19)] [] 34 := by
  refine tp_lp2_ok (P := fun o z18 z19 M20 => tp_J X Y LM 34 7 5 1 (o) M20 [(0, vR X 0), (1, vI c1), (2, vI c2), (3, vI c3), (4, vI c4), (5, vI z18), (6, vI z19)] [] 34) (fun z18 z19 M20 => tj_none) (fun rec hrec z18 z19 M20 => ?_) n
  unfold fx_X11_mends_L34
  refine tj_iload (pc := 34) G 6 dX11_mends_34 rfl ?_
  refine tj_aload_n (pc := 36) G 0 dX11_mends_36 rfl rfl ?_
  refine tj_getI (pc := 37) G (k := 0) (j := 3) (j2 := 3) tk_X11 (by decide) lm_0 rfl (by decide) rfl fl_X11_28 dX11_mends_37 ?_
  refine tj_icmp_ge (pc := 40) G (tgt := 79) (a2 := w32 z19) (b2 := w32 (M20 0 3)) dX11_mends_40 (by decide) rfl rfl ?_ ?_
  · exact tj_sub [0, 1, 2, 3, 4, 5] rfl (hK79 z18 M20)
  refine tj_iload (pc := 43) G 5 dX11_mends_43 rfl ?_
  refine tj_aload_n (pc := 45) G 0 dX11_mends_45 rfl rfl ?_
  refine tj_getR (pc := 46) G (k := 0) (j := 34) (j2 := 34) tk_X11 (by decide) lm_0 rfl (by decide) rfl fl_X11_86 dX11_mends_46 ?_
  refine tj_iload (pc := 49) G 6 dX11_mends_49 rfl ?_
  refine tj_iald (pc := 51) G (k := 20) (i2 := w32 z19) (n2 := 8) (by decide) lm_20 rfl rfl dX11_mends_51 ?_
  refine tj_aload_n (pc := 52) G 0 dX11_mends_52 rfl rfl ?_
  refine tj_getR (pc := 53) G (k := 0) (j := 6) (j2 := 6) tk_X11 (by decide) lm_0 rfl (by decide) rfl fl_X11_38 dX11_mends_53 ?_
  refine tj_iload (pc := 56) G 6 dX11_mends_56 rfl ?_
  refine tj_iald (pc := 58) G (k := 4) (i2 := w32 z19) (n2 := 17) (by decide) lm_4 rfl rfl dX11_mends_58 ?_
  refine tj_jn1 (fun y22 => [(0, vR X 0), (1, vI c1), (2, vI c2), (3, vI c3), (4, vI c4), (6, vI z19)]) (fun y22 => [vI y22, vI z18]) 67 (fun y22 M23 => ?_) (fun jk67 hj67 => ?_)
  · refine tj_callSi (pc := 67) G [vI y22] mf_X11_flag ml_X11_151 (by decide) rfl rfl (Nat.le_of_ble_eq_true rfl) (fun _ h9 => ok_X11_flag X  h9) dX11_mends_67 (fun r24 M25 => ?_)
    refine tj_iadd (pc := 70) G dX11_mends_70 ?_
    refine tj_istore (pc := 71) G (fun x26 => [(5, vI x26), (0, vR X 0), (1, vI c1), (2, vI c2), (3, vI c3), (4, vI c4), (6, vI z19)]) dX11_mends_71 (by decide) (fun _ => rfl) (fun x26 => ?_)
    refine tj_iinc (pc := 73) G 6 (fun x27 => [(6, vI x27), (5, vI x26), (0, vR X 0), (1, vI c1), (2, vI c2), (3, vI c3), (4, vI c4)]) dX11_mends_73 rfl (by decide) (fun _ => rfl) (fun x27 => ?_)
    refine tj_goto (pc := 76) G (tgt := 34) dX11_mends_76 (by decide) ?_
    exact tj_sub [2, 3, 4, 5, 6, 1, 0] rfl (hrec x26 x27 M25)
  refine tj_icmp_eq (pc := 59) G (tgt := 66) (a2 := w32 (M20 20 (w32 z19))) (b2 := w32 (M20 4 (w32 z19))) dX11_mends_59 (by decide) rfl rfl ?_ ?_
  · refine tj_iconst (pc := 66) G dX11_mends_66 ?_
    exact tj_sub [0, 1, 2, 3, 4, 6] rfl (hj67 0 M20)
  refine tj_iconst (pc := 62) G dX11_mends_62 ?_
  refine tj_goto (pc := 63) G (tgt := 67) dX11_mends_63 (by decide) ?_
  exact tj_sub [0, 1, 2, 3, 4, 6] rfl (hj67 1 M20)
set_option maxRecDepth 100000 in
set_option maxHeartbeats 4000000 in
theorem fx_X11_mends_L13_ok {X : tp_X} {Y : tp_Y} (G : tp_Ok X Y 34 cX11_mends 7 RX11 (some .int))  {K118 : Int → Int → tp_M → tp_O}   (hK118 : ∀ (y9 y10 : Int) (M9 : tp_M), tp_J X Y LM 34 7 5 1 (K118 y9 y10 M9) M9 [(0, vR X 0), (1, vI y9), (2, vI y10)] [] 118) (n : Nat) : ∀ (z5 z6 z7 : Int) (M8 : tp_M), tp_J X Y LM 34 7 5 1 (tp_lp3 (fx_X11_mends_L13   K118) n z5 z6 z7 M8) M8 [(0, vR X 0), (1, vI z5), (2, vI z6), (3, vI z7)] [] 13 := by
  refine tp_lp3_ok (P := fun o z5 z6 z7 M8 => tp_J X Y LM 34 7 5 1 (o) M8 [(0, vR X 0), (1, vI z5), (2, vI z6), (3, vI z7)] [] 13) (fun z5 z6 z7 M8 => tj_none) (fun rec hrec z5 z6 z7 M8 => ?_) n
  unfold fx_X11_mends_L13
  refine tj_iload_n (pc := 13) G 3 dX11_mends_13 rfl rfl ?_
  refine tj_aload_n (pc := 14) G 0 dX11_mends_14 rfl rfl ?_
  refine tj_callVi (pc := 15) G [] mf_X11_settings (k := 0) (by decide) lm_0 rfl rfl ml_X11_386 (by decide) rfl rfl (Nat.le_of_ble_eq_true rfl) (fun _ h9 => ok_X11_settings X  h9) dX11_mends_15 (fun r11 M12 => ?_)
  refine tj_icmp_ge (pc := 18) G (tgt := 118) (a2 := w32 z7) (b2 := w32 r11) dX11_mends_18 (by decide) rfl rfl ?_ ?_
  · exact tj_sub [0, 1, 2] rfl (hK118 z5 z6 M12)
  refine tj_aload_n (pc := 21) G 0 dX11_mends_21 rfl rfl ?_
  refine tj_iload_n (pc := 22) G 3 dX11_mends_22 rfl rfl ?_
  refine tj_callVi (pc := 23) G [vI z7] mf_X11_laysSetting (k := 0) (by decide) lm_0 rfl rfl ml_X11_383 (by decide) rfl rfl (Nat.le_of_ble_eq_true rfl) (fun _ h9 => ok_X11_laysSetting X  h9) dX11_mends_23 (fun r13 M14 => ?_)
  refine tj_istore (pc := 26) G (fun x15 => [(4, vI x15), (0, vR X 0), (1, vI z5), (2, vI z6), (3, vI z7)]) dX11_mends_26 (by decide) (fun _ => rfl) (fun x15 => ?_)
  refine tj_iconst (pc := 28) G dX11_mends_28 ?_
  refine tj_istore (pc := 29) G (fun x16 => [(5, vI x16), (4, vI x15), (0, vR X 0), (1, vI z5), (2, vI z6), (3, vI z7)]) dX11_mends_29 (by decide) (fun _ => rfl) (fun x16 => ?_)
  refine tj_iconst (pc := 31) G dX11_mends_31 ?_
  refine tj_istore (pc := 32) G (fun x17 => [(6, vI x17), (5, vI x16), (4, vI x15), (0, vR X 0), (1, vI z5), (2, vI z6), (3, vI z7)]) dX11_mends_32 (by decide) (fun _ => rfl) (fun x17 => ?_)
  refine tj_sub [3, 4, 5, 6, 2, 1, 0] rfl (fx_X11_mends_L34_ok G    (fun y21 M28 => ?_) tp_F x16 x17 M14)
  refine tj_iload (pc := 79) G 4 dX11_mends_79 rfl ?_
  refine tj_jn1 (fun y29 => [(0, vR X 0), (2, vI z6), (3, vI z7), (4, vI x15), (5, vI y21)]) (fun y29 => [vI y29]) 95 (fun y29 M30 => ?_) (fun jk95 hj95 => ?_)
  · refine tj_istore_n (pc := 95) G (fun x31 => [(1, vI x31), (0, vR X 0), (2, vI z6), (3, vI z7), (4, vI x15), (5, vI y21)]) dX11_mends_95 rfl (by decide) (fun _ => rfl) (fun x31 => ?_)
    refine tj_iload (pc := 96) G 4 dX11_mends_96 rfl ?_
    refine tj_jn1 (fun y32 => [(0, vR X 0), (1, vI x31), (3, vI z7)]) (fun y32 => [vI y32]) 111 (fun y32 M33 => ?_) (fun jk111 hj111 => ?_)
    · refine tj_istore_n (pc := 111) G (fun x34 => [(2, vI x34), (0, vR X 0), (1, vI x31), (3, vI z7)]) dX11_mends_111 rfl (by decide) (fun _ => rfl) (fun x34 => ?_)
      refine tj_iinc (pc := 112) G 3 (fun x35 => [(3, vI x35), (2, vI x34), (0, vR X 0), (1, vI x31)]) dX11_mends_112 rfl (by decide) (fun _ => rfl) (fun x35 => ?_)
      refine tj_goto (pc := 115) G (tgt := 13) dX11_mends_115 (by decide) ?_
      exact tj_sub [2, 3, 1, 0] rfl (hrec x31 x34 x35 M33)
    refine tj_if_eq (pc := 98) G (tgt := 110) (a2 := w32 x15) dX11_mends_98 (by decide) rfl ?_ ?_
    · refine tj_iload_n (pc := 110) G 2 dX11_mends_110 rfl rfl ?_
      exact tj_sub [1, 0, 3] rfl (hj111 z6 M30)
    refine tj_iload_n (pc := 101) G 2 dX11_mends_101 rfl rfl ?_
    refine tj_iload (pc := 102) G 5 dX11_mends_102 rfl ?_
    refine tj_min (pc := 104) G (a2 := w32 z6) (b2 := w32 y21) rfl rfl ml_X11_142 mw_min (by decide) (Nat.le_of_ble_eq_true rfl) dX11_mends_104 ?_
    refine tj_goto (pc := 107) G (tgt := 111) dX11_mends_107 (by decide) ?_
    exact tj_sub [1, 0, 3] rfl (hj111 (min (w32 z6) (w32 y21)) M30)
  refine tj_jn0 [(0, vR X 0), (1, vI z5), (2, vI z6), (3, vI z7), (4, vI x15), (5, vI y21)] [] 94 (fun M36 => ?_) (fun jk94 hj94 => ?_)
  · refine tj_iload_n (pc := 94) G 1 dX11_mends_94 rfl rfl ?_
    exact tj_sub [0, 2, 3, 4, 5] rfl (hj95 z5 M36)
  refine tj_if_eq (pc := 81) G (tgt := 94) (a2 := w32 x15) dX11_mends_81 (by decide) rfl ?_ ?_
  · exact tj_sub [0, 1, 2, 3, 4, 5] rfl (hj94  M28)
  refine tj_iload (pc := 84) G 5 dX11_mends_84 rfl ?_
  refine tj_iload_n (pc := 86) G 2 dX11_mends_86 rfl rfl ?_
  refine tj_icmp_ge (pc := 87) G (tgt := 94) (a2 := w32 y21) (b2 := w32 z6) dX11_mends_87 (by decide) rfl rfl ?_ ?_
  · exact tj_sub [0, 1, 2, 3, 4, 5] rfl (hj94  M28)
  refine tj_iload_n (pc := 90) G 3 dX11_mends_90 rfl rfl ?_
  refine tj_goto (pc := 91) G (tgt := 95) dX11_mends_91 (by decide) ?_
  exact tj_sub [0, 2, 3, 4, 5] rfl (hj95 z7 M28)
set_option maxRecDepth 100000 in
set_option maxHeartbeats 4000000 in
theorem ok_X11_mends (X : tp_X)    {M : tp_M} {res : Int × tp_M} (h : fx_X11_mends   M = some res) : tp_Ret X LM 34 1 yX11_mends (Cond.code yX11_mends cX11_mends 7 (some .int)) 5 [vR X 0] M res := by
  refine tp_ofW (by decide +kernel) rfl rfl (by show _ ≤ 7; exact Nat.le_of_ble_eq_true rfl) h (fun Y G => ?_)
  show tp_J X Y LM 34 7 5 1 (fx_X11_mends   M) M [(0, vR X 0)] [] 0
  unfold fx_X11_mends
  refine tj_aload_n (pc := 0) G 0 dX11_mends_0 rfl rfl ?_
  refine tj_iconst (pc := 1) G dX11_mends_1 ?_
  refine tj_putI (pc := 2) G (k := 0) (j := 0) (j2 := 0) tk_X11 (by decide) lm_0 rfl (by decide) rfl fl_X11_3 rfl rfl dX11_mends_2 (fun M1 => ?_)
  refine tj_iconst (pc := 5) G dX11_mends_5 ?_
  refine tj_istore_n (pc := 6) G (fun x2 => [(1, vI x2), (0, vR X 0)]) dX11_mends_6 rfl (by decide) (fun _ => rfl) (fun x2 => ?_)
  refine tj_ldcw (pc := 7) G (v := 1000000) dX11_mends_7 ct_X11_264 rfl ?_
  refine tj_istore_n (pc := 10) G (fun x3 => [(2, vI x3), (1, vI x2), (0, vR X 0)]) dX11_mends_10 rfl (by decide) (fun _ => rfl) (fun x3 => ?_)
  refine tj_iconst (pc := 11) G dX11_mends_11 ?_
  refine tj_istore_n (pc := 12) G (fun x4 => [(3, vI x4), (2, vI x3), (1, vI x2), (0, vR X 0)]) dX11_mends_12 rfl (by decide) (fun _ => rfl) (fun x4 => ?_)
  refine tj_sub [3, 2, 1, 0] rfl (fx_X11_mends_L13_ok G    (fun y9 y10 M37 => ?_) tp_F x2 x3 x4 M1)
  refine tj_aload_n (pc := 118) G 0 dX11_mends_118 rfl rfl ?_
  refine tj_iload_n (pc := 119) G 1 dX11_mends_119 rfl rfl ?_
  refine tj_callVv (pc := 120) G [vI y9] mf_X11_entersPosts (k := 0) (by decide) lm_0 rfl rfl ml_X11_391 (by decide) rfl rfl (Nat.le_of_ble_eq_true rfl) (fun _ h9 => ok_X11_entersPosts X  h9) dX11_mends_120 (fun r38 M39 => ?_)
  refine tj_iload_n (pc := 123) G 2 dX11_mends_123 rfl rfl ?_
  exact tj_iret (pc := 124) G dX11_mends_124

def fx_X11_route_L63 (c1 : Int) (c2 : Int) (c3 : Int) (K121 : Int → tp_M → tp_O) (rec : Int → Int → tp_M → tp_O) (z14 z15 : Int) (M16 : tp_M) : tp_O :=
(tp_ck (w32 c3) 8 (if w32 z15 < w32 (M16 2 (w32 c3)) then
(tp_bd (fx_X11_goalOf c3 z15 M16) (fun r18 M19 =>
(tp_lt r18 (fun x20 =>
(tp_ck (w32 x20) 8 (tp_ck (w32 c3) 8 (tp_jn1 (fun y21 M22 => 
(tp_lt y21 (fun x23 =>
(tp_lt (z15 + 1) (fun x24 =>
(rec x23 x24 M22)))))) (fun jk113 =>
(if w32 (M19 13 (w32 x20)) = w32 ((M19 13 (w32 c3)) - 1) then
(jk113 (min (w32 z14) (w32 x20)) M19)
else
(jk113 z14 M19))))))))))
else
(K121 z14 M16)))
def fx_X11_route_L50 (c1 : Int) (c2 : Int) (rec : Int → tp_M → tp_O) (z10 : Int) (M11 : tp_M) : tp_O :=
(if w32 z10 = w32 c2 then
(tp_ck (w32 c1) 8 (some (M11 13 (w32 c1), M11)))
else
(tp_lt 1000000 (fun x12 =>
(tp_lt 0 (fun x13 =>
(tp_lp2 (fx_X11_route_L63 c1 c2 z10 (fun y17 M25 =>
(tp_bd (fx_X11_enters (w32 y17) M25) (fun r26 M27 =>
(tp_lt y17 (fun x28 =>
(rec x28 M27))))))) tp_F x12 x13 M11))))))
def fx_X11_route  (a1 : Int) (a2 : Int) (M : tp_M) : tp_O :=
(tp_lm (tp_up M 0 0 0) (fun M1 =>
(tp_bd (fx_X11_isCrossing a1 M1) (fun r2 M3 =>
(if w32 r2 = 0 then
(some ((-1), M3))
else
(tp_bd (fx_X11_isCrossing a2 M3) (fun r4 M5 =>
(if w32 r4 = 0 then
(some ((-1), M5))
else
(tp_bd (fx_X11_laysFar a2 M5) (fun r6 M7 =>
(tp_ck (w32 a1) 8 (if w32 (M7 13 (w32 a1)) < 1000000 then
(tp_lm (tp_up M7 0 1 0) (fun M8 =>
(tp_lt a1 (fun x9 =>
(tp_lp1 (fx_X11_route_L50 a1 a2 ) tp_F x9 M8)))))
else
(some ((-2), M7))))))))))))))
set_option maxRecDepth 100000 in
set_option maxHeartbeats 4000000 in
theorem fx_X11_route_L63_ok {X : tp_X} {Y : tp_Y} (G : tp_Ok X Y 34 cX11_route 7 RX11 (some .int))  {c1 : Int} {c2 : Int} {c3 : Int} {K121 : Int → tp_M → tp_O}   (hK121 : ∀ (y17 : Int) (M9 : tp_M), tp_J X Y LM 34 7 3 1 (K121 y17 M9) M9 [(0, vR X 0), (1, vI c1), (2, vI c2), (4, vI y17)] [] 121) (n : Nat) : ∀ (z14 z15 : Int) (M16 : tp_M), tp_J X Y LM 34 7 3 1 (tp_lp2 (fx_X11_route_L63  c1 c2 c3 K121) n z14 z15 M16) M16 [(0, vR X 0), (1, vI c1), (2, vI c2), (3, vI c3), (4, vI z14), (5, vI z15)] [] 63 := by
  refine tp_lp2_ok (P := fun o z14 z15 M16 => tp_J X Y LM 34 7 3 1 (o) M16 [(0, vR X 0), (1, vI c1), (2, vI c2), (3, vI c3), (4, vI z14), (5, vI z15)] [] 63) (fun z14 z15 M16 => tj_none) (fun rec hrec z14 z15 M16 => ?_) n
  unfold fx_X11_route_L63
  refine tj_iload (pc := 63) G 5 dX11_route_63 rfl ?_
  refine tj_aload_n (pc := 65) G 0 dX11_route_65 rfl rfl ?_
  refine tj_getR (pc := 66) G (k := 0) (j := 4) (j2 := 4) tk_X11 (by decide) lm_0 rfl (by decide) rfl fl_X11_31 dX11_route_66 ?_
  refine tj_iload_n (pc := 69) G 3 dX11_route_69 rfl rfl ?_
  refine tj_iald (pc := 70) G (k := 2) (i2 := w32 c3) (n2 := 8) (by decide) lm_2 rfl rfl dX11_route_70 ?_
  refine tj_icmp_ge (pc := 71) G (tgt := 121) (a2 := w32 z15) (b2 := w32 (M16 2 (w32 c3))) dX11_route_71 (by decide) rfl rfl ?_ ?_
  · exact tj_sub [0, 1, 2, 4] rfl (hK121 z14 M16)
  refine tj_aload_n (pc := 74) G 0 dX11_route_74 rfl rfl ?_
  refine tj_iload_n (pc := 75) G 3 dX11_route_75 rfl rfl ?_
  refine tj_iload (pc := 76) G 5 dX11_route_76 rfl ?_
  refine tj_callVi (pc := 78) G [vI c3, vI z15] mf_X11_goalOf (k := 0) (by decide) lm_0 rfl rfl ml_X11_255 (by decide) rfl rfl (Nat.le_of_ble_eq_true rfl) (fun _ h9 => ok_X11_goalOf X  h9) dX11_route_78 (fun r18 M19 => ?_)
  refine tj_istore (pc := 81) G (fun x20 => [(6, vI x20), (0, vR X 0), (1, vI c1), (2, vI c2), (3, vI c3), (4, vI z14), (5, vI z15)]) dX11_route_81 (by decide) (fun _ => rfl) (fun x20 => ?_)
  refine tj_aload_n (pc := 83) G 1 dX11_route_83 rfl rfl ?_
  refine tj_getR (pc := 84) G (k := 0) (j := 22) (j2 := 22) tk_X11 (by decide) lm_0 rfl (by decide) rfl fl_X11_65 dX11_route_84 ?_
  refine tj_iload (pc := 87) G 0 dX11_route_87 rfl ?_
  refine tj_iald (pc := 89) G (k := 13) (i2 := w32 x20) (n2 := 8) (by decide) lm_13 rfl rfl dX11_route_89 ?_
  refine tj_aload_n (pc := 90) G 1 dX11_route_90 rfl rfl ?_
  refine tj_getR (pc := 91) G (k := 0) (j := 22) (j2 := 22) tk_X11 (by decide) lm_0 rfl (by decide) rfl fl_X11_65 dX11_route_91 ?_
  refine tj_iload_n (pc := 94) G 4 dX11_route_94 rfl rfl ?_
  refine tj_iald (pc := 95) G (k := 13) (i2 := w32 c3) (n2 := 8) (by decide) lm_13 rfl rfl dX11_route_95 ?_
  refine tj_iconst (pc := 96) G dX11_route_96 ?_
  refine tj_isub (pc := 97) G dX11_route_97 ?_
  refine tj_jn1 (fun y21 => [(0, vR X 0), (1, vI c1), (2, vI c2), (3, vI c3), (5, vI z15)]) (fun y21 => [vI y21]) 113 (fun y21 M22 => ?_) (fun jk113 hj113 => ?_)
  · refine tj_istore (pc := 113) G (fun x23 => [(4, vI x23), (0, vR X 0), (1, vI c1), (2, vI c2), (3, vI c3), (5, vI z15)]) dX11_route_113 (by decide) (fun _ => rfl) (fun x23 => ?_)
    refine tj_iinc (pc := 115) G 5 (fun x24 => [(5, vI x24), (4, vI x23), (0, vR X 0), (1, vI c1), (2, vI c2), (3, vI c3)]) dX11_route_115 rfl (by decide) (fun _ => rfl) (fun x24 => ?_)
    refine tj_goto (pc := 118) G (tgt := 63) dX11_route_118 (by decide) ?_
    exact tj_sub [2, 3, 4, 5, 1, 0] rfl (hrec x23 x24 M22)
  refine tj_icmp_ne (pc := 98) G (tgt := 111) (a2 := w32 (M19 13 (w32 x20))) (b2 := w32 ((M19 13 (w32 c3)) - 1)) dX11_route_98 (by decide) rfl rfl ?_ ?_
  · refine tj_iload (pc := 111) G 5 dX11_route_111 rfl ?_
    exact tj_sub [1, 2, 3, 4, 6] rfl (hj113 z14 M19)
  refine tj_iload (pc := 101) G 5 dX11_route_101 rfl ?_
  refine tj_iload (pc := 103) G 0 dX11_route_103 rfl ?_
  refine tj_min (pc := 105) G (a2 := w32 z14) (b2 := w32 x20) rfl rfl ml_X11_142 mw_min (by decide) (Nat.le_of_ble_eq_true rfl) dX11_route_105 ?_
  refine tj_goto (pc := 108) G (tgt := 113) dX11_route_108 (by decide) ?_
  exact tj_sub [1, 2, 3, 4, 6] rfl (hj113 (min (w32 z14) (w32 x20)) M19)
set_option maxRecDepth 100000 in
set_option maxHeartbeats 4000000 in
theorem fx_X11_route_L50_ok {X : tp_X} {Y : tp_Y} (G : tp_Ok X Y 34 cX11_route 7 RX11 (some .int))  {c1 : Int} {c2 : Int}    (n : Nat) : ∀ (z10 : Int) (M11 : tp_M), tp_J X Y LM 34 7 3 1 (tp_lp1 (fx_X11_route_L50  c1 c2 ) n z10 M11) M11 [(0, vR X 0), (1, vI c1), (2, vI c2), (3, vI z10)] [] 50 := by
  refine tp_lp1_ok (P := fun o z10 M11 => tp_J X Y LM 34 7 3 1 (o) M11 [(0, vR X 0), (1, vI c1), (2, vI c2), (3, vI z10)] [] 50) (fun z10 M11 => tj_none) (fun rec hrec z10 M11 => ?_) n
  unfold fx_X11_route_L50
  refine tj_iload_n (pc := 50) G 3 dX11_route_50 rfl rfl ?_
  refine tj_iload_n (pc := 51) G 2 dX11_route_51 rfl rfl ?_
  refine tj_icmp_eq (pc := 52) G (tgt := 134) (a2 := w32 z10) (b2 := w32 c2) dX11_route_52 (by decide) rfl rfl ?_ ?_
  · refine tj_aload_n (pc := 134) G 0 dX11_route_134 rfl rfl ?_
    refine tj_getR (pc := 135) G (k := 0) (j := 22) (j2 := 22) tk_X11 (by decide) lm_0 rfl (by decide) rfl fl_X11_65 dX11_route_135 ?_
    refine tj_iload_n (pc := 138) G 1 dX11_route_138 rfl rfl ?_
    refine tj_iald (pc := 139) G (k := 13) (i2 := w32 c1) (n2 := 8) (by decide) lm_13 rfl rfl dX11_route_139 ?_
    exact tj_iret (pc := 140) G dX11_route_140
  refine tj_ldcw (pc := 55) G (v := 1000000) dX11_route_55 ct_X11_264 rfl ?_
  refine tj_istore (pc := 58) G (fun x12 => [(4, vI x12), (0, vR X 0), (1, vI c1), (2, vI c2), (3, vI z10)]) dX11_route_58 (by decide) (fun _ => rfl) (fun x12 => ?_)
  refine tj_iconst (pc := 60) G dX11_route_60 ?_
  refine tj_istore (pc := 61) G (fun x13 => [(5, vI x13), (4, vI x12), (0, vR X 0), (1, vI c1), (2, vI c2), (3, vI z10)]) dX11_route_61 (by decide) (fun _ => rfl) (fun x13 => ?_)
  refine tj_sub [2, 3, 4, 5, 1, 0] rfl (fx_X11_route_L63_ok G    (fun y17 M25 => ?_) tp_F x12 x13 M11)
  refine tj_aload_n (pc := 121) G 0 dX11_route_121 rfl rfl ?_
  refine tj_iload (pc := 122) G 3 dX11_route_122 rfl ?_
  refine tj_i2l (pc := 124) G (b := w32 y17) dX11_route_124 rfl ?_
  refine tj_callVv (pc := 125) G [vL (w32 y17)] mf_X11_enters (k := 0) (by decide) lm_0 rfl rfl ml_X11_18 (by decide) rfl rfl (Nat.le_of_ble_eq_true rfl) (fun _ h9 => ok_X11_enters X  h9) dX11_route_125 (fun r26 M27 => ?_)
  refine tj_iload (pc := 128) G 3 dX11_route_128 rfl ?_
  refine tj_istore_n (pc := 130) G (fun x28 => [(3, vI x28), (0, vR X 0), (1, vI c1), (2, vI c2), (4, vI y17)]) dX11_route_130 rfl (by decide) (fun _ => rfl) (fun x28 => ?_)
  refine tj_goto (pc := 131) G (tgt := 50) dX11_route_131 (by decide) ?_
  exact tj_sub [1, 2, 3, 0] rfl (hrec x28 M27)
set_option maxRecDepth 100000 in
set_option maxHeartbeats 4000000 in
theorem ok_X11_route (X : tp_X)  {a1 : Int} {a2 : Int}  {M : tp_M} {res : Int × tp_M} (h : fx_X11_route  a1 a2 M = some res) : tp_Ret X LM 34 1 yX11_route (Cond.code yX11_route cX11_route 7 (some .int)) 3 [vR X 0, vI a1, vI a2] M res := by
  refine tp_ofW (by decide +kernel) rfl rfl (by show _ ≤ 7; exact Nat.le_of_ble_eq_true rfl) h (fun Y G => ?_)
  show tp_J X Y LM 34 7 3 1 (fx_X11_route  a1 a2 M) M [(0, vR X 0), (1, vI a1), (2, vI a2)] [] 0
  unfold fx_X11_route
  refine tj_aload_n (pc := 0) G 0 dX11_route_0 rfl rfl ?_
  refine tj_iconst (pc := 1) G dX11_route_1 ?_
  refine tj_putI (pc := 2) G (k := 0) (j := 0) (j2 := 0) tk_X11 (by decide) lm_0 rfl (by decide) rfl fl_X11_3 rfl rfl dX11_route_2 (fun M1 => ?_)
  refine tj_aload_n (pc := 5) G 0 dX11_route_5 rfl rfl ?_
  refine tj_iload_n (pc := 6) G 1 dX11_route_6 rfl rfl ?_
  refine tj_callVi (pc := 7) G [vI a1] mf_X11_isCrossing (k := 0) (by decide) lm_0 rfl rfl ml_X11_265 (by decide) rfl rfl (Nat.le_of_ble_eq_true rfl) (fun _ h9 => ok_X11_isCrossing X  h9) dX11_route_7 (fun r2 M3 => ?_)
  refine tj_if_eq (pc := 10) G (tgt := 21) (a2 := w32 r2) dX11_route_10 (by decide) rfl ?_ ?_
  · refine tj_iconst (pc := 21) G dX11_route_21 ?_
    exact tj_iret (pc := 22) G dX11_route_22
  refine tj_aload_n (pc := 13) G 0 dX11_route_13 rfl rfl ?_
  refine tj_iload_n (pc := 14) G 2 dX11_route_14 rfl rfl ?_
  refine tj_callVi (pc := 15) G [vI a2] mf_X11_isCrossing (k := 0) (by decide) lm_0 rfl rfl ml_X11_265 (by decide) rfl rfl (Nat.le_of_ble_eq_true rfl) (fun _ h9 => ok_X11_isCrossing X  h9) dX11_route_15 (fun r4 M5 => ?_)
  refine tj_if_ne (pc := 18) G (tgt := 23) (a2 := w32 r4) dX11_route_18 (by decide) rfl ?_ ?_
  · refine tj_aload_n (pc := 23) G 0 dX11_route_23 rfl rfl ?_
    refine tj_iload_n (pc := 24) G 2 dX11_route_24 rfl rfl ?_
    refine tj_callVv (pc := 25) G [vI a2] mf_X11_laysFar (k := 0) (by decide) lm_0 rfl rfl ml_X11_273 (by decide) rfl rfl (Nat.le_of_ble_eq_true rfl) (fun _ h9 => ok_X11_laysFar X  h9) dX11_route_25 (fun r6 M7 => ?_)
    refine tj_aload_n (pc := 28) G 0 dX11_route_28 rfl rfl ?_
    refine tj_getR (pc := 29) G (k := 0) (j := 22) (j2 := 22) tk_X11 (by decide) lm_0 rfl (by decide) rfl fl_X11_65 dX11_route_29 ?_
    refine tj_iload_n (pc := 32) G 1 dX11_route_32 rfl rfl ?_
    refine tj_iald (pc := 33) G (k := 13) (i2 := w32 a1) (n2 := 8) (by decide) lm_13 rfl rfl dX11_route_33 ?_
    refine tj_ldcw (pc := 34) G (v := 1000000) dX11_route_34 ct_X11_264 rfl ?_
    refine tj_icmp_lt (pc := 37) G (tgt := 43) (a2 := w32 (M7 13 (w32 a1))) (b2 := 1000000) dX11_route_37 (by decide) rfl rfl ?_ ?_
    · refine tj_aload_n (pc := 43) G 0 dX11_route_43 rfl rfl ?_
      refine tj_iconst (pc := 44) G dX11_route_44 ?_
      refine tj_putI (pc := 45) G (k := 0) (j := 1) (j2 := 1) tk_X11 (by decide) lm_0 rfl (by decide) rfl fl_X11_15 rfl rfl dX11_route_45 (fun M8 => ?_)
      refine tj_iload_n (pc := 48) G 1 dX11_route_48 rfl rfl ?_
      refine tj_istore_n (pc := 49) G (fun x9 => [(3, vI x9), (0, vR X 0), (1, vI a1), (2, vI a2)]) dX11_route_49 rfl (by decide) (fun _ => rfl) (fun x9 => ?_)
      refine tj_sub [1, 2, 3, 0] rfl (fx_X11_route_L50_ok G     tp_F x9 M8)
    refine tj_bipush (pc := 40) G dX11_route_40 rfl ?_
    exact tj_iret (pc := 42) G dX11_route_42
  refine tj_iconst (pc := 21) G dX11_route_21 ?_
  exact tj_iret (pc := 22) G dX11_route_22
