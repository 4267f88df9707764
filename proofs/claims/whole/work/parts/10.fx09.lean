def fx_X11_net_L21  (K52 : Int → tp_M → tp_O) (rec : Int → Int → tp_M → tp_O) (z7 z8 : Int) (M9 : tp_M) : tp_O :=
(if w32 z8 = 0 then
(K52 z7 M9)
else
(tp_bd (fx_X11_readsLine  M9) (fun r11 M12 =>
(tp_lt r11 (fun x13 =>
(tp_jn1 (fun y14 M15 => 
(tp_lt y14 (fun x16 =>
(rec x13 x16 M15)))) (fun jk48 =>
(tp_jn0 (fun M17 => 
(jk48 0 M17)) (fun jk47 =>
(if w32 x13 = 0 then
(jk47 M12)
else
(tp_bd (fx_X11_takes 59 M12) (fun r18 M19 =>
(if w32 r18 = 0 then
(jk47 M19)
else
(jk48 1 M19))))))))))))))
def fx_X11_net_L87 (c3 : Int) (K125 : tp_M → tp_O) (rec : Int → tp_M → tp_O) (z25 : Int) (M26 : tp_M) : tp_O :=
(tp_ck (w32 c3) 8 (if w32 z25 < w32 (M26 7 (w32 c3)) then
(tp_ck (w32 ((4 * c3) + z25)) 32 (if w32 (M26 8 (w32 ((4 * c3) + z25))) ≤ w32 (M26 0 15) then
(tp_lt (z25 + 1) (fun x27 =>
(rec x27 M26)))
else
(some ((-100), M26))))
else
(K125 M26)))
def fx_X11_net_L76  (K131 : tp_M → tp_O) (rec : Int → tp_M → tp_O) (z22 : Int) (M23 : tp_M) : tp_O :=
(if w32 z22 ≤ w32 (M23 0 15) then
(tp_lt 0 (fun x24 =>
(tp_lp1 (fx_X11_net_L87 z22 (fun M28 =>
(tp_lt (z22 + 1) (fun x29 =>
(rec x29 M28))))) tp_F x24 M23)))
else
(K131 M23))
def fx_X11_net_L176 (c3 : Int) (K210 : tp_M → tp_O) (rec : Int → tp_M → tp_O) (z39 : Int) (M40 : tp_M) : tp_O :=
(if w32 z39 < 4 then
(tp_ck (w32 ((4 * c3) + z39)) 32 (tp_ck (w32 ((4 * c3) + z39)) 32 (tp_lm (tp_up M40 3 (w32 ((4 * c3) + z39)) (M40 8 (w32 ((4 * c3) + z39)))) (fun M41 =>
(tp_lt (z39 + 1) (fun x42 =>
(rec x42 M41)))))))
else
(K210 M40))
def fx_X11_net_L153  (K216 : tp_M → tp_O) (rec : Int → tp_M → tp_O) (z35 : Int) (M36 : tp_M) : tp_O :=
(if w32 z35 < w32 (M36 0 3) then
(tp_ck (w32 z35) 8 (tp_ck (w32 z35) 8 (tp_lm (tp_up M36 2 (w32 z35) (M36 7 (w32 z35))) (fun M37 =>
(tp_lt 0 (fun x38 =>
(tp_lp1 (fx_X11_net_L176 z35 (fun M43 =>
(tp_lt (z35 + 1) (fun x44 =>
(rec x44 M43))))) tp_F x38 M37)))))))
else
(K216 M36))
def fx_X11_net_L218  (K237 : tp_M → tp_O) (rec : Int → tp_M → tp_O) (z47 : Int) (M48 : tp_M) : tp_O :=
(if w32 z47 < 17 then
(tp_ck (w32 z47) 17 (tp_lm (tp_up M48 4 (w32 z47) 0) (fun M49 =>
(tp_lt (z47 + 1) (fun x50 =>
(rec x50 M49))))))
else
(K237 M48))
def fx_X11_net_L254  (rec : Int → tp_M → tp_O) (z56 : Int) (M57 : tp_M) : tp_O :=
(if w32 z56 < 3 then
(tp_ck (w32 z56) 3 (tp_lm (tp_up M57 32 (w32 z56) 0) (fun M58 =>
(tp_lt (z56 + 1) (fun x59 =>
(rec x59 M58))))))
else
(some (M57 0 3, M57)))
def fx_X11_net   (M : tp_M) : tp_O :=
(tp_lm (tp_up M 0 0 0) (fun M1 =>
(tp_bd (fx_X11_begins 80 M1) (fun r2 M3 =>
(tp_lm (tp_up M3 0 15 0) (fun M4 =>
(tp_lt 1 (fun x5 =>
(tp_lt 1 (fun x6 =>
(tp_lp2 (fx_X11_net_L21  (fun y10 M20 =>
(if w32 y10 = 0 then
(some ((-1) - (M20 0 10), M20))
else
(if w32 (M20 0 10) < w32 (M20 0 11) then
(some ((-1) - (M20 0 10), M20))
else
(tp_lt 1 (fun x21 =>
(tp_lp1 (fx_X11_net_L76  (fun M30 =>
(tp_bd (fx_X11_allCome  M30) (fun r31 M32 =>
(if w32 r31 = 0 then
(some ((-101), M32))
else
(tp_lm (tp_up M32 0 3 ((M32 0 15) + 1)) (fun M33 =>
(tp_lt 1 (fun x34 =>
(tp_lp1 (fx_X11_net_L153  (fun M45 =>
(tp_lt 0 (fun x46 =>
(tp_lp1 (fx_X11_net_L218  (fun M51 =>
(tp_lm (tp_up M51 0 23 0) (fun M52 =>
(tp_lm (tp_up M52 0 39 0) (fun M53 =>
(tp_lm (tp_up M53 0 44 0) (fun M54 =>
(tp_lt 0 (fun x55 =>
(tp_lp1 (fx_X11_net_L254  ) tp_F x55 M54))))))))))) tp_F x46 M45))))) tp_F x34 M33)))))))))) tp_F x21 M20))))))) tp_F x5 x6 M4)))))))))))
set_option maxRecDepth 100000 in
set_option maxHeartbeats 4000000 in
theorem fx_X11_net_L21_ok {X : tp_X} {Y : tp_Y} (G : tp_Ok X Y 34 cX11_net 5 RX11 (some .int))  {K52 : Int → tp_M → tp_O}   (hK52 : ∀ (y10 : Int) (M9 : tp_M), tp_J X Y LM 34 5 5 1 (K52 y10 M9) M9 [(0, vR X 0), (1, vI y10)] [] 52) (n : Nat) : ∀ (z7 z8 : Int) (M9 : tp_M), tp_J X Y LM 34 5 5 1 (tp_lp2 (fx_X11_net_L21   K52) n z7 z8 M9) M9 [(0, vR X 0), (1, vI z7), (2, vI z8)] [] 21 := by
  refine tp_lp2_ok (P := fun o z7 z8 M9 => tp_J X Y LM 34 5 5 1 (o) M9 [(0, vR X 0), (1, vI z7), (2, vI z8)] [] 21) (fun z7 z8 M9 => tj_none) (fun rec hrec z7 z8 M9 => ?_) n
  unfold fx_X11_net_L21
  refine tj_iload_n (pc := 21) G 2 dX11_net_21 rfl rfl ?_
  refine tj_if_eq (pc := 22) G (tgt := 52) (a2 := w32 z8) dX11_net_22 (by decide) rfl ?_ ?_
  · exact tj_sub [0, 1] rfl (hK52 z7 M9)
  refine tj_aload_n (pc := 25) G 0 dX11_net_25 rfl rfl ?_
  refine tj_callVi (pc := 26) G [] mf_X11_readsLine (k := 0) (by decide) lm_0 rfl rfl ml_X11_190 (by decide) rfl rfl (Nat.le_of_ble_eq_true rfl) (fun _ h9 => ok_X11_readsLine X  h9) dX11_net_26 (fun r11 M12 => ?_)
  refine tj_istore_n (pc := 29) G (fun x13 => [(1, vI x13), (0, vR X 0), (2, vI z8)]) dX11_net_29 rfl (by decide) (fun _ => rfl) (fun x13 => ?_)
  refine tj_iload_n (pc := 30) G 0 dX11_net_30 rfl rfl ?_
  refine tj_jn1 (fun y14 => [(0, vR X 0), (1, vI x13)]) (fun y14 => [vI y14]) 48 (fun y14 M15 => ?_) (fun jk48 hj48 => ?_)
  · refine tj_istore_n (pc := 48) G (fun x16 => [(2, vI x16), (0, vR X 0), (1, vI x13)]) dX11_net_48 rfl (by decide) (fun _ => rfl) (fun x16 => ?_)
    refine tj_goto (pc := 49) G (tgt := 21) dX11_net_49 (by decide) ?_
    exact tj_sub [1, 2, 0] rfl (hrec x13 x16 M15)
  refine tj_jn0 [(0, vR X 0), (1, vI x13)] [] 47 (fun M17 => ?_) (fun jk47 hj47 => ?_)
  · refine tj_iconst (pc := 47) G dX11_net_47 ?_
    exact tj_sub [0, 1] rfl (hj48 0 M17)
  refine tj_if_eq (pc := 31) G (tgt := 47) (a2 := w32 x13) dX11_net_31 (by decide) rfl ?_ ?_
  · exact tj_sub [1, 0] rfl (hj47  M12)
  refine tj_aload_n (pc := 34) G 1 dX11_net_34 rfl rfl ?_
  refine tj_bipush (pc := 35) G dX11_net_35 rfl ?_
  refine tj_callVi (pc := 37) G [vI 59] mf_X11_takes (k := 0) (by decide) lm_0 rfl rfl ml_X11_193 (by decide) rfl rfl (Nat.le_of_ble_eq_true rfl) (fun _ h9 => ok_X11_takes X  h9) dX11_net_37 (fun r18 M19 => ?_)
  refine tj_if_eq (pc := 40) G (tgt := 47) (a2 := w32 r18) dX11_net_40 (by decide) rfl ?_ ?_
  · exact tj_sub [1, 0] rfl (hj47  M19)
  refine tj_iconst (pc := 43) G dX11_net_43 ?_
  refine tj_goto (pc := 44) G (tgt := 48) dX11_net_44 (by decide) ?_
  exact tj_sub [1, 0] rfl (hj48 1 M19)
set_option maxRecDepth 100000 in
set_option maxHeartbeats 4000000 in
theorem fx_X11_net_L87_ok {X : tp_X} {Y : tp_Y} (G : tp_Ok X Y 34 cX11_net 5 RX11 (some .int))  {c3 : Int} {K125 : tp_M → tp_O}   (hK125 : ∀ (M9 : tp_M), tp_J X Y LM 34 5 5 1 (K125  M9) M9 [(0, vR X 0), (3, vI c3)] [] 125) (n : Nat) : ∀ (z25 : Int) (M26 : tp_M), tp_J X Y LM 34 5 5 1 (tp_lp1 (fx_X11_net_L87  c3 K125) n z25 M26) M26 [(0, vR X 0), (3, vI c3), (4, vI z25)] [] 87 := by
  refine tp_lp1_ok (P := fun o z25 M26 => tp_J X Y LM 34 5 5 1 (o) M26 [(0, vR X 0), (3, vI c3), (4, vI z25)] [] 87) (fun z25 M26 => tj_none) (fun rec hrec z25 M26 => ?_) n
  unfold fx_X11_net_L87
  refine tj_iload (pc := 87) G 2 dX11_net_87 rfl ?_
  refine tj_aload_n (pc := 89) G 0 dX11_net_89 rfl rfl ?_
  refine tj_getR (pc := 90) G (k := 0) (j := 13) (j2 := 13) tk_X11 (by decide) lm_0 rfl (by decide) rfl fl_X11_47 dX11_net_90 ?_
  refine tj_iload_n (pc := 93) G 1 dX11_net_93 rfl rfl ?_
  refine tj_iald (pc := 94) G (k := 7) (i2 := w32 c3) (n2 := 8) (by decide) lm_7 rfl rfl dX11_net_94 ?_
  refine tj_icmp_ge (pc := 95) G (tgt := 125) (a2 := w32 z25) (b2 := w32 (M26 7 (w32 c3))) dX11_net_95 (by decide) rfl rfl ?_ ?_
  · exact tj_sub [0, 1] rfl (hK125  M26)
  refine tj_aload_n (pc := 98) G 0 dX11_net_98 rfl rfl ?_
  refine tj_getR (pc := 99) G (k := 0) (j := 14) (j2 := 14) tk_X11 (by decide) lm_0 rfl (by decide) rfl fl_X11_50 dX11_net_99 ?_
  refine tj_iconst (pc := 102) G dX11_net_102 ?_
  refine tj_iload_n (pc := 103) G 1 dX11_net_103 rfl rfl ?_
  refine tj_imul (pc := 104) G dX11_net_104 ?_
  refine tj_iload (pc := 105) G 2 dX11_net_105 rfl ?_
  refine tj_iadd (pc := 107) G dX11_net_107 ?_
  refine tj_iald (pc := 108) G (k := 8) (i2 := w32 ((4 * c3) + z25)) (n2 := 32) (by decide) lm_8 rfl rfl dX11_net_108 ?_
  refine tj_aload_n (pc := 109) G 0 dX11_net_109 rfl rfl ?_
  refine tj_getI (pc := 110) G (k := 0) (j := 15) (j2 := 15) tk_X11 (by decide) lm_0 rfl (by decide) rfl fl_X11_176 dX11_net_110 ?_
  refine tj_icmp_le (pc := 113) G (tgt := 119) (a2 := w32 (M26 8 (w32 ((4 * c3) + z25)))) (b2 := w32 (M26 0 15)) dX11_net_113 (by decide) rfl rfl ?_ ?_
  · refine tj_iinc (pc := 119) G 2 (fun x27 => [(4, vI x27), (0, vR X 0), (3, vI c3)]) dX11_net_119 rfl (by decide) (fun _ => rfl) (fun x27 => ?_)
    refine tj_goto (pc := 122) G (tgt := 87) dX11_net_122 (by decide) ?_
    exact tj_sub [1, 2, 0] rfl (hrec x27 M26)
  refine tj_bipush (pc := 116) G dX11_net_116 rfl ?_
  exact tj_iret (pc := 118) G dX11_net_118
set_option maxRecDepth 100000 in
set_option maxHeartbeats 4000000 in
theorem fx_X11_net_L76_ok {X : tp_X} {Y : tp_Y} (G : tp_Ok X Y 34 cX11_net 5 RX11 (some .int))  {K131 : tp_M → tp_O}   (hK131 : ∀ (M9 : tp_M), tp_J X Y LM 34 5 5 1 (K131  M9) M9 [(0, vR X 0)] [] 131) (n : Nat) : ∀ (z22 : Int) (M23 : tp_M), tp_J X Y LM 34 5 5 1 (tp_lp1 (fx_X11_net_L76   K131) n z22 M23) M23 [(0, vR X 0), (3, vI z22)] [] 76 := by
  refine tp_lp1_ok (P := fun o z22 M23 => tp_J X Y LM 34 5 5 1 (o) M23 [(0, vR X 0), (3, vI z22)] [] 76) (fun z22 M23 => tj_none) (fun rec hrec z22 M23 => ?_) n
  unfold fx_X11_net_L76
  refine tj_iload_n (pc := 76) G 1 dX11_net_76 rfl rfl ?_
  refine tj_aload_n (pc := 77) G 0 dX11_net_77 rfl rfl ?_
  refine tj_getI (pc := 78) G (k := 0) (j := 15) (j2 := 15) tk_X11 (by decide) lm_0 rfl (by decide) rfl fl_X11_176 dX11_net_78 ?_
  refine tj_icmp_gt (pc := 81) G (tgt := 131) (a2 := w32 z22) (b2 := w32 (M23 0 15)) dX11_net_81 (by decide) rfl rfl ?_ ?_
  · exact tj_sub [0] rfl (hK131  M23)
  refine tj_iconst (pc := 84) G dX11_net_84 ?_
  refine tj_istore (pc := 85) G (fun x24 => [(4, vI x24), (0, vR X 0), (3, vI z22)]) dX11_net_85 (by decide) (fun _ => rfl) (fun x24 => ?_)
  refine tj_sub [1, 2, 0] rfl (fx_X11_net_L87_ok G    (fun M28 => ?_) tp_F x24 M23)
  refine tj_iinc (pc := 125) G 1 (fun x29 => [(3, vI x29), (0, vR X 0)]) dX11_net_125 rfl (by decide) (fun _ => rfl) (fun x29 => ?_)
  refine tj_goto (pc := 128) G (tgt := 76) dX11_net_128 (by decide) ?_
  exact tj_sub [1, 0] rfl (hrec x29 M28)
set_option maxRecDepth 100000 in
set_option maxHeartbeats 4000000 in
theorem fx_X11_net_L176_ok {X : tp_X} {Y : tp_Y} (G : tp_Ok X Y 34 cX11_net 5 RX11 (some .int))  {c3 : Int} {K210 : tp_M → tp_O}   (hK210 : ∀ (M9 : tp_M), tp_J X Y LM 34 5 5 1 (K210  M9) M9 [(0, vR X 0), (3, vI c3)] [] 210) (n : Nat) : ∀ (z39 : Int) (M40 : tp_M), tp_J X Y LM 34 5 5 1 (tp_lp1 (fx_X11_net_L176  c3 K210) n z39 M40) M40 [(0, vR X 0), (3, vI c3), (4, vI z39)] [] 176 := by
  refine tp_lp1_ok (P := fun o z39 M40 => tp_J X Y LM 34 5 5 1 (o) M40 [(0, vR X 0), (3, vI c3), (4, vI z39)] [] 176) (fun z39 M40 => tj_none) (fun rec hrec z39 M40 => ?_) n
  unfold fx_X11_net_L176
  refine tj_iload (pc := 176) G 2 dX11_net_176 rfl ?_
  refine tj_iconst (pc := 178) G dX11_net_178 ?_
  refine tj_icmp_ge (pc := 179) G (tgt := 210) (a2 := w32 z39) (b2 := 4) dX11_net_179 (by decide) rfl rfl ?_ ?_
  · exact tj_sub [0, 1] rfl (hK210  M40)
  refine tj_aload_n (pc := 182) G 0 dX11_net_182 rfl rfl ?_
  refine tj_getR (pc := 183) G (k := 0) (j := 5) (j2 := 5) tk_X11 (by decide) lm_0 rfl (by decide) rfl fl_X11_35 dX11_net_183 ?_
  refine tj_iconst (pc := 186) G dX11_net_186 ?_
  refine tj_iload_n (pc := 187) G 1 dX11_net_187 rfl rfl ?_
  refine tj_imul (pc := 188) G dX11_net_188 ?_
  refine tj_iload (pc := 189) G 2 dX11_net_189 rfl ?_
  refine tj_iadd (pc := 191) G dX11_net_191 ?_
  refine tj_aload_n (pc := 192) G 0 dX11_net_192 rfl rfl ?_
  refine tj_getR (pc := 193) G (k := 0) (j := 14) (j2 := 14) tk_X11 (by decide) lm_0 rfl (by decide) rfl fl_X11_50 dX11_net_193 ?_
  refine tj_iconst (pc := 196) G dX11_net_196 ?_
  refine tj_iload_n (pc := 197) G 1 dX11_net_197 rfl rfl ?_
  refine tj_imul (pc := 198) G dX11_net_198 ?_
  refine tj_iload (pc := 199) G 2 dX11_net_199 rfl ?_
  refine tj_iadd (pc := 201) G dX11_net_201 ?_
  refine tj_iald (pc := 202) G (k := 8) (i2 := w32 ((4 * c3) + z39)) (n2 := 32) (by decide) lm_8 rfl rfl dX11_net_202 ?_
  refine tj_iast (pc := 203) G (k := 3) (i2 := w32 ((4 * c3) + z39)) (n2 := 32) (by decide) lm_3 rfl rfl dX11_net_203 (fun M41 => ?_)
  refine tj_iinc (pc := 204) G 2 (fun x42 => [(4, vI x42), (0, vR X 0), (3, vI c3)]) dX11_net_204 rfl (by decide) (fun _ => rfl) (fun x42 => ?_)
  refine tj_goto (pc := 207) G (tgt := 176) dX11_net_207 (by decide) ?_
  exact tj_sub [1, 2, 0] rfl (hrec x42 M41)
set_option maxRecDepth 100000 in
set_option maxHeartbeats 4000000 in
theorem fx_X11_net_L153_ok {X : tp_X} {Y : tp_Y} (G : tp_Ok X Y 34 cX11_net 5 RX11 (some .int))  {K216 : tp_M → tp_O}   (hK216 : ∀ (M9 : tp_M), tp_J X Y LM 34 5 5 1 (K216  M9) M9 [(0, vR X 0)] [] 216) (n : Nat) : ∀ (z35 : Int) (M36 : tp_M), tp_J X Y LM 34 5 5 1 (tp_lp1 (fx_X11_net_L153   K216) n z35 M36) M36 [(0, vR X 0), (3, vI z35)] [] 153 := by
  refine tp_lp1_ok (P := fun o z35 M36 => tp_J X Y LM 34 5 5 1 (o) M36 [(0, vR X 0), (3, vI z35)] [] 153) (fun z35 M36 => tj_none) (fun rec hrec z35 M36 => ?_) n
  unfold fx_X11_net_L153
  refine tj_iload_n (pc := 153) G 1 dX11_net_153 rfl rfl ?_
  refine tj_aload_n (pc := 154) G 0 dX11_net_154 rfl rfl ?_
  refine tj_getI (pc := 155) G (k := 0) (j := 3) (j2 := 3) tk_X11 (by decide) lm_0 rfl (by decide) rfl fl_X11_28 dX11_net_155 ?_
  refine tj_icmp_ge (pc := 158) G (tgt := 216) (a2 := w32 z35) (b2 := w32 (M36 0 3)) dX11_net_158 (by decide) rfl rfl ?_ ?_
  · exact tj_sub [0] rfl (hK216  M36)
  refine tj_aload_n (pc := 161) G 0 dX11_net_161 rfl rfl ?_
  refine tj_getR (pc := 162) G (k := 0) (j := 4) (j2 := 4) tk_X11 (by decide) lm_0 rfl (by decide) rfl fl_X11_31 dX11_net_162 ?_
  refine tj_iload_n (pc := 165) G 1 dX11_net_165 rfl rfl ?_
  refine tj_aload_n (pc := 166) G 0 dX11_net_166 rfl rfl ?_
  refine tj_getR (pc := 167) G (k := 0) (j := 13) (j2 := 13) tk_X11 (by decide) lm_0 rfl (by decide) rfl fl_X11_47 dX11_net_167 ?_
  refine tj_iload_n (pc := 170) G 1 dX11_net_170 rfl rfl ?_
  refine tj_iald (pc := 171) G (k := 7) (i2 := w32 z35) (n2 := 8) (by decide) lm_7 rfl rfl dX11_net_171 ?_
  refine tj_iast (pc := 172) G (k := 2) (i2 := w32 z35) (n2 := 8) (by decide) lm_2 rfl rfl dX11_net_172 (fun M37 => ?_)
  refine tj_iconst (pc := 173) G dX11_net_173 ?_
  refine tj_istore (pc := 174) G (fun x38 => [(4, vI x38), (0, vR X 0), (3, vI z35)]) dX11_net_174 (by decide) (fun _ => rfl) (fun x38 => ?_)
  refine tj_sub [1, 2, 0] rfl (fx_X11_net_L176_ok G    (fun M43 => ?_) tp_F x38 M37)
  refine tj_iinc (pc := 210) G 1 (fun x44 => [(3, vI x44), (0, vR X 0)]) dX11_net_210 rfl (by decide) (fun _ => rfl) (fun x44 => ?_)
  refine tj_goto (pc := 213) G (tgt := 153) dX11_net_213 (by decide) ?_
  exact tj_sub [1, 0] rfl (hrec x44 M43)
set_option maxRecDepth 100000 in
set_option maxHeartbeats 4000000 in
theorem fx_X11_net_L218_ok {X : tp_X} {Y : tp_Y} (G : tp_Ok X Y 34 cX11_net 5 RX11 (some .int))  {K237 : tp_M → tp_O}   (hK237 : ∀ (M9 : tp_M), tp_J X Y LM 34 5 5 1 (K237  M9) M9 [(0, vR X 0)] [] 237) (n : Nat) : ∀ (z47 : Int) (M48 : tp_M), tp_J X Y LM 34 5 5 1 (tp_lp1 (fx_X11_net_L218   K237) n z47 M48) M48 [(0, vR X 0), (3, vI z47)] [] 218 := by
  refine tp_lp1_ok (P := fun o z47 M48 => tp_J X Y LM 34 5 5 1 (o) M48 [(0, vR X 0), (3, vI z47)] [] 218) (fun z47 M48 => tj_none) (fun rec hrec z47 M48 => ?_) n
  unfold fx_X11_net_L218
  refine tj_iload_n (pc := 218) G 1 dX11_net_218 rfl rfl ?_
  refine tj_bipush (pc := 219) G dX11_net_219 rfl ?_
  refine tj_icmp_ge (pc := 221) G (tgt := 237) (a2 := w32 z47) (b2 := 17) dX11_net_221 (by decide) rfl rfl ?_ ?_
  · exact tj_sub [0] rfl (hK237  M48)
  refine tj_aload_n (pc := 224) G 0 dX11_net_224 rfl rfl ?_
  refine tj_getR (pc := 225) G (k := 0) (j := 6) (j2 := 6) tk_X11 (by decide) lm_0 rfl (by decide) rfl fl_X11_38 dX11_net_225 ?_
  refine tj_iload_n (pc := 228) G 1 dX11_net_228 rfl rfl ?_
  refine tj_iconst (pc := 229) G dX11_net_229 ?_
  refine tj_iast (pc := 230) G (k := 4) (i2 := w32 z47) (n2 := 17) (by decide) lm_4 rfl rfl dX11_net_230 (fun M49 => ?_)
  refine tj_iinc (pc := 231) G 1 (fun x50 => [(3, vI x50), (0, vR X 0)]) dX11_net_231 rfl (by decide) (fun _ => rfl) (fun x50 => ?_)
  refine tj_goto (pc := 234) G (tgt := 218) dX11_net_234 (by decide) ?_
  exact tj_sub [1, 0] rfl (hrec x50 M49)
set_option maxRecDepth 100000 in
set_option maxHeartbeats 4000000 in
theorem fx_X11_net_L254_ok {X : tp_X} {Y : tp_Y} (G : tp_Ok X Y 34 cX11_net 5 RX11 (some .int))      (n : Nat) : ∀ (z56 : Int) (M57 : tp_M), tp_J X Y LM 34 5 5 1 (tp_lp1 (fx_X11_net_L254   ) n z56 M57) M57 [(0, vR X 0), (3, vI z56)] [] 254 := by
  refine tp_lp1_ok (P := fun o z56 M57 => tp_J X Y LM 34 5 5 1 (o) M57 [(0, vR X 0), (3, vI z56)] [] 254) (fun z56 M57 => tj_none) (fun rec hrec z56 M57 => ?_) n
  unfold fx_X11_net_L254
  refine tj_iload_n (pc := 254) G 1 dX11_net_254 rfl rfl ?_
  refine tj_iconst (pc := 255) G dX11_net_255 ?_
  refine tj_icmp_ge (pc := 256) G (tgt := 272) (a2 := w32 z56) (b2 := 3) dX11_net_256 (by decide) rfl rfl ?_ ?_
  · refine tj_aload_n (pc := 272) G 0 dX11_net_272 rfl rfl ?_
    refine tj_getI (pc := 273) G (k := 0) (j := 3) (j2 := 3) tk_X11 (by decide) lm_0 rfl (by decide) rfl fl_X11_28 dX11_net_273 ?_
    exact tj_iret (pc := 276) G dX11_net_276
  refine tj_aload_n (pc := 259) G 0 dX11_net_259 rfl rfl ?_
  refine tj_getR (pc := 260) G (k := 0) (j := 50) (j2 := 50) tk_X11 (by decide) lm_0 rfl (by decide) rfl fl_X11_123 dX11_net_260 ?_
  refine tj_iload_n (pc := 263) G 1 dX11_net_263 rfl rfl ?_
  refine tj_iconst (pc := 264) G dX11_net_264 ?_
  refine tj_zast (pc := 265) G (k := 32) (i2 := w32 z56) (n2 := 3) (by decide) lm_32 rfl rfl (by decide) dX11_net_265 (fun M58 => ?_)
  refine tj_iinc (pc := 266) G 1 (fun x59 => [(3, vI x59), (0, vR X 0)]) dX11_net_266 rfl (by decide) (fun _ => rfl) (fun x59 => ?_)
  refine tj_goto (pc := 269) G (tgt := 254) dX11_net_269 (by decide) ?_
  exact tj_sub [1, 0] rfl (hrec x59 M58)
set_option maxRecDepth 100000 in
set_option maxHeartbeats 4000000 in
theorem ok_X11_net (X : tp_X)    {M : tp_M} {res : Int × tp_M} (h : fx_X11_net   M = some res) : tp_Ret X LM 34 1 yX11_net (Cond.code yX11_net cX11_net 5 (some .int)) 5 [vR X 0] M res := by
  refine tp_ofW (by decide +kernel) rfl rfl (by show _ ≤ 5; exact Nat.le_of_ble_eq_true rfl) h (fun Y G => ?_)
  show tp_J X Y LM 34 5 5 1 (fx_X11_net   M) M [(0, vR X 0)] [] 0
  unfold fx_X11_net
  refine tj_aload_n (pc := 0) G 0 dX11_net_0 rfl rfl ?_
  refine tj_iconst (pc := 1) G dX11_net_1 ?_
  refine tj_putI (pc := 2) G (k := 0) (j := 0) (j2 := 0) tk_X11 (by decide) lm_0 rfl (by decide) rfl fl_X11_3 rfl rfl dX11_net_2 (fun M1 => ?_)
  refine tj_aload_n (pc := 5) G 0 dX11_net_5 rfl rfl ?_
  refine tj_bipush (pc := 6) G dX11_net_6 rfl ?_
  refine tj_callVi (pc := 8) G [vI 80] mf_X11_begins (k := 0) (by decide) lm_0 rfl rfl ml_X11_187 (by decide) rfl rfl (Nat.le_of_ble_eq_true rfl) (fun _ h9 => ok_X11_begins X  h9) dX11_net_8 (fun r2 M3 => ?_)
  refine tj_pop (pc := 11) G dX11_net_11 rfl ?_
  refine tj_aload_n (pc := 12) G 0 dX11_net_12 rfl rfl ?_
  refine tj_iconst (pc := 13) G dX11_net_13 ?_
  refine tj_putI (pc := 14) G (k := 0) (j := 15) (j2 := 15) tk_X11 (by decide) lm_0 rfl (by decide) rfl fl_X11_176 rfl rfl dX11_net_14 (fun M4 => ?_)
  refine tj_iconst (pc := 17) G dX11_net_17 ?_
  refine tj_istore_n (pc := 18) G (fun x5 => [(1, vI x5), (0, vR X 0)]) dX11_net_18 rfl (by decide) (fun _ => rfl) (fun x5 => ?_)
  refine tj_iconst (pc := 19) G dX11_net_19 ?_
  refine tj_istore_n (pc := 20) G (fun x6 => [(2, vI x6), (1, vI x5), (0, vR X 0)]) dX11_net_20 rfl (by decide) (fun _ => rfl) (fun x6 => ?_)
  refine tj_sub [2, 1, 0] rfl (fx_X11_net_L21_ok G    (fun y10 M20 => ?_) tp_F x5 x6 M4)
  refine tj_iload_n (pc := 52) G 1 dX11_net_52 rfl rfl ?_
  refine tj_if_eq (pc := 53) G (tgt := 67) (a2 := w32 y10) dX11_net_53 (by decide) rfl ?_ ?_
  · refine tj_iconst (pc := 67) G dX11_net_67 ?_
    refine tj_aload_n (pc := 68) G 0 dX11_net_68 rfl rfl ?_
    refine tj_getI (pc := 69) G (k := 0) (j := 10) (j2 := 10) tk_X11 (by decide) lm_0 rfl (by decide) rfl fl_X11_136 dX11_net_69 ?_
    refine tj_isub (pc := 72) G dX11_net_72 ?_
    exact tj_iret (pc := 73) G dX11_net_73
  refine tj_aload_n (pc := 56) G 0 dX11_net_56 rfl rfl ?_
  refine tj_getI (pc := 57) G (k := 0) (j := 10) (j2 := 10) tk_X11 (by decide) lm_0 rfl (by decide) rfl fl_X11_136 dX11_net_57 ?_
  refine tj_aload_n (pc := 60) G 0 dX11_net_60 rfl rfl ?_
  refine tj_getI (pc := 61) G (k := 0) (j := 11) (j2 := 11) tk_X11 (by decide) lm_0 rfl (by decide) rfl fl_X11_148 dX11_net_61 ?_
  refine tj_icmp_ge (pc := 64) G (tgt := 74) (a2 := w32 (M20 0 10)) (b2 := w32 (M20 0 11)) dX11_net_64 (by decide) rfl rfl ?_ ?_
  · refine tj_iconst (pc := 74) G dX11_net_74 ?_
    refine tj_istore_n (pc := 75) G (fun x21 => [(3, vI x21), (0, vR X 0), (1, vI y10)]) dX11_net_75 rfl (by decide) (fun _ => rfl) (fun x21 => ?_)
    refine tj_sub [1, 0] rfl (fx_X11_net_L76_ok G    (fun M30 => ?_) tp_F x21 M20)
    refine tj_aload_n (pc := 131) G 0 dX11_net_131 rfl rfl ?_
    refine tj_callVi (pc := 132) G [] mf_X11_allCome (k := 0) (by decide) lm_0 rfl rfl ml_X11_197 (by decide) rfl rfl (Nat.le_of_ble_eq_true rfl) (fun _ h9 => ok_X11_allCome X  h9) dX11_net_132 (fun r31 M32 => ?_)
    refine tj_if_ne (pc := 135) G (tgt := 141) (a2 := w32 r31) dX11_net_135 (by decide) rfl ?_ ?_
    · refine tj_aload_n (pc := 141) G 0 dX11_net_141 rfl rfl ?_
      refine tj_aload_n (pc := 142) G 0 dX11_net_142 rfl rfl ?_
      refine tj_getI (pc := 143) G (k := 0) (j := 15) (j2 := 15) tk_X11 (by decide) lm_0 rfl (by decide) rfl fl_X11_176 dX11_net_143 ?_
      refine tj_iconst (pc := 146) G dX11_net_146 ?_
      refine tj_iadd (pc := 147) G dX11_net_147 ?_
      refine tj_putI (pc := 148) G (k := 0) (j := 3) (j2 := 3) tk_X11 (by decide) lm_0 rfl (by decide) rfl fl_X11_28 rfl rfl dX11_net_148 (fun M33 => ?_)
      refine tj_iconst (pc := 151) G dX11_net_151 ?_
      refine tj_istore_n (pc := 152) G (fun x34 => [(3, vI x34), (0, vR X 0)]) dX11_net_152 rfl (by decide) (fun _ => rfl) (fun x34 => ?_)
      refine tj_sub [1, 0] rfl (fx_X11_net_L153_ok G    (fun M45 => ?_) tp_F x34 M33)
      refine tj_iconst (pc := 216) G dX11_net_216 ?_
      refine tj_istore_n (pc := 217) G (fun x46 => [(3, vI x46), (0, vR X 0)]) dX11_net_217 rfl (by decide) (fun _ => rfl) (fun x46 => ?_)
      refine tj_sub [1, 0] rfl (fx_X11_net_L218_ok G    (fun M51 => ?_) tp_F x46 M45)
      refine tj_aload_n (pc := 237) G 0 dX11_net_237 rfl rfl ?_
      refine tj_iconst (pc := 238) G dX11_net_238 ?_
      refine tj_putI (pc := 239) G (k := 0) (j := 23) (j2 := 23) tk_X11 (by decide) lm_0 rfl (by decide) rfl fl_X11_200 rfl rfl dX11_net_239 (fun M52 => ?_)
      refine tj_aload_n (pc := 242) G 0 dX11_net_242 rfl rfl ?_
      refine tj_iconst (pc := 243) G dX11_net_243 ?_
      refine tj_putI (pc := 244) G (k := 0) (j := 39) (j2 := 39) tk_X11 (by decide) lm_0 rfl (by decide) rfl fl_X11_203 rfl rfl dX11_net_244 (fun M53 => ?_)
      refine tj_aload_n (pc := 247) G 0 dX11_net_247 rfl rfl ?_
      refine tj_iconst (pc := 248) G dX11_net_248 ?_
      refine tj_putI (pc := 249) G (k := 0) (j := 44) (j2 := 44) tk_X11 (by decide) lm_0 rfl (by decide) rfl fl_X11_206 rfl rfl dX11_net_249 (fun M54 => ?_)
      refine tj_iconst (pc := 252) G dX11_net_252 ?_
      refine tj_istore_n (pc := 253) G (fun x55 => [(3, vI x55), (0, vR X 0)]) dX11_net_253 rfl (by decide) (fun _ => rfl) (fun x55 => ?_)
      refine tj_sub [1, 0] rfl (fx_X11_net_L254_ok G     tp_F x55 M54)
    refine tj_bipush (pc := 138) G dX11_net_138 rfl ?_
    exact tj_iret (pc := 140) G dX11_net_140
  refine tj_iconst (pc := 67) G dX11_net_67 ?_
  refine tj_aload_n (pc := 68) G 0 dX11_net_68 rfl rfl ?_
  refine tj_getI (pc := 69) G (k := 0) (j := 10) (j2 := 10) tk_X11 (by decide) lm_0 rfl (by decide) rfl fl_X11_136 dX11_net_69 ?_
  refine tj_isub (pc := 72) G dX11_net_72 ?_
  exact tj_iret (pc := 73) G dX11_net_73

def fx_X11_codes  (a1 : Int) (M : tp_M) : tp_O :=
(tp_ck (w32 (M 0 19)) 80 (tp_lm (tp_up M 10 (w32 (M 0 19)) a1) (fun M1 =>
(tp_lm (tp_up M1 0 19 ((M1 0 19) + 1)) (fun M2 =>
(some (0, M2)))))))
set_option maxRecDepth 100000 in
set_option maxHeartbeats 4000000 in
theorem ok_X11_codes (X : tp_X)  {a1 : Int}  {M : tp_M} {res : Int × tp_M} (h : fx_X11_codes  a1 M = some res) : tp_Ret X LM 34 0 yX11_codes (Cond.code yX11_codes cX11_codes 2 none) 1 [vR X 0, vI a1] M res := by
  refine tp_ofW (by decide +kernel) rfl rfl (by show _ ≤ 2; exact Nat.le_of_ble_eq_true rfl) h (fun Y G => ?_)
  show tp_J X Y LM 34 2 1 0 (fx_X11_codes  a1 M) M [(0, vR X 0), (1, vI a1)] [] 0
  unfold fx_X11_codes
  refine tj_aload_n (pc := 0) G 0 dX11_codes_0 rfl rfl ?_
  refine tj_getR (pc := 1) G (k := 0) (j := 17) (j2 := 17) tk_X11 (by decide) lm_0 rfl (by decide) rfl fl_X11_56 dX11_codes_1 ?_
  refine tj_aload_n (pc := 4) G 0 dX11_codes_4 rfl rfl ?_
  refine tj_getI (pc := 5) G (k := 0) (j := 19) (j2 := 19) tk_X11 (by decide) lm_0 rfl (by decide) rfl fl_X11_209 dX11_codes_5 ?_
  refine tj_iload_n (pc := 8) G 1 dX11_codes_8 rfl rfl ?_
  refine tj_iast (pc := 9) G (k := 10) (i2 := w32 (M 0 19)) (n2 := 80) (by decide) lm_10 rfl rfl dX11_codes_9 (fun M1 => ?_)
  refine tj_aload_n (pc := 10) G 0 dX11_codes_10 rfl rfl ?_
  refine tj_dup (pc := 11) G dX11_codes_11 rfl ?_
  refine tj_getI (pc := 12) G (k := 0) (j := 19) (j2 := 19) tk_X11 (by decide) lm_0 rfl (by decide) rfl fl_X11_209 dX11_codes_12 ?_
  refine tj_iconst (pc := 15) G dX11_codes_15 ?_
  refine tj_iadd (pc := 16) G dX11_codes_16 ?_
  refine tj_putI (pc := 17) G (k := 0) (j := 19) (j2 := 19) tk_X11 (by decide) lm_0 rfl (by decide) rfl fl_X11_209 rfl rfl dX11_codes_17 (fun M2 => ?_)
  exact tj_vret (pc := 20) G dX11_codes_20

def fx_X11_laysCode_L7 (k1 : Nat) (k1n : Nat) (c2 : Int) (rec : Int → tp_M → tp_O) (z3 : Int) (M4 : tp_M) : tp_O :=
(if w32 z3 < w32 c2 then
(tp_ck (w32 z3) k1n (tp_ck (w32 z3) 80 (tp_lm (tp_up M4 9 (w32 z3) (M4 k1 (w32 z3))) (fun M5 =>
(tp_lt (z3 + 1) (fun x6 =>
(rec x6 M5)))))))
else
(some (0, M4)))
def fx_X11_laysCode  (k1 : Nat) (k1n : Nat) (a2 : Int) (M : tp_M) : tp_O :=
(tp_lm (tp_up M 0 18 a2) (fun M1 =>
(tp_lt 0 (fun x2 =>
(tp_lp1 (fx_X11_laysCode_L7 k1 k1n a2 ) tp_F x2 M1)))))
set_option maxRecDepth 100000 in
set_option maxHeartbeats 4000000 in
theorem fx_X11_laysCode_L7_ok {X : tp_X} {Y : tp_Y} (G : tp_Ok X Y 34 cX11_laysCode 4 RX11 none)  {k1 : Nat} {k1n : Nat} {c2 : Int} (hk1 : tg_I LM 34 k1 k1n)   (n : Nat) : ∀ (z3 : Int) (M4 : tp_M), tp_J X Y LM 34 4 1 0 (tp_lp1 (fx_X11_laysCode_L7 k1 k1n c2 ) n z3 M4) M4 [(0, vR X 0), (1, vR X k1), (2, vI c2), (3, vI z3)] [] 7 := by
  refine tp_lp1_ok (P := fun o z3 M4 => tp_J X Y LM 34 4 1 0 (o) M4 [(0, vR X 0), (1, vR X k1), (2, vI c2), (3, vI z3)] [] 7) (fun z3 M4 => tj_none) (fun rec hrec z3 M4 => ?_) n
  unfold fx_X11_laysCode_L7
  refine tj_iload_n (pc := 7) G 3 dX11_laysCode_7 rfl rfl ?_
  refine tj_iload_n (pc := 8) G 2 dX11_laysCode_8 rfl rfl ?_
  refine tj_icmp_ge (pc := 9) G (tgt := 27) (a2 := w32 z3) (b2 := w32 c2) dX11_laysCode_9 (by decide) rfl rfl ?_ ?_
  · exact tj_vret (pc := 27) G dX11_laysCode_27
  refine tj_aload_n (pc := 12) G 0 dX11_laysCode_12 rfl rfl ?_
  refine tj_getR (pc := 13) G (k := 0) (j := 16) (j2 := 16) tk_X11 (by decide) lm_0 rfl (by decide) rfl fl_X11_53 dX11_laysCode_13 ?_
  refine tj_iload_n (pc := 16) G 3 dX11_laysCode_16 rfl rfl ?_
  refine tj_aload_n (pc := 17) G 1 dX11_laysCode_17 rfl rfl ?_
  refine tj_iload_n (pc := 18) G 3 dX11_laysCode_18 rfl rfl ?_
  refine tj_iald (pc := 19) G (k := k1) (i2 := w32 z3) (n2 := k1n) hk1.1 hk1.2 rfl rfl dX11_laysCode_19 ?_
  refine tj_iast (pc := 20) G (k := 9) (i2 := w32 z3) (n2 := 80) (by decide) lm_9 rfl rfl dX11_laysCode_20 (fun M5 => ?_)
  refine tj_iinc (pc := 21) G 3 (fun x6 => [(3, vI x6), (0, vR X 0), (1, vR X k1), (2, vI c2)]) dX11_laysCode_21 rfl (by decide) (fun _ => rfl) (fun x6 => ?_)
  refine tj_goto (pc := 24) G (tgt := 7) dX11_laysCode_24 (by decide) ?_
  exact tj_sub [1, 2, 3, 0] rfl (hrec x6 M5)
set_option maxRecDepth 100000 in
set_option maxHeartbeats 4000000 in
theorem ok_X11_laysCode (X : tp_X)  {k1 : Nat} {k1n : Nat} {a2 : Int} (hk1 : tg_I LM 34 k1 k1n) {M : tp_M} {res : Int × tp_M} (h : fx_X11_laysCode  k1 k1n a2 M = some res) : tp_Ret X LM 34 0 yX11_laysCode (Cond.code yX11_laysCode cX11_laysCode 4 none) 1 [vR X 0, vR X k1, vI a2] M res := by
  refine tp_ofW (by decide +kernel) rfl rfl (by show _ ≤ 4; exact Nat.le_of_ble_eq_true rfl) h (fun Y G => ?_)
  show tp_J X Y LM 34 4 1 0 (fx_X11_laysCode  k1 k1n a2 M) M [(0, vR X 0), (1, vR X k1), (2, vI a2)] [] 0
  unfold fx_X11_laysCode
  refine tj_aload_n (pc := 0) G 0 dX11_laysCode_0 rfl rfl ?_
  refine tj_iload_n (pc := 1) G 2 dX11_laysCode_1 rfl rfl ?_
  refine tj_putI (pc := 2) G (k := 0) (j := 18) (j2 := 18) tk_X11 (by decide) lm_0 rfl (by decide) rfl fl_X11_241 rfl rfl dX11_laysCode_2 (fun M1 => ?_)
  refine tj_iconst (pc := 5) G dX11_laysCode_5 ?_
  refine tj_istore_n (pc := 6) G (fun x2 => [(3, vI x2), (0, vR X 0), (1, vR X k1), (2, vI a2)]) dX11_laysCode_6 rfl (by decide) (fun _ => rfl) (fun x2 => ?_)
  refine tj_sub [1, 2, 3, 0] rfl (fx_X11_laysCode_L7_ok G  hk1   tp_F x2 M1)

def fx_X11_worked  (a1 : Int) (a2 : Int) (a3 : Int) (M : tp_M) : tp_O :=
(if w32 a1 = 0 then
(tp_jn1 (fun y3 M4 => 
(tp_bd (fx_X11_flag y3 M4) (fun r5 M6 =>
(some (r5, M6))))) (fun jk50 =>
(if w32 a2 < w32 a3 then
(jk50 1 M)
else
(jk50 0 M))))
else
(if w32 a1 = 1 then
(tp_jn1 (fun y9 M10 => 
(tp_bd (fx_X11_flag y9 M10) (fun r11 M12 =>
(some (r11, M12))))) (fun jk64 =>
(if w32 a2 ≤ w32 a3 then
(jk64 0 M)
else
(jk64 1 M))))
else
(if w32 a1 = 2 then
(tp_jn1 (fun y15 M16 => 
(tp_bd (fx_X11_flag y15 M16) (fun r17 M18 =>
(some (r17, M18))))) (fun jk78 =>
(if w32 a2 = w32 a3 then
(jk78 1 M)
else
(jk78 0 M))))
else
(if w32 a1 = 3 then
(some (a2 + a3, M))
else
(if w32 a1 = 4 then
(some (a2 - a3, M))
else
(if w32 a1 = 5 then
(some (a2 * a3, M))
else
(if w32 a3 = 0 then
(some (0, M))
else
(tp_nz (w32 a3) (some (x_div a2 a3, M))))))))))
set_option maxRecDepth 100000 in
set_option maxHeartbeats 4000000 in
theorem ok_X11_worked (X : tp_X)  {a1 : Int} {a2 : Int} {a3 : Int}  {M : tp_M} {res : Int × tp_M} (h : fx_X11_worked  a1 a2 a3 M = some res) : tp_Ret X LM 34 1 yX11_worked (Cond.code yX11_worked cX11_worked 3 (some .int)) 2 [vI a1, vI a2, vI a3] M res := by
  refine tp_ofW (by decide +kernel) rfl rfl (by show _ ≤ 3; exact Nat.le_of_ble_eq_true rfl) h (fun Y G => ?_)
  show tp_J X Y LM 34 3 2 1 (fx_X11_worked  a1 a2 a3 M) M [(0, vI a1), (1, vI a2), (2, vI a3)] [] 0
  unfold fx_X11_worked
  refine tj_iload_n (pc := 0) G 0 dX11_worked_0 rfl rfl ?_
  refine tj_case (fun hq1 => ?_) (fun hq2 => ?_)
  · refine tj_tabIn (pc := 1) G (v := 0) (tgt := 40) dX11_worked_1 hq1 (by decide) rfl (by decide) ?_
    refine tj_iload_n (pc := 40) G 1 dX11_worked_40 rfl rfl ?_
    refine tj_iload_n (pc := 41) G 2 dX11_worked_41 rfl rfl ?_
    refine tj_jn1 (fun y3 => []) (fun y3 => [vI y3]) 50 (fun y3 M4 => ?_) (fun jk50 hj50 => ?_)
    · refine tj_callSi (pc := 50) G [vI y3] mf_X11_flag ml_X11_151 (by decide) rfl rfl (Nat.le_of_ble_eq_true rfl) (fun _ h9 => ok_X11_flag X  h9) dX11_worked_50 (fun r5 M6 => ?_)
      exact tj_iret (pc := 53) G dX11_worked_53
    refine tj_icmp_ge (pc := 42) G (tgt := 49) (a2 := w32 a2) (b2 := w32 a3) dX11_worked_42 (by decide) rfl rfl ?_ ?_
    · refine tj_iconst (pc := 49) G dX11_worked_49 ?_
      exact tj_sub [] rfl (hj50 0 M)
    refine tj_iconst (pc := 45) G dX11_worked_45 ?_
    refine tj_goto (pc := 46) G (tgt := 50) dX11_worked_46 (by decide) ?_
    exact tj_sub [] rfl (hj50 1 M)
  refine tj_case (fun hq7 => ?_) (fun hq8 => ?_)
  · refine tj_tabIn (pc := 1) G (v := 1) (tgt := 54) dX11_worked_1 hq7 (by decide) rfl (by decide) ?_
    refine tj_iload_n (pc := 54) G 1 dX11_worked_54 rfl rfl ?_
    refine tj_iload_n (pc := 55) G 2 dX11_worked_55 rfl rfl ?_
    refine tj_jn1 (fun y9 => []) (fun y9 => [vI y9]) 64 (fun y9 M10 => ?_) (fun jk64 hj64 => ?_)
    · refine tj_callSi (pc := 64) G [vI y9] mf_X11_flag ml_X11_151 (by decide) rfl rfl (Nat.le_of_ble_eq_true rfl) (fun _ h9 => ok_X11_flag X  h9) dX11_worked_64 (fun r11 M12 => ?_)
      exact tj_iret (pc := 67) G dX11_worked_67
    refine tj_icmp_le (pc := 56) G (tgt := 63) (a2 := w32 a2) (b2 := w32 a3) dX11_worked_56 (by decide) rfl rfl ?_ ?_
    · refine tj_iconst (pc := 63) G dX11_worked_63 ?_
      exact tj_sub [] rfl (hj64 0 M)
    refine tj_iconst (pc := 59) G dX11_worked_59 ?_
    refine tj_goto (pc := 60) G (tgt := 64) dX11_worked_60 (by decide) ?_
    exact tj_sub [] rfl (hj64 1 M)
  refine tj_case (fun hq13 => ?_) (fun hq14 => ?_)
  · refine tj_tabIn (pc := 1) G (v := 2) (tgt := 68) dX11_worked_1 hq13 (by decide) rfl (by decide) ?_
    refine tj_iload_n (pc := 68) G 1 dX11_worked_68 rfl rfl ?_
    refine tj_iload_n (pc := 69) G 2 dX11_worked_69 rfl rfl ?_
    refine tj_jn1 (fun y15 => []) (fun y15 => [vI y15]) 78 (fun y15 M16 => ?_) (fun jk78 hj78 => ?_)
    · refine tj_callSi (pc := 78) G [vI y15] mf_X11_flag ml_X11_151 (by decide) rfl rfl (Nat.le_of_ble_eq_true rfl) (fun _ h9 => ok_X11_flag X  h9) dX11_worked_78 (fun r17 M18 => ?_)
      exact tj_iret (pc := 81) G dX11_worked_81
    refine tj_icmp_ne (pc := 70) G (tgt := 77) (a2 := w32 a2) (b2 := w32 a3) dX11_worked_70 (by decide) rfl rfl ?_ ?_
    · refine tj_iconst (pc := 77) G dX11_worked_77 ?_
      exact tj_sub [] rfl (hj78 0 M)
    refine tj_iconst (pc := 73) G dX11_worked_73 ?_
    refine tj_goto (pc := 74) G (tgt := 78) dX11_worked_74 (by decide) ?_
    exact tj_sub [] rfl (hj78 1 M)
  refine tj_case (fun hq19 => ?_) (fun hq20 => ?_)
  · refine tj_tabIn (pc := 1) G (v := 3) (tgt := 82) dX11_worked_1 hq19 (by decide) rfl (by decide) ?_
    refine tj_iload_n (pc := 82) G 1 dX11_worked_82 rfl rfl ?_
    refine tj_iload_n (pc := 83) G 2 dX11_worked_83 rfl rfl ?_
    refine tj_iadd (pc := 84) G dX11_worked_84 ?_
    exact tj_iret (pc := 85) G dX11_worked_85
  refine tj_case (fun hq21 => ?_) (fun hq22 => ?_)
  · refine tj_tabIn (pc := 1) G (v := 4) (tgt := 86) dX11_worked_1 hq21 (by decide) rfl (by decide) ?_
    refine tj_iload_n (pc := 86) G 1 dX11_worked_86 rfl rfl ?_
    refine tj_iload_n (pc := 87) G 2 dX11_worked_87 rfl rfl ?_
    refine tj_isub (pc := 88) G dX11_worked_88 ?_
    exact tj_iret (pc := 89) G dX11_worked_89
  refine tj_case (fun hq23 => ?_) (fun hq24 => ?_)
  · refine tj_tabIn (pc := 1) G (v := 5) (tgt := 90) dX11_worked_1 hq23 (by decide) rfl (by decide) ?_
    refine tj_iload_n (pc := 90) G 1 dX11_worked_90 rfl rfl ?_
    refine tj_iload_n (pc := 91) G 2 dX11_worked_91 rfl rfl ?_
    refine tj_imul (pc := 92) G dX11_worked_92 ?_
    exact tj_iret (pc := 93) G dX11_worked_93
  refine tj_tabOut (pc := 1) G (tgt := 94) dX11_worked_1 (by omega) (by decide) ?_
  refine tj_iload_n (pc := 94) G 2 dX11_worked_94 rfl rfl ?_
  refine tj_if_ne (pc := 95) G (tgt := 102) (a2 := w32 a3) dX11_worked_95 (by decide) rfl ?_ ?_
  · refine tj_iload_n (pc := 102) G 1 dX11_worked_102 rfl rfl ?_
    refine tj_iload_n (pc := 103) G 2 dX11_worked_103 rfl rfl ?_
    refine tj_idiv (pc := 104) G (b2 := w32 a3) dX11_worked_104 rfl ?_
    exact tj_iret (pc := 105) G dX11_worked_105
  refine tj_iconst (pc := 98) G dX11_worked_98 ?_
  refine tj_goto (pc := 99) G (tgt := 105) dX11_worked_99 (by decide) ?_
  exact tj_iret (pc := 105) G dX11_worked_105

def fx_X11_ruled_L4  (K125 : tp_M → tp_O) (rec : Int → Int → tp_M → tp_O) (z3 z4 : Int) (M5 : tp_M) : tp_O :=
(if w32 z4 < w32 (M5 0 18) then
(tp_ck (w32 z4) 80 (tp_lt (M5 9 (w32 z4)) (fun x6 =>
(tp_jn1 (fun y7 M8 => 
(tp_lt (z4 + 1) (fun x9 =>
(rec y7 x9 M8)))) (fun jk119 =>
(if w32 x6 = 3000 then
(tp_ck (w32 (z3 - 1)) 80 (tp_ck (w32 (z3 - 1)) 80 (tp_lm (tp_up M5 11 (w32 (z3 - 1)) (-(M5 11 (w32 (z3 - 1))))) (fun M18 =>
(jk119 z3 M18)))))
else
(if w32 x6 < 2000 then
(tp_jn1 (fun y10 M11 => 
(tp_ck (w32 z3) 80 (tp_lm (tp_up M11 11 (w32 z3) y10) (fun M12 =>
(tp_lt (z3 + 1) (fun x13 =>
(jk119 x13 M12))))))) (fun jk115 =>
(if w32 x6 < 1000 then
(jk115 x6 M5)
else
(tp_ck (w32 (x6 - 1000)) 7 (jk115 (M5 12 (w32 (x6 - 1000))) M5)))))
else
(tp_lt (z3 + (-1)) (fun x14 =>
(tp_ck (w32 (x14 - 1)) 80 (tp_ck (w32 x14) 80 (tp_bd (fx_X11_worked (x6 - 2000) (M5 11 (w32 (x14 - 1))) (M5 11 (w32 x14)) M5) (fun r15 M16 =>
(tp_ck (w32 (x14 - 1)) 80 (tp_lm (tp_up M16 11 (w32 (x14 - 1)) r15) (fun M17 =>
(jk119 x14 M17)))))))))))))))))
else
(K125 M5))
def fx_X11_ruled   (M : tp_M) : tp_O :=
(tp_lt 0 (fun x1 =>
(tp_lt 0 (fun x2 =>
(tp_lp2 (fx_X11_ruled_L4  (fun M19 =>
(if w32 (M19 0 18) = 0 then
(some (1, M19))
else
(some (M19 11 0, M19))))) tp_F x1 x2 M)))))
set_option maxRecDepth 100000 in
set_option maxHeartbeats 4000000 in
theorem fx_X11_ruled_L4_ok {X : tp_X} {Y : tp_Y} (G : tp_Ok X Y 34 cX11_ruled 4 RX11 (some .int))  {K125 : tp_M → tp_O}   (hK125 : ∀ (M9 : tp_M), tp_J X Y LM 34 4 3 1 (K125  M9) M9 [(0, vR X 0)] [] 125) (n : Nat) : ∀ (z3 z4 : Int) (M5 : tp_M), tp_J X Y LM 34 4 3 1 (tp_lp2 (fx_X11_ruled_L4   K125) n z3 z4 M5) M5 [(0, vR X 0), (1, vI z3), (2, vI z4)] [] 4 := by
  refine tp_lp2_ok (P := fun o z3 z4 M5 => tp_J X Y LM 34 4 3 1 (o) M5 [(0, vR X 0), (1, vI z3), (2, vI z4)] [] 4) (fun z3 z4 M5 => tj_none) (fun rec hrec z3 z4 M5 => ?_) n
  unfold fx_X11_ruled_L4
  refine tj_iload_n (pc := 4) G 2 dX11_ruled_4 rfl rfl ?_
  refine tj_aload_n (pc := 5) G 0 dX11_ruled_5 rfl rfl ?_
  refine tj_getI (pc := 6) G (k := 0) (j := 18) (j2 := 18) tk_X11 (by decide) lm_0 rfl (by decide) rfl fl_X11_241 dX11_ruled_6 ?_
  refine tj_icmp_ge (pc := 9) G (tgt := 125) (a2 := w32 z4) (b2 := w32 (M5 0 18)) dX11_ruled_9 (by decide) rfl rfl ?_ ?_
  · exact tj_sub [0] rfl (hK125  M5)
  refine tj_aload_n (pc := 12) G 0 dX11_ruled_12 rfl rfl ?_
  refine tj_getR (pc := 13) G (k := 0) (j := 16) (j2 := 16) tk_X11 (by decide) lm_0 rfl (by decide) rfl fl_X11_53 dX11_ruled_13 ?_
  refine tj_iload_n (pc := 16) G 2 dX11_ruled_16 rfl rfl ?_
  refine tj_iald (pc := 17) G (k := 9) (i2 := w32 z4) (n2 := 80) (by decide) lm_9 rfl rfl dX11_ruled_17 ?_
  refine tj_istore_n (pc := 18) G (fun x6 => [(3, vI x6), (0, vR X 0), (1, vI z3), (2, vI z4)]) dX11_ruled_18 rfl (by decide) (fun _ => rfl) (fun x6 => ?_)
  refine tj_iload_n (pc := 19) G 0 dX11_ruled_19 rfl rfl ?_
  refine tj_sipush (pc := 20) G dX11_ruled_20 rfl ?_
  refine tj_jn1 (fun y7 => [(0, vR X 0), (1, vI y7), (2, vI z4)]) (fun y7 => []) 119 (fun y7 M8 => ?_) (fun jk119 hj119 => ?_)
  · refine tj_iinc (pc := 119) G 2 (fun x9 => [(2, vI x9), (0, vR X 0), (1, vI y7)]) dX11_ruled_119 rfl (by decide) (fun _ => rfl) (fun x9 => ?_)
    refine tj_goto (pc := 122) G (tgt := 4) dX11_ruled_122 (by decide) ?_
    exact tj_sub [1, 2, 0] rfl (hrec y7 x9 M8)
  refine tj_icmp_ne (pc := 23) G (tgt := 46) (a2 := w32 x6) (b2 := 3000) dX11_ruled_23 (by decide) rfl rfl ?_ ?_
  · refine tj_iload_n (pc := 46) G 0 dX11_ruled_46 rfl rfl ?_
    refine tj_sipush (pc := 47) G dX11_ruled_47 rfl ?_
    refine tj_icmp_lt (pc := 50) G (tgt := 89) (a2 := w32 x6) (b2 := 2000) dX11_ruled_50 (by decide) rfl rfl ?_ ?_
    · refine tj_aload_n (pc := 89) G 1 dX11_ruled_89 rfl rfl ?_
      refine tj_getR (pc := 90) G (k := 0) (j := 20) (j2 := 20) tk_X11 (by decide) lm_0 rfl (by decide) rfl fl_X11_59 dX11_ruled_90 ?_
      refine tj_iload_n (pc := 93) G 2 dX11_ruled_93 rfl rfl ?_
      refine tj_iload_n (pc := 94) G 0 dX11_ruled_94 rfl rfl ?_
      refine tj_sipush (pc := 95) G dX11_ruled_95 rfl ?_
      refine tj_jn1 (fun y10 => [(0, vR X 0), (1, vI z3), (2, vI z4)]) (fun y10 => [vI y10, vI z3, vR X 11]) 115 (fun y10 M11 => ?_) (fun jk115 hj115 => ?_)
      · refine tj_iast (pc := 115) G (k := 11) (i2 := w32 z3) (n2 := 80) (by decide) lm_11 rfl rfl dX11_ruled_115 (fun M12 => ?_)
        refine tj_iinc (pc := 116) G 1 (fun x13 => [(1, vI x13), (0, vR X 0), (2, vI z4)]) dX11_ruled_116 rfl (by decide) (fun _ => rfl) (fun x13 => ?_)
        exact tj_sub [1, 0, 2] rfl (hj119 x13 M12)
      refine tj_icmp_lt (pc := 98) G (tgt := 114) (a2 := w32 x6) (b2 := 1000) dX11_ruled_98 (by decide) rfl rfl ?_ ?_
      · refine tj_iload_n (pc := 114) G 0 dX11_ruled_114 rfl rfl ?_
        exact tj_sub [1, 2, 3] rfl (hj115 x6 M5)
      refine tj_aload_n (pc := 101) G 1 dX11_ruled_101 rfl rfl ?_
      refine tj_getR (pc := 102) G (k := 0) (j := 21) (j2 := 21) tk_X11 (by decide) lm_0 rfl (by decide) rfl fl_X11_62 dX11_ruled_102 ?_
      refine tj_iload_n (pc := 105) G 0 dX11_ruled_105 rfl rfl ?_
      refine tj_sipush (pc := 106) G dX11_ruled_106 rfl ?_
      refine tj_isub (pc := 109) G dX11_ruled_109 ?_
      refine tj_iald (pc := 110) G (k := 12) (i2 := w32 (x6 - 1000)) (n2 := 7) (by decide) lm_12 rfl rfl dX11_ruled_110 ?_
      refine tj_goto (pc := 111) G (tgt := 115) dX11_ruled_111 (by decide) ?_
      exact tj_sub [1, 2, 3] rfl (hj115 (M5 12 (w32 (x6 - 1000))) M5)
    refine tj_iinc (pc := 53) G 2 (fun x14 => [(1, vI x14), (3, vI x6), (0, vR X 0), (2, vI z4)]) dX11_ruled_53 rfl (by decide) (fun _ => rfl) (fun x14 => ?_)
    refine tj_aload_n (pc := 56) G 2 dX11_ruled_56 rfl rfl ?_
    refine tj_getR (pc := 57) G (k := 0) (j := 20) (j2 := 20) tk_X11 (by decide) lm_0 rfl (by decide) rfl fl_X11_59 dX11_ruled_57 ?_
    refine tj_iload_n (pc := 60) G 0 dX11_ruled_60 rfl rfl ?_
    refine tj_iconst (pc := 61) G dX11_ruled_61 ?_
    refine tj_isub (pc := 62) G dX11_ruled_62 ?_
    refine tj_iload_n (pc := 63) G 1 dX11_ruled_63 rfl rfl ?_
    refine tj_sipush (pc := 64) G dX11_ruled_64 rfl ?_
    refine tj_isub (pc := 67) G dX11_ruled_67 ?_
    refine tj_aload_n (pc := 68) G 2 dX11_ruled_68 rfl rfl ?_
    refine tj_getR (pc := 69) G (k := 0) (j := 20) (j2 := 20) tk_X11 (by decide) lm_0 rfl (by decide) rfl fl_X11_59 dX11_ruled_69 ?_
    refine tj_iload_n (pc := 72) G 0 dX11_ruled_72 rfl rfl ?_
    refine tj_iconst (pc := 73) G dX11_ruled_73 ?_
    refine tj_isub (pc := 74) G dX11_ruled_74 ?_
    refine tj_iald (pc := 75) G (k := 11) (i2 := w32 (x14 - 1)) (n2 := 80) (by decide) lm_11 rfl rfl dX11_ruled_75 ?_
    refine tj_aload_n (pc := 76) G 2 dX11_ruled_76 rfl rfl ?_
    refine tj_getR (pc := 77) G (k := 0) (j := 20) (j2 := 20) tk_X11 (by decide) lm_0 rfl (by decide) rfl fl_X11_59 dX11_ruled_77 ?_
    refine tj_iload_n (pc := 80) G 0 dX11_ruled_80 rfl rfl ?_
    refine tj_iald (pc := 81) G (k := 11) (i2 := w32 x14) (n2 := 80) (by decide) lm_11 rfl rfl dX11_ruled_81 ?_
    refine tj_callSi (pc := 82) G [vI (x6 - 2000), vI (M5 11 (w32 (x14 - 1))), vI (M5 11 (w32 x14))] mf_X11_worked ml_X11_251 (by decide) rfl rfl (Nat.le_of_ble_eq_true rfl) (fun _ h9 => ok_X11_worked X  h9) dX11_ruled_82 (fun r15 M16 => ?_)
    refine tj_iast (pc := 85) G (k := 11) (i2 := w32 (x14 - 1)) (n2 := 80) (by decide) lm_11 rfl rfl dX11_ruled_85 (fun M17 => ?_)
    refine tj_goto (pc := 86) G (tgt := 119) dX11_ruled_86 (by decide) ?_
    exact tj_sub [2, 0, 3] rfl (hj119 x14 M17)
  refine tj_aload_n (pc := 26) G 1 dX11_ruled_26 rfl rfl ?_
  refine tj_getR (pc := 27) G (k := 0) (j := 20) (j2 := 20) tk_X11 (by decide) lm_0 rfl (by decide) rfl fl_X11_59 dX11_ruled_27 ?_
  refine tj_iload_n (pc := 30) G 2 dX11_ruled_30 rfl rfl ?_
  refine tj_iconst (pc := 31) G dX11_ruled_31 ?_
  refine tj_isub (pc := 32) G dX11_ruled_32 ?_
  refine tj_aload_n (pc := 33) G 1 dX11_ruled_33 rfl rfl ?_
  refine tj_getR (pc := 34) G (k := 0) (j := 20) (j2 := 20) tk_X11 (by decide) lm_0 rfl (by decide) rfl fl_X11_59 dX11_ruled_34 ?_
  refine tj_iload_n (pc := 37) G 2 dX11_ruled_37 rfl rfl ?_
  refine tj_iconst (pc := 38) G dX11_ruled_38 ?_
  refine tj_isub (pc := 39) G dX11_ruled_39 ?_
  refine tj_iald (pc := 40) G (k := 11) (i2 := w32 (z3 - 1)) (n2 := 80) (by decide) lm_11 rfl rfl dX11_ruled_40 ?_
  refine tj_ineg (pc := 41) G dX11_ruled_41 ?_
  refine tj_iast (pc := 42) G (k := 11) (i2 := w32 (z3 - 1)) (n2 := 80) (by decide) lm_11 rfl rfl dX11_ruled_42 (fun M18 => ?_)
  refine tj_goto (pc := 43) G (tgt := 119) dX11_ruled_43 (by decide) ?_
  exact tj_sub [1, 2, 3] rfl (hj119 z3 M18)
set_option maxRecDepth 100000 in
set_option maxHeartbeats 4000000 in
theorem ok_X11_ruled (X : tp_X)    {M : tp_M} {res : Int × tp_M} (h : fx_X11_ruled   M = some res) : tp_Ret X LM 34 1 yX11_ruled (Cond.code yX11_ruled cX11_ruled 4 (some .int)) 3 [vR X 0] M res := by
  refine tp_ofW (by decide +kernel) rfl rfl (by show _ ≤ 4; exact Nat.le_of_ble_eq_true rfl) h (fun Y G => ?_)
  show tp_J X Y LM 34 4 3 1 (fx_X11_ruled   M) M [(0, vR X 0)] [] 0
  unfold fx_X11_ruled
  refine tj_iconst (pc := 0) G dX11_ruled_0 ?_
  refine tj_istore_n (pc := 1) G (fun x1 => [(1, vI x1), (0, vR X 0)]) dX11_ruled_1 rfl (by decide) (fun _ => rfl) (fun x1 => ?_)
  refine tj_iconst (pc := 2) G dX11_ruled_2 ?_
  refine tj_istore_n (pc := 3) G (fun x2 => [(2, vI x2), (1, vI x1), (0, vR X 0)]) dX11_ruled_3 rfl (by decide) (fun _ => rfl) (fun x2 => ?_)
  refine tj_sub [2, 1, 0] rfl (fx_X11_ruled_L4_ok G    (fun M19 => ?_) tp_F x1 x2 M)
  refine tj_aload_n (pc := 125) G 0 dX11_ruled_125 rfl rfl ?_
  refine tj_getI (pc := 126) G (k := 0) (j := 18) (j2 := 18) tk_X11 (by decide) lm_0 rfl (by decide) rfl fl_X11_241 dX11_ruled_126 ?_
  refine tj_if_ne (pc := 129) G (tgt := 136) (a2 := w32 (M19 0 18)) dX11_ruled_129 (by decide) rfl ?_ ?_
  · refine tj_aload_n (pc := 136) G 0 dX11_ruled_136 rfl rfl ?_
    refine tj_getR (pc := 137) G (k := 0) (j := 20) (j2 := 20) tk_X11 (by decide) lm_0 rfl (by decide) rfl fl_X11_59 dX11_ruled_137 ?_
    refine tj_iconst (pc := 140) G dX11_ruled_140 ?_
    refine tj_iald1 (pc := 141) G (k := 11) (i2 := 0) (n2 := 0) (by decide) lm_11 rfl (by decide) dX11_ruled_141 ?_
    exact tj_iret (pc := 142) G dX11_ruled_142
  refine tj_iconst (pc := 132) G dX11_ruled_132 ?_
  refine tj_goto (pc := 133) G (tgt := 142) dX11_ruled_133 (by decide) ?_
  exact tj_iret (pc := 142) G dX11_ruled_142

def fx_X11_turn  (k1 : Nat) (k1n : Nat) (a2 : Int) (M : tp_M) : tp_O :=
(tp_ck (w32 a2) 8 (tp_lm (tp_up M 12 0 (M 2 (w32 a2))) (fun M1 =>
(tp_ck (w32 a2) k1n (tp_lm (tp_up M1 12 1 (M1 k1 (w32 a2))) (fun M2 =>
(tp_ck (w32 a2) k1n (tp_bd (fx_X11_goalOf a2 (M2 k1 (w32 a2)) M2) (fun r3 M4 =>
(tp_lm (tp_up M4 12 2 r3) (fun M5 =>
(tp_ck (w32 (8 + a2)) k1n (tp_lm (tp_up M5 12 3 (M5 k1 (w32 (8 + a2)))) (fun M6 =>
(tp_lm (tp_up M6 12 4 a2) (fun M7 =>
(tp_ck 8 k1n (tp_nz 7 (tp_lm (tp_up M7 12 5 (x_rem (M7 k1 8) 7)) (fun M8 =>
(tp_ck 16 k1n (tp_nz 7 (tp_lm (tp_up M8 12 6 (x_rem (M8 k1 16) 7)) (fun M9 =>
(tp_bd (fx_X11_ruled  M9) (fun r10 M11 =>
(some (max 0 (w32 (min 9 (w32 r10))), M11))))))))))))))))))))))))))))
set_option maxRecDepth 100000 in
set_option maxHeartbeats 4000000 in
theorem ok_X11_turn (X : tp_X)  {k1 : Nat} {k1n : Nat} {a2 : Int} (hk1 : tg_I LM 34 k1 k1n) {M : tp_M} {res : Int × tp_M} (h : fx_X11_turn  k1 k1n a2 M = some res) : tp_Ret X LM 34 1 yX11_turn (Cond.code yX11_turn cX11_turn 3 (some .int)) 4 [vR X 0, vR X k1, vI a2] M res := by
  refine tp_ofW (by decide +kernel) rfl rfl (by show _ ≤ 3; exact Nat.le_of_ble_eq_true rfl) h (fun Y G => ?_)
  show tp_J X Y LM 34 3 4 1 (fx_X11_turn  k1 k1n a2 M) M [(0, vR X 0), (1, vR X k1), (2, vI a2)] [] 0
  unfold fx_X11_turn
  refine tj_aload_n (pc := 0) G 0 dX11_turn_0 rfl rfl ?_
  refine tj_getR (pc := 1) G (k := 0) (j := 21) (j2 := 21) tk_X11 (by decide) lm_0 rfl (by decide) rfl fl_X11_62 dX11_turn_1 ?_
  refine tj_iconst (pc := 4) G dX11_turn_4 ?_
  refine tj_aload_n (pc := 5) G 0 dX11_turn_5 rfl rfl ?_
  refine tj_getR (pc := 6) G (k := 0) (j := 4) (j2 := 4) tk_X11 (by decide) lm_0 rfl (by decide) rfl fl_X11_31 dX11_turn_6 ?_
  refine tj_iload_n (pc := 9) G 2 dX11_turn_9 rfl rfl ?_
  refine tj_iald (pc := 10) G (k := 2) (i2 := w32 a2) (n2 := 8) (by decide) lm_2 rfl rfl dX11_turn_10 ?_
  refine tj_iast1 (pc := 11) G (k := 12) (i2 := 0) (n2 := 0) (by decide) lm_12 rfl (by decide) dX11_turn_11 (fun M1 => ?_)
  refine tj_aload_n (pc := 12) G 0 dX11_turn_12 rfl rfl ?_
  refine tj_getR (pc := 13) G (k := 0) (j := 21) (j2 := 21) tk_X11 (by decide) lm_0 rfl (by decide) rfl fl_X11_62 dX11_turn_13 ?_
  refine tj_iconst (pc := 16) G dX11_turn_16 ?_
  refine tj_aload_n (pc := 17) G 1 dX11_turn_17 rfl rfl ?_
  refine tj_iload_n (pc := 18) G 2 dX11_turn_18 rfl rfl ?_
  refine tj_iald (pc := 19) G (k := k1) (i2 := w32 a2) (n2 := k1n) hk1.1 hk1.2 rfl rfl dX11_turn_19 ?_
  refine tj_iast1 (pc := 20) G (k := 12) (i2 := 1) (n2 := 0) (by decide) lm_12 rfl (by decide) dX11_turn_20 (fun M2 => ?_)
  refine tj_aload_n (pc := 21) G 0 dX11_turn_21 rfl rfl ?_
  refine tj_getR (pc := 22) G (k := 0) (j := 21) (j2 := 21) tk_X11 (by decide) lm_0 rfl (by decide) rfl fl_X11_62 dX11_turn_22 ?_
  refine tj_iconst (pc := 25) G dX11_turn_25 ?_
  refine tj_aload_n (pc := 26) G 0 dX11_turn_26 rfl rfl ?_
  refine tj_iload_n (pc := 27) G 2 dX11_turn_27 rfl rfl ?_
  refine tj_aload_n (pc := 28) G 1 dX11_turn_28 rfl rfl ?_
  refine tj_iload_n (pc := 29) G 2 dX11_turn_29 rfl rfl ?_
  refine tj_iald (pc := 30) G (k := k1) (i2 := w32 a2) (n2 := k1n) hk1.1 hk1.2 rfl rfl dX11_turn_30 ?_
  refine tj_callVi (pc := 31) G [vI a2, vI (M2 k1 (w32 a2))] mf_X11_goalOf (k := 0) (by decide) lm_0 rfl rfl ml_X11_255 (by decide) rfl rfl (Nat.le_of_ble_eq_true rfl) (fun _ h9 => ok_X11_goalOf X  h9) dX11_turn_31 (fun r3 M4 => ?_)
  refine tj_iast1 (pc := 34) G (k := 12) (i2 := 2) (n2 := 0) (by decide) lm_12 rfl (by decide) dX11_turn_34 (fun M5 => ?_)
  refine tj_aload_n (pc := 35) G 0 dX11_turn_35 rfl rfl ?_
  refine tj_getR (pc := 36) G (k := 0) (j := 21) (j2 := 21) tk_X11 (by decide) lm_0 rfl (by decide) rfl fl_X11_62 dX11_turn_36 ?_
  refine tj_iconst (pc := 39) G dX11_turn_39 ?_
  refine tj_aload_n (pc := 40) G 1 dX11_turn_40 rfl rfl ?_
  refine tj_bipush (pc := 41) G dX11_turn_41 rfl ?_
  refine tj_iload_n (pc := 43) G 2 dX11_turn_43 rfl rfl ?_
  refine tj_iadd (pc := 44) G dX11_turn_44 ?_
  refine tj_iald (pc := 45) G (k := k1) (i2 := w32 (8 + a2)) (n2 := k1n) hk1.1 hk1.2 rfl rfl dX11_turn_45 ?_
  refine tj_iast1 (pc := 46) G (k := 12) (i2 := 3) (n2 := 0) (by decide) lm_12 rfl (by decide) dX11_turn_46 (fun M6 => ?_)
  refine tj_aload_n (pc := 47) G 0 dX11_turn_47 rfl rfl ?_
  refine tj_getR (pc := 48) G (k := 0) (j := 21) (j2 := 21) tk_X11 (by decide) lm_0 rfl (by decide) rfl fl_X11_62 dX11_turn_48 ?_
  refine tj_iconst (pc := 51) G dX11_turn_51 ?_
  refine tj_iload_n (pc := 52) G 2 dX11_turn_52 rfl rfl ?_
  refine tj_iast1 (pc := 53) G (k := 12) (i2 := 4) (n2 := 0) (by decide) lm_12 rfl (by decide) dX11_turn_53 (fun M7 => ?_)
  refine tj_aload_n (pc := 54) G 0 dX11_turn_54 rfl rfl ?_
  refine tj_getR (pc := 55) G (k := 0) (j := 21) (j2 := 21) tk_X11 (by decide) lm_0 rfl (by decide) rfl fl_X11_62 dX11_turn_55 ?_
  refine tj_iconst (pc := 58) G dX11_turn_58 ?_
  refine tj_aload_n (pc := 59) G 1 dX11_turn_59 rfl rfl ?_
  refine tj_bipush (pc := 60) G dX11_turn_60 rfl ?_
  refine tj_iald (pc := 62) G (k := k1) (i2 := 8) (n2 := k1n) hk1.1 hk1.2 rfl rfl dX11_turn_62 ?_
  refine tj_bipush (pc := 63) G dX11_turn_63 rfl ?_
  refine tj_irem (pc := 65) G (b2 := 7) dX11_turn_65 rfl ?_
  refine tj_iast1 (pc := 66) G (k := 12) (i2 := 5) (n2 := 0) (by decide) lm_12 rfl (by decide) dX11_turn_66 (fun M8 => ?_)
  refine tj_aload_n (pc := 67) G 0 dX11_turn_67 rfl rfl ?_
  refine tj_getR (pc := 68) G (k := 0) (j := 21) (j2 := 21) tk_X11 (by decide) lm_0 rfl (by decide) rfl fl_X11_62 dX11_turn_68 ?_
  refine tj_bipush (pc := 71) G dX11_turn_71 rfl ?_
  refine tj_aload_n (pc := 73) G 1 dX11_turn_73 rfl rfl ?_
  refine tj_bipush (pc := 74) G dX11_turn_74 rfl ?_
  refine tj_iald (pc := 76) G (k := k1) (i2 := 16) (n2 := k1n) hk1.1 hk1.2 rfl rfl dX11_turn_76 ?_
  refine tj_bipush (pc := 77) G dX11_turn_77 rfl ?_
  refine tj_irem (pc := 79) G (b2 := 7) dX11_turn_79 rfl ?_
  refine tj_iast1 (pc := 80) G (k := 12) (i2 := 6) (n2 := 0) (by decide) lm_12 rfl (by decide) dX11_turn_80 (fun M9 => ?_)
  refine tj_iconst (pc := 81) G dX11_turn_81 ?_
  refine tj_bipush (pc := 82) G dX11_turn_82 rfl ?_
  refine tj_aload_n (pc := 84) G 0 dX11_turn_84 rfl rfl ?_
  refine tj_callVi (pc := 85) G [] mf_X11_ruled (k := 0) (by decide) lm_0 rfl rfl ml_X11_258 (by decide) rfl rfl (Nat.le_of_ble_eq_true rfl) (fun _ h9 => ok_X11_ruled X  h9) dX11_turn_85 (fun r10 M11 => ?_)
  refine tj_min (pc := 88) G (a2 := 9) (b2 := w32 r10) rfl rfl ml_X11_142 mw_min (by decide) (Nat.le_of_ble_eq_true rfl) dX11_turn_88 ?_
  refine tj_max (pc := 91) G (a2 := 0) (b2 := w32 (min 9 (w32 r10))) rfl rfl ml_X11_261 mw_max (by decide) (Nat.le_of_ble_eq_true rfl) dX11_turn_91 ?_
  exact tj_iret (pc := 94) G dX11_turn_94

def fx_X11_laysFar_L2 (c1 : Int) (K32 : tp_M → tp_O) (rec : Int → tp_M → tp_O) (z2 : Int) (M3 : tp_M) : tp_O :=
(if w32 z2 < 8 then
(tp_jn1 (fun y4 M5 => 
(tp_ck (w32 z2) 8 (tp_lm (tp_up M5 13 (w32 z2) y4) (fun M6 =>
(tp_lt (z2 + 1) (fun x7 =>
(rec x7 M6))))))) (fun jk25 =>
(if w32 z2 = w32 c1 then
(jk25 0 M3)
else
(jk25 1000000 M3))))
else
(K32 M3))
def fx_X11_laysFar_L53 (c2 : Int) (c3 : Int) (K99 : tp_M → tp_O) (rec : Int → tp_M → tp_O) (z16 : Int) (M17 : tp_M) : tp_O :=
(tp_ck (w32 c3) 8 (if w32 z16 < w32 (M17 2 (w32 c3)) then
(tp_ck (w32 c3) 8 (tp_bd (fx_X11_goalOf c3 z16 M17) (fun r18 M19 =>
(tp_ck (w32 r18) 8 (tp_ck (w32 c3) 8 (tp_lm (tp_up M19 13 (w32 c3) (min (w32 (M17 13 (w32 c3))) (w32 ((M19 13 (w32 r18)) + 1)))) (fun M20 =>
(tp_lt (z16 + 1) (fun x21 =>
(rec x21 M20))))))))))
else
(K99 M17)))
def fx_X11_laysFar_L42 (c2 : Int) (K105 : tp_M → tp_O) (rec : Int → tp_M → tp_O) (z13 : Int) (M14 : tp_M) : tp_O :=
(if w32 z13 < w32 (M14 0 3) then
(tp_lt 0 (fun x15 =>
(tp_lp1 (fx_X11_laysFar_L53 c2 z13 (fun M22 =>
(tp_lt (z13 + 1) (fun x23 =>
(rec x23 M22))))) tp_F x15 M14)))
else
(K105 M14))
def fx_X11_laysFar_L34  (rec : Int → tp_M → tp_O) (z10 : Int) (M11 : tp_M) : tp_O :=
(if w32 z10 < 8 then
(tp_lt 1 (fun x12 =>
(tp_lp1 (fx_X11_laysFar_L42 z10 (fun M24 =>
(tp_lt (z10 + 1) (fun x25 =>
(rec x25 M24))))) tp_F x12 M11)))
else
(some (0, M11)))
def fx_X11_laysFar  (a1 : Int) (M : tp_M) : tp_O :=
(tp_lt 0 (fun x1 =>
(tp_lp1 (fx_X11_laysFar_L2 a1 (fun M8 =>
(tp_lt 0 (fun x9 =>
(tp_lp1 (fx_X11_laysFar_L34  ) tp_F x9 M8))))) tp_F x1 M)))
set_option maxRecDepth 100000 in
set_option maxHeartbeats 4000000 in
theorem fx_X11_laysFar_L2_ok {X : tp_X} {Y : tp_Y} (G : tp_Ok X Y 34 cX11_laysFar 5 RX11 none)  {c1 : Int} {K32 : tp_M → tp_O}   (hK32 : ∀ (M9 : tp_M), tp_J X Y LM 34 5 2 0 (K32  M9) M9 [(0, vR X 0)] [] 32) (n : Nat) : ∀ (z2 : Int) (M3 : tp_M), tp_J X Y LM 34 5 2 0 (tp_lp1 (fx_X11_laysFar_L2  c1 K32) n z2 M3) M3 [(0, vR X 0), (1, vI c1), (2, vI z2)] [] 2 := by
  refine tp_lp1_ok (P := fun o z2 M3 => tp_J X Y LM 34 5 2 0 (o) M3 [(0, vR X 0), (1, vI c1), (2, vI z2)] [] 2) (fun z2 M3 => tj_none) (fun rec hrec z2 M3 => ?_) n
  unfold fx_X11_laysFar_L2
  refine tj_iload_n (pc := 2) G 2 dX11_laysFar_2 rfl rfl ?_
  refine tj_bipush (pc := 3) G dX11_laysFar_3 rfl ?_
  refine tj_icmp_ge (pc := 5) G (tgt := 32) (a2 := w32 z2) (b2 := 8) dX11_laysFar_5 (by decide) rfl rfl ?_ ?_
  · exact tj_sub [0] rfl (hK32  M3)
  refine tj_aload_n (pc := 8) G 0 dX11_laysFar_8 rfl rfl ?_
  refine tj_getR (pc := 9) G (k := 0) (j := 22) (j2 := 22) tk_X11 (by decide) lm_0 rfl (by decide) rfl fl_X11_65 dX11_laysFar_9 ?_
  refine tj_iload_n (pc := 12) G 2 dX11_laysFar_12 rfl rfl ?_
  refine tj_iload_n (pc := 13) G 2 dX11_laysFar_13 rfl rfl ?_
  refine tj_iload_n (pc := 14) G 1 dX11_laysFar_14 rfl rfl ?_
  refine tj_jn1 (fun y4 => [(0, vR X 0), (1, vI c1), (2, vI z2)]) (fun y4 => [vI y4, vI z2, vR X 13]) 25 (fun y4 M5 => ?_) (fun jk25 hj25 => ?_)
  · refine tj_iast (pc := 25) G (k := 13) (i2 := w32 z2) (n2 := 8) (by decide) lm_13 rfl rfl dX11_laysFar_25 (fun M6 => ?_)
    refine tj_iinc (pc := 26) G 2 (fun x7 => [(2, vI x7), (0, vR X 0), (1, vI c1)]) dX11_laysFar_26 rfl (by decide) (fun _ => rfl) (fun x7 => ?_)
    refine tj_goto (pc := 29) G (tgt := 2) dX11_laysFar_29 (by decide) ?_
    exact tj_sub [1, 2, 0] rfl (hrec x7 M6)
  refine tj_icmp_ne (pc := 15) G (tgt := 22) (a2 := w32 z2) (b2 := w32 c1) dX11_laysFar_15 (by decide) rfl rfl ?_ ?_
  · refine tj_ldcw (pc := 22) G (v := 1000000) dX11_laysFar_22 ct_X11_264 rfl ?_
    exact tj_sub [0, 1, 2] rfl (hj25 1000000 M3)
  refine tj_iconst (pc := 18) G dX11_laysFar_18 ?_
  refine tj_goto (pc := 19) G (tgt := 25) dX11_laysFar_19 (by decide) ?_
  exact tj_sub [0, 1, 2] rfl (hj25 0 M3)
set_option maxRecDepth 100000 in
set_option maxHeartbeats 4000000 in
theorem fx_X11_laysFar_L53_ok {X : tp_X} {Y : tp_Y} (G : tp_Ok X Y 34 cX11_laysFar 5 RX11 none)  {c2 : Int} {c3 : Int} {K99 : tp_M → tp_O}   (hK99 : ∀ (M9 : tp_M), tp_J X Y LM 34 5 2 0 (K99  M9) M9 [(0, vR X 0), (2, vI c2), (3, vI c3)] [] 99) (n : Nat) : ∀ (z16 : Int) (M17 : tp_M), tp_J X Y LM 34 5 2 0 (tp_lp1 (fx_X11_laysFar_L53  c2 c3 K99) n z16 M17) M17 [(0, vR X 0), (2, vI c2), (3, vI c3), (4, vI z16)] [] 53 := by
  refine tp_lp1_ok (P := fun o z16 M17 => tp_J X Y LM 34 5 2 0 (o) M17 [(0, vR X 0), (2, vI c2), (3, vI c3), (4, vI z16)] [] 53) (fun z16 M17 => tj_none) (fun rec hrec z16 M17 => ?_) n
  unfold fx_X11_laysFar_L53
  refine tj_iload (pc := 53) G 3 dX11_laysFar_53 rfl ?_
  refine tj_aload_n (pc := 55) G 0 dX11_laysFar_55 rfl rfl ?_
  refine tj_getR (pc := 56) G (k := 0) (j := 4) (j2 := 4) tk_X11 (by decide) lm_0 rfl (by decide) rfl fl_X11_31 dX11_laysFar_56 ?_
  refine tj_iload_n (pc := 59) G 2 dX11_laysFar_59 rfl rfl ?_
  refine tj_iald (pc := 60) G (k := 2) (i2 := w32 c3) (n2 := 8) (by decide) lm_2 rfl rfl dX11_laysFar_60 ?_
  refine tj_icmp_ge (pc := 61) G (tgt := 99) (a2 := w32 z16) (b2 := w32 (M17 2 (w32 c3))) dX11_laysFar_61 (by decide) rfl rfl ?_ ?_
  · exact tj_sub [0, 1, 2] rfl (hK99  M17)
  refine tj_aload_n (pc := 64) G 0 dX11_laysFar_64 rfl rfl ?_
  refine tj_getR (pc := 65) G (k := 0) (j := 22) (j2 := 22) tk_X11 (by decide) lm_0 rfl (by decide) rfl fl_X11_65 dX11_laysFar_65 ?_
  refine tj_iload_n (pc := 68) G 2 dX11_laysFar_68 rfl rfl ?_
  refine tj_aload_n (pc := 69) G 0 dX11_laysFar_69 rfl rfl ?_
  refine tj_getR (pc := 70) G (k := 0) (j := 22) (j2 := 22) tk_X11 (by decide) lm_0 rfl (by decide) rfl fl_X11_65 dX11_laysFar_70 ?_
  refine tj_iload_n (pc := 73) G 2 dX11_laysFar_73 rfl rfl ?_
  refine tj_iald (pc := 74) G (k := 13) (i2 := w32 c3) (n2 := 8) (by decide) lm_13 rfl rfl dX11_laysFar_74 ?_
  refine tj_aload_n (pc := 75) G 0 dX11_laysFar_75 rfl rfl ?_
  refine tj_getR (pc := 76) G (k := 0) (j := 22) (j2 := 22) tk_X11 (by decide) lm_0 rfl (by decide) rfl fl_X11_65 dX11_laysFar_76 ?_
  refine tj_aload_n (pc := 79) G 0 dX11_laysFar_79 rfl rfl ?_
  refine tj_iload_n (pc := 80) G 2 dX11_laysFar_80 rfl rfl ?_
  refine tj_iload (pc := 81) G 3 dX11_laysFar_81 rfl ?_
  refine tj_callVi (pc := 83) G [vI c3, vI z16] mf_X11_goalOf (k := 0) (by decide) lm_0 rfl rfl ml_X11_255 (by decide) rfl rfl (Nat.le_of_ble_eq_true rfl) (fun _ h9 => ok_X11_goalOf X  h9) dX11_laysFar_83 (fun r18 M19 => ?_)
  refine tj_iald (pc := 86) G (k := 13) (i2 := w32 r18) (n2 := 8) (by decide) lm_13 rfl rfl dX11_laysFar_86 ?_
  refine tj_iconst (pc := 87) G dX11_laysFar_87 ?_
  refine tj_iadd (pc := 88) G dX11_laysFar_88 ?_
  refine tj_min (pc := 89) G (a2 := w32 (M17 13 (w32 c3))) (b2 := w32 ((M19 13 (w32 r18)) + 1)) rfl rfl ml_X11_142 mw_min (by decide) (Nat.le_of_ble_eq_true rfl) dX11_laysFar_89 ?_
  refine tj_iast (pc := 92) G (k := 13) (i2 := w32 c3) (n2 := 8) (by decide) lm_13 rfl rfl dX11_laysFar_92 (fun M20 => ?_)
  refine tj_iinc (pc := 93) G 3 (fun x21 => [(4, vI x21), (0, vR X 0), (2, vI c2), (3, vI c3)]) dX11_laysFar_93 rfl (by decide) (fun _ => rfl) (fun x21 => ?_)
  refine tj_goto (pc := 96) G (tgt := 53) dX11_laysFar_96 (by decide) ?_
  exact tj_sub [1, 2, 3, 0] rfl (hrec x21 M20)
set_option maxRecDepth 100000 in
set_option maxHeartbeats 4000000 in
theorem fx_X11_laysFar_L42_ok {X : tp_X} {Y : tp_Y} (G : tp_Ok X Y 34 cX11_laysFar 5 RX11 none)  {c2 : Int} {K105 : tp_M → tp_O}   (hK105 : ∀ (M9 : tp_M), tp_J X Y LM 34 5 2 0 (K105  M9) M9 [(0, vR X 0), (2, vI c2)] [] 105) (n : Nat) : ∀ (z13 : Int) (M14 : tp_M), tp_J X Y LM 34 5 2 0 (tp_lp1 (fx_X11_laysFar_L42  c2 K105) n z13 M14) M14 [(0, vR X 0), (2, vI c2), (3, vI z13)] [] 42 := by
  refine tp_lp1_ok (P := fun o z13 M14 => tp_J X Y LM 34 5 2 0 (o) M14 [(0, vR X 0), (2, vI c2), (3, vI z13)] [] 42) (fun z13 M14 => tj_none) (fun rec hrec z13 M14 => ?_) n
  unfold fx_X11_laysFar_L42
  refine tj_iload_n (pc := 42) G 2 dX11_laysFar_42 rfl rfl ?_
  refine tj_aload_n (pc := 43) G 0 dX11_laysFar_43 rfl rfl ?_
  refine tj_getI (pc := 44) G (k := 0) (j := 3) (j2 := 3) tk_X11 (by decide) lm_0 rfl (by decide) rfl fl_X11_28 dX11_laysFar_44 ?_
  refine tj_icmp_ge (pc := 47) G (tgt := 105) (a2 := w32 z13) (b2 := w32 (M14 0 3)) dX11_laysFar_47 (by decide) rfl rfl ?_ ?_
  · exact tj_sub [0, 1] rfl (hK105  M14)
  refine tj_iconst (pc := 50) G dX11_laysFar_50 ?_
  refine tj_istore (pc := 51) G (fun x15 => [(4, vI x15), (0, vR X 0), (2, vI c2), (3, vI z13)]) dX11_laysFar_51 (by decide) (fun _ => rfl) (fun x15 => ?_)
  refine tj_sub [1, 2, 3, 0] rfl (fx_X11_laysFar_L53_ok G    (fun M22 => ?_) tp_F x15 M14)
  refine tj_iinc (pc := 99) G 2 (fun x23 => [(3, vI x23), (0, vR X 0), (2, vI c2)]) dX11_laysFar_99 rfl (by decide) (fun _ => rfl) (fun x23 => ?_)
  refine tj_goto (pc := 102) G (tgt := 42) dX11_laysFar_102 (by decide) ?_
  exact tj_sub [1, 2, 0] rfl (hrec x23 M22)
set_option maxRecDepth 100000 in
set_option maxHeartbeats 4000000 in
theorem fx_X11_laysFar_L34_ok {X : tp_X} {Y : tp_Y} (G : tp_Ok X Y 34 cX11_laysFar 5 RX11 none)      (n : Nat) : ∀ (z10 : Int) (M11 : tp_M), tp_J X Y LM 34 5 2 0 (tp_lp1 (fx_X11_laysFar_L34   ) n z10 M11) M11 [(0, vR X 0), (2, vI z10)] [] 34 := by
  refine tp_lp1_ok (P := fun o z10 M11 => tp_J X Y LM 34 5 2 0 (o) M11 [(0, vR X 0), (2, vI z10)] [] 34) (fun z10 M11 => tj_none) (fun rec hrec z10 M11 => ?_) n
  unfold fx_X11_laysFar_L34
  refine tj_iload_n (pc := 34) G 1 dX11_laysFar_34 rfl rfl ?_
  refine tj_bipush (pc := 35) G dX11_laysFar_35 rfl ?_
  refine tj_icmp_ge (pc := 37) G (tgt := 111) (a2 := w32 z10) (b2 := 8) dX11_laysFar_37 (by decide) rfl rfl ?_ ?_
  · exact tj_vret (pc := 111) G dX11_laysFar_111
  refine tj_iconst (pc := 40) G dX11_laysFar_40 ?_
  refine tj_istore_n (pc := 41) G (fun x12 => [(3, vI x12), (0, vR X 0), (2, vI z10)]) dX11_laysFar_41 rfl (by decide) (fun _ => rfl) (fun x12 => ?_)
  refine tj_sub [1, 2, 0] rfl (fx_X11_laysFar_L42_ok G    (fun M24 => ?_) tp_F x12 M11)
  refine tj_iinc (pc := 105) G 1 (fun x25 => [(2, vI x25), (0, vR X 0)]) dX11_laysFar_105 rfl (by decide) (fun _ => rfl) (fun x25 => ?_)
  refine tj_goto (pc := 108) G (tgt := 34) dX11_laysFar_108 (by decide) ?_
  exact tj_sub [1, 0] rfl (hrec x25 M24)
set_option maxRecDepth 100000 in
set_option maxHeartbeats 4000000 in
theorem ok_X11_laysFar (X : tp_X)  {a1 : Int}  {M : tp_M} {res : Int × tp_M} (h : fx_X11_laysFar  a1 M = some res) : tp_Ret X LM 34 0 yX11_laysFar (Cond.code yX11_laysFar cX11_laysFar 5 none) 2 [vR X 0, vI a1] M res := by
  refine tp_ofW (by decide +kernel) rfl rfl (by show _ ≤ 5; exact Nat.le_of_ble_eq_true rfl) h (fun Y G => ?_)
  show tp_J X Y LM 34 5 2 0 (fx_X11_laysFar  a1 M) M [(0, vR X 0), (1, vI a1)] [] 0
  unfold fx_X11_laysFar
  refine tj_iconst (pc := 0) G dX11_laysFar_0 ?_
  refine tj_istore_n (pc := 1) G (fun x1 => [(2, vI x1), (0, vR X 0), (1, vI a1)]) dX11_laysFar_1 rfl (by decide) (fun _ => rfl) (fun x1 => ?_)
  refine tj_sub [1, 2, 0] rfl (fx_X11_laysFar_L2_ok G    (fun M8 => ?_) tp_F x1 M)
  refine tj_iconst (pc := 32) G dX11_laysFar_32 ?_
  refine tj_istore_n (pc := 33) G (fun x9 => [(2, vI x9), (0, vR X 0)]) dX11_laysFar_33 rfl (by decide) (fun _ => rfl) (fun x9 => ?_)
  refine tj_sub [1, 0] rfl (fx_X11_laysFar_L34_ok G     tp_F x9 M8)

def fx_X11_post  (a1 : Int) (a2 : Int) (M : tp_M) : tp_O :=
(tp_lm (tp_up M 0 0 0) (fun M1 =>
(tp_bd (fx_X11_isCrossing a1 M1) (fun r2 M3 =>
(tp_jn0 (fun M4 => 
(tp_bd (fx_X11_refuse  M4) (fun r5 M6 =>
(some (r5, M6))))) (fun jk25 =>
(if w32 r2 = 0 then
(jk25 M3)
else
(tp_bd (fx_X11_in (w32 a2) 0 5 M3) (fun r7 M8 =>
(if w32 r7 = 0 then
(jk25 M8)
else
(if w32 a1 = 0 then
(if w32 a2 = 3 then
(some (M8 4 8, M8))
else
(some (0, M8)))
else
(tp_bd (fx_X11_laysFar 0 M8) (fun r9 M10 =>
(if w32 a2 = 0 then
(tp_ck (w32 a1) 8 (some (M10 2 (w32 a1), M10)))
else
(if w32 a2 = 1 then
(tp_ck (w32 a1) 17 (some (M10 4 (w32 a1), M10)))
else
(if w32 a2 = 2 then
(tp_ck (w32 a1) 17 (tp_bd (fx_X11_goalOf a1 (M10 4 (w32 a1)) M10) (fun r17 M18 =>
(some (r17, M18)))))
else
(if w32 a2 = 3 then
(tp_ck (w32 (8 + a1)) 17 (some (M10 4 (w32 (8 + a1)), M10)))
else
(if w32 a2 = 4 then
(tp_bd (fx_X11_turn 4 17 a1 M10) (fun r23 M24 =>
(some (r23, M24))))
else
(tp_ck (w32 a1) 8 (some (M10 13 (w32 a1), M10)))))))))))))))))))))
set_option maxRecDepth 100000 in
set_option maxHeartbeats 4000000 in
theorem ok_X11_post (X : tp_X)  {a1 : Int} {a2 : Int}  {M : tp_M} {res : Int × tp_M} (h : fx_X11_post  a1 a2 M = some res) : tp_Ret X LM 34 1 yX11_post (Cond.code yX11_post cX11_post 3 (some .int)) 5 [vR X 0, vI a1, vI a2] M res := by
  refine tp_ofW (by decide +kernel) rfl rfl (by show _ ≤ 3; exact Nat.le_of_ble_eq_true rfl) h (fun Y G => ?_)
  show tp_J X Y LM 34 3 5 1 (fx_X11_post  a1 a2 M) M [(0, vR X 0), (1, vI a1), (2, vI a2)] [] 0
  unfold fx_X11_post
  refine tj_aload_n (pc := 0) G 0 dX11_post_0 rfl rfl ?_
  refine tj_iconst (pc := 1) G dX11_post_1 ?_
  refine tj_putI (pc := 2) G (k := 0) (j := 0) (j2 := 0) tk_X11 (by decide) lm_0 rfl (by decide) rfl fl_X11_3 rfl rfl dX11_post_2 (fun M1 => ?_)
  refine tj_aload_n (pc := 5) G 0 dX11_post_5 rfl rfl ?_
  refine tj_iload_n (pc := 6) G 1 dX11_post_6 rfl rfl ?_
  refine tj_callVi (pc := 7) G [vI a1] mf_X11_isCrossing (k := 0) (by decide) lm_0 rfl rfl ml_X11_265 (by decide) rfl rfl (Nat.le_of_ble_eq_true rfl) (fun _ h9 => ok_X11_isCrossing X  h9) dX11_post_7 (fun r2 M3 => ?_)
  refine tj_jn0 [(0, vR X 0)] [] 25 (fun M4 => ?_) (fun jk25 hj25 => ?_)
  · refine tj_aload_n (pc := 25) G 0 dX11_post_25 rfl rfl ?_
    refine tj_callVi (pc := 26) G [] mf_X11_refuse (k := 0) (by decide) lm_0 rfl rfl ml_X11_270 (by decide) rfl rfl (Nat.le_of_ble_eq_true rfl) (fun _ h9 => ok_X11_refuse X  h9) dX11_post_26 (fun r5 M6 => ?_)
    exact tj_iret (pc := 29) G dX11_post_29
  refine tj_if_eq (pc := 10) G (tgt := 25) (a2 := w32 r2) dX11_post_10 (by decide) rfl ?_ ?_
  · exact tj_sub [0] rfl (hj25  M3)
  refine tj_iload_n (pc := 13) G 2 dX11_post_13 rfl rfl ?_
  refine tj_i2l (pc := 14) G (b := w32 a2) dX11_post_14 rfl ?_
  refine tj_lconst (pc := 15) G (v := 0) dX11_post_15 rfl ?_
  refine tj_ldc2 (pc := 16) G (v := 5) dX11_post_16 ct_X11_268 rfl ?_
  refine tj_callSi (pc := 19) G [vL (w32 a2), vL 0, vL 5] mf_X11_in ml_X11_129 (by decide) rfl rfl (Nat.le_of_ble_eq_true rfl) (fun _ h9 => ok_X11_in X  h9) dX11_post_19 (fun r7 M8 => ?_)
  refine tj_if_ne (pc := 22) G (tgt := 30) (a2 := w32 r7) dX11_post_22 (by decide) rfl ?_ ?_
  · refine tj_iload_n (pc := 30) G 1 dX11_post_30 rfl rfl ?_
    refine tj_if_ne (pc := 31) G (tgt := 51) (a2 := w32 a1) dX11_post_31 (by decide) rfl ?_ ?_
    · refine tj_aload_n (pc := 51) G 0 dX11_post_51 rfl rfl ?_
      refine tj_iconst (pc := 52) G dX11_post_52 ?_
      refine tj_callVv (pc := 53) G [vI 0] mf_X11_laysFar (k := 0) (by decide) lm_0 rfl rfl ml_X11_273 (by decide) rfl rfl (Nat.le_of_ble_eq_true rfl) (fun _ h9 => ok_X11_laysFar X  h9) dX11_post_53 (fun r9 M10 => ?_)
      refine tj_iload_n (pc := 56) G 2 dX11_post_56 rfl rfl ?_
      refine tj_case (fun hq11 => ?_) (fun hq12 => ?_)
      · refine tj_tabIn (pc := 57) G (v := 0) (tgt := 92) dX11_post_57 hq11 (by decide) rfl (by decide) ?_
        refine tj_aload_n (pc := 92) G 0 dX11_post_92 rfl rfl ?_
        refine tj_getR (pc := 93) G (k := 0) (j := 4) (j2 := 4) tk_X11 (by decide) lm_0 rfl (by decide) rfl fl_X11_31 dX11_post_93 ?_
        refine tj_iload_n (pc := 96) G 1 dX11_post_96 rfl rfl ?_
        refine tj_iald (pc := 97) G (k := 2) (i2 := w32 a1) (n2 := 8) (by decide) lm_2 rfl rfl dX11_post_97 ?_
        exact tj_iret (pc := 98) G dX11_post_98
      refine tj_case (fun hq13 => ?_) (fun hq14 => ?_)
      · refine tj_tabIn (pc := 57) G (v := 1) (tgt := 99) dX11_post_57 hq13 (by decide) rfl (by decide) ?_
        refine tj_aload_n (pc := 99) G 0 dX11_post_99 rfl rfl ?_
        refine tj_getR (pc := 100) G (k := 0) (j := 6) (j2 := 6) tk_X11 (by decide) lm_0 rfl (by decide) rfl fl_X11_38 dX11_post_100 ?_
        refine tj_iload_n (pc := 103) G 1 dX11_post_103 rfl rfl ?_
        refine tj_iald (pc := 104) G (k := 4) (i2 := w32 a1) (n2 := 17) (by decide) lm_4 rfl rfl dX11_post_104 ?_
        exact tj_iret (pc := 105) G dX11_post_105
      refine tj_case (fun hq15 => ?_) (fun hq16 => ?_)
      · refine tj_tabIn (pc := 57) G (v := 2) (tgt := 106) dX11_post_57 hq15 (by decide) rfl (by decide) ?_
        refine tj_aload_n (pc := 106) G 0 dX11_post_106 rfl rfl ?_
        refine tj_iload_n (pc := 107) G 1 dX11_post_107 rfl rfl ?_
        refine tj_aload_n (pc := 108) G 0 dX11_post_108 rfl rfl ?_
        refine tj_getR (pc := 109) G (k := 0) (j := 6) (j2 := 6) tk_X11 (by decide) lm_0 rfl (by decide) rfl fl_X11_38 dX11_post_109 ?_
        refine tj_iload_n (pc := 112) G 1 dX11_post_112 rfl rfl ?_
        refine tj_iald (pc := 113) G (k := 4) (i2 := w32 a1) (n2 := 17) (by decide) lm_4 rfl rfl dX11_post_113 ?_
        refine tj_callVi (pc := 114) G [vI a1, vI (M10 4 (w32 a1))] mf_X11_goalOf (k := 0) (by decide) lm_0 rfl rfl ml_X11_255 (by decide) rfl rfl (Nat.le_of_ble_eq_true rfl) (fun _ h9 => ok_X11_goalOf X  h9) dX11_post_114 (fun r17 M18 => ?_)
        exact tj_iret (pc := 117) G dX11_post_117
      refine tj_case (fun hq19 => ?_) (fun hq20 => ?_)
      · refine tj_tabIn (pc := 57) G (v := 3) (tgt := 118) dX11_post_57 hq19 (by decide) rfl (by decide) ?_
        refine tj_aload_n (pc := 118) G 0 dX11_post_118 rfl rfl ?_
        refine tj_getR (pc := 119) G (k := 0) (j := 6) (j2 := 6) tk_X11 (by decide) lm_0 rfl (by decide) rfl fl_X11_38 dX11_post_119 ?_
        refine tj_bipush (pc := 122) G dX11_post_122 rfl ?_
        refine tj_iload_n (pc := 124) G 1 dX11_post_124 rfl rfl ?_
        refine tj_iadd (pc := 125) G dX11_post_125 ?_
        refine tj_iald (pc := 126) G (k := 4) (i2 := w32 (8 + a1)) (n2 := 17) (by decide) lm_4 rfl rfl dX11_post_126 ?_
        exact tj_iret (pc := 127) G dX11_post_127
      refine tj_case (fun hq21 => ?_) (fun hq22 => ?_)
      · refine tj_tabIn (pc := 57) G (v := 4) (tgt := 128) dX11_post_57 hq21 (by decide) rfl (by decide) ?_
        refine tj_aload_n (pc := 128) G 0 dX11_post_128 rfl rfl ?_
        refine tj_aload_n (pc := 129) G 0 dX11_post_129 rfl rfl ?_
        refine tj_getR (pc := 130) G (k := 0) (j := 6) (j2 := 6) tk_X11 (by decide) lm_0 rfl (by decide) rfl fl_X11_38 dX11_post_130 ?_
        refine tj_iload_n (pc := 133) G 1 dX11_post_133 rfl rfl ?_
        refine tj_callVi (pc := 134) G [vR X 4, vI a1] mf_X11_turn (k := 0) (by decide) lm_0 rfl rfl ml_X11_276 (by decide) rfl rfl (Nat.le_of_ble_eq_true rfl) (fun _ h9 => ok_X11_turn X ⟨by decide, lm_4⟩ h9) dX11_post_134 (fun r23 M24 => ?_)
        exact tj_iret (pc := 137) G dX11_post_137
      refine tj_tabOut (pc := 57) G (tgt := 138) dX11_post_57 (by omega) (by decide) ?_
      refine tj_aload_n (pc := 138) G 0 dX11_post_138 rfl rfl ?_
      refine tj_getR (pc := 139) G (k := 0) (j := 22) (j2 := 22) tk_X11 (by decide) lm_0 rfl (by decide) rfl fl_X11_65 dX11_post_139 ?_
      refine tj_iload_n (pc := 142) G 1 dX11_post_142 rfl rfl ?_
      refine tj_iald (pc := 143) G (k := 13) (i2 := w32 a1) (n2 := 8) (by decide) lm_13 rfl rfl dX11_post_143 ?_
      exact tj_iret (pc := 144) G dX11_post_144
    refine tj_iload_n (pc := 34) G 2 dX11_post_34 rfl rfl ?_
    refine tj_iconst (pc := 35) G dX11_post_35 ?_
    refine tj_icmp_ne (pc := 36) G (tgt := 49) (a2 := w32 a2) (b2 := 3) dX11_post_36 (by decide) rfl rfl ?_ ?_
    · refine tj_iconst (pc := 49) G dX11_post_49 ?_
      exact tj_iret (pc := 50) G dX11_post_50
    refine tj_aload_n (pc := 39) G 0 dX11_post_39 rfl rfl ?_
    refine tj_getR (pc := 40) G (k := 0) (j := 6) (j2 := 6) tk_X11 (by decide) lm_0 rfl (by decide) rfl fl_X11_38 dX11_post_40 ?_
    refine tj_bipush (pc := 43) G dX11_post_43 rfl ?_
    refine tj_iald1 (pc := 45) G (k := 4) (i2 := 8) (n2 := 0) (by decide) lm_4 rfl (by decide) dX11_post_45 ?_
    refine tj_goto (pc := 46) G (tgt := 50) dX11_post_46 (by decide) ?_
    exact tj_iret (pc := 50) G dX11_post_50
  exact tj_sub [0] rfl (hj25  M8)

def fx_X11_way  (a1 : Int) (a2 : Int) (M : tp_M) : tp_O :=
(tp_lm (tp_up M 0 0 0) (fun M1 =>
(tp_bd (fx_X11_isOut a1 M1) (fun r2 M3 =>
(tp_jn0 (fun M4 => 
(tp_bd (fx_X11_refuse  M4) (fun r5 M6 =>
(some (r5, M6))))) (fun jk40 =>
(if w32 r2 = 0 then
(jk40 M3)
else
(tp_ck (w32 a1) 8 (tp_bd (fx_X11_in (w32 a2) 0 (w32 ((M3 2 (w32 a1)) - 1)) M3) (fun r7 M8 =>
(if w32 r7 = 0 then
(jk40 M8)
else
(tp_bd (fx_X11_goalOf a1 a2 M8) (fun r9 M10 =>
(some (r9, M10)))))))))))))))
set_option maxRecDepth 100000 in
set_option maxHeartbeats 4000000 in
theorem ok_X11_way (X : tp_X)  {a1 : Int} {a2 : Int}  {M : tp_M} {res : Int × tp_M} (h : fx_X11_way  a1 a2 M = some res) : tp_Ret X LM 34 1 yX11_way (Cond.code yX11_way cX11_way 3 (some .int)) 3 [vR X 0, vI a1, vI a2] M res := by
  refine tp_ofW (by decide +kernel) rfl rfl (by show _ ≤ 3; exact Nat.le_of_ble_eq_true rfl) h (fun Y G => ?_)
  show tp_J X Y LM 34 3 3 1 (fx_X11_way  a1 a2 M) M [(0, vR X 0), (1, vI a1), (2, vI a2)] [] 0
  unfold fx_X11_way
  refine tj_aload_n (pc := 0) G 0 dX11_way_0 rfl rfl ?_
  refine tj_iconst (pc := 1) G dX11_way_1 ?_
  refine tj_putI (pc := 2) G (k := 0) (j := 0) (j2 := 0) tk_X11 (by decide) lm_0 rfl (by decide) rfl fl_X11_3 rfl rfl dX11_way_2 (fun M1 => ?_)
  refine tj_aload_n (pc := 5) G 0 dX11_way_5 rfl rfl ?_
  refine tj_iload_n (pc := 6) G 1 dX11_way_6 rfl rfl ?_
  refine tj_callVi (pc := 7) G [vI a1] mf_X11_isOut (k := 0) (by decide) lm_0 rfl rfl ml_X11_280 (by decide) rfl rfl (Nat.le_of_ble_eq_true rfl) (fun _ h9 => ok_X11_isOut X  h9) dX11_way_7 (fun r2 M3 => ?_)
  refine tj_jn0 [(0, vR X 0)] [] 40 (fun M4 => ?_) (fun jk40 hj40 => ?_)
  · refine tj_aload_n (pc := 40) G 0 dX11_way_40 rfl rfl ?_
    refine tj_callVi (pc := 41) G [] mf_X11_refuse (k := 0) (by decide) lm_0 rfl rfl ml_X11_270 (by decide) rfl rfl (Nat.le_of_ble_eq_true rfl) (fun _ h9 => ok_X11_refuse X  h9) dX11_way_41 (fun r5 M6 => ?_)
    exact tj_iret (pc := 44) G dX11_way_44
  refine tj_if_eq (pc := 10) G (tgt := 40) (a2 := w32 r2) dX11_way_10 (by decide) rfl ?_ ?_
  · exact tj_sub [0] rfl (hj40  M3)
  refine tj_iload_n (pc := 13) G 2 dX11_way_13 rfl rfl ?_
  refine tj_i2l (pc := 14) G (b := w32 a2) dX11_way_14 rfl ?_
  refine tj_lconst (pc := 15) G (v := 0) dX11_way_15 rfl ?_
  refine tj_aload_n (pc := 16) G 0 dX11_way_16 rfl rfl ?_
  refine tj_getR (pc := 17) G (k := 0) (j := 4) (j2 := 4) tk_X11 (by decide) lm_0 rfl (by decide) rfl fl_X11_31 dX11_way_17 ?_
  refine tj_iload_n (pc := 20) G 1 dX11_way_20 rfl rfl ?_
  refine tj_iald (pc := 21) G (k := 2) (i2 := w32 a1) (n2 := 8) (by decide) lm_2 rfl rfl dX11_way_21 ?_
  refine tj_iconst (pc := 22) G dX11_way_22 ?_
  refine tj_isub (pc := 23) G dX11_way_23 ?_
  refine tj_i2l (pc := 24) G (b := w32 ((M3 2 (w32 a1)) - 1)) dX11_way_24 rfl ?_
  refine tj_callSi (pc := 25) G [vL (w32 a2), vL 0, vL (w32 ((M3 2 (w32 a1)) - 1))] mf_X11_in ml_X11_129 (by decide) rfl rfl (Nat.le_of_ble_eq_true rfl) (fun _ h9 => ok_X11_in X  h9) dX11_way_25 (fun r7 M8 => ?_)
  refine tj_if_eq (pc := 28) G (tgt := 40) (a2 := w32 r7) dX11_way_28 (by decide) rfl ?_ ?_
  · exact tj_sub [0] rfl (hj40  M8)
  refine tj_aload_n (pc := 31) G 0 dX11_way_31 rfl rfl ?_
  refine tj_iload_n (pc := 32) G 1 dX11_way_32 rfl rfl ?_
  refine tj_iload_n (pc := 33) G 2 dX11_way_33 rfl rfl ?_
  refine tj_callVi (pc := 34) G [vI a1, vI a2] mf_X11_goalOf (k := 0) (by decide) lm_0 rfl rfl ml_X11_255 (by decide) rfl rfl (Nat.le_of_ble_eq_true rfl) (fun _ h9 => ok_X11_goalOf X  h9) dX11_way_34 (fun r9 M10 => ?_)
  refine tj_goto (pc := 37) G (tgt := 44) dX11_way_37 (by decide) ?_
  exact tj_iret (pc := 44) G dX11_way_44

def fx_X11_sheet_L43 (c1 : Int) (c2 : Int) (c4 : Int) (K126 : tp_M → tp_O) (rec : Int → Int → tp_M → tp_O) (z7 z8 : Int) (M9 : tp_M) : tp_O :=
(if w32 z8 < w32 (M9 0 3) then
(tp_jn1 (fun y10 M11 => 
(tp_lt y10 (fun x12 =>
(tp_jn1 (fun y13 M14 => 
(tp_ck (w32 (8 + z8)) 17 (tp_lm (tp_up M14 4 (w32 (8 + z8)) y13) (fun M15 =>
(tp_lt (z7 + c4) (fun x16 =>
(tp_lt (z8 + 1) (fun x17 =>
(rec x16 x17 M15))))))))) (fun jk112 =>
(tp_jn0 (fun M18 => 
(jk112 0 M18)) (fun jk97 =>
(if w32 c1 = 3 then
(jk97 M11)
else
(if w32 z8 ≤ w32 c2 then
(jk112 (max 0 (w32 (min 9 (w32 x12)))) M11)
else
(jk97 M11)))))))))) (fun jk75 =>
(if w32 c1 = 0 then
(jk75 (x_i2b z7) M9)
else
(if w32 c1 = 1 then
(jk75 (x_i2s z7) M9)
else
(jk75 z7 M9)))))
else
(K126 M9))
def fx_X11_sheet  (a1 : Int) (a2 : Int) (a3 : Int) (a4 : Int) (M : tp_M) : tp_O :=
(tp_lm (tp_up M 0 0 0) (fun M1 =>
(tp_bd (fx_X11_in (w32 a1) 0 3 M1) (fun r2 M3 =>
(if w32 r2 = 0 then
(some ((-1), M3))
else
(if w32 a2 ≤ 7 then
(tp_jn0 (fun M4 => 
(tp_lt a3 (fun x5 =>
(tp_lt 1 (fun x6 =>
(tp_lp2 (fx_X11_sheet_L43 a1 a2 a4 (fun M19 =>
(if w32 a1 = 3 then
(some ((-3), M19))
else
(tp_bd (fx_X11_walkers 4 17 M19) (fun r20 M21 =>
(some (r20, M21))))))) tp_F x5 x6 M4)))))) (fun jk37 =>
(if w32 a1 = 3 then
(jk37 M3)
else
(if w32 a2 < 0 then
(some ((-2), M3))
else
(jk37 M3)))))
else
(some ((-1), M3))))))))
set_option maxRecDepth 100000 in
set_option maxHeartbeats 4000000 in
theorem fx_X11_sheet_L43_ok {X : tp_X} {Y : tp_Y} (G : tp_Ok X Y 34 cX11_sheet 8 RX11 (some .int))  {c1 : Int} {c2 : Int} {c4 : Int} {K126 : tp_M → tp_O}   (hK126 : ∀ (M9 : tp_M), tp_J X Y LM 34 8 2 1 (K126  M9) M9 [(0, vR X 0), (1, vI c1)] [] 126) (n : Nat) : ∀ (z7 z8 : Int) (M9 : tp_M), tp_J X Y LM 34 8 2 1 (tp_lp2 (fx_X11_sheet_L43  c1 c2 c4 K126) n z7 z8 M9) M9 [(0, vR X 0), (1, vI c1), (2, vI c2), (4, vI c4), (5, vI z7), (6, vI z8)] [] 43 := by
  refine tp_lp2_ok (P := fun o z7 z8 M9 => tp_J X Y LM 34 8 2 1 (o) M9 [(0, vR X 0), (1, vI c1), (2, vI c2), (4, vI c4), (5, vI z7), (6, vI z8)] [] 43) (fun z7 z8 M9 => tj_none) (fun rec hrec z7 z8 M9 => ?_) n
  unfold fx_X11_sheet_L43
  refine tj_iload (pc := 43) G 5 dX11_sheet_43 rfl ?_
  refine tj_aload_n (pc := 45) G 0 dX11_sheet_45 rfl rfl ?_
  refine tj_getI (pc := 46) G (k := 0) (j := 3) (j2 := 3) tk_X11 (by decide) lm_0 rfl (by decide) rfl fl_X11_28 dX11_sheet_46 ?_
  refine tj_icmp_ge (pc := 49) G (tgt := 126) (a2 := w32 z8) (b2 := w32 (M9 0 3)) dX11_sheet_49 (by decide) rfl rfl ?_ ?_
  · exact tj_sub [0, 1] rfl (hK126  M9)
  refine tj_iload_n (pc := 52) G 1 dX11_sheet_52 rfl rfl ?_
  refine tj_jn1 (fun y10 => [(0, vR X 0), (1, vI c1), (2, vI c2), (4, vI c4), (5, vI z7), (6, vI z8)]) (fun y10 => [vI y10]) 75 (fun y10 M11 => ?_) (fun jk75 hj75 => ?_)
  · refine tj_istore (pc := 75) G (fun x12 => [(7, vI x12), (0, vR X 0), (1, vI c1), (2, vI c2), (4, vI c4), (5, vI z7), (6, vI z8)]) dX11_sheet_75 (by decide) (fun _ => rfl) (fun x12 => ?_)
    refine tj_aload_n (pc := 77) G 1 dX11_sheet_77 rfl rfl ?_
    refine tj_getR (pc := 78) G (k := 0) (j := 6) (j2 := 6) tk_X11 (by decide) lm_0 rfl (by decide) rfl fl_X11_38 dX11_sheet_78 ?_
    refine tj_bipush (pc := 81) G dX11_sheet_81 rfl ?_
    refine tj_iload (pc := 83) G 6 dX11_sheet_83 rfl ?_
    refine tj_iadd (pc := 85) G dX11_sheet_85 ?_
    refine tj_iload_n (pc := 86) G 2 dX11_sheet_86 rfl rfl ?_
    refine tj_iconst (pc := 87) G dX11_sheet_87 ?_
    refine tj_jn1 (fun y13 => [(0, vR X 0), (1, vI c1), (2, vI c2), (4, vI c4), (5, vI z7), (6, vI z8)]) (fun y13 => [vI y13, vI (8 + z8), vR X 4]) 112 (fun y13 M14 => ?_) (fun jk112 hj112 => ?_)
    · refine tj_iast (pc := 112) G (k := 4) (i2 := w32 (8 + z8)) (n2 := 17) (by decide) lm_4 rfl rfl dX11_sheet_112 (fun M15 => ?_)
      refine tj_iload (pc := 113) G 4 dX11_sheet_113 rfl ?_
      refine tj_iload (pc := 115) G 3 dX11_sheet_115 rfl ?_
      refine tj_iadd (pc := 117) G dX11_sheet_117 ?_
      refine tj_istore (pc := 118) G (fun x16 => [(5, vI x16), (0, vR X 0), (1, vI c1), (2, vI c2), (4, vI c4), (6, vI z8)]) dX11_sheet_118 (by decide) (fun _ => rfl) (fun x16 => ?_)
      refine tj_iinc (pc := 120) G 5 (fun x17 => [(6, vI x17), (5, vI x16), (0, vR X 0), (1, vI c1), (2, vI c2), (4, vI c4)]) dX11_sheet_120 rfl (by decide) (fun _ => rfl) (fun x17 => ?_)
      refine tj_goto (pc := 123) G (tgt := 43) dX11_sheet_123 (by decide) ?_
      exact tj_sub [2, 3, 4, 5, 1, 0] rfl (hrec x16 x17 M15)
    refine tj_jn0 [(0, vR X 0), (1, vI c1), (2, vI c2), (4, vI c4), (5, vI z7), (6, vI z8)] [vI (8 + z8), vR X 4] 97 (fun M18 => ?_) (fun jk97 hj97 => ?_)
    · refine tj_iconst (pc := 97) G dX11_sheet_97 ?_
      refine tj_goto (pc := 98) G (tgt := 112) dX11_sheet_98 (by decide) ?_
      exact tj_sub [0, 1, 2, 3, 4, 5] rfl (hj112 0 M18)
    refine tj_icmp_eq (pc := 88) G (tgt := 97) (a2 := w32 c1) (b2 := 3) dX11_sheet_88 (by decide) rfl rfl ?_ ?_
    · exact tj_sub [1, 2, 3, 4, 5, 6] rfl (hj97  M11)
    refine tj_iload (pc := 91) G 6 dX11_sheet_91 rfl ?_
    refine tj_iload_n (pc := 93) G 3 dX11_sheet_93 rfl rfl ?_
    refine tj_icmp_le (pc := 94) G (tgt := 101) (a2 := w32 z8) (b2 := w32 c2) dX11_sheet_94 (by decide) rfl rfl ?_ ?_
    · refine tj_iconst (pc := 101) G dX11_sheet_101 ?_
      refine tj_bipush (pc := 102) G dX11_sheet_102 rfl ?_
      refine tj_iload (pc := 104) G 0 dX11_sheet_104 rfl ?_
      refine tj_min (pc := 106) G (a2 := 9) (b2 := w32 x12) rfl rfl ml_X11_142 mw_min (by decide) (Nat.le_of_ble_eq_true rfl) dX11_sheet_106 ?_
      refine tj_max (pc := 109) G (a2 := 0) (b2 := w32 (min 9 (w32 x12))) rfl rfl ml_X11_261 mw_max (by decide) (Nat.le_of_ble_eq_true rfl) dX11_sheet_109 ?_
      exact tj_sub [1, 2, 3, 4, 5, 6] rfl (hj112 (max 0 (w32 (min 9 (w32 x12)))) M11)
    exact tj_sub [1, 2, 3, 4, 5, 6] rfl (hj97  M11)
  refine tj_if_ne (pc := 53) G (tgt := 62) (a2 := w32 c1) dX11_sheet_53 (by decide) rfl ?_ ?_
  · refine tj_iload_n (pc := 62) G 1 dX11_sheet_62 rfl rfl ?_
    refine tj_iconst (pc := 63) G dX11_sheet_63 ?_
    refine tj_icmp_ne (pc := 64) G (tgt := 73) (a2 := w32 c1) (b2 := 1) dX11_sheet_64 (by decide) rfl rfl ?_ ?_
    · refine tj_iload (pc := 73) G 4 dX11_sheet_73 rfl ?_
      exact tj_sub [0, 1, 2, 3, 4, 5] rfl (hj75 z7 M9)
    refine tj_iload (pc := 67) G 4 dX11_sheet_67 rfl ?_
    refine tj_i2s (pc := 69) G dX11_sheet_69 ?_
    refine tj_goto (pc := 70) G (tgt := 75) dX11_sheet_70 (by decide) ?_
    exact tj_sub [0, 1, 2, 3, 4, 5] rfl (hj75 (x_i2s z7) M9)
  refine tj_iload (pc := 56) G 4 dX11_sheet_56 rfl ?_
  refine tj_i2b (pc := 58) G dX11_sheet_58 ?_
  refine tj_goto (pc := 59) G (tgt := 75) dX11_sheet_59 (by decide) ?_
  exact tj_sub [0, 1, 2, 3, 4, 5] rfl (hj75 (x_i2b z7) M9)
set_option maxRecDepth 100000 in
set_option maxHeartbeats 4000000 in
theorem ok_X11_sheet (X : tp_X)  {a1 : Int} {a2 : Int} {a3 : Int} {a4 : Int}  {M : tp_M} {res : Int × tp_M} (h : fx_X11_sheet  a1 a2 a3 a4 M = some res) : tp_Ret X LM 34 1 yX11_sheet (Cond.code yX11_sheet cX11_sheet 8 (some .int)) 2 [vR X 0, vI a1, vI a2, vI a3, vI a4] M res := by
  refine tp_ofW (by decide +kernel) rfl rfl (by show _ ≤ 8; exact Nat.le_of_ble_eq_true rfl) h (fun Y G => ?_)
  show tp_J X Y LM 34 8 2 1 (fx_X11_sheet  a1 a2 a3 a4 M) M [(0, vR X 0), (1, vI a1), (2, vI a2), (3, vI a3), (4, vI a4)] [] 0
  unfold fx_X11_sheet
  refine tj_aload_n (pc := 0) G 0 dX11_sheet_0 rfl rfl ?_
  refine tj_iconst (pc := 1) G dX11_sheet_1 ?_
  refine tj_putI (pc := 2) G (k := 0) (j := 0) (j2 := 0) tk_X11 (by decide) lm_0 rfl (by decide) rfl fl_X11_3 rfl rfl dX11_sheet_2 (fun M1 => ?_)
  refine tj_iload_n (pc := 5) G 1 dX11_sheet_5 rfl rfl ?_
  refine tj_i2l (pc := 6) G (b := w32 a1) dX11_sheet_6 rfl ?_
  refine tj_lconst (pc := 7) G (v := 0) dX11_sheet_7 rfl ?_
  refine tj_ldc2 (pc := 8) G (v := 3) dX11_sheet_8 ct_X11_283 rfl ?_
  refine tj_callSi (pc := 11) G [vL (w32 a1), vL 0, vL 3] mf_X11_in ml_X11_129 (by decide) rfl rfl (Nat.le_of_ble_eq_true rfl) (fun _ h9 => ok_X11_in X  h9) dX11_sheet_11 (fun r2 M3 => ?_)
  refine tj_if_eq (pc := 14) G (tgt := 23) (a2 := w32 r2) dX11_sheet_14 (by decide) rfl ?_ ?_
  · refine tj_iconst (pc := 23) G dX11_sheet_23 ?_
    exact tj_iret (pc := 24) G dX11_sheet_24
  refine tj_iload_n (pc := 17) G 2 dX11_sheet_17 rfl rfl ?_
  refine tj_bipush (pc := 18) G dX11_sheet_18 rfl ?_
  refine tj_icmp_le (pc := 20) G (tgt := 25) (a2 := w32 a2) (b2 := 7) dX11_sheet_20 (by decide) rfl rfl ?_ ?_
  · refine tj_iload_n (pc := 25) G 1 dX11_sheet_25 rfl rfl ?_
    refine tj_iconst (pc := 26) G dX11_sheet_26 ?_
    refine tj_jn0 [(0, vR X 0), (1, vI a1), (2, vI a2), (3, vI a3), (4, vI a4)] [] 37 (fun M4 => ?_) (fun jk37 hj37 => ?_)
    · refine tj_iload_n (pc := 37) G 3 dX11_sheet_37 rfl rfl ?_
      refine tj_istore (pc := 38) G (fun x5 => [(5, vI x5), (0, vR X 0), (1, vI a1), (2, vI a2), (3, vI a3), (4, vI a4)]) dX11_sheet_38 (by decide) (fun _ => rfl) (fun x5 => ?_)
      refine tj_iconst (pc := 40) G dX11_sheet_40 ?_
      refine tj_istore (pc := 41) G (fun x6 => [(6, vI x6), (5, vI x5), (0, vR X 0), (1, vI a1), (2, vI a2), (3, vI a3), (4, vI a4)]) dX11_sheet_41 (by decide) (fun _ => rfl) (fun x6 => ?_)
      refine tj_sub [2, 3, 4, 6, 1, 0] rfl (fx_X11_sheet_L43_ok G    (fun M19 => ?_) tp_F x5 x6 M4)
      refine tj_iload_n (pc := 126) G 1 dX11_sheet_126 rfl rfl ?_
      refine tj_iconst (pc := 127) G dX11_sheet_127 ?_
      refine tj_icmp_ne (pc := 128) G (tgt := 136) (a2 := w32 a1) (b2 := 3) dX11_sheet_128 (by decide) rfl rfl ?_ ?_
      · refine tj_aload_n (pc := 136) G 0 dX11_sheet_136 rfl rfl ?_
        refine tj_aload_n (pc := 137) G 0 dX11_sheet_137 rfl rfl ?_
        refine tj_getR (pc := 138) G (k := 0) (j := 6) (j2 := 6) tk_X11 (by decide) lm_0 rfl (by decide) rfl fl_X11_38 dX11_sheet_138 ?_
        refine tj_callVi (pc := 141) G [vR X 4] mf_X11_walkers (k := 0) (by decide) lm_0 rfl rfl ml_X11_285 (by decide) rfl rfl (Nat.le_of_ble_eq_true rfl) (fun _ h9 => ok_X11_walkers X ⟨by decide, lm_4⟩ h9) dX11_sheet_141 (fun r20 M21 => ?_)
        exact tj_iret (pc := 144) G dX11_sheet_144
      refine tj_bipush (pc := 131) G dX11_sheet_131 rfl ?_
      refine tj_goto (pc := 133) G (tgt := 144) dX11_sheet_133 (by decide) ?_
      exact tj_iret (pc := 144) G dX11_sheet_144
    refine tj_icmp_eq (pc := 27) G (tgt := 37) (a2 := w32 a1) (b2 := 3) dX11_sheet_27 (by decide) rfl rfl ?_ ?_
    · exact tj_sub [0, 1, 2, 3, 4] rfl (hj37  M3)
    refine tj_iload_n (pc := 30) G 2 dX11_sheet_30 rfl rfl ?_
    refine tj_if_ge (pc := 31) G (tgt := 37) (a2 := w32 a2) dX11_sheet_31 (by decide) rfl ?_ ?_
    · exact tj_sub [0, 1, 2, 3, 4] rfl (hj37  M3)
    refine tj_bipush (pc := 34) G dX11_sheet_34 rfl ?_
    exact tj_iret (pc := 36) G dX11_sheet_36
  refine tj_iconst (pc := 23) G dX11_sheet_23 ?_
  exact tj_iret (pc := 24) G dX11_sheet_24

def fx_X11_putsBy_L2  (rec : Int → tp_M → tp_O) (z2 : Int) (M3 : tp_M) : tp_O :=
(if w32 z2 < 17 then
(tp_ck (w32 z2) 17 (tp_ck (w32 ((17 * (M3 0 23)) + z2)) 272 (tp_lm (tp_up M3 14 (w32 ((17 * (M3 0 23)) + z2)) (M3 4 (w32 z2))) (fun M4 =>
(tp_lt (z2 + 1) (fun x5 =>
(rec x5 M4)))))))
else
(some (0, M3)))
def fx_X11_putsBy   (M : tp_M) : tp_O :=
(tp_lt 0 (fun x1 =>
(tp_lp1 (fx_X11_putsBy_L2  ) tp_F x1 M)))
set_option maxRecDepth 100000 in
set_option maxHeartbeats 4000000 in
theorem fx_X11_putsBy_L2_ok {X : tp_X} {Y : tp_Y} (G : tp_Ok X Y 34 cX11_putsBy 2 RX11 none)      (n : Nat) : ∀ (z2 : Int) (M3 : tp_M), tp_J X Y LM 34 2 1 0 (tp_lp1 (fx_X11_putsBy_L2   ) n z2 M3) M3 [(0, vR X 0), (1, vI z2)] [] 2 := by
  refine tp_lp1_ok (P := fun o z2 M3 => tp_J X Y LM 34 2 1 0 (o) M3 [(0, vR X 0), (1, vI z2)] [] 2) (fun z2 M3 => tj_none) (fun rec hrec z2 M3 => ?_) n
  unfold fx_X11_putsBy_L2
  refine tj_iload_n (pc := 2) G 1 dX11_putsBy_2 rfl rfl ?_
  refine tj_bipush (pc := 3) G dX11_putsBy_3 rfl ?_
  refine tj_icmp_ge (pc := 5) G (tgt := 34) (a2 := w32 z2) (b2 := 17) dX11_putsBy_5 (by decide) rfl rfl ?_ ?_
  · exact tj_vret (pc := 34) G dX11_putsBy_34
  refine tj_aload_n (pc := 8) G 0 dX11_putsBy_8 rfl rfl ?_
  refine tj_getR (pc := 9) G (k := 0) (j := 24) (j2 := 24) tk_X11 (by decide) lm_0 rfl (by decide) rfl fl_X11_68 dX11_putsBy_9 ?_
  refine tj_bipush (pc := 12) G dX11_putsBy_12 rfl ?_
  refine tj_aload_n (pc := 14) G 0 dX11_putsBy_14 rfl rfl ?_
  refine tj_getI (pc := 15) G (k := 0) (j := 23) (j2 := 23) tk_X11 (by decide) lm_0 rfl (by decide) rfl fl_X11_200 dX11_putsBy_15 ?_
  refine tj_imul (pc := 18) G dX11_putsBy_18 ?_
  refine tj_iload_n (pc := 19) G 1 dX11_putsBy_19 rfl rfl ?_
  refine tj_iadd (pc := 20) G dX11_putsBy_20 ?_
  refine tj_aload_n (pc := 21) G 0 dX11_putsBy_21 rfl rfl ?_
  refine tj_getR (pc := 22) G (k := 0) (j := 6) (j2 := 6) tk_X11 (by decide) lm_0 rfl (by decide) rfl fl_X11_38 dX11_putsBy_22 ?_
  refine tj_iload_n (pc := 25) G 1 dX11_putsBy_25 rfl rfl ?_
  refine tj_iald (pc := 26) G (k := 4) (i2 := w32 z2) (n2 := 17) (by decide) lm_4 rfl rfl dX11_putsBy_26 ?_
  refine tj_iast (pc := 27) G (k := 14) (i2 := w32 ((17 * (M3 0 23)) + z2)) (n2 := 272) (by decide) lm_14 rfl rfl dX11_putsBy_27 (fun M4 => ?_)
  refine tj_iinc (pc := 28) G 1 (fun x5 => [(1, vI x5), (0, vR X 0)]) dX11_putsBy_28 rfl (by decide) (fun _ => rfl) (fun x5 => ?_)
  refine tj_goto (pc := 31) G (tgt := 2) dX11_putsBy_31 (by decide) ?_
  exact tj_sub [1, 0] rfl (hrec x5 M4)
set_option maxRecDepth 100000 in
set_option maxHeartbeats 4000000 in
theorem ok_X11_putsBy (X : tp_X)    {M : tp_M} {res : Int × tp_M} (h : fx_X11_putsBy   M = some res) : tp_Ret X LM 34 0 yX11_putsBy (Cond.code yX11_putsBy cX11_putsBy 2 none) 1 [vR X 0] M res := by
  refine tp_ofW (by decide +kernel) rfl rfl (by show _ ≤ 2; exact Nat.le_of_ble_eq_true rfl) h (fun Y G => ?_)
  show tp_J X Y LM 34 2 1 0 (fx_X11_putsBy   M) M [(0, vR X 0)] [] 0
  unfold fx_X11_putsBy
  refine tj_iconst (pc := 0) G dX11_putsBy_0 ?_
  refine tj_istore_n (pc := 1) G (fun x1 => [(1, vI x1), (0, vR X 0)]) dX11_putsBy_1 rfl (by decide) (fun _ => rfl) (fun x1 => ?_)
  refine tj_sub [1, 0] rfl (fx_X11_putsBy_L2_ok G     tp_F x1 M)

def fx_X11_takesBack_L2  (rec : Int → tp_M → tp_O) (z2 : Int) (M3 : tp_M) : tp_O :=
(if w32 z2 < 17 then
(tp_ck (w32 ((17 * (M3 0 23)) + z2)) 272 (tp_ck (w32 z2) 17 (tp_lm (tp_up M3 4 (w32 z2) (M3 14 (w32 ((17 * (M3 0 23)) + z2)))) (fun M4 =>
(tp_lt (z2 + 1) (fun x5 =>
(rec x5 M4)))))))
else
(some (0, M3)))
def fx_X11_takesBack   (M : tp_M) : tp_O :=
(tp_lt 0 (fun x1 =>
(tp_lp1 (fx_X11_takesBack_L2  ) tp_F x1 M)))
set_option maxRecDepth 100000 in
set_option maxHeartbeats 4000000 in
theorem fx_X11_takesBack_L2_ok {X : tp_X} {Y : tp_Y} (G : tp_Ok X Y 34 cX11_takesBack 2 RX11 none)      (n : Nat) : ∀ (z2 : Int) (M3 : tp_M), tp_J X Y LM 34 2 1 0 (tp_lp1 (fx_X11_takesBack_L2   ) n z2 M3) M3 [(0, vR X 0), (1, vI z2)] [] 2 := by
  refine tp_lp1_ok (P := fun o z2 M3 => tp_J X Y LM 34 2 1 0 (o) M3 [(0, vR X 0), (1, vI z2)] [] 2) (fun z2 M3 => tj_none) (fun rec hrec z2 M3 => ?_) n
  unfold fx_X11_takesBack_L2
  refine tj_iload_n (pc := 2) G 1 dX11_takesBack_2 rfl rfl ?_
  refine tj_bipush (pc := 3) G dX11_takesBack_3 rfl ?_
  refine tj_icmp_ge (pc := 5) G (tgt := 34) (a2 := w32 z2) (b2 := 17) dX11_takesBack_5 (by decide) rfl rfl ?_ ?_
  · exact tj_vret (pc := 34) G dX11_takesBack_34
  refine tj_aload_n (pc := 8) G 0 dX11_takesBack_8 rfl rfl ?_
  refine tj_getR (pc := 9) G (k := 0) (j := 6) (j2 := 6) tk_X11 (by decide) lm_0 rfl (by decide) rfl fl_X11_38 dX11_takesBack_9 ?_
  refine tj_iload_n (pc := 12) G 1 dX11_takesBack_12 rfl rfl ?_
  refine tj_aload_n (pc := 13) G 0 dX11_takesBack_13 rfl rfl ?_
  refine tj_getR (pc := 14) G (k := 0) (j := 24) (j2 := 24) tk_X11 (by decide) lm_0 rfl (by decide) rfl fl_X11_68 dX11_takesBack_14 ?_
  refine tj_bipush (pc := 17) G dX11_takesBack_17 rfl ?_
  refine tj_aload_n (pc := 19) G 0 dX11_takesBack_19 rfl rfl ?_
  refine tj_getI (pc := 20) G (k := 0) (j := 23) (j2 := 23) tk_X11 (by decide) lm_0 rfl (by decide) rfl fl_X11_200 dX11_takesBack_20 ?_
  refine tj_imul (pc := 23) G dX11_takesBack_23 ?_
  refine tj_iload_n (pc := 24) G 1 dX11_takesBack_24 rfl rfl ?_
  refine tj_iadd (pc := 25) G dX11_takesBack_25 ?_
  refine tj_iald (pc := 26) G (k := 14) (i2 := w32 ((17 * (M3 0 23)) + z2)) (n2 := 272) (by decide) lm_14 rfl rfl dX11_takesBack_26 ?_
  refine tj_iast (pc := 27) G (k := 4) (i2 := w32 z2) (n2 := 17) (by decide) lm_4 rfl rfl dX11_takesBack_27 (fun M4 => ?_)
  refine tj_iinc (pc := 28) G 1 (fun x5 => [(1, vI x5), (0, vR X 0)]) dX11_takesBack_28 rfl (by decide) (fun _ => rfl) (fun x5 => ?_)
  refine tj_goto (pc := 31) G (tgt := 2) dX11_takesBack_31 (by decide) ?_
  exact tj_sub [1, 0] rfl (hrec x5 M4)
set_option maxRecDepth 100000 in
set_option maxHeartbeats 4000000 in
theorem ok_X11_takesBack (X : tp_X)    {M : tp_M} {res : Int × tp_M} (h : fx_X11_takesBack   M = some res) : tp_Ret X LM 34 0 yX11_takesBack (Cond.code yX11_takesBack cX11_takesBack 2 none) 1 [vR X 0] M res := by
  refine tp_ofW (by decide +kernel) rfl rfl (by show _ ≤ 2; exact Nat.le_of_ble_eq_true rfl) h (fun Y G => ?_)
  show tp_J X Y LM 34 2 1 0 (fx_X11_takesBack   M) M [(0, vR X 0)] [] 0
  unfold fx_X11_takesBack
  refine tj_iconst (pc := 0) G dX11_takesBack_0 ?_
  refine tj_istore_n (pc := 1) G (fun x1 => [(1, vI x1), (0, vR X 0)]) dX11_takesBack_1 rfl (by decide) (fun _ => rfl) (fun x1 => ?_)
  refine tj_sub [1, 0] rfl (fx_X11_takesBack_L2_ok G     tp_F x1 M)

def fx_X11_adds_L21 (c1 : Int) (rec : Int → tp_M → tp_O) (z3 : Int) (M4 : tp_M) : tp_O :=
(if w32 z3 < 255 then
(tp_ck (w32 (z3 + 17)) 272 (tp_ck (w32 z3) 272 (tp_lm (tp_up M4 14 (w32 z3) (M4 14 (w32 (z3 + 17)))) (fun M6 =>
(tp_lt (z3 + 1) (fun x7 =>
(rec x7 M6)))))))
else
(tp_lm (tp_up M4 0 23 ((M4 0 23) - 1)) (fun M5 =>
(some (c1, M5)))))
def fx_X11_adds  (a1 : Int) (M : tp_M) : tp_O :=
(tp_lm (tp_up M 0 23 ((M 0 23) + 1)) (fun M1 =>
(if w32 (M1 0 23) ≤ 15 then
(some (a1, M1))
else
(tp_lt 0 (fun x2 =>
(tp_lp1 (fx_X11_adds_L21 a1 ) tp_F x2 M1))))))
set_option maxRecDepth 100000 in
set_option maxHeartbeats 4000000 in
theorem fx_X11_adds_L21_ok {X : tp_X} {Y : tp_Y} (G : tp_Ok X Y 34 cX11_adds 3 RX11 (some .int))  {c1 : Int}    (n : Nat) : ∀ (z3 : Int) (M4 : tp_M), tp_J X Y LM 34 3 1 1 (tp_lp1 (fx_X11_adds_L21  c1 ) n z3 M4) M4 [(0, vR X 0), (1, vI c1), (2, vI z3)] [] 21 := by
  refine tp_lp1_ok (P := fun o z3 M4 => tp_J X Y LM 34 3 1 1 (o) M4 [(0, vR X 0), (1, vI c1), (2, vI z3)] [] 21) (fun z3 M4 => tj_none) (fun rec hrec z3 M4 => ?_) n
  unfold fx_X11_adds_L21
  refine tj_iload_n (pc := 21) G 2 dX11_adds_21 rfl rfl ?_
  refine tj_sipush (pc := 22) G dX11_adds_22 rfl ?_
  refine tj_icmp_ge (pc := 25) G (tgt := 49) (a2 := w32 z3) (b2 := 255) dX11_adds_25 (by decide) rfl rfl ?_ ?_
  · refine tj_aload_n (pc := 49) G 0 dX11_adds_49 rfl rfl ?_
    refine tj_dup (pc := 50) G dX11_adds_50 rfl ?_
    refine tj_getI (pc := 51) G (k := 0) (j := 23) (j2 := 23) tk_X11 (by decide) lm_0 rfl (by decide) rfl fl_X11_200 dX11_adds_51 ?_
    refine tj_iconst (pc := 54) G dX11_adds_54 ?_
    refine tj_isub (pc := 55) G dX11_adds_55 ?_
    refine tj_putI (pc := 56) G (k := 0) (j := 23) (j2 := 23) tk_X11 (by decide) lm_0 rfl (by decide) rfl fl_X11_200 rfl rfl dX11_adds_56 (fun M5 => ?_)
    refine tj_iload_n (pc := 59) G 1 dX11_adds_59 rfl rfl ?_
    exact tj_iret (pc := 60) G dX11_adds_60
  refine tj_aload_n (pc := 28) G 0 dX11_adds_28 rfl rfl ?_
  refine tj_getR (pc := 29) G (k := 0) (j := 24) (j2 := 24) tk_X11 (by decide) lm_0 rfl (by decide) rfl fl_X11_68 dX11_adds_29 ?_
  refine tj_iload_n (pc := 32) G 2 dX11_adds_32 rfl rfl ?_
  refine tj_aload_n (pc := 33) G 0 dX11_adds_33 rfl rfl ?_
  refine tj_getR (pc := 34) G (k := 0) (j := 24) (j2 := 24) tk_X11 (by decide) lm_0 rfl (by decide) rfl fl_X11_68 dX11_adds_34 ?_
  refine tj_iload_n (pc := 37) G 2 dX11_adds_37 rfl rfl ?_
  refine tj_bipush (pc := 38) G dX11_adds_38 rfl ?_
  refine tj_iadd (pc := 40) G dX11_adds_40 ?_
  refine tj_iald (pc := 41) G (k := 14) (i2 := w32 (z3 + 17)) (n2 := 272) (by decide) lm_14 rfl rfl dX11_adds_41 ?_
  refine tj_iast (pc := 42) G (k := 14) (i2 := w32 z3) (n2 := 272) (by decide) lm_14 rfl rfl dX11_adds_42 (fun M6 => ?_)
  refine tj_iinc (pc := 43) G 2 (fun x7 => [(2, vI x7), (0, vR X 0), (1, vI c1)]) dX11_adds_43 rfl (by decide) (fun _ => rfl) (fun x7 => ?_)
  refine tj_goto (pc := 46) G (tgt := 21) dX11_adds_46 (by decide) ?_
  exact tj_sub [1, 2, 0] rfl (hrec x7 M6)
set_option maxRecDepth 100000 in
set_option maxHeartbeats 4000000 in
theorem ok_X11_adds (X : tp_X)  {a1 : Int}  {M : tp_M} {res : Int × tp_M} (h : fx_X11_adds  a1 M = some res) : tp_Ret X LM 34 1 yX11_adds (Cond.code yX11_adds cX11_adds 3 (some .int)) 1 [vR X 0, vI a1] M res := by
  refine tp_ofW (by decide +kernel) rfl rfl (by show _ ≤ 3; exact Nat.le_of_ble_eq_true rfl) h (fun Y G => ?_)
  show tp_J X Y LM 34 3 1 1 (fx_X11_adds  a1 M) M [(0, vR X 0), (1, vI a1)] [] 0
  unfold fx_X11_adds
  refine tj_aload_n (pc := 0) G 0 dX11_adds_0 rfl rfl ?_
  refine tj_dup (pc := 1) G dX11_adds_1 rfl ?_
  refine tj_getI (pc := 2) G (k := 0) (j := 23) (j2 := 23) tk_X11 (by decide) lm_0 rfl (by decide) rfl fl_X11_200 dX11_adds_2 ?_
  refine tj_iconst (pc := 5) G dX11_adds_5 ?_
  refine tj_iadd (pc := 6) G dX11_adds_6 ?_
  refine tj_putI (pc := 7) G (k := 0) (j := 23) (j2 := 23) tk_X11 (by decide) lm_0 rfl (by decide) rfl fl_X11_200 rfl rfl dX11_adds_7 (fun M1 => ?_)
  refine tj_aload_n (pc := 10) G 0 dX11_adds_10 rfl rfl ?_
  refine tj_getI (pc := 11) G (k := 0) (j := 23) (j2 := 23) tk_X11 (by decide) lm_0 rfl (by decide) rfl fl_X11_200 dX11_adds_11 ?_
  refine tj_bipush (pc := 14) G dX11_adds_14 rfl ?_
  refine tj_icmp_le (pc := 16) G (tgt := 59) (a2 := w32 (M1 0 23)) (b2 := 15) dX11_adds_16 (by decide) rfl rfl ?_ ?_
  · refine tj_iload_n (pc := 59) G 1 dX11_adds_59 rfl rfl ?_
    exact tj_iret (pc := 60) G dX11_adds_60
  refine tj_iconst (pc := 19) G dX11_adds_19 ?_
  refine tj_istore_n (pc := 20) G (fun x2 => [(2, vI x2), (0, vR X 0), (1, vI a1)]) dX11_adds_20 rfl (by decide) (fun _ => rfl) (fun x2 => ?_)
  refine tj_sub [1, 2, 0] rfl (fx_X11_adds_L21_ok G     tp_F x2 M1)

def fx_X11_counted  (a1 : Int) (M : tp_M) : tp_O :=
(if w32 a1 < 0 then
(some (a1, M))
else
(tp_bd (fx_X11_adds a1 M) (fun r1 M2 =>
(some (r1, M2)))))
set_option maxRecDepth 100000 in
set_option maxHeartbeats 4000000 in
theorem ok_X11_counted (X : tp_X)  {a1 : Int}  {M : tp_M} {res : Int × tp_M} (h : fx_X11_counted  a1 M = some res) : tp_Ret X LM 34 1 yX11_counted (Cond.code yX11_counted cX11_counted 2 (some .int)) 2 [vR X 0, vI a1] M res := by
  refine tp_ofW (by decide +kernel) rfl rfl (by show _ ≤ 2; exact Nat.le_of_ble_eq_true rfl) h (fun Y G => ?_)
  show tp_J X Y LM 34 2 2 1 (fx_X11_counted  a1 M) M [(0, vR X 0), (1, vI a1)] [] 0
  unfold fx_X11_counted
  refine tj_iload_n (pc := 0) G 1 dX11_counted_0 rfl rfl ?_
  refine tj_if_ge (pc := 1) G (tgt := 8) (a2 := w32 a1) dX11_counted_1 (by decide) rfl ?_ ?_
  · refine tj_aload_n (pc := 8) G 0 dX11_counted_8 rfl rfl ?_
    refine tj_iload_n (pc := 9) G 1 dX11_counted_9 rfl rfl ?_
    refine tj_callVi (pc := 10) G [vI a1] mf_X11_adds (k := 0) (by decide) lm_0 rfl rfl ml_X11_289 (by decide) rfl rfl (Nat.le_of_ble_eq_true rfl) (fun _ h9 => ok_X11_adds X  h9) dX11_counted_10 (fun r1 M2 => ?_)
    exact tj_iret (pc := 13) G dX11_counted_13
  refine tj_iload_n (pc := 4) G 1 dX11_counted_4 rfl rfl ?_
  refine tj_goto (pc := 5) G (tgt := 13) dX11_counted_5 (by decide) ?_
  exact tj_iret (pc := 13) G dX11_counted_13

def fx_X11_undo   (M : tp_M) : tp_O :=
(tp_lm (tp_up M 0 0 0) (fun M1 =>
(if w32 (M1 0 23) = 0 then
(some ((-1), M1))
else
(tp_lm (tp_up M1 0 23 ((M1 0 23) - 1)) (fun M2 =>
(tp_bd (fx_X11_takesBack  M2) (fun r3 M4 =>
(some (M4 0 23, M4)))))))))
set_option maxRecDepth 100000 in
set_option maxHeartbeats 4000000 in
theorem ok_X11_undo (X : tp_X)    {M : tp_M} {res : Int × tp_M} (h : fx_X11_undo   M = some res) : tp_Ret X LM 34 1 yX11_undo (Cond.code yX11_undo cX11_undo 1 (some .int)) 2 [vR X 0] M res := by
  refine tp_ofW (by decide +kernel) rfl rfl (by show _ ≤ 1; exact Nat.le_of_ble_eq_true rfl) h (fun Y G => ?_)
  show tp_J X Y LM 34 1 2 1 (fx_X11_undo   M) M [(0, vR X 0)] [] 0
  unfold fx_X11_undo
  refine tj_aload_n (pc := 0) G 0 dX11_undo_0 rfl rfl ?_
  refine tj_iconst (pc := 1) G dX11_undo_1 ?_
  refine tj_putI (pc := 2) G (k := 0) (j := 0) (j2 := 0) tk_X11 (by decide) lm_0 rfl (by decide) rfl fl_X11_3 rfl rfl dX11_undo_2 (fun M1 => ?_)
  refine tj_aload_n (pc := 5) G 0 dX11_undo_5 rfl rfl ?_
  refine tj_getI (pc := 6) G (k := 0) (j := 23) (j2 := 23) tk_X11 (by decide) lm_0 rfl (by decide) rfl fl_X11_200 dX11_undo_6 ?_
  refine tj_if_ne (pc := 9) G (tgt := 14) (a2 := w32 (M1 0 23)) dX11_undo_9 (by decide) rfl ?_ ?_
  · refine tj_aload_n (pc := 14) G 0 dX11_undo_14 rfl rfl ?_
    refine tj_dup (pc := 15) G dX11_undo_15 rfl ?_
    refine tj_getI (pc := 16) G (k := 0) (j := 23) (j2 := 23) tk_X11 (by decide) lm_0 rfl (by decide) rfl fl_X11_200 dX11_undo_16 ?_
    refine tj_iconst (pc := 19) G dX11_undo_19 ?_
    refine tj_isub (pc := 20) G dX11_undo_20 ?_
    refine tj_putI (pc := 21) G (k := 0) (j := 23) (j2 := 23) tk_X11 (by decide) lm_0 rfl (by decide) rfl fl_X11_200 rfl rfl dX11_undo_21 (fun M2 => ?_)
    refine tj_aload_n (pc := 24) G 0 dX11_undo_24 rfl rfl ?_
    refine tj_callVv (pc := 25) G [] mf_X11_takesBack (k := 0) (by decide) lm_0 rfl rfl ml_X11_292 (by decide) rfl rfl (Nat.le_of_ble_eq_true rfl) (fun _ h9 => ok_X11_takesBack X  h9) dX11_undo_25 (fun r3 M4 => ?_)
    refine tj_aload_n (pc := 28) G 0 dX11_undo_28 rfl rfl ?_
    refine tj_getI (pc := 29) G (k := 0) (j := 23) (j2 := 23) tk_X11 (by decide) lm_0 rfl (by decide) rfl fl_X11_200 dX11_undo_29 ?_
    exact tj_iret (pc := 32) G dX11_undo_32
  refine tj_iconst (pc := 12) G dX11_undo_12 ?_
  exact tj_iret (pc := 13) G dX11_undo_13

def fx_X11_comesTo  (k1 : Nat) (k1n : Nat) (a2 : Int) (M : tp_M) : tp_O :=
(if w32 a2 = 0 then
(tp_ck 8 k1n (tp_ck (w32 (8 + a2)) k1n (tp_lm (tp_up M k1 (w32 (8 + a2)) (min 9999 (w32 ((M k1 8) + 1)))) (fun M2 =>
(some (0, M2))))))
else
(tp_ck (w32 (8 + a2)) k1n (tp_ck (w32 (8 + a2)) k1n (tp_lm (tp_up M k1 (w32 (8 + a2)) ((M k1 (w32 (8 + a2))) + 1)) (fun M1 =>
(some (0, M1)))))))
set_option maxRecDepth 100000 in
set_option maxHeartbeats 4000000 in
theorem ok_X11_comesTo (X : tp_X)  {k1 : Nat} {k1n : Nat} {a2 : Int} (hk1 : tg_I LM 34 k1 k1n) {M : tp_M} {res : Int × tp_M} (h : fx_X11_comesTo  k1 k1n a2 M = some res) : tp_Ret X LM 34 0 yX11_comesTo (Cond.code yX11_comesTo cX11_comesTo 2 none) 1 [vR X k1, vI a2] M res := by
  refine tp_ofW (by decide +kernel) rfl rfl (by show _ ≤ 2; exact Nat.le_of_ble_eq_true rfl) h (fun Y G => ?_)
  show tp_J X Y LM 34 2 1 0 (fx_X11_comesTo  k1 k1n a2 M) M [(0, vR X k1), (1, vI a2)] [] 0
  unfold fx_X11_comesTo
  refine tj_aload_n (pc := 0) G 0 dX11_comesTo_0 rfl rfl ?_
  refine tj_bipush (pc := 1) G dX11_comesTo_1 rfl ?_
  refine tj_iload_n (pc := 3) G 1 dX11_comesTo_3 rfl rfl ?_
  refine tj_iadd (pc := 4) G dX11_comesTo_4 ?_
  refine tj_iload_n (pc := 5) G 1 dX11_comesTo_5 rfl rfl ?_
  refine tj_if_ne (pc := 6) G (tgt := 24) (a2 := w32 a2) dX11_comesTo_6 (by decide) rfl ?_ ?_
  · refine tj_aload_n (pc := 24) G 0 dX11_comesTo_24 rfl rfl ?_
    refine tj_bipush (pc := 25) G dX11_comesTo_25 rfl ?_
    refine tj_iload_n (pc := 27) G 1 dX11_comesTo_27 rfl rfl ?_
    refine tj_iadd (pc := 28) G dX11_comesTo_28 ?_
    refine tj_iald (pc := 29) G (k := k1) (i2 := w32 (8 + a2)) (n2 := k1n) hk1.1 hk1.2 rfl rfl dX11_comesTo_29 ?_
    refine tj_iconst (pc := 30) G dX11_comesTo_30 ?_
    refine tj_iadd (pc := 31) G dX11_comesTo_31 ?_
    refine tj_iast (pc := 32) G (k := k1) (i2 := w32 (8 + a2)) (n2 := k1n) hk1.1 hk1.2 rfl rfl dX11_comesTo_32 (fun M1 => ?_)
    exact tj_vret (pc := 33) G dX11_comesTo_33
  refine tj_sipush (pc := 9) G dX11_comesTo_9 rfl ?_
  refine tj_aload_n (pc := 12) G 0 dX11_comesTo_12 rfl rfl ?_
  refine tj_bipush (pc := 13) G dX11_comesTo_13 rfl ?_
  refine tj_iald (pc := 15) G (k := k1) (i2 := 8) (n2 := k1n) hk1.1 hk1.2 rfl rfl dX11_comesTo_15 ?_
  refine tj_iconst (pc := 16) G dX11_comesTo_16 ?_
  refine tj_iadd (pc := 17) G dX11_comesTo_17 ?_
  refine tj_min (pc := 18) G (a2 := 9999) (b2 := w32 ((M k1 8) + 1)) rfl rfl ml_X11_142 mw_min (by decide) (Nat.le_of_ble_eq_true rfl) dX11_comesTo_18 ?_
  refine tj_goto (pc := 21) G (tgt := 32) dX11_comesTo_21 (by decide) ?_
  refine tj_iast (pc := 32) G (k := k1) (i2 := w32 (8 + a2)) (n2 := k1n) hk1.1 hk1.2 rfl rfl dX11_comesTo_32 (fun M2 => ?_)
  exact tj_vret (pc := 33) G dX11_comesTo_33

def fx_X11_turnsPost  (k1 : Nat) (k1n : Nat) (a2 : Int) (M : tp_M) : tp_O :=
(tp_ck (w32 a2) k1n (tp_bd (fx_X11_goalOf a2 (M k1 (w32 a2)) M) (fun r1 M2 =>
(tp_lt r1 (fun x3 =>
(tp_ck (w32 a2) k1n (tp_bd (fx_X11_turn k1 k1n a2 M2) (fun r4 M5 =>
(tp_ck (w32 a2) 8 (tp_nz (w32 (M5 2 (w32 a2))) (tp_ck (w32 a2) k1n (tp_lm (tp_up M5 k1 (w32 a2) (x_rem ((M2 k1 (w32 a2)) + r4) (M5 2 (w32 a2)))) (fun M6 =>
(tp_ck 16 k1n (tp_ck 16 k1n (tp_lm (tp_up M6 k1 16 (min 99999 (w32 ((M6 k1 16) + 1)))) (fun M7 =>
(some (x3, M7)))))))))))))))))))
set_option maxRecDepth 100000 in
set_option maxHeartbeats 4000000 in
theorem ok_X11_turnsPost (X : tp_X)  {k1 : Nat} {k1n : Nat} {a2 : Int} (hk1 : tg_I LM 34 k1 k1n) {M : tp_M} {res : Int × tp_M} (h : fx_X11_turnsPost  k1 k1n a2 M = some res) : tp_Ret X LM 34 1 yX11_turnsPost (Cond.code yX11_turnsPost cX11_turnsPost 4 (some .int)) 5 [vR X 0, vR X k1, vI a2] M res := by
  refine tp_ofW (by decide +kernel) rfl rfl (by show _ ≤ 4; exact Nat.le_of_ble_eq_true rfl) h (fun Y G => ?_)
  show tp_J X Y LM 34 4 5 1 (fx_X11_turnsPost  k1 k1n a2 M) M [(0, vR X 0), (1, vR X k1), (2, vI a2)] [] 0
  unfold fx_X11_turnsPost
  refine tj_aload_n (pc := 0) G 0 dX11_turnsPost_0 rfl rfl ?_
  refine tj_iload_n (pc := 1) G 2 dX11_turnsPost_1 rfl rfl ?_
  refine tj_aload_n (pc := 2) G 1 dX11_turnsPost_2 rfl rfl ?_
  refine tj_iload_n (pc := 3) G 2 dX11_turnsPost_3 rfl rfl ?_
  refine tj_iald (pc := 4) G (k := k1) (i2 := w32 a2) (n2 := k1n) hk1.1 hk1.2 rfl rfl dX11_turnsPost_4 ?_
  refine tj_callVi (pc := 5) G [vI a2, vI (M k1 (w32 a2))] mf_X11_goalOf (k := 0) (by decide) lm_0 rfl rfl ml_X11_255 (by decide) rfl rfl (Nat.le_of_ble_eq_true rfl) (fun _ h9 => ok_X11_goalOf X  h9) dX11_turnsPost_5 (fun r1 M2 => ?_)
  refine tj_istore_n (pc := 8) G (fun x3 => [(3, vI x3), (0, vR X 0), (1, vR X k1), (2, vI a2)]) dX11_turnsPost_8 rfl (by decide) (fun _ => rfl) (fun x3 => ?_)
  refine tj_aload_n (pc := 9) G 2 dX11_turnsPost_9 rfl rfl ?_
  refine tj_iload_n (pc := 10) G 3 dX11_turnsPost_10 rfl rfl ?_
  refine tj_aload_n (pc := 11) G 2 dX11_turnsPost_11 rfl rfl ?_
  refine tj_iload_n (pc := 12) G 3 dX11_turnsPost_12 rfl rfl ?_
  refine tj_iald (pc := 13) G (k := k1) (i2 := w32 a2) (n2 := k1n) hk1.1 hk1.2 rfl rfl dX11_turnsPost_13 ?_
  refine tj_aload_n (pc := 14) G 1 dX11_turnsPost_14 rfl rfl ?_
  refine tj_aload_n (pc := 15) G 2 dX11_turnsPost_15 rfl rfl ?_
  refine tj_iload_n (pc := 16) G 3 dX11_turnsPost_16 rfl rfl ?_
  refine tj_callVi (pc := 17) G [vR X k1, vI a2] mf_X11_turn (k := 0) (by decide) lm_0 rfl rfl ml_X11_276 (by decide) rfl rfl (Nat.le_of_ble_eq_true rfl) (fun _ h9 => ok_X11_turn X ⟨hk1.1, hk1.2⟩ h9) dX11_turnsPost_17 (fun r4 M5 => ?_)
  refine tj_iadd (pc := 20) G dX11_turnsPost_20 ?_
  refine tj_aload_n (pc := 21) G 1 dX11_turnsPost_21 rfl rfl ?_
  refine tj_getR (pc := 22) G (k := 0) (j := 4) (j2 := 4) tk_X11 (by decide) lm_0 rfl (by decide) rfl fl_X11_31 dX11_turnsPost_22 ?_
  refine tj_iload_n (pc := 25) G 3 dX11_turnsPost_25 rfl rfl ?_
  refine tj_iald (pc := 26) G (k := 2) (i2 := w32 a2) (n2 := 8) (by decide) lm_2 rfl rfl dX11_turnsPost_26 ?_
  refine tj_irem (pc := 27) G (b2 := w32 (M5 2 (w32 a2))) dX11_turnsPost_27 rfl ?_
  refine tj_iast (pc := 28) G (k := k1) (i2 := w32 a2) (n2 := k1n) hk1.1 hk1.2 rfl rfl dX11_turnsPost_28 (fun M6 => ?_)
  refine tj_aload_n (pc := 29) G 2 dX11_turnsPost_29 rfl rfl ?_
  refine tj_bipush (pc := 30) G dX11_turnsPost_30 rfl ?_
  refine tj_ldcw (pc := 32) G (v := 99999) dX11_turnsPost_32 ct_X11_295 rfl ?_
  refine tj_aload_n (pc := 35) G 2 dX11_turnsPost_35 rfl rfl ?_
  refine tj_bipush (pc := 36) G dX11_turnsPost_36 rfl ?_
  refine tj_iald (pc := 38) G (k := k1) (i2 := 16) (n2 := k1n) hk1.1 hk1.2 rfl rfl dX11_turnsPost_38 ?_
  refine tj_iconst (pc := 39) G dX11_turnsPost_39 ?_
  refine tj_iadd (pc := 40) G dX11_turnsPost_40 ?_
  refine tj_min (pc := 41) G (a2 := 99999) (b2 := w32 ((M6 k1 16) + 1)) rfl rfl ml_X11_142 mw_min (by decide) (Nat.le_of_ble_eq_true rfl) dX11_turnsPost_41 ?_
  refine tj_iast (pc := 44) G (k := k1) (i2 := 16) (n2 := k1n) hk1.1 hk1.2 rfl rfl dX11_turnsPost_44 (fun M7 => ?_)
  refine tj_iload_n (pc := 45) G 0 dX11_turnsPost_45 rfl rfl ?_
  exact tj_iret (pc := 46) G dX11_turnsPost_46
