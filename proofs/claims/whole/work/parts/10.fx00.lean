def fx_X0_addWay  (a1 : Int) (a2 : Int) (M : tp_M) : tp_O :=
(if w32 a1 < 0 then
(some (0, M))
else
(if w32 a1 < 8 then
(tp_ck (w32 a1) 8 (tp_ck (w32 a1) 9 (tp_ck (w32 a1) 9 (tp_lm (tp_up M (42 + (w32 a1).toNat) (w32 a1) ((M (42 + (w32 a1).toNat) (w32 a1)) + 1)) (fun M2 =>
(if w32 a2 < 0 then
(some (0, M2))
else
(if w32 a2 < 8 then
(tp_ck (w32 a1) 8 (tp_ck (w32 a2) 9 (tp_ck (w32 a2) 9 (tp_lm (tp_up M2 (42 + (w32 a1).toNat) (w32 a2) ((M2 (42 + (w32 a1).toNat) (w32 a2)) - 1)) (fun M4 =>
(some (0, M4)))))))
else
(some (0, M2)))))))))
else
(some (0, M))))
set_option maxRecDepth 100000 in
set_option maxHeartbeats 4000000 in
theorem ok_X0_addWay (X : tp_X)  {a1 : Int} {a2 : Int}  {M : tp_M} {res : Int × tp_M} (h : fx_X0_addWay  a1 a2 M = some res) : tp_Ret X LC 64 0 yX0_addWay (Cond.code yX0_addWay cX0_addWay 3 none) 1 [vR X 40, vI a1, vI a2] M res := by
  refine tp_ofW (by decide +kernel) rfl rfl (by show _ ≤ 3; exact Nat.le_of_ble_eq_true rfl) h (fun Y G => ?_)
  show tp_J X Y LC 64 3 1 0 (fx_X0_addWay  a1 a2 M) M [(0, vR X 40), (1, vI a1), (2, vI a2)] [] 0
  unfold fx_X0_addWay
  refine tj_iload_n (pc := 0) G 1 dX0_addWay_0 rfl rfl ?_
  refine tj_if_lt (pc := 1) G (tgt := 10) (a2 := w32 a1) dX0_addWay_1 (by decide) rfl ?_ ?_
  · exact tj_vret (pc := 10) G dX0_addWay_10
  refine tj_iload_n (pc := 4) G 1 dX0_addWay_4 rfl rfl ?_
  refine tj_bipush (pc := 5) G dX0_addWay_5 rfl ?_
  refine tj_icmp_lt (pc := 7) G (tgt := 11) (a2 := w32 a1) (b2 := 8) dX0_addWay_7 (by decide) rfl rfl ?_ ?_
  · refine tj_aload_n (pc := 11) G 0 dX0_addWay_11 rfl rfl ?_
    refine tj_getR (pc := 12) G (k := 40) (j := 0) (j2 := 0) tk_X0 (by decide) lc_40 rfl (by decide) rfl fl_X0_11 dX0_addWay_12 ?_
    refine tj_iload_n (pc := 15) G 1 dX0_addWay_15 rfl rfl ?_
    refine tj_aald (pc := 16) G (k := 41) (i2 := w32 a1) (n2 := 8) (by decide) lc_41 rfl rfl dX0_addWay_16 (fun hr1 => ?_)
    refine tj_iload_n (pc := 17) G 1 dX0_addWay_17 rfl rfl ?_
    refine tj_dup2 (pc := 18) G dX0_addWay_18 rfl rfl ?_
    refine tj_lald (pc := 19) G (k := (42 + (w32 a1).toNat)) (i2 := w32 a1) (n2 := 9) (by have := hr1; omega) (lc_rows hr1) rfl rfl dX0_addWay_19 ?_
    refine tj_lconst (pc := 20) G (v := 1) dX0_addWay_20 rfl ?_
    refine tj_ladd (pc := 21) G dX0_addWay_21 ?_
    refine tj_last (pc := 22) G (k := (42 + (w32 a1).toNat)) (i2 := w32 a1) (n2 := 9) (by have := hr1; omega) (lc_rows hr1) rfl rfl dX0_addWay_22 (fun M2 => ?_)
    refine tj_iload_n (pc := 23) G 2 dX0_addWay_23 rfl rfl ?_
    refine tj_if_lt (pc := 24) G (tgt := 45) (a2 := w32 a2) dX0_addWay_24 (by decide) rfl ?_ ?_
    · exact tj_vret (pc := 45) G dX0_addWay_45
    refine tj_iload_n (pc := 27) G 2 dX0_addWay_27 rfl rfl ?_
    refine tj_bipush (pc := 28) G dX0_addWay_28 rfl ?_
    refine tj_icmp_ge (pc := 30) G (tgt := 45) (a2 := w32 a2) (b2 := 8) dX0_addWay_30 (by decide) rfl rfl ?_ ?_
    · exact tj_vret (pc := 45) G dX0_addWay_45
    refine tj_aload_n (pc := 33) G 0 dX0_addWay_33 rfl rfl ?_
    refine tj_getR (pc := 34) G (k := 40) (j := 0) (j2 := 0) tk_X0 (by decide) lc_40 rfl (by decide) rfl fl_X0_11 dX0_addWay_34 ?_
    refine tj_iload_n (pc := 37) G 1 dX0_addWay_37 rfl rfl ?_
    refine tj_aald (pc := 38) G (k := 41) (i2 := w32 a1) (n2 := 8) (by decide) lc_41 rfl rfl dX0_addWay_38 (fun hr3 => ?_)
    refine tj_iload_n (pc := 39) G 2 dX0_addWay_39 rfl rfl ?_
    refine tj_dup2 (pc := 40) G dX0_addWay_40 rfl rfl ?_
    refine tj_lald (pc := 41) G (k := (42 + (w32 a1).toNat)) (i2 := w32 a2) (n2 := 9) (by have := hr3; omega) (lc_rows hr3) rfl rfl dX0_addWay_41 ?_
    refine tj_lconst (pc := 42) G (v := 1) dX0_addWay_42 rfl ?_
    refine tj_lsub (pc := 43) G dX0_addWay_43 ?_
    refine tj_last (pc := 44) G (k := (42 + (w32 a1).toNat)) (i2 := w32 a2) (n2 := 9) (by have := hr3; omega) (lc_rows hr3) rfl rfl dX0_addWay_44 (fun M4 => ?_)
    exact tj_vret (pc := 45) G dX0_addWay_45
  exact tj_vret (pc := 10) G dX0_addWay_10

def fx_X0_clearCells_L10 (c1 : Int) (K31 : tp_M → tp_O) (rec : Int → tp_M → tp_O) (z5 : Int) (M6 : tp_M) : tp_O :=
(if w32 z5 ≤ 8 then
(tp_ck (w32 c1) 8 (tp_ck (w32 z5) 9 (tp_lm (tp_up M6 (42 + (w32 c1).toNat) (w32 z5) 0) (fun M8 =>
(tp_lt (z5 + 1) (fun x9 =>
(rec x9 M8)))))))
else
(K31 M6))
def fx_X0_clearCells_L2  (rec : Int → tp_M → tp_O) (z2 : Int) (M3 : tp_M) : tp_O :=
(if w32 z2 < 8 then
(tp_lt 0 (fun x4 =>
(tp_lp1 (fx_X0_clearCells_L10 z2 (fun M10 =>
(tp_lt (z2 + 1) (fun x11 =>
(rec x11 M10))))) tp_F x4 M3)))
else
(some (0, M3)))
def fx_X0_clearCells   (M : tp_M) : tp_O :=
(tp_lt 0 (fun x1 =>
(tp_lp1 (fx_X0_clearCells_L2  ) tp_F x1 M)))
set_option maxRecDepth 100000 in
set_option maxHeartbeats 4000000 in
theorem fx_X0_clearCells_L10_ok {X : tp_X} {Y : tp_Y} (G : tp_Ok X Y 64 cX0_clearCells 3 RX0 none)  {c1 : Int} {K31 : tp_M → tp_O}   (hK31 : ∀ (M9 : tp_M), tp_J X Y LC 64 3 1 0 (K31  M9) M9 [(0, vR X 40), (1, vI c1)] [] 31) (n : Nat) : ∀ (z5 : Int) (M6 : tp_M), tp_J X Y LC 64 3 1 0 (tp_lp1 (fx_X0_clearCells_L10  c1 K31) n z5 M6) M6 [(0, vR X 40), (1, vI c1), (2, vI z5)] [] 10 := by
  refine tp_lp1_ok (P := fun o z5 M6 => tp_J X Y LC 64 3 1 0 (o) M6 [(0, vR X 40), (1, vI c1), (2, vI z5)] [] 10) (fun z5 M6 => tj_none) (fun rec hrec z5 M6 => ?_) n
  unfold fx_X0_clearCells_L10
  refine tj_iload_n (pc := 10) G 2 dX0_clearCells_10 rfl rfl ?_
  refine tj_bipush (pc := 11) G dX0_clearCells_11 rfl ?_
  refine tj_icmp_gt (pc := 13) G (tgt := 31) (a2 := w32 z5) (b2 := 8) dX0_clearCells_13 (by decide) rfl rfl ?_ ?_
  · exact tj_sub [0, 1] rfl (hK31  M6)
  refine tj_aload_n (pc := 16) G 0 dX0_clearCells_16 rfl rfl ?_
  refine tj_getR (pc := 17) G (k := 40) (j := 0) (j2 := 0) tk_X0 (by decide) lc_40 rfl (by decide) rfl fl_X0_11 dX0_clearCells_17 ?_
  refine tj_iload_n (pc := 20) G 1 dX0_clearCells_20 rfl rfl ?_
  refine tj_aald (pc := 21) G (k := 41) (i2 := w32 c1) (n2 := 8) (by decide) lc_41 rfl rfl dX0_clearCells_21 (fun hr7 => ?_)
  refine tj_iload_n (pc := 22) G 2 dX0_clearCells_22 rfl rfl ?_
  refine tj_lconst (pc := 23) G (v := 0) dX0_clearCells_23 rfl ?_
  refine tj_last (pc := 24) G (k := (42 + (w32 c1).toNat)) (i2 := w32 z5) (n2 := 9) (by have := hr7; omega) (lc_rows hr7) rfl rfl dX0_clearCells_24 (fun M8 => ?_)
  refine tj_iinc (pc := 25) G 2 (fun x9 => [(2, vI x9), (0, vR X 40), (1, vI c1)]) dX0_clearCells_25 rfl (by decide) (fun _ => rfl) (fun x9 => ?_)
  refine tj_goto (pc := 28) G (tgt := 10) dX0_clearCells_28 (by decide) ?_
  exact tj_sub [1, 2, 0] rfl (hrec x9 M8)
set_option maxRecDepth 100000 in
set_option maxHeartbeats 4000000 in
theorem fx_X0_clearCells_L2_ok {X : tp_X} {Y : tp_Y} (G : tp_Ok X Y 64 cX0_clearCells 3 RX0 none)      (n : Nat) : ∀ (z2 : Int) (M3 : tp_M), tp_J X Y LC 64 3 1 0 (tp_lp1 (fx_X0_clearCells_L2   ) n z2 M3) M3 [(0, vR X 40), (1, vI z2)] [] 2 := by
  refine tp_lp1_ok (P := fun o z2 M3 => tp_J X Y LC 64 3 1 0 (o) M3 [(0, vR X 40), (1, vI z2)] [] 2) (fun z2 M3 => tj_none) (fun rec hrec z2 M3 => ?_) n
  unfold fx_X0_clearCells_L2
  refine tj_iload_n (pc := 2) G 1 dX0_clearCells_2 rfl rfl ?_
  refine tj_bipush (pc := 3) G dX0_clearCells_3 rfl ?_
  refine tj_icmp_ge (pc := 5) G (tgt := 37) (a2 := w32 z2) (b2 := 8) dX0_clearCells_5 (by decide) rfl rfl ?_ ?_
  · exact tj_vret (pc := 37) G dX0_clearCells_37
  refine tj_iconst (pc := 8) G dX0_clearCells_8 ?_
  refine tj_istore_n (pc := 9) G (fun x4 => [(2, vI x4), (0, vR X 40), (1, vI z2)]) dX0_clearCells_9 rfl (by decide) (fun _ => rfl) (fun x4 => ?_)
  refine tj_sub [1, 2, 0] rfl (fx_X0_clearCells_L10_ok G    (fun M10 => ?_) tp_F x4 M3)
  refine tj_iinc (pc := 31) G 1 (fun x11 => [(1, vI x11), (0, vR X 40)]) dX0_clearCells_31 rfl (by decide) (fun _ => rfl) (fun x11 => ?_)
  refine tj_goto (pc := 34) G (tgt := 2) dX0_clearCells_34 (by decide) ?_
  exact tj_sub [1, 0] rfl (hrec x11 M10)
set_option maxRecDepth 100000 in
set_option maxHeartbeats 4000000 in
theorem ok_X0_clearCells (X : tp_X)    {M : tp_M} {res : Int × tp_M} (h : fx_X0_clearCells   M = some res) : tp_Ret X LC 64 0 yX0_clearCells (Cond.code yX0_clearCells cX0_clearCells 3 none) 1 [vR X 40] M res := by
  refine tp_ofW (by decide +kernel) rfl rfl (by show _ ≤ 3; exact Nat.le_of_ble_eq_true rfl) h (fun Y G => ?_)
  show tp_J X Y LC 64 3 1 0 (fx_X0_clearCells   M) M [(0, vR X 40)] [] 0
  unfold fx_X0_clearCells
  refine tj_iconst (pc := 0) G dX0_clearCells_0 ?_
  refine tj_istore_n (pc := 1) G (fun x1 => [(1, vI x1), (0, vR X 40)]) dX0_clearCells_1 rfl (by decide) (fun _ => rfl) (fun x1 => ?_)
  refine tj_sub [1, 0] rfl (fx_X0_clearCells_L2_ok G     tp_F x1 M)

def fx_X0_eliminate_L63 (c1 : Int) (c2 : Int) (c4 : Int) (c5 : Int) (c7 : Int) (K122 : tp_M → tp_O) (rec : Int → tp_M → tp_O) (z12 : Int) (M13 : tp_M) : tp_O :=
(if w32 z12 ≤ w32 c1 then
(tp_ck (w32 c7) 8 (tp_ck (w32 c7) 8 (tp_ck (w32 z12) 9 (tp_ck (w32 c7) 8 (tp_ck (w32 c4) 9 (tp_ck (w32 c4) 8 (tp_ck (w32 z12) 9 (tp_nz (w64 c2) (tp_ck (w32 z12) 9 (tp_lm (tp_up M13 (42 + (w32 c7).toNat) (w32 z12) (x_ldiv ((c5 * (M13 (42 + (w32 c7).toNat) (w32 z12))) - ((M13 (42 + (w32 c7).toNat) (w32 c4)) * (M13 (42 + (w32 c4).toNat) (w32 z12)))) c2)) (fun M18 =>
(tp_lt (z12 + 1) (fun x19 =>
(rec x19 M18))))))))))))))
else
(K122 M13))
def fx_X0_eliminate_L51 (c1 : Int) (c2 : Int) (c4 : Int) (c5 : Int) (K128 : tp_M → tp_O) (rec : Int → tp_M → tp_O) (z9 : Int) (M10 : tp_M) : tp_O :=
(if w32 z9 < w32 c1 then
(tp_lt (c4 + 1) (fun x11 =>
(tp_lp1 (fx_X0_eliminate_L63 c1 c2 c4 c5 z9 (fun M20 =>
(tp_lt (z9 + 1) (fun x21 =>
(rec x21 M20))))) tp_F x11 M10)))
else
(K128 M10))
def fx_X0_eliminate_L18 (c1 : Int) (rec : Int → Int → tp_M → tp_O) (z3 z4 : Int) (M5 : tp_M) : tp_O :=
(if w32 z4 < w32 c1 then
(tp_ck (w32 z4) 8 (tp_ck (w32 z4) 9 (tp_lt (M5 (42 + (w32 z4).toNat) (w32 z4)) (fun x7 =>
(if x_lcmp x7 0 = 0 then
(some (0, M5))
else
(tp_lt (z4 + 1) (fun x8 =>
(tp_lp1 (fx_X0_eliminate_L51 c1 z3 z4 x7 (fun M22 =>
(tp_lt x7 (fun x23 =>
(tp_lt (z4 + 1) (fun x24 =>
(rec x23 x24 M22))))))) tp_F x8 M5))))))))
else
(some (1, M5)))
def fx_X0_eliminate  (a1 : Int) (M : tp_M) : tp_O :=
(if w32 a1 < 1 then
(some (0, M))
else
(if w32 a1 < 8 then
(tp_lt 1 (fun x1 =>
(tp_lt 0 (fun x2 =>
(tp_lp2 (fx_X0_eliminate_L18 a1 ) tp_F x1 x2 M)))))
else
(some (0, M))))
set_option maxRecDepth 100000 in
set_option maxHeartbeats 4000000 in
theorem fx_X0_eliminate_L63_ok {X : tp_X} {Y : tp_Y} (G : tp_Ok X Y 64 cX0_eliminate 9 RX0 (some .boolean))  {c1 : Int} {c2 : Int} {c4 : Int} {c5 : Int} {c7 : Int} {K122 : tp_M → tp_O}   (hK122 : ∀ (M9 : tp_M), tp_J X Y LC 64 9 1 1 (K122  M9) M9 [(0, vR X 40), (1, vI c1), (2, vL c2), (4, vI c4), (5, vL c5), (7, vI c7)] [] 122) (n : Nat) : ∀ (z12 : Int) (M13 : tp_M), tp_J X Y LC 64 9 1 1 (tp_lp1 (fx_X0_eliminate_L63  c1 c2 c4 c5 c7 K122) n z12 M13) M13 [(0, vR X 40), (1, vI c1), (2, vL c2), (4, vI c4), (5, vL c5), (7, vI c7), (8, vI z12)] [] 63 := by
  refine tp_lp1_ok (P := fun o z12 M13 => tp_J X Y LC 64 9 1 1 (o) M13 [(0, vR X 40), (1, vI c1), (2, vL c2), (4, vI c4), (5, vL c5), (7, vI c7), (8, vI z12)] [] 63) (fun z12 M13 => tj_none) (fun rec hrec z12 M13 => ?_) n
  unfold fx_X0_eliminate_L63
  refine tj_iload (pc := 63) G 6 dX0_eliminate_63 rfl ?_
  refine tj_iload_n (pc := 65) G 1 dX0_eliminate_65 rfl rfl ?_
  refine tj_icmp_gt (pc := 66) G (tgt := 122) (a2 := w32 z12) (b2 := w32 c1) dX0_eliminate_66 (by decide) rfl rfl ?_ ?_
  · exact tj_sub [0, 1, 2, 3, 4, 5] rfl (hK122  M13)
  refine tj_aload_n (pc := 69) G 0 dX0_eliminate_69 rfl rfl ?_
  refine tj_getR (pc := 70) G (k := 40) (j := 0) (j2 := 0) tk_X0 (by decide) lc_40 rfl (by decide) rfl fl_X0_11 dX0_eliminate_70 ?_
  refine tj_iload (pc := 73) G 5 dX0_eliminate_73 rfl ?_
  refine tj_aald (pc := 75) G (k := 41) (i2 := w32 c7) (n2 := 8) (by decide) lc_41 rfl rfl dX0_eliminate_75 (fun hr14 => ?_)
  refine tj_iload (pc := 76) G 6 dX0_eliminate_76 rfl ?_
  refine tj_lload (pc := 78) G 4 dX0_eliminate_78 rfl ?_
  refine tj_aload_n (pc := 80) G 0 dX0_eliminate_80 rfl rfl ?_
  refine tj_getR (pc := 81) G (k := 40) (j := 0) (j2 := 0) tk_X0 (by decide) lc_40 rfl (by decide) rfl fl_X0_11 dX0_eliminate_81 ?_
  refine tj_iload (pc := 84) G 5 dX0_eliminate_84 rfl ?_
  refine tj_aald (pc := 86) G (k := 41) (i2 := w32 c7) (n2 := 8) (by decide) lc_41 rfl rfl dX0_eliminate_86 (fun hr15 => ?_)
  refine tj_iload (pc := 87) G 6 dX0_eliminate_87 rfl ?_
  refine tj_lald (pc := 89) G (k := (42 + (w32 c7).toNat)) (i2 := w32 z12) (n2 := 9) (by have := hr15; omega) (lc_rows hr15) rfl rfl dX0_eliminate_89 ?_
  refine tj_lmul (pc := 90) G dX0_eliminate_90 ?_
  refine tj_aload_n (pc := 91) G 0 dX0_eliminate_91 rfl rfl ?_
  refine tj_getR (pc := 92) G (k := 40) (j := 0) (j2 := 0) tk_X0 (by decide) lc_40 rfl (by decide) rfl fl_X0_11 dX0_eliminate_92 ?_
  refine tj_iload (pc := 95) G 5 dX0_eliminate_95 rfl ?_
  refine tj_aald (pc := 97) G (k := 41) (i2 := w32 c7) (n2 := 8) (by decide) lc_41 rfl rfl dX0_eliminate_97 (fun hr16 => ?_)
  refine tj_iload (pc := 98) G 3 dX0_eliminate_98 rfl ?_
  refine tj_lald (pc := 100) G (k := (42 + (w32 c7).toNat)) (i2 := w32 c4) (n2 := 9) (by have := hr16; omega) (lc_rows hr16) rfl rfl dX0_eliminate_100 ?_
  refine tj_aload_n (pc := 101) G 0 dX0_eliminate_101 rfl rfl ?_
  refine tj_getR (pc := 102) G (k := 40) (j := 0) (j2 := 0) tk_X0 (by decide) lc_40 rfl (by decide) rfl fl_X0_11 dX0_eliminate_102 ?_
  refine tj_iload (pc := 105) G 3 dX0_eliminate_105 rfl ?_
  refine tj_aald (pc := 107) G (k := 41) (i2 := w32 c4) (n2 := 8) (by decide) lc_41 rfl rfl dX0_eliminate_107 (fun hr17 => ?_)
  refine tj_iload (pc := 108) G 6 dX0_eliminate_108 rfl ?_
  refine tj_lald (pc := 110) G (k := (42 + (w32 c4).toNat)) (i2 := w32 z12) (n2 := 9) (by have := hr17; omega) (lc_rows hr17) rfl rfl dX0_eliminate_110 ?_
  refine tj_lmul (pc := 111) G dX0_eliminate_111 ?_
  refine tj_lsub (pc := 112) G dX0_eliminate_112 ?_
  refine tj_lload_n (pc := 113) G 2 dX0_eliminate_113 rfl rfl ?_
  refine tj_ldiv (pc := 114) G (b2 := w64 c2) dX0_eliminate_114 rfl ?_
  refine tj_last (pc := 115) G (k := (42 + (w32 c7).toNat)) (i2 := w32 z12) (n2 := 9) (by have := hr14; omega) (lc_rows hr14) rfl rfl dX0_eliminate_115 (fun M18 => ?_)
  refine tj_iinc (pc := 116) G 6 (fun x19 => [(8, vI x19), (0, vR X 40), (1, vI c1), (2, vL c2), (4, vI c4), (5, vL c5), (7, vI c7)]) dX0_eliminate_116 rfl (by decide) (fun _ => rfl) (fun x19 => ?_)
  refine tj_goto (pc := 119) G (tgt := 63) dX0_eliminate_119 (by decide) ?_
  exact tj_sub [1, 2, 3, 4, 5, 6, 0] rfl (hrec x19 M18)
set_option maxRecDepth 100000 in
set_option maxHeartbeats 4000000 in
theorem fx_X0_eliminate_L51_ok {X : tp_X} {Y : tp_Y} (G : tp_Ok X Y 64 cX0_eliminate 9 RX0 (some .boolean))  {c1 : Int} {c2 : Int} {c4 : Int} {c5 : Int} {K128 : tp_M → tp_O}   (hK128 : ∀ (M9 : tp_M), tp_J X Y LC 64 9 1 1 (K128  M9) M9 [(0, vR X 40), (1, vI c1), (4, vI c4), (5, vL c5)] [] 128) (n : Nat) : ∀ (z9 : Int) (M10 : tp_M), tp_J X Y LC 64 9 1 1 (tp_lp1 (fx_X0_eliminate_L51  c1 c2 c4 c5 K128) n z9 M10) M10 [(0, vR X 40), (1, vI c1), (2, vL c2), (4, vI c4), (5, vL c5), (7, vI z9)] [] 51 := by
  refine tp_lp1_ok (P := fun o z9 M10 => tp_J X Y LC 64 9 1 1 (o) M10 [(0, vR X 40), (1, vI c1), (2, vL c2), (4, vI c4), (5, vL c5), (7, vI z9)] [] 51) (fun z9 M10 => tj_none) (fun rec hrec z9 M10 => ?_) n
  unfold fx_X0_eliminate_L51
  refine tj_iload (pc := 51) G 5 dX0_eliminate_51 rfl ?_
  refine tj_iload_n (pc := 53) G 1 dX0_eliminate_53 rfl rfl ?_
  refine tj_icmp_ge (pc := 54) G (tgt := 128) (a2 := w32 z9) (b2 := w32 c1) dX0_eliminate_54 (by decide) rfl rfl ?_ ?_
  · exact tj_sub [0, 1, 3, 4] rfl (hK128  M10)
  refine tj_iload (pc := 57) G 3 dX0_eliminate_57 rfl ?_
  refine tj_iconst (pc := 59) G dX0_eliminate_59 ?_
  refine tj_iadd (pc := 60) G dX0_eliminate_60 ?_
  refine tj_istore (pc := 61) G (fun x11 => [(8, vI x11), (0, vR X 40), (1, vI c1), (2, vL c2), (4, vI c4), (5, vL c5), (7, vI z9)]) dX0_eliminate_61 (by decide) (fun _ => rfl) (fun x11 => ?_)
  refine tj_sub [1, 2, 3, 4, 5, 6, 0] rfl (fx_X0_eliminate_L63_ok G    (fun M20 => ?_) tp_F x11 M10)
  refine tj_iinc (pc := 122) G 5 (fun x21 => [(7, vI x21), (0, vR X 40), (1, vI c1), (2, vL c2), (4, vI c4), (5, vL c5)]) dX0_eliminate_122 rfl (by decide) (fun _ => rfl) (fun x21 => ?_)
  refine tj_goto (pc := 125) G (tgt := 51) dX0_eliminate_125 (by decide) ?_
  exact tj_sub [1, 2, 3, 4, 5, 0] rfl (hrec x21 M20)
set_option maxRecDepth 100000 in
set_option maxHeartbeats 4000000 in
theorem fx_X0_eliminate_L18_ok {X : tp_X} {Y : tp_Y} (G : tp_Ok X Y 64 cX0_eliminate 9 RX0 (some .boolean))  {c1 : Int}    (n : Nat) : ∀ (z3 z4 : Int) (M5 : tp_M), tp_J X Y LC 64 9 1 1 (tp_lp2 (fx_X0_eliminate_L18  c1 ) n z3 z4 M5) M5 [(0, vR X 40), (1, vI c1), (2, vL z3), (4, vI z4)] [] 18 := by
  refine tp_lp2_ok (P := fun o z3 z4 M5 => tp_J X Y LC 64 9 1 1 (o) M5 [(0, vR X 40), (1, vI c1), (2, vL z3), (4, vI z4)] [] 18) (fun z3 z4 M5 => tj_none) (fun rec hrec z3 z4 M5 => ?_) n
  unfold fx_X0_eliminate_L18
  refine tj_iload (pc := 18) G 3 dX0_eliminate_18 rfl ?_
  refine tj_iload_n (pc := 20) G 1 dX0_eliminate_20 rfl rfl ?_
  refine tj_icmp_ge (pc := 21) G (tgt := 137) (a2 := w32 z4) (b2 := w32 c1) dX0_eliminate_21 (by decide) rfl rfl ?_ ?_
  · refine tj_iconst (pc := 137) G dX0_eliminate_137 ?_
    exact tj_zret (pc := 138) G (by decide) dX0_eliminate_138
  refine tj_aload_n (pc := 24) G 0 dX0_eliminate_24 rfl rfl ?_
  refine tj_getR (pc := 25) G (k := 40) (j := 0) (j2 := 0) tk_X0 (by decide) lc_40 rfl (by decide) rfl fl_X0_11 dX0_eliminate_25 ?_
  refine tj_iload (pc := 28) G 3 dX0_eliminate_28 rfl ?_
  refine tj_aald (pc := 30) G (k := 41) (i2 := w32 z4) (n2 := 8) (by decide) lc_41 rfl rfl dX0_eliminate_30 (fun hr6 => ?_)
  refine tj_iload (pc := 31) G 3 dX0_eliminate_31 rfl ?_
  refine tj_lald (pc := 33) G (k := (42 + (w32 z4).toNat)) (i2 := w32 z4) (n2 := 9) (by have := hr6; omega) (lc_rows hr6) rfl rfl dX0_eliminate_33 ?_
  refine tj_lstore (pc := 34) G (fun x7 => [(5, vL x7), (0, vR X 40), (1, vI c1), (2, vL z3), (4, vI z4)]) dX0_eliminate_34 (by decide) (fun _ => rfl) (fun x7 => ?_)
  refine tj_lload (pc := 36) G 0 dX0_eliminate_36 rfl ?_
  refine tj_lconst (pc := 38) G (v := 0) dX0_eliminate_38 rfl ?_
  refine tj_lcmp (pc := 39) G dX0_eliminate_39 ?_
  refine tj_if_ne (pc := 40) G (tgt := 45) (a2 := x_lcmp x7 0) dX0_eliminate_40 (by decide) (w32_lcmp _ _) ?_ ?_
  · refine tj_iload (pc := 45) G 4 dX0_eliminate_45 rfl ?_
    refine tj_iconst (pc := 47) G dX0_eliminate_47 ?_
    refine tj_iadd (pc := 48) G dX0_eliminate_48 ?_
    refine tj_istore (pc := 49) G (fun x8 => [(7, vI x8), (5, vL x7), (0, vR X 40), (1, vI c1), (2, vL z3), (4, vI z4)]) dX0_eliminate_49 (by decide) (fun _ => rfl) (fun x8 => ?_)
    refine tj_sub [2, 3, 4, 5, 1, 0] rfl (fx_X0_eliminate_L51_ok G    (fun M22 => ?_) tp_F x8 M5)
    refine tj_lload (pc := 128) G 3 dX0_eliminate_128 rfl ?_
    refine tj_lstore_n (pc := 130) G (fun x23 => [(2, vL x23), (0, vR X 40), (1, vI c1), (4, vI z4), (5, vL x7)]) dX0_eliminate_130 rfl (by decide) (fun _ => rfl) (fun x23 => ?_)
    refine tj_iinc (pc := 131) G 3 (fun x24 => [(4, vI x24), (2, vL x23), (0, vR X 40), (1, vI c1), (5, vL x7)]) dX0_eliminate_131 rfl (by decide) (fun _ => rfl) (fun x24 => ?_)
    refine tj_goto (pc := 134) G (tgt := 18) dX0_eliminate_134 (by decide) ?_
    exact tj_sub [2, 3, 1, 0] rfl (hrec x23 x24 M22)
  refine tj_iconst (pc := 43) G dX0_eliminate_43 ?_
  exact tj_zret (pc := 44) G (by decide) dX0_eliminate_44
set_option maxRecDepth 100000 in
set_option maxHeartbeats 4000000 in
theorem ok_X0_eliminate (X : tp_X)  {a1 : Int}  {M : tp_M} {res : Int × tp_M} (h : fx_X0_eliminate  a1 M = some res) : tp_Ret X LC 64 1 yX0_eliminate (Cond.code yX0_eliminate cX0_eliminate 9 (some .boolean)) 1 [vR X 40, vI a1] M res := by
  refine tp_ofW (by decide +kernel) rfl rfl (by show _ ≤ 9; exact Nat.le_of_ble_eq_true rfl) h (fun Y G => ?_)
  show tp_J X Y LC 64 9 1 1 (fx_X0_eliminate  a1 M) M [(0, vR X 40), (1, vI a1)] [] 0
  unfold fx_X0_eliminate
  refine tj_iload_n (pc := 0) G 1 dX0_eliminate_0 rfl rfl ?_
  refine tj_iconst (pc := 1) G dX0_eliminate_1 ?_
  refine tj_icmp_lt (pc := 2) G (tgt := 11) (a2 := w32 a1) (b2 := 1) dX0_eliminate_2 (by decide) rfl rfl ?_ ?_
  · refine tj_iconst (pc := 11) G dX0_eliminate_11 ?_
    exact tj_zret (pc := 12) G (by decide) dX0_eliminate_12
  refine tj_iload_n (pc := 5) G 1 dX0_eliminate_5 rfl rfl ?_
  refine tj_bipush (pc := 6) G dX0_eliminate_6 rfl ?_
  refine tj_icmp_lt (pc := 8) G (tgt := 13) (a2 := w32 a1) (b2 := 8) dX0_eliminate_8 (by decide) rfl rfl ?_ ?_
  · refine tj_lconst (pc := 13) G (v := 1) dX0_eliminate_13 rfl ?_
    refine tj_lstore_n (pc := 14) G (fun x1 => [(2, vL x1), (0, vR X 40), (1, vI a1)]) dX0_eliminate_14 rfl (by decide) (fun _ => rfl) (fun x1 => ?_)
    refine tj_iconst (pc := 15) G dX0_eliminate_15 ?_
    refine tj_istore (pc := 16) G (fun x2 => [(4, vI x2), (2, vL x1), (0, vR X 40), (1, vI a1)]) dX0_eliminate_16 (by decide) (fun _ => rfl) (fun x2 => ?_)
    refine tj_sub [2, 3, 1, 0] rfl (fx_X0_eliminate_L18_ok G     tp_F x1 x2 M)
  refine tj_iconst (pc := 11) G dX0_eliminate_11 ?_
  exact tj_zret (pc := 12) G (by decide) dX0_eliminate_12

def fx_X4_crossings  (t : Nat) (M : tp_M) : tp_O :=
(some (M t 4, M))
set_option maxRecDepth 100000 in
set_option maxHeartbeats 4000000 in
theorem ok_X4_crossings (X : tp_X)  {t : Nat} (ht : tg_Paths LC 64 t) {M : tp_M} {res : Int × tp_M} (h : fx_X4_crossings  t M = some res) : tp_Ret X LC 64 1 yX4_crossings (Cond.code yX4_crossings cX4_crossings 1 (some .int)) 1 [vR X t] M res := by
  refine tp_ofW (by decide +kernel) rfl rfl (by show _ ≤ 1; exact Nat.le_of_ble_eq_true rfl) h (fun Y G => ?_)
  show tp_J X Y LC 64 1 1 1 (fx_X4_crossings  t M) M [(0, vR X t)] [] 0
  unfold fx_X4_crossings
  refine tj_aload_n (pc := 0) G 0 dX4_crossings_0 rfl rfl ?_
  refine tj_getI (pc := 1) G (k := t) (j := 4) (j2 := 4) tk_X4 (tg_Paths_l0 ht) ht.2.1 rfl (by decide) rfl fl_X4_27 dX4_crossings_1 ?_
  exact tj_iret (pc := 4) G dX4_crossings_4

def fx_X4_hasPost  (t : Nat) (a1 : Int) (M : tp_M) : tp_O :=
(if w32 a1 < 1 then
(some (0, M))
else
(if w32 a1 < w32 (M t 4) then
(some (1, M))
else
(some (0, M))))
set_option maxRecDepth 100000 in
set_option maxHeartbeats 4000000 in
theorem ok_X4_hasPost (X : tp_X)  {t : Nat} {a1 : Int} (ht : tg_Paths LC 64 t) {M : tp_M} {res : Int × tp_M} (h : fx_X4_hasPost  t a1 M = some res) : tp_Ret X LC 64 1 yX4_hasPost (Cond.code yX4_hasPost cX4_hasPost 2 (some .boolean)) 1 [vR X t, vI a1] M res := by
  refine tp_ofW (by decide +kernel) rfl rfl (by show _ ≤ 2; exact Nat.le_of_ble_eq_true rfl) h (fun Y G => ?_)
  show tp_J X Y LC 64 2 1 1 (fx_X4_hasPost  t a1 M) M [(0, vR X t), (1, vI a1)] [] 0
  unfold fx_X4_hasPost
  refine tj_iload_n (pc := 0) G 1 dX4_hasPost_0 rfl rfl ?_
  refine tj_iconst (pc := 1) G dX4_hasPost_1 ?_
  refine tj_icmp_lt (pc := 2) G (tgt := 17) (a2 := w32 a1) (b2 := 1) dX4_hasPost_2 (by decide) rfl rfl ?_ ?_
  · refine tj_iconst (pc := 17) G dX4_hasPost_17 ?_
    exact tj_zret (pc := 18) G (by decide) dX4_hasPost_18
  refine tj_iload_n (pc := 5) G 1 dX4_hasPost_5 rfl rfl ?_
  refine tj_aload_n (pc := 6) G 0 dX4_hasPost_6 rfl rfl ?_
  refine tj_getI (pc := 7) G (k := t) (j := 4) (j2 := 4) tk_X4 (tg_Paths_l0 ht) ht.2.1 rfl (by decide) rfl fl_X4_27 dX4_hasPost_7 ?_
  refine tj_icmp_ge (pc := 10) G (tgt := 17) (a2 := w32 a1) (b2 := w32 (M t 4)) dX4_hasPost_10 (by decide) rfl rfl ?_ ?_
  · refine tj_iconst (pc := 17) G dX4_hasPost_17 ?_
    exact tj_zret (pc := 18) G (by decide) dX4_hasPost_18
  refine tj_iconst (pc := 13) G dX4_hasPost_13 ?_
  refine tj_goto (pc := 14) G (tgt := 18) dX4_hasPost_14 (by decide) ?_
  exact tj_zret (pc := 18) G (by decide) dX4_hasPost_18

def fx_X4_degree  (t : Nat) (a1 : Int) (M : tp_M) : tp_O :=
(tp_bd (fx_X4_hasPost t a1 M) (fun r1 M2 =>
(if w32 r1 = 0 then
(some (0, M2))
else
(tp_ck (w32 a1) 8 (some (M2 (t + 1) (w32 a1), M2))))))
set_option maxRecDepth 100000 in
set_option maxHeartbeats 4000000 in
theorem ok_X4_degree (X : tp_X)  {t : Nat} {a1 : Int} (ht : tg_Paths LC 64 t) {M : tp_M} {res : Int × tp_M} (h : fx_X4_degree  t a1 M = some res) : tp_Ret X LC 64 1 yX4_degree (Cond.code yX4_degree cX4_degree 2 (some .int)) 2 [vR X t, vI a1] M res := by
  refine tp_ofW (by decide +kernel) rfl rfl (by show _ ≤ 2; exact Nat.le_of_ble_eq_true rfl) h (fun Y G => ?_)
  show tp_J X Y LC 64 2 2 1 (fx_X4_degree  t a1 M) M [(0, vR X t), (1, vI a1)] [] 0
  unfold fx_X4_degree
  refine tj_aload_n (pc := 0) G 0 dX4_degree_0 rfl rfl ?_
  refine tj_iload_n (pc := 1) G 1 dX4_degree_1 rfl rfl ?_
  refine tj_callVi (pc := 2) G [vI a1] mf_X4_hasPost (k := t) (tg_Paths_l0 ht) ht.2.1 rfl rfl ml_X4_61 (by decide) rfl rfl (Nat.le_of_ble_eq_true rfl) (fun _ h9 => ok_X4_hasPost X ht h9) dX4_degree_2 (fun r1 M2 => ?_)
  refine tj_if_eq (pc := 5) G (tgt := 17) (a2 := w32 r1) dX4_degree_5 (by decide) rfl ?_ ?_
  · refine tj_iconst (pc := 17) G dX4_degree_17 ?_
    exact tj_iret (pc := 18) G dX4_degree_18
  refine tj_aload_n (pc := 8) G 0 dX4_degree_8 rfl rfl ?_
  refine tj_getR (pc := 9) G (k := t) (j := 0) (j2 := 0) tk_X4 (tg_Paths_l0 ht) ht.2.1 rfl (by decide) rfl fl_X4_9 dX4_degree_9 ?_
  refine tj_iload_n (pc := 12) G 1 dX4_degree_12 rfl rfl ?_
  refine tj_iald (pc := 13) G (k := (t + 1)) (i2 := w32 a1) (n2 := 8) (tg_Paths_l1 ht) ht.2.2.1 rfl rfl dX4_degree_13 ?_
  refine tj_goto (pc := 14) G (tgt := 18) dX4_degree_14 (by decide) ?_
  exact tj_iret (pc := 18) G dX4_degree_18

def fx_X4_hasWay  (t : Nat) (a1 : Int) (a2 : Int) (M : tp_M) : tp_O :=
(if w32 a1 < 1 then
(some (0, M))
else
(if w32 a1 < w32 (M t 4) then
(if w32 a2 < 0 then
(some (0, M))
else
(tp_ck (w32 a1) 8 (if w32 a2 < w32 (M (t + 1) (w32 a1)) then
(some (1, M))
else
(some (0, M)))))
else
(some (0, M))))
set_option maxRecDepth 100000 in
set_option maxHeartbeats 4000000 in
theorem ok_X4_hasWay (X : tp_X)  {t : Nat} {a1 : Int} {a2 : Int} (ht : tg_Paths LC 64 t) {M : tp_M} {res : Int × tp_M} (h : fx_X4_hasWay  t a1 a2 M = some res) : tp_Ret X LC 64 1 yX4_hasWay (Cond.code yX4_hasWay cX4_hasWay 3 (some .boolean)) 1 [vR X t, vI a1, vI a2] M res := by
  refine tp_ofW (by decide +kernel) rfl rfl (by show _ ≤ 3; exact Nat.le_of_ble_eq_true rfl) h (fun Y G => ?_)
  show tp_J X Y LC 64 3 1 1 (fx_X4_hasWay  t a1 a2 M) M [(0, vR X t), (1, vI a1), (2, vI a2)] [] 0
  unfold fx_X4_hasWay
  refine tj_iload_n (pc := 0) G 1 dX4_hasWay_0 rfl rfl ?_
  refine tj_iconst (pc := 1) G dX4_hasWay_1 ?_
  refine tj_icmp_lt (pc := 2) G (tgt := 31) (a2 := w32 a1) (b2 := 1) dX4_hasWay_2 (by decide) rfl rfl ?_ ?_
  · refine tj_iconst (pc := 31) G dX4_hasWay_31 ?_
    exact tj_zret (pc := 32) G (by decide) dX4_hasWay_32
  refine tj_iload_n (pc := 5) G 1 dX4_hasWay_5 rfl rfl ?_
  refine tj_aload_n (pc := 6) G 0 dX4_hasWay_6 rfl rfl ?_
  refine tj_getI (pc := 7) G (k := t) (j := 4) (j2 := 4) tk_X4 (tg_Paths_l0 ht) ht.2.1 rfl (by decide) rfl fl_X4_27 dX4_hasWay_7 ?_
  refine tj_icmp_ge (pc := 10) G (tgt := 31) (a2 := w32 a1) (b2 := w32 (M t 4)) dX4_hasWay_10 (by decide) rfl rfl ?_ ?_
  · refine tj_iconst (pc := 31) G dX4_hasWay_31 ?_
    exact tj_zret (pc := 32) G (by decide) dX4_hasWay_32
  refine tj_iload_n (pc := 13) G 2 dX4_hasWay_13 rfl rfl ?_
  refine tj_if_lt (pc := 14) G (tgt := 31) (a2 := w32 a2) dX4_hasWay_14 (by decide) rfl ?_ ?_
  · refine tj_iconst (pc := 31) G dX4_hasWay_31 ?_
    exact tj_zret (pc := 32) G (by decide) dX4_hasWay_32
  refine tj_iload_n (pc := 17) G 2 dX4_hasWay_17 rfl rfl ?_
  refine tj_aload_n (pc := 18) G 0 dX4_hasWay_18 rfl rfl ?_
  refine tj_getR (pc := 19) G (k := t) (j := 0) (j2 := 0) tk_X4 (tg_Paths_l0 ht) ht.2.1 rfl (by decide) rfl fl_X4_9 dX4_hasWay_19 ?_
  refine tj_iload_n (pc := 22) G 1 dX4_hasWay_22 rfl rfl ?_
  refine tj_iald (pc := 23) G (k := (t + 1)) (i2 := w32 a1) (n2 := 8) (tg_Paths_l1 ht) ht.2.2.1 rfl rfl dX4_hasWay_23 ?_
  refine tj_icmp_ge (pc := 24) G (tgt := 31) (a2 := w32 a2) (b2 := w32 (M (t + 1) (w32 a1))) dX4_hasWay_24 (by decide) rfl rfl ?_ ?_
  · refine tj_iconst (pc := 31) G dX4_hasWay_31 ?_
    exact tj_zret (pc := 32) G (by decide) dX4_hasWay_32
  refine tj_iconst (pc := 27) G dX4_hasWay_27 ?_
  refine tj_goto (pc := 28) G (tgt := 32) dX4_hasWay_28 (by decide) ?_
  exact tj_zret (pc := 32) G (by decide) dX4_hasWay_32

def fx_X4_goal  (t : Nat) (a1 : Int) (a2 : Int) (M : tp_M) : tp_O :=
(tp_bd (fx_X4_hasWay t a1 a2 M) (fun r1 M2 =>
(if w32 r1 = 0 then
(some (0, M2))
else
(tp_ck (w32 ((a1 * 4) + a2)) 32 (some (M2 (t + 2) (w32 ((a1 * 4) + a2)), M2))))))
set_option maxRecDepth 100000 in
set_option maxHeartbeats 4000000 in
theorem ok_X4_goal (X : tp_X)  {t : Nat} {a1 : Int} {a2 : Int} (ht : tg_Paths LC 64 t) {M : tp_M} {res : Int × tp_M} (h : fx_X4_goal  t a1 a2 M = some res) : tp_Ret X LC 64 1 yX4_goal (Cond.code yX4_goal cX4_goal 3 (some .int)) 2 [vR X t, vI a1, vI a2] M res := by
  refine tp_ofW (by decide +kernel) rfl rfl (by show _ ≤ 3; exact Nat.le_of_ble_eq_true rfl) h (fun Y G => ?_)
  show tp_J X Y LC 64 3 2 1 (fx_X4_goal  t a1 a2 M) M [(0, vR X t), (1, vI a1), (2, vI a2)] [] 0
  unfold fx_X4_goal
  refine tj_aload_n (pc := 0) G 0 dX4_goal_0 rfl rfl ?_
  refine tj_iload_n (pc := 1) G 1 dX4_goal_1 rfl rfl ?_
  refine tj_iload_n (pc := 2) G 2 dX4_goal_2 rfl rfl ?_
  refine tj_callVi (pc := 3) G [vI a1, vI a2] mf_X4_hasWay (k := t) (tg_Paths_l0 ht) ht.2.1 rfl rfl ml_X4_65 (by decide) rfl rfl (Nat.le_of_ble_eq_true rfl) (fun _ h9 => ok_X4_hasWay X ht h9) dX4_goal_3 (fun r1 M2 => ?_)
  refine tj_if_eq (pc := 6) G (tgt := 22) (a2 := w32 r1) dX4_goal_6 (by decide) rfl ?_ ?_
  · refine tj_iconst (pc := 22) G dX4_goal_22 ?_
    exact tj_iret (pc := 23) G dX4_goal_23
  refine tj_aload_n (pc := 9) G 0 dX4_goal_9 rfl rfl ?_
  refine tj_getR (pc := 10) G (k := t) (j := 1) (j2 := 1) tk_X4 (tg_Paths_l0 ht) ht.2.1 rfl (by decide) rfl fl_X4_15 dX4_goal_10 ?_
  refine tj_iload_n (pc := 13) G 1 dX4_goal_13 rfl rfl ?_
  refine tj_iconst (pc := 14) G dX4_goal_14 ?_
  refine tj_imul (pc := 15) G dX4_goal_15 ?_
  refine tj_iload_n (pc := 16) G 2 dX4_goal_16 rfl rfl ?_
  refine tj_iadd (pc := 17) G dX4_goal_17 ?_
  refine tj_iald (pc := 18) G (k := (t + 2)) (i2 := w32 ((a1 * 4) + a2)) (n2 := 32) (tg_Paths_l2 ht) ht.2.2.2.1 rfl rfl dX4_goal_18 ?_
  refine tj_goto (pc := 19) G (tgt := 23) dX4_goal_19 (by decide) ?_
  exact tj_iret (pc := 23) G dX4_goal_23

def fx_X0_treesWith_L51 (k2 : Nat) (k2n : Nat) (c3 : Int) (c4 : Int) (c5 : Int) (K92 : tp_M → tp_O) (rec : Int → tp_M → tp_O) (z11 : Int) (M12 : tp_M) : tp_O :=
(if w32 c5 ≤ w32 c3 then
(K92 M12)
else
(tp_bd (fx_X4_degree 5 c5 M12) (fun r13 M14 =>
(if w32 z11 < w32 r13 then
(tp_bd (fx_X4_goal 5 c5 z11 M14) (fun r15 M16 =>
(tp_bd (fx_X0_addWay (c5 - 1) (r15 - 1) M16) (fun r17 M18 =>
(tp_lt (z11 + 1) (fun x19 =>
(rec x19 M18)))))))
else
(K92 M14)))))
def fx_X0_treesWith_L15 (k2 : Nat) (k2n : Nat) (c3 : Int) (c4 : Int) (K98 : tp_M → tp_O) (rec : Int → tp_M → tp_O) (z7 : Int) (M8 : tp_M) : tp_O :=
(if w32 z7 ≤ w32 c4 then
(tp_jn0 (fun M9 => 
(tp_lt 0 (fun x10 =>
(tp_lp1 (fx_X0_treesWith_L51 k2 k2n c3 c4 z7 (fun M20 =>
(tp_lt (z7 + 1) (fun x21 =>
(rec x21 M20))))) tp_F x10 M9)))) (fun jk48 =>
(if w32 z7 ≤ w32 c3 then
(tp_ck (w32 z7) k2n (tp_bd (fx_X4_goal 5 z7 (M8 k2 (w32 z7)) M8) (fun r22 M23 =>
(tp_bd (fx_X0_addWay (z7 - 1) (r22 - 1) M23) (fun r24 M25 =>
(jk48 M25))))))
else
(jk48 M8))))
else
(K98 M8))
def fx_X0_treesWith  (k2 : Nat) (k2n : Nat) (a3 : Int) (M : tp_M) : tp_O :=
(tp_bd (fx_X4_crossings 5 M) (fun r1 M2 =>
(tp_lt (r1 - 1) (fun x3 =>
(tp_bd (fx_X0_clearCells  M2) (fun r4 M5 =>
(tp_lt 1 (fun x6 =>
(tp_lp1 (fx_X0_treesWith_L15 k2 k2n a3 x3 (fun M26 =>
(tp_bd (fx_X0_eliminate x3 M26) (fun r27 M28 =>
(if w32 r27 = 0 then
(some (0, M28))
else
(tp_ck (w32 (x3 - 1)) 8 (tp_ck (w32 (x3 - 1)) 9 (some (M28 (42 + (w32 (x3 - 1)).toNat) (w32 (x3 - 1)), M28))))))))) tp_F x6 M5)))))))))
set_option maxRecDepth 100000 in
set_option maxHeartbeats 4000000 in
theorem fx_X0_treesWith_L51_ok {X : tp_X} {Y : tp_Y} (G : tp_Ok X Y 64 cX0_treesWith 7 RX0 (some .int))  {k2 : Nat} {k2n : Nat} {c3 : Int} {c4 : Int} {c5 : Int} {K92 : tp_M → tp_O} (hk2 : tg_I LC 64 k2 k2n)  (hK92 : ∀ (M9 : tp_M), tp_J X Y LC 64 7 3 1 (K92  M9) M9 [(0, vR X 40), (1, vR X 5), (2, vR X k2), (3, vI c3), (4, vI c4), (5, vI c5)] [] 92) (n : Nat) : ∀ (z11 : Int) (M12 : tp_M), tp_J X Y LC 64 7 3 1 (tp_lp1 (fx_X0_treesWith_L51 k2 k2n c3 c4 c5 K92) n z11 M12) M12 [(0, vR X 40), (1, vR X 5), (2, vR X k2), (3, vI c3), (4, vI c4), (5, vI c5), (6, vI z11)] [] 51 := by
  refine tp_lp1_ok (P := fun o z11 M12 => tp_J X Y LC 64 7 3 1 (o) M12 [(0, vR X 40), (1, vR X 5), (2, vR X k2), (3, vI c3), (4, vI c4), (5, vI c5), (6, vI z11)] [] 51) (fun z11 M12 => tj_none) (fun rec hrec z11 M12 => ?_) n
  unfold fx_X0_treesWith_L51
  refine tj_iload (pc := 51) G 5 dX0_treesWith_51 rfl ?_
  refine tj_iload_n (pc := 53) G 3 dX0_treesWith_53 rfl rfl ?_
  refine tj_icmp_le (pc := 54) G (tgt := 92) (a2 := w32 c5) (b2 := w32 c3) dX0_treesWith_54 (by decide) rfl rfl ?_ ?_
  · exact tj_sub [0, 1, 2, 3, 4, 5] rfl (hK92  M12)
  refine tj_iload (pc := 57) G 6 dX0_treesWith_57 rfl ?_
  refine tj_aload_n (pc := 59) G 1 dX0_treesWith_59 rfl rfl ?_
  refine tj_iload (pc := 60) G 5 dX0_treesWith_60 rfl ?_
  refine tj_callVi (pc := 62) G [vI c5] mf_X4_degree (k := 5) (by decide) lc_5 rfl rfl ml_X0_40 (by decide) rfl rfl (Nat.le_of_ble_eq_true rfl) (fun _ h9 => ok_X4_degree X gg_Paths_5 h9) dX0_treesWith_62 (fun r13 M14 => ?_)
  refine tj_icmp_ge (pc := 65) G (tgt := 92) (a2 := w32 z11) (b2 := w32 r13) dX0_treesWith_65 (by decide) rfl rfl ?_ ?_
  · exact tj_sub [0, 1, 2, 3, 4, 5] rfl (hK92  M14)
  refine tj_aload_n (pc := 68) G 0 dX0_treesWith_68 rfl rfl ?_
  refine tj_iload (pc := 69) G 5 dX0_treesWith_69 rfl ?_
  refine tj_iconst (pc := 71) G dX0_treesWith_71 ?_
  refine tj_isub (pc := 72) G dX0_treesWith_72 ?_
  refine tj_aload_n (pc := 73) G 1 dX0_treesWith_73 rfl rfl ?_
  refine tj_iload (pc := 74) G 5 dX0_treesWith_74 rfl ?_
  refine tj_iload (pc := 76) G 6 dX0_treesWith_76 rfl ?_
  refine tj_callVi (pc := 78) G [vI c5, vI z11] mf_X4_goal (k := 5) (by decide) lc_5 rfl rfl ml_X0_32 (by decide) rfl rfl (Nat.le_of_ble_eq_true rfl) (fun _ h9 => ok_X4_goal X gg_Paths_5 h9) dX0_treesWith_78 (fun r15 M16 => ?_)
  refine tj_iconst (pc := 81) G dX0_treesWith_81 ?_
  refine tj_isub (pc := 82) G dX0_treesWith_82 ?_
  refine tj_callVv (pc := 83) G [vI (c5 - 1), vI (r15 - 1)] mf_X0_addWay (k := 40) (by decide) lc_40 rfl rfl ml_X0_36 (by decide) rfl rfl (Nat.le_of_ble_eq_true rfl) (fun _ h9 => ok_X0_addWay X  h9) dX0_treesWith_83 (fun r17 M18 => ?_)
  refine tj_iinc (pc := 86) G 6 (fun x19 => [(6, vI x19), (0, vR X 40), (1, vR X 5), (2, vR X k2), (3, vI c3), (4, vI c4), (5, vI c5)]) dX0_treesWith_86 rfl (by decide) (fun _ => rfl) (fun x19 => ?_)
  refine tj_goto (pc := 89) G (tgt := 51) dX0_treesWith_89 (by decide) ?_
  exact tj_sub [1, 2, 3, 4, 5, 6, 0] rfl (hrec x19 M18)
set_option maxRecDepth 100000 in
set_option maxHeartbeats 4000000 in
theorem fx_X0_treesWith_L15_ok {X : tp_X} {Y : tp_Y} (G : tp_Ok X Y 64 cX0_treesWith 7 RX0 (some .int))  {k2 : Nat} {k2n : Nat} {c3 : Int} {c4 : Int} {K98 : tp_M → tp_O} (hk2 : tg_I LC 64 k2 k2n)  (hK98 : ∀ (M9 : tp_M), tp_J X Y LC 64 7 3 1 (K98  M9) M9 [(0, vR X 40), (4, vI c4)] [] 98) (n : Nat) : ∀ (z7 : Int) (M8 : tp_M), tp_J X Y LC 64 7 3 1 (tp_lp1 (fx_X0_treesWith_L15 k2 k2n c3 c4 K98) n z7 M8) M8 [(0, vR X 40), (1, vR X 5), (2, vR X k2), (3, vI c3), (4, vI c4), (5, vI z7)] [] 15 := by
  refine tp_lp1_ok (P := fun o z7 M8 => tp_J X Y LC 64 7 3 1 (o) M8 [(0, vR X 40), (1, vR X 5), (2, vR X k2), (3, vI c3), (4, vI c4), (5, vI z7)] [] 15) (fun z7 M8 => tj_none) (fun rec hrec z7 M8 => ?_) n
  unfold fx_X0_treesWith_L15
  refine tj_iload (pc := 15) G 5 dX0_treesWith_15 rfl ?_
  refine tj_iload (pc := 17) G 4 dX0_treesWith_17 rfl ?_
  refine tj_icmp_gt (pc := 19) G (tgt := 98) (a2 := w32 z7) (b2 := w32 c4) dX0_treesWith_19 (by decide) rfl rfl ?_ ?_
  · exact tj_sub [0, 4] rfl (hK98  M8)
  refine tj_iload (pc := 22) G 5 dX0_treesWith_22 rfl ?_
  refine tj_iload_n (pc := 24) G 3 dX0_treesWith_24 rfl rfl ?_
  refine tj_jn0 [(0, vR X 40), (1, vR X 5), (2, vR X k2), (3, vI c3), (4, vI c4), (5, vI z7)] [] 48 (fun M9 => ?_) (fun jk48 hj48 => ?_)
  · refine tj_iconst (pc := 48) G dX0_treesWith_48 ?_
    refine tj_istore (pc := 49) G (fun x10 => [(6, vI x10), (0, vR X 40), (1, vR X 5), (2, vR X k2), (3, vI c3), (4, vI c4), (5, vI z7)]) dX0_treesWith_49 (by decide) (fun _ => rfl) (fun x10 => ?_)
    refine tj_sub [1, 2, 3, 4, 5, 6, 0] rfl (fx_X0_treesWith_L51_ok G  hk2  (fun M20 => ?_) tp_F x10 M9)
    refine tj_iinc (pc := 92) G 5 (fun x21 => [(5, vI x21), (0, vR X 40), (1, vR X 5), (2, vR X k2), (3, vI c3), (4, vI c4)]) dX0_treesWith_92 rfl (by decide) (fun _ => rfl) (fun x21 => ?_)
    refine tj_goto (pc := 95) G (tgt := 15) dX0_treesWith_95 (by decide) ?_
    exact tj_sub [1, 2, 3, 4, 5, 0] rfl (hrec x21 M20)
  refine tj_icmp_gt (pc := 25) G (tgt := 48) (a2 := w32 z7) (b2 := w32 c3) dX0_treesWith_25 (by decide) rfl rfl ?_ ?_
  · exact tj_sub [0, 1, 2, 3, 4, 5] rfl (hj48  M8)
  refine tj_aload_n (pc := 28) G 0 dX0_treesWith_28 rfl rfl ?_
  refine tj_iload (pc := 29) G 5 dX0_treesWith_29 rfl ?_
  refine tj_iconst (pc := 31) G dX0_treesWith_31 ?_
  refine tj_isub (pc := 32) G dX0_treesWith_32 ?_
  refine tj_aload_n (pc := 33) G 1 dX0_treesWith_33 rfl rfl ?_
  refine tj_iload (pc := 34) G 5 dX0_treesWith_34 rfl ?_
  refine tj_aload_n (pc := 36) G 2 dX0_treesWith_36 rfl rfl ?_
  refine tj_iload (pc := 37) G 5 dX0_treesWith_37 rfl ?_
  refine tj_iald (pc := 39) G (k := k2) (i2 := w32 z7) (n2 := k2n) hk2.1 hk2.2 rfl rfl dX0_treesWith_39 ?_
  refine tj_callVi (pc := 40) G [vI z7, vI (M8 k2 (w32 z7))] mf_X4_goal (k := 5) (by decide) lc_5 rfl rfl ml_X0_32 (by decide) rfl rfl (Nat.le_of_ble_eq_true rfl) (fun _ h9 => ok_X4_goal X gg_Paths_5 h9) dX0_treesWith_40 (fun r22 M23 => ?_)
  refine tj_iconst (pc := 43) G dX0_treesWith_43 ?_
  refine tj_isub (pc := 44) G dX0_treesWith_44 ?_
  refine tj_callVv (pc := 45) G [vI (z7 - 1), vI (r22 - 1)] mf_X0_addWay (k := 40) (by decide) lc_40 rfl rfl ml_X0_36 (by decide) rfl rfl (Nat.le_of_ble_eq_true rfl) (fun _ h9 => ok_X0_addWay X  h9) dX0_treesWith_45 (fun r24 M25 => ?_)
  exact tj_sub [0, 1, 2, 3, 4, 5] rfl (hj48  M25)
set_option maxRecDepth 100000 in
set_option maxHeartbeats 4000000 in
theorem ok_X0_treesWith (X : tp_X)  {k2 : Nat} {k2n : Nat} {a3 : Int} (hk2 : tg_I LC 64 k2 k2n) {M : tp_M} {res : Int × tp_M} (h : fx_X0_treesWith  k2 k2n a3 M = some res) : tp_Ret X LC 64 1 yX0_treesWith (Cond.code yX0_treesWith cX0_treesWith 7 (some .int)) 3 [vR X 40, vR X 5, vR X k2, vI a3] M res := by
  refine tp_ofW (by decide +kernel) rfl rfl (by show _ ≤ 7; exact Nat.le_of_ble_eq_true rfl) h (fun Y G => ?_)
  show tp_J X Y LC 64 7 3 1 (fx_X0_treesWith  k2 k2n a3 M) M [(0, vR X 40), (1, vR X 5), (2, vR X k2), (3, vI a3)] [] 0
  unfold fx_X0_treesWith
  refine tj_aload_n (pc := 0) G 1 dX0_treesWith_0 rfl rfl ?_
  refine tj_callVi (pc := 1) G [] mf_X4_crossings (k := 5) (by decide) lc_5 rfl rfl ml_X0_23 (by decide) rfl rfl (Nat.le_of_ble_eq_true rfl) (fun _ h9 => ok_X4_crossings X gg_Paths_5 h9) dX0_treesWith_1 (fun r1 M2 => ?_)
  refine tj_iconst (pc := 4) G dX0_treesWith_4 ?_
  refine tj_isub (pc := 5) G dX0_treesWith_5 ?_
  refine tj_istore (pc := 6) G (fun x3 => [(4, vI x3), (0, vR X 40), (1, vR X 5), (2, vR X k2), (3, vI a3)]) dX0_treesWith_6 (by decide) (fun _ => rfl) (fun x3 => ?_)
  refine tj_aload_n (pc := 8) G 1 dX0_treesWith_8 rfl rfl ?_
  refine tj_callVv (pc := 9) G [] mf_X0_clearCells (k := 40) (by decide) lc_40 rfl rfl ml_X0_29 (by decide) rfl rfl (Nat.le_of_ble_eq_true rfl) (fun _ h9 => ok_X0_clearCells X  h9) dX0_treesWith_9 (fun r4 M5 => ?_)
  refine tj_iconst (pc := 12) G dX0_treesWith_12 ?_
  refine tj_istore (pc := 13) G (fun x6 => [(5, vI x6), (4, vI x3), (0, vR X 40), (1, vR X 5), (2, vR X k2), (3, vI a3)]) dX0_treesWith_13 (by decide) (fun _ => rfl) (fun x6 => ?_)
  refine tj_sub [2, 3, 4, 5, 1, 0] rfl (fx_X0_treesWith_L15_ok G  hk2  (fun M26 => ?_) tp_F x6 M5)
  refine tj_aload_n (pc := 98) G 0 dX0_treesWith_98 rfl rfl ?_
  refine tj_iload (pc := 99) G 1 dX0_treesWith_99 rfl ?_
  refine tj_callVi (pc := 101) G [vI x3] mf_X0_eliminate (k := 40) (by decide) lc_40 rfl rfl ml_X0_44 (by decide) rfl rfl (Nat.le_of_ble_eq_true rfl) (fun _ h9 => ok_X0_eliminate X  h9) dX0_treesWith_101 (fun r27 M28 => ?_)
  refine tj_if_eq (pc := 104) G (tgt := 125) (a2 := w32 r27) dX0_treesWith_104 (by decide) rfl ?_ ?_
  · refine tj_iconst (pc := 125) G dX0_treesWith_125 ?_
    exact tj_iret (pc := 126) G dX0_treesWith_126
  refine tj_aload_n (pc := 107) G 0 dX0_treesWith_107 rfl rfl ?_
  refine tj_getR (pc := 108) G (k := 40) (j := 0) (j2 := 0) tk_X0 (by decide) lc_40 rfl (by decide) rfl fl_X0_11 dX0_treesWith_108 ?_
  refine tj_iload (pc := 111) G 1 dX0_treesWith_111 rfl ?_
  refine tj_iconst (pc := 113) G dX0_treesWith_113 ?_
  refine tj_isub (pc := 114) G dX0_treesWith_114 ?_
  refine tj_aald (pc := 115) G (k := 41) (i2 := w32 (x3 - 1)) (n2 := 8) (by decide) lc_41 rfl rfl dX0_treesWith_115 (fun hr29 => ?_)
  refine tj_iload (pc := 116) G 1 dX0_treesWith_116 rfl ?_
  refine tj_iconst (pc := 118) G dX0_treesWith_118 ?_
  refine tj_isub (pc := 119) G dX0_treesWith_119 ?_
  refine tj_lald (pc := 120) G (k := (42 + (w32 (x3 - 1)).toNat)) (i2 := w32 (x3 - 1)) (n2 := 9) (by have := hr29; omega) (lc_rows hr29) rfl rfl dX0_treesWith_120 ?_
  refine tj_l2i (pc := 121) G dX0_treesWith_121 ?_
  refine tj_goto (pc := 122) G (tgt := 126) dX0_treesWith_122 (by decide) ?_
  exact tj_iret (pc := 126) G dX0_treesWith_126

def fx_X0_place  (a1 : Int) (a2 : Int) (a3 : Int) (M : tp_M) : tp_O :=
(if w32 a1 = w32 a2 then
(some (a3 - 1, M))
else
(if w32 a1 = w32 a3 then
(some (a2 - 1, M))
else
(some (a1 - 1, M))))
set_option maxRecDepth 100000 in
set_option maxHeartbeats 4000000 in
theorem ok_X0_place (X : tp_X)  {a1 : Int} {a2 : Int} {a3 : Int}  {M : tp_M} {res : Int × tp_M} (h : fx_X0_place  a1 a2 a3 M = some res) : tp_Ret X LC 64 1 yX0_place (Cond.code yX0_place cX0_place 3 (some .int)) 1 [vI a1, vI a2, vI a3] M res := by
  refine tp_ofW (by decide +kernel) rfl rfl (by show _ ≤ 3; exact Nat.le_of_ble_eq_true rfl) h (fun Y G => ?_)
  show tp_J X Y LC 64 3 1 1 (fx_X0_place  a1 a2 a3 M) M [(0, vI a1), (1, vI a2), (2, vI a3)] [] 0
  unfold fx_X0_place
  refine tj_iload_n (pc := 0) G 0 dX0_place_0 rfl rfl ?_
  refine tj_iload_n (pc := 1) G 1 dX0_place_1 rfl rfl ?_
  refine tj_icmp_ne (pc := 2) G (tgt := 9) (a2 := w32 a1) (b2 := w32 a2) dX0_place_2 (by decide) rfl rfl ?_ ?_
  · refine tj_iload_n (pc := 9) G 0 dX0_place_9 rfl rfl ?_
    refine tj_iload_n (pc := 10) G 2 dX0_place_10 rfl rfl ?_
    refine tj_icmp_ne (pc := 11) G (tgt := 18) (a2 := w32 a1) (b2 := w32 a3) dX0_place_11 (by decide) rfl rfl ?_ ?_
    · refine tj_iload_n (pc := 18) G 0 dX0_place_18 rfl rfl ?_
      refine tj_iconst (pc := 19) G dX0_place_19 ?_
      refine tj_isub (pc := 20) G dX0_place_20 ?_
      exact tj_iret (pc := 21) G dX0_place_21
    refine tj_iload_n (pc := 14) G 1 dX0_place_14 rfl rfl ?_
    refine tj_goto (pc := 15) G (tgt := 19) dX0_place_15 (by decide) ?_
    refine tj_iconst (pc := 19) G dX0_place_19 ?_
    refine tj_isub (pc := 20) G dX0_place_20 ?_
    exact tj_iret (pc := 21) G dX0_place_21
  refine tj_iload_n (pc := 5) G 2 dX0_place_5 rfl rfl ?_
  refine tj_iconst (pc := 6) G dX0_place_6 ?_
  refine tj_isub (pc := 7) G dX0_place_7 ?_
  exact tj_iret (pc := 8) G dX0_place_8

def fx_X0_tellFraction_L9 (c1 : Int) (c3 : Int) (K45 : Int → tp_M → tp_O) (rec : Int → Int → Int → tp_M → tp_O) (z4 z5 z6 : Int) (M7 : tp_M) : tp_O :=
(if w32 z6 < 200 then
(if x_lcmp z5 0 = 0 then
(K45 z4 M7)
else
(tp_nz (w64 z5) (tp_lt (x_lrem z4 z5) (fun x9 =>
(tp_lt z5 (fun x10 =>
(tp_lt x9 (fun x11 =>
(tp_lt (z6 + 1) (fun x12 =>
(rec x10 x11 x12 M7)))))))))))
else
(K45 z4 M7))
def fx_X0_tellFraction  (a1 : Int) (a2 : Int) (M : tp_M) : tp_O :=
(tp_lt a1 (fun x1 =>
(tp_lt a2 (fun x2 =>
(tp_lt 0 (fun x3 =>
(tp_lp3 (fx_X0_tellFraction_L9 a1 a2 (fun y8 M13 =>
(tp_jn1 (fun y14 M15 => 
(tp_lm (tp_up M15 40 3 y14) (fun M16 =>
(if x_lcmp y8 0 = 0 then
(tp_lm (tp_up M16 40 4 1) (fun M18 =>
(some (0, M18))))
else
(tp_nz (w64 y8) (tp_lm (tp_up M16 40 4 (x_ldiv a2 y8)) (fun M17 =>
(some (0, M17))))))))) (fun jk61 =>
(if x_lcmp y8 0 = 0 then
(jk61 0 M13)
else
(tp_nz (w64 y8) (jk61 (x_ldiv a1 y8) M13))))))) tp_F x1 x2 x3 M)))))))
set_option maxRecDepth 100000 in
set_option maxHeartbeats 4000000 in
theorem fx_X0_tellFraction_L9_ok {X : tp_X} {Y : tp_Y} (G : tp_Ok X Y 64 cX0_tellFraction 12 RX0 none)  {c1 : Int} {c3 : Int} {K45 : Int → tp_M → tp_O}   (hK45 : ∀ (y8 : Int) (M9 : tp_M), tp_J X Y LC 64 12 1 0 (K45 y8 M9) M9 [(0, vR X 40), (1, vL c1), (3, vL c3), (5, vL y8)] [] 45) (n : Nat) : ∀ (z4 z5 z6 : Int) (M7 : tp_M), tp_J X Y LC 64 12 1 0 (tp_lp3 (fx_X0_tellFraction_L9  c1 c3 K45) n z4 z5 z6 M7) M7 [(0, vR X 40), (1, vL c1), (3, vL c3), (5, vL z4), (7, vL z5), (9, vI z6)] [] 9 := by
  refine tp_lp3_ok (P := fun o z4 z5 z6 M7 => tp_J X Y LC 64 12 1 0 (o) M7 [(0, vR X 40), (1, vL c1), (3, vL c3), (5, vL z4), (7, vL z5), (9, vI z6)] [] 9) (fun z4 z5 z6 M7 => tj_none) (fun rec hrec z4 z5 z6 M7 => ?_) n
  unfold fx_X0_tellFraction_L9
  refine tj_iload (pc := 9) G 5 dX0_tellFraction_9 rfl ?_
  refine tj_sipush (pc := 11) G dX0_tellFraction_11 rfl ?_
  refine tj_icmp_ge (pc := 14) G (tgt := 45) (a2 := w32 z6) (b2 := 200) dX0_tellFraction_14 (by decide) rfl rfl ?_ ?_
  · exact tj_sub [0, 1, 2, 3] rfl (hK45 z4 M7)
  refine tj_lload (pc := 17) G 4 dX0_tellFraction_17 rfl ?_
  refine tj_lconst (pc := 19) G (v := 0) dX0_tellFraction_19 rfl ?_
  refine tj_lcmp (pc := 20) G dX0_tellFraction_20 ?_
  refine tj_if_eq (pc := 21) G (tgt := 45) (a2 := x_lcmp z5 0) dX0_tellFraction_21 (by decide) (w32_lcmp _ _) ?_ ?_
  · exact tj_sub [0, 1, 2, 3] rfl (hK45 z4 M7)
  refine tj_lload (pc := 24) G 3 dX0_tellFraction_24 rfl ?_
  refine tj_lload (pc := 26) G 4 dX0_tellFraction_26 rfl ?_
  refine tj_lrem (pc := 28) G (b2 := w64 z5) dX0_tellFraction_28 rfl ?_
  refine tj_lstore (pc := 29) G (fun x9 => [(10, vL x9), (0, vR X 40), (1, vL c1), (3, vL c3), (5, vL z4), (7, vL z5), (9, vI z6)]) dX0_tellFraction_29 (by decide) (fun _ => rfl) (fun x9 => ?_)
  refine tj_lload (pc := 31) G 5 dX0_tellFraction_31 rfl ?_
  refine tj_lstore (pc := 33) G (fun x10 => [(5, vL x10), (10, vL x9), (0, vR X 40), (1, vL c1), (3, vL c3), (7, vL z5), (9, vI z6)]) dX0_tellFraction_33 (by decide) (fun _ => rfl) (fun x10 => ?_)
  refine tj_lload (pc := 35) G 1 dX0_tellFraction_35 rfl ?_
  refine tj_lstore (pc := 37) G (fun x11 => [(7, vL x11), (5, vL x10), (10, vL x9), (0, vR X 40), (1, vL c1), (3, vL c3), (9, vI z6)]) dX0_tellFraction_37 (by decide) (fun _ => rfl) (fun x11 => ?_)
  refine tj_iinc (pc := 39) G 6 (fun x12 => [(9, vI x12), (7, vL x11), (5, vL x10), (10, vL x9), (0, vR X 40), (1, vL c1), (3, vL c3)]) dX0_tellFraction_39 rfl (by decide) (fun _ => rfl) (fun x12 => ?_)
  refine tj_goto (pc := 42) G (tgt := 9) dX0_tellFraction_42 (by decide) ?_
  exact tj_sub [4, 5, 6, 2, 1, 0] rfl (hrec x10 x11 x12 M7)
set_option maxRecDepth 100000 in
set_option maxHeartbeats 4000000 in
theorem ok_X0_tellFraction (X : tp_X)  {a1 : Int} {a2 : Int}  {M : tp_M} {res : Int × tp_M} (h : fx_X0_tellFraction  a1 a2 M = some res) : tp_Ret X LC 64 0 yX0_tellFraction (Cond.code yX0_tellFraction cX0_tellFraction 12 none) 1 [vR X 40, vL a1, vL a2] M res := by
  refine tp_ofW (by decide +kernel) rfl rfl (by show _ ≤ 12; exact Nat.le_of_ble_eq_true rfl) h (fun Y G => ?_)
  show tp_J X Y LC 64 12 1 0 (fx_X0_tellFraction  a1 a2 M) M [(0, vR X 40), (1, vL a1), (3, vL a2)] [] 0
  unfold fx_X0_tellFraction
  refine tj_lload_n (pc := 0) G 1 dX0_tellFraction_0 rfl rfl ?_
  refine tj_lstore (pc := 1) G (fun x1 => [(5, vL x1), (0, vR X 40), (1, vL a1), (3, vL a2)]) dX0_tellFraction_1 (by decide) (fun _ => rfl) (fun x1 => ?_)
  refine tj_lload_n (pc := 3) G 3 dX0_tellFraction_3 rfl rfl ?_
  refine tj_lstore (pc := 4) G (fun x2 => [(7, vL x2), (5, vL x1), (0, vR X 40), (1, vL a1), (3, vL a2)]) dX0_tellFraction_4 (by decide) (fun _ => rfl) (fun x2 => ?_)
  refine tj_iconst (pc := 6) G dX0_tellFraction_6 ?_
  refine tj_istore (pc := 7) G (fun x3 => [(9, vI x3), (7, vL x2), (5, vL x1), (0, vR X 40), (1, vL a1), (3, vL a2)]) dX0_tellFraction_7 (by decide) (fun _ => rfl) (fun x3 => ?_)
  refine tj_sub [3, 4, 5, 2, 1, 0] rfl (fx_X0_tellFraction_L9_ok G    (fun y8 M13 => ?_) tp_F x1 x2 x3 M)
  refine tj_aload_n (pc := 45) G 0 dX0_tellFraction_45 rfl rfl ?_
  refine tj_lload (pc := 46) G 3 dX0_tellFraction_46 rfl ?_
  refine tj_lconst (pc := 48) G (v := 0) dX0_tellFraction_48 rfl ?_
  refine tj_lcmp (pc := 49) G dX0_tellFraction_49 ?_
  refine tj_jn1 (fun y14 => [(0, vR X 40), (3, vL a2), (5, vL y8)]) (fun y14 => [vL y14, vR X 40]) 61 (fun y14 M15 => ?_) (fun jk61 hj61 => ?_)
  · refine tj_putL (pc := 61) G (k := 40) (j := 3) (j2 := 3) tk_X0 (by decide) lc_40 rfl (by decide) rfl fl_X0_56 rfl rfl dX0_tellFraction_61 (fun M16 => ?_)
    refine tj_aload_n (pc := 64) G 0 dX0_tellFraction_64 rfl rfl ?_
    refine tj_lload (pc := 65) G 2 dX0_tellFraction_65 rfl ?_
    refine tj_lconst (pc := 67) G (v := 0) dX0_tellFraction_67 rfl ?_
    refine tj_lcmp (pc := 68) G dX0_tellFraction_68 ?_
    refine tj_if_ne (pc := 69) G (tgt := 76) (a2 := x_lcmp y8 0) dX0_tellFraction_69 (by decide) (w32_lcmp _ _) ?_ ?_
    · refine tj_lload_n (pc := 76) G 1 dX0_tellFraction_76 rfl rfl ?_
      refine tj_lload (pc := 77) G 2 dX0_tellFraction_77 rfl ?_
      refine tj_ldiv (pc := 79) G (b2 := w64 y8) dX0_tellFraction_79 rfl ?_
      refine tj_putL (pc := 80) G (k := 40) (j := 4) (j2 := 4) tk_X0 (by decide) lc_40 rfl (by decide) rfl fl_X0_60 rfl rfl dX0_tellFraction_80 (fun M17 => ?_)
      exact tj_vret (pc := 83) G dX0_tellFraction_83
    refine tj_lconst (pc := 72) G (v := 1) dX0_tellFraction_72 rfl ?_
    refine tj_goto (pc := 73) G (tgt := 80) dX0_tellFraction_73 (by decide) ?_
    refine tj_putL (pc := 80) G (k := 40) (j := 4) (j2 := 4) tk_X0 (by decide) lc_40 rfl (by decide) rfl fl_X0_60 rfl rfl dX0_tellFraction_80 (fun M18 => ?_)
    exact tj_vret (pc := 83) G dX0_tellFraction_83
  refine tj_if_ne (pc := 50) G (tgt := 57) (a2 := x_lcmp y8 0) dX0_tellFraction_50 (by decide) (w32_lcmp _ _) ?_ ?_
  · refine tj_lload_n (pc := 57) G 1 dX0_tellFraction_57 rfl rfl ?_
    refine tj_lload (pc := 58) G 3 dX0_tellFraction_58 rfl ?_
    refine tj_ldiv (pc := 60) G (b2 := w64 y8) dX0_tellFraction_60 rfl ?_
    exact tj_sub [0, 2, 3] rfl (hj61 (x_ldiv a1 y8) M13)
  refine tj_lconst (pc := 53) G (v := 0) dX0_tellFraction_53 rfl ?_
  refine tj_goto (pc := 54) G (tgt := 61) dX0_tellFraction_54 (by decide) ?_
  exact tj_sub [0, 2, 3] rfl (hj61 0 M13)

def fx_X0_solve_L91 (c2 : Int) (c3 : Int) (c4 : Int) (c5 : Int) (c6 : Int) (K128 : tp_M → tp_O) (rec : Int → tp_M → tp_O) (z15 : Int) (M16 : tp_M) : tp_O :=
(tp_bd (fx_X4_degree 5 c5 M16) (fun r17 M18 =>
(if w32 z15 < w32 r17 then
(tp_bd (fx_X4_goal 5 c5 z15 M18) (fun r19 M20 =>
(tp_bd (fx_X0_place r19 c2 c4 M20) (fun r21 M22 =>
(tp_bd (fx_X0_addWay c6 r21 M22) (fun r23 M24 =>
(tp_lt (z15 + 1) (fun x25 =>
(rec x25 M24)))))))))
else
(K128 M18))))
def fx_X0_solve_L29 (c2 : Int) (c3 : Int) (c4 : Int) (K159 : tp_M → tp_O) (rec : Int → tp_M → tp_O) (z7 : Int) (M8 : tp_M) : tp_O :=
(if w32 z7 ≤ w32 c4 then
(tp_bd (fx_X0_place z7 c2 c4 M8) (fun r9 M10 =>
(tp_lt r9 (fun x11 =>
(tp_jn0 (fun M12 => 
(tp_lt (z7 + 1) (fun x13 =>
(rec x13 M12)))) (fun jk153 =>
(if w32 x11 < 0 then
(jk153 M10)
else
(if w32 x11 < w32 c4 then
(if w32 z7 = w32 c3 then
(tp_bd (fx_X0_addWay x11 (-1) M10) (fun r33 M34 =>
(tp_ck (w32 x11) 8 (tp_ck (w32 c4) 9 (tp_lm (tp_up M34 (42 + (w32 x11).toNat) (w32 c4) 1) (fun M36 =>
(jk153 M36)))))))
else
(tp_lt 0 (fun x14 =>
(tp_lp1 (fx_X0_solve_L91 c2 c3 c4 z7 x11 (fun M26 =>
(tp_ck (w32 x11) 8 (tp_jn1 (fun y28 M29 => 
(tp_ck (w32 c4) 9 (tp_lm (tp_up M29 (42 + (w32 x11).toNat) (w32 c4) y28) (fun M30 =>
(jk153 M30))))) (fun jk152 =>
(if w32 c3 = 0 then
(tp_bd (fx_X4_degree 5 z7 M26) (fun r31 M32 =>
(jk152 (w32 r31) M32)))
else
(jk152 0 M26))))))) tp_F x14 M10))))
else
(jk153 M10)))))))))
else
(K159 M8))
def fx_X0_solve  (a2 : Int) (a3 : Int) (M : tp_M) : tp_O :=
(tp_bd (fx_X4_crossings 5 M) (fun r1 M2 =>
(tp_lt (r1 - 1) (fun x3 =>
(if w32 x3 < 1 then
(some (0, M2))
else
(if w32 x3 < 8 then
(tp_bd (fx_X0_clearCells  M2) (fun r4 M5 =>
(tp_lt 1 (fun x6 =>
(tp_lp1 (fx_X0_solve_L29 a2 a3 x3 (fun M37 =>
(tp_bd (fx_X0_eliminate x3 M37) (fun r38 M39 =>
(if w32 r38 = 0 then
(some (0, M39))
else
(tp_ck (w32 (x3 - 1)) 8 (tp_ck (w32 x3) 9 (tp_ck (w32 (x3 - 1)) 8 (tp_ck (w32 (x3 - 1)) 9 (tp_bd (fx_X0_tellFraction (M39 (42 + (w32 (x3 - 1)).toNat) (w32 x3)) (M39 (42 + (w32 (x3 - 1)).toNat) (w32 (x3 - 1))) M39) (fun r42 M43 =>
(some (0, M43))))))))))))) tp_F x6 M5)))))
else
(some (0, M2))))))))
set_option maxRecDepth 100000 in
set_option maxHeartbeats 4000000 in
theorem fx_X0_solve_L91_ok {X : tp_X} {Y : tp_Y} (G : tp_Ok X Y 64 cX0_solve 8 RX0 none)  {c2 : Int} {c3 : Int} {c4 : Int} {c5 : Int} {c6 : Int} {K128 : tp_M → tp_O}   (hK128 : ∀ (M9 : tp_M), tp_J X Y LC 64 8 3 0 (K128  M9) M9 [(0, vR X 40), (1, vR X 5), (2, vI c2), (3, vI c3), (4, vI c4), (5, vI c5), (6, vI c6)] [] 128) (n : Nat) : ∀ (z15 : Int) (M16 : tp_M), tp_J X Y LC 64 8 3 0 (tp_lp1 (fx_X0_solve_L91  c2 c3 c4 c5 c6 K128) n z15 M16) M16 [(0, vR X 40), (1, vR X 5), (2, vI c2), (3, vI c3), (4, vI c4), (5, vI c5), (6, vI c6), (7, vI z15)] [] 91 := by
  refine tp_lp1_ok (P := fun o z15 M16 => tp_J X Y LC 64 8 3 0 (o) M16 [(0, vR X 40), (1, vR X 5), (2, vI c2), (3, vI c3), (4, vI c4), (5, vI c5), (6, vI c6), (7, vI z15)] [] 91) (fun z15 M16 => tj_none) (fun rec hrec z15 M16 => ?_) n
  unfold fx_X0_solve_L91
  refine tj_iload (pc := 91) G 7 dX0_solve_91 rfl ?_
  refine tj_aload_n (pc := 93) G 1 dX0_solve_93 rfl rfl ?_
  refine tj_iload (pc := 94) G 5 dX0_solve_94 rfl ?_
  refine tj_callVi (pc := 96) G [vI c5] mf_X4_degree (k := 5) (by decide) lc_5 rfl rfl ml_X0_40 (by decide) rfl rfl (Nat.le_of_ble_eq_true rfl) (fun _ h9 => ok_X4_degree X gg_Paths_5 h9) dX0_solve_96 (fun r17 M18 => ?_)
  refine tj_icmp_ge (pc := 99) G (tgt := 128) (a2 := w32 z15) (b2 := w32 r17) dX0_solve_99 (by decide) rfl rfl ?_ ?_
  · exact tj_sub [0, 1, 2, 3, 4, 5, 6] rfl (hK128  M18)
  refine tj_aload_n (pc := 102) G 0 dX0_solve_102 rfl rfl ?_
  refine tj_iload (pc := 103) G 6 dX0_solve_103 rfl ?_
  refine tj_aload_n (pc := 105) G 1 dX0_solve_105 rfl rfl ?_
  refine tj_iload (pc := 106) G 5 dX0_solve_106 rfl ?_
  refine tj_iload (pc := 108) G 7 dX0_solve_108 rfl ?_
  refine tj_callVi (pc := 110) G [vI c5, vI z15] mf_X4_goal (k := 5) (by decide) lc_5 rfl rfl ml_X0_32 (by decide) rfl rfl (Nat.le_of_ble_eq_true rfl) (fun _ h9 => ok_X4_goal X gg_Paths_5 h9) dX0_solve_110 (fun r19 M20 => ?_)
  refine tj_iload_n (pc := 113) G 2 dX0_solve_113 rfl rfl ?_
  refine tj_iload (pc := 114) G 4 dX0_solve_114 rfl ?_
  refine tj_callSi (pc := 116) G [vI r19, vI c2, vI c4] mf_X0_place ml_X0_48 (by decide) rfl rfl (Nat.le_of_ble_eq_true rfl) (fun _ h9 => ok_X0_place X  h9) dX0_solve_116 (fun r21 M22 => ?_)
  refine tj_callVv (pc := 119) G [vI c6, vI r21] mf_X0_addWay (k := 40) (by decide) lc_40 rfl rfl ml_X0_36 (by decide) rfl rfl (Nat.le_of_ble_eq_true rfl) (fun _ h9 => ok_X0_addWay X  h9) dX0_solve_119 (fun r23 M24 => ?_)
  refine tj_iinc (pc := 122) G 7 (fun x25 => [(7, vI x25), (0, vR X 40), (1, vR X 5), (2, vI c2), (3, vI c3), (4, vI c4), (5, vI c5), (6, vI c6)]) dX0_solve_122 rfl (by decide) (fun _ => rfl) (fun x25 => ?_)
  refine tj_goto (pc := 125) G (tgt := 91) dX0_solve_125 (by decide) ?_
  exact tj_sub [1, 2, 3, 4, 5, 6, 7, 0] rfl (hrec x25 M24)
set_option maxRecDepth 100000 in
set_option maxHeartbeats 4000000 in
theorem fx_X0_solve_L29_ok {X : tp_X} {Y : tp_Y} (G : tp_Ok X Y 64 cX0_solve 8 RX0 none)  {c2 : Int} {c3 : Int} {c4 : Int} {K159 : tp_M → tp_O}   (hK159 : ∀ (M9 : tp_M), tp_J X Y LC 64 8 3 0 (K159  M9) M9 [(0, vR X 40), (4, vI c4)] [] 159) (n : Nat) : ∀ (z7 : Int) (M8 : tp_M), tp_J X Y LC 64 8 3 0 (tp_lp1 (fx_X0_solve_L29  c2 c3 c4 K159) n z7 M8) M8 [(0, vR X 40), (1, vR X 5), (2, vI c2), (3, vI c3), (4, vI c4), (5, vI z7)] [] 29 := by
  refine tp_lp1_ok (P := fun o z7 M8 => tp_J X Y LC 64 8 3 0 (o) M8 [(0, vR X 40), (1, vR X 5), (2, vI c2), (3, vI c3), (4, vI c4), (5, vI z7)] [] 29) (fun z7 M8 => tj_none) (fun rec hrec z7 M8 => ?_) n
  unfold fx_X0_solve_L29
  refine tj_iload (pc := 29) G 5 dX0_solve_29 rfl ?_
  refine tj_iload (pc := 31) G 4 dX0_solve_31 rfl ?_
  refine tj_icmp_gt (pc := 33) G (tgt := 159) (a2 := w32 z7) (b2 := w32 c4) dX0_solve_33 (by decide) rfl rfl ?_ ?_
  · exact tj_sub [0, 4] rfl (hK159  M8)
  refine tj_iload (pc := 36) G 5 dX0_solve_36 rfl ?_
  refine tj_iload_n (pc := 38) G 2 dX0_solve_38 rfl rfl ?_
  refine tj_iload (pc := 39) G 4 dX0_solve_39 rfl ?_
  refine tj_callSi (pc := 41) G [vI z7, vI c2, vI c4] mf_X0_place ml_X0_48 (by decide) rfl rfl (Nat.le_of_ble_eq_true rfl) (fun _ h9 => ok_X0_place X  h9) dX0_solve_41 (fun r9 M10 => ?_)
  refine tj_istore (pc := 44) G (fun x11 => [(6, vI x11), (0, vR X 40), (1, vR X 5), (2, vI c2), (3, vI c3), (4, vI c4), (5, vI z7)]) dX0_solve_44 (by decide) (fun _ => rfl) (fun x11 => ?_)
  refine tj_iload (pc := 46) G 0 dX0_solve_46 rfl ?_
  refine tj_jn0 [(0, vR X 40), (1, vR X 5), (2, vI c2), (3, vI c3), (4, vI c4), (5, vI z7)] [] 153 (fun M12 => ?_) (fun jk153 hj153 => ?_)
  · refine tj_iinc (pc := 153) G 5 (fun x13 => [(5, vI x13), (0, vR X 40), (1, vR X 5), (2, vI c2), (3, vI c3), (4, vI c4)]) dX0_solve_153 rfl (by decide) (fun _ => rfl) (fun x13 => ?_)
    refine tj_goto (pc := 156) G (tgt := 29) dX0_solve_156 (by decide) ?_
    exact tj_sub [1, 2, 3, 4, 5, 0] rfl (hrec x13 M12)
  refine tj_if_lt (pc := 48) G (tgt := 153) (a2 := w32 x11) dX0_solve_48 (by decide) rfl ?_ ?_
  · exact tj_sub [1, 2, 3, 4, 5, 6] rfl (hj153  M10)
  refine tj_iload (pc := 51) G 0 dX0_solve_51 rfl ?_
  refine tj_iload (pc := 53) G 5 dX0_solve_53 rfl ?_
  refine tj_icmp_lt (pc := 55) G (tgt := 61) (a2 := w32 x11) (b2 := w32 c4) dX0_solve_55 (by decide) rfl rfl ?_ ?_
  · refine tj_iload (pc := 61) G 6 dX0_solve_61 rfl ?_
    refine tj_iload_n (pc := 63) G 4 dX0_solve_63 rfl rfl ?_
    refine tj_icmp_ne (pc := 64) G (tgt := 88) (a2 := w32 z7) (b2 := w32 c3) dX0_solve_64 (by decide) rfl rfl ?_ ?_
    · refine tj_iconst (pc := 88) G dX0_solve_88 ?_
      refine tj_istore (pc := 89) G (fun x14 => [(7, vI x14), (6, vI x11), (0, vR X 40), (1, vR X 5), (2, vI c2), (3, vI c3), (4, vI c4), (5, vI z7)]) dX0_solve_89 (by decide) (fun _ => rfl) (fun x14 => ?_)
      refine tj_sub [2, 3, 4, 5, 6, 7, 1, 0] rfl (fx_X0_solve_L91_ok G    (fun M26 => ?_) tp_F x14 M10)
      refine tj_aload_n (pc := 128) G 0 dX0_solve_128 rfl rfl ?_
      refine tj_getR (pc := 129) G (k := 40) (j := 0) (j2 := 0) tk_X0 (by decide) lc_40 rfl (by decide) rfl fl_X0_11 dX0_solve_129 ?_
      refine tj_iload (pc := 132) G 6 dX0_solve_132 rfl ?_
      refine tj_aald (pc := 134) G (k := 41) (i2 := w32 x11) (n2 := 8) (by decide) lc_41 rfl rfl dX0_solve_134 (fun hr27 => ?_)
      refine tj_iload (pc := 135) G 4 dX0_solve_135 rfl ?_
      refine tj_iload_n (pc := 137) G 3 dX0_solve_137 rfl rfl ?_
      refine tj_jn1 (fun y28 => [(0, vR X 40), (1, vR X 5), (2, vI c2), (3, vI c3), (4, vI c4), (5, vI z7)]) (fun y28 => [vL y28, vI c4, vR X (42 + (w32 x11).toNat)]) 152 (fun y28 M29 => ?_) (fun jk152 hj152 => ?_)
      · refine tj_last (pc := 152) G (k := (42 + (w32 x11).toNat)) (i2 := w32 c4) (n2 := 9) (by have := hr27; omega) (lc_rows hr27) rfl rfl dX0_solve_152 (fun M30 => ?_)
        exact tj_sub [0, 1, 2, 3, 4, 5] rfl (hj153  M30)
      refine tj_if_ne (pc := 138) G (tgt := 151) (a2 := w32 c3) dX0_solve_138 (by decide) rfl ?_ ?_
      · refine tj_lconst (pc := 151) G (v := 0) dX0_solve_151 rfl ?_
        exact tj_sub [0, 1, 2, 3, 4, 5] rfl (hj152 0 M26)
      refine tj_aload_n (pc := 141) G 1 dX0_solve_141 rfl rfl ?_
      refine tj_iload (pc := 142) G 5 dX0_solve_142 rfl ?_
      refine tj_callVi (pc := 144) G [vI z7] mf_X4_degree (k := 5) (by decide) lc_5 rfl rfl ml_X0_40 (by decide) rfl rfl (Nat.le_of_ble_eq_true rfl) (fun _ h9 => ok_X4_degree X gg_Paths_5 h9) dX0_solve_144 (fun r31 M32 => ?_)
      refine tj_i2l (pc := 147) G (b := w32 r31) dX0_solve_147 rfl ?_
      refine tj_goto (pc := 148) G (tgt := 152) dX0_solve_148 (by decide) ?_
      exact tj_sub [0, 1, 2, 3, 4, 5] rfl (hj152 (w32 r31) M32)
    refine tj_aload_n (pc := 67) G 1 dX0_solve_67 rfl rfl ?_
    refine tj_iload (pc := 68) G 0 dX0_solve_68 rfl ?_
    refine tj_iconst (pc := 70) G dX0_solve_70 ?_
    refine tj_callVv (pc := 71) G [vI x11, vI (-1)] mf_X0_addWay (k := 40) (by decide) lc_40 rfl rfl ml_X0_36 (by decide) rfl rfl (Nat.le_of_ble_eq_true rfl) (fun _ h9 => ok_X0_addWay X  h9) dX0_solve_71 (fun r33 M34 => ?_)
    refine tj_aload_n (pc := 74) G 1 dX0_solve_74 rfl rfl ?_
    refine tj_getR (pc := 75) G (k := 40) (j := 0) (j2 := 0) tk_X0 (by decide) lc_40 rfl (by decide) rfl fl_X0_11 dX0_solve_75 ?_
    refine tj_iload (pc := 78) G 0 dX0_solve_78 rfl ?_
    refine tj_aald (pc := 80) G (k := 41) (i2 := w32 x11) (n2 := 8) (by decide) lc_41 rfl rfl dX0_solve_80 (fun hr35 => ?_)
    refine tj_iload (pc := 81) G 5 dX0_solve_81 rfl ?_
    refine tj_lconst (pc := 83) G (v := 1) dX0_solve_83 rfl ?_
    refine tj_last (pc := 84) G (k := (42 + (w32 x11).toNat)) (i2 := w32 c4) (n2 := 9) (by have := hr35; omega) (lc_rows hr35) rfl rfl dX0_solve_84 (fun M36 => ?_)
    refine tj_goto (pc := 85) G (tgt := 153) dX0_solve_85 (by decide) ?_
    exact tj_sub [1, 2, 3, 4, 5, 6] rfl (hj153  M36)
  refine tj_goto (pc := 58) G (tgt := 153) dX0_solve_58 (by decide) ?_
  exact tj_sub [1, 2, 3, 4, 5, 6] rfl (hj153  M10)
set_option maxRecDepth 100000 in
set_option maxHeartbeats 4000000 in
theorem ok_X0_solve (X : tp_X)  {a2 : Int} {a3 : Int}  {M : tp_M} {res : Int × tp_M} (h : fx_X0_solve  a2 a3 M = some res) : tp_Ret X LC 64 0 yX0_solve (Cond.code yX0_solve cX0_solve 8 none) 3 [vR X 40, vR X 5, vI a2, vI a3] M res := by
  refine tp_ofW (by decide +kernel) rfl rfl (by show _ ≤ 8; exact Nat.le_of_ble_eq_true rfl) h (fun Y G => ?_)
  show tp_J X Y LC 64 8 3 0 (fx_X0_solve  a2 a3 M) M [(0, vR X 40), (1, vR X 5), (2, vI a2), (3, vI a3)] [] 0
  unfold fx_X0_solve
  refine tj_aload_n (pc := 0) G 1 dX0_solve_0 rfl rfl ?_
  refine tj_callVi (pc := 1) G [] mf_X4_crossings (k := 5) (by decide) lc_5 rfl rfl ml_X0_23 (by decide) rfl rfl (Nat.le_of_ble_eq_true rfl) (fun _ h9 => ok_X4_crossings X gg_Paths_5 h9) dX0_solve_1 (fun r1 M2 => ?_)
  refine tj_iconst (pc := 4) G dX0_solve_4 ?_
  refine tj_isub (pc := 5) G dX0_solve_5 ?_
  refine tj_istore (pc := 6) G (fun x3 => [(4, vI x3), (0, vR X 40), (1, vR X 5), (2, vI a2), (3, vI a3)]) dX0_solve_6 (by decide) (fun _ => rfl) (fun x3 => ?_)
  refine tj_iload (pc := 8) G 0 dX0_solve_8 rfl ?_
  refine tj_iconst (pc := 10) G dX0_solve_10 ?_
  refine tj_icmp_lt (pc := 11) G (tgt := 21) (a2 := w32 x3) (b2 := 1) dX0_solve_11 (by decide) rfl rfl ?_ ?_
  · exact tj_vret (pc := 21) G dX0_solve_21
  refine tj_iload (pc := 14) G 0 dX0_solve_14 rfl ?_
  refine tj_bipush (pc := 16) G dX0_solve_16 rfl ?_
  refine tj_icmp_lt (pc := 18) G (tgt := 22) (a2 := w32 x3) (b2 := 8) dX0_solve_18 (by decide) rfl rfl ?_ ?_
  · refine tj_aload_n (pc := 22) G 1 dX0_solve_22 rfl rfl ?_
    refine tj_callVv (pc := 23) G [] mf_X0_clearCells (k := 40) (by decide) lc_40 rfl rfl ml_X0_29 (by decide) rfl rfl (Nat.le_of_ble_eq_true rfl) (fun _ h9 => ok_X0_clearCells X  h9) dX0_solve_23 (fun r4 M5 => ?_)
    refine tj_iconst (pc := 26) G dX0_solve_26 ?_
    refine tj_istore (pc := 27) G (fun x6 => [(5, vI x6), (4, vI x3), (0, vR X 40), (1, vR X 5), (2, vI a2), (3, vI a3)]) dX0_solve_27 (by decide) (fun _ => rfl) (fun x6 => ?_)
    refine tj_sub [2, 3, 4, 5, 1, 0] rfl (fx_X0_solve_L29_ok G    (fun M37 => ?_) tp_F x6 M5)
    refine tj_aload_n (pc := 159) G 0 dX0_solve_159 rfl rfl ?_
    refine tj_iload (pc := 160) G 1 dX0_solve_160 rfl ?_
    refine tj_callVi (pc := 162) G [vI x3] mf_X0_eliminate (k := 40) (by decide) lc_40 rfl rfl ml_X0_44 (by decide) rfl rfl (Nat.le_of_ble_eq_true rfl) (fun _ h9 => ok_X0_eliminate X  h9) dX0_solve_162 (fun r38 M39 => ?_)
    refine tj_if_eq (pc := 165) G (tgt := 198) (a2 := w32 r38) dX0_solve_165 (by decide) rfl ?_ ?_
    · exact tj_vret (pc := 198) G dX0_solve_198
    refine tj_aload_n (pc := 168) G 0 dX0_solve_168 rfl rfl ?_
    refine tj_aload_n (pc := 169) G 0 dX0_solve_169 rfl rfl ?_
    refine tj_getR (pc := 170) G (k := 40) (j := 0) (j2 := 0) tk_X0 (by decide) lc_40 rfl (by decide) rfl fl_X0_11 dX0_solve_170 ?_
    refine tj_iload (pc := 173) G 1 dX0_solve_173 rfl ?_
    refine tj_iconst (pc := 175) G dX0_solve_175 ?_
    refine tj_isub (pc := 176) G dX0_solve_176 ?_
    refine tj_aald (pc := 177) G (k := 41) (i2 := w32 (x3 - 1)) (n2 := 8) (by decide) lc_41 rfl rfl dX0_solve_177 (fun hr40 => ?_)
    refine tj_iload (pc := 178) G 1 dX0_solve_178 rfl ?_
    refine tj_lald (pc := 180) G (k := (42 + (w32 (x3 - 1)).toNat)) (i2 := w32 x3) (n2 := 9) (by have := hr40; omega) (lc_rows hr40) rfl rfl dX0_solve_180 ?_
    refine tj_aload_n (pc := 181) G 0 dX0_solve_181 rfl rfl ?_
    refine tj_getR (pc := 182) G (k := 40) (j := 0) (j2 := 0) tk_X0 (by decide) lc_40 rfl (by decide) rfl fl_X0_11 dX0_solve_182 ?_
    refine tj_iload (pc := 185) G 1 dX0_solve_185 rfl ?_
    refine tj_iconst (pc := 187) G dX0_solve_187 ?_
    refine tj_isub (pc := 188) G dX0_solve_188 ?_
    refine tj_aald (pc := 189) G (k := 41) (i2 := w32 (x3 - 1)) (n2 := 8) (by decide) lc_41 rfl rfl dX0_solve_189 (fun hr41 => ?_)
    refine tj_iload (pc := 190) G 1 dX0_solve_190 rfl ?_
    refine tj_iconst (pc := 192) G dX0_solve_192 ?_
    refine tj_isub (pc := 193) G dX0_solve_193 ?_
    refine tj_lald (pc := 194) G (k := (42 + (w32 (x3 - 1)).toNat)) (i2 := w32 (x3 - 1)) (n2 := 9) (by have := hr41; omega) (lc_rows hr41) rfl rfl dX0_solve_194 ?_
    refine tj_callVv (pc := 195) G [vL (M39 (42 + (w32 (x3 - 1)).toNat) (w32 x3)), vL (M39 (42 + (w32 (x3 - 1)).toNat) (w32 (x3 - 1)))] mf_X0_tellFraction (k := 40) (by decide) lc_40 rfl rfl ml_X0_52 (by decide) rfl rfl (Nat.le_of_ble_eq_true rfl) (fun _ h9 => ok_X0_tellFraction X  h9) dX0_solve_195 (fun r42 M43 => ?_)
    exact tj_vret (pc := 198) G dX0_solve_198
  exact tj_vret (pc := 21) G dX0_solve_21

def fx_X4_has  (t : Nat) (a1 : Int) (M : tp_M) : tp_O :=
(if w32 a1 < 0 then
(some (0, M))
else
(if w32 a1 < w32 (M t 4) then
(some (1, M))
else
(some (0, M))))
set_option maxRecDepth 100000 in
set_option maxHeartbeats 4000000 in
theorem ok_X4_has (X : tp_X)  {t : Nat} {a1 : Int} (ht : tg_Paths LC 64 t) {M : tp_M} {res : Int × tp_M} (h : fx_X4_has  t a1 M = some res) : tp_Ret X LC 64 1 yX4_has (Cond.code yX4_has cX4_has 2 (some .boolean)) 1 [vR X t, vI a1] M res := by
  refine tp_ofW (by decide +kernel) rfl rfl (by show _ ≤ 2; exact Nat.le_of_ble_eq_true rfl) h (fun Y G => ?_)
  show tp_J X Y LC 64 2 1 1 (fx_X4_has  t a1 M) M [(0, vR X t), (1, vI a1)] [] 0
  unfold fx_X4_has
  refine tj_iload_n (pc := 0) G 1 dX4_has_0 rfl rfl ?_
  refine tj_if_lt (pc := 1) G (tgt := 16) (a2 := w32 a1) dX4_has_1 (by decide) rfl ?_ ?_
  · refine tj_iconst (pc := 16) G dX4_has_16 ?_
    exact tj_zret (pc := 17) G (by decide) dX4_has_17
  refine tj_iload_n (pc := 4) G 1 dX4_has_4 rfl rfl ?_
  refine tj_aload_n (pc := 5) G 0 dX4_has_5 rfl rfl ?_
  refine tj_getI (pc := 6) G (k := t) (j := 4) (j2 := 4) tk_X4 (tg_Paths_l0 ht) ht.2.1 rfl (by decide) rfl fl_X4_27 dX4_has_6 ?_
  refine tj_icmp_ge (pc := 9) G (tgt := 16) (a2 := w32 a1) (b2 := w32 (M t 4)) dX4_has_9 (by decide) rfl rfl ?_ ?_
  · refine tj_iconst (pc := 16) G dX4_has_16 ?_
    exact tj_zret (pc := 17) G (by decide) dX4_has_17
  refine tj_iconst (pc := 12) G dX4_has_12 ?_
  refine tj_goto (pc := 13) G (tgt := 17) dX4_has_13 (by decide) ?_
  exact tj_zret (pc := 17) G (by decide) dX4_has_17

def fx_X0_spreadOnce_L2  (K21 : tp_M → tp_O) (rec : Int → tp_M → tp_O) (z2 : Int) (M3 : tp_M) : tp_O :=
(if w32 z2 < 8 then
(tp_ck (w32 z2) 8 (tp_lm (tp_up M3 51 (w32 z2) 0) (fun M4 =>
(tp_lt (z2 + 1) (fun x5 =>
(rec x5 M4))))))
else
(K21 M3))
def fx_X0_spreadOnce_L78 (c2 : Int) (c3 : Int) (c4 : Int) (K120 : tp_M → tp_O) (rec : Int → tp_M → tp_O) (z20 : Int) (M21 : tp_M) : tp_O :=
(if w32 z20 < w32 c3 then
(tp_bd (fx_X4_goal 5 c2 z20 M21) (fun r22 M23 =>
(tp_lt r22 (fun x24 =>
(tp_bd (fx_X4_has 5 x24 M23) (fun r25 M26 =>
(tp_jn0 (fun M27 => 
(tp_lt (z20 + 1) (fun x28 =>
(rec x28 M27)))) (fun jk114 =>
(if w32 r25 = 0 then
(jk114 M26)
else
(tp_ck (w32 x24) 8 (tp_ck (w32 x24) 8 (tp_lm (tp_up M26 51 (w32 x24) ((M26 51 (w32 x24)) + c4)) (fun M29 =>
(jk114 M29))))))))))))))
else
(K120 M21))
def fx_X0_spreadOnce_L39  (K126 : tp_M → tp_O) (rec : Int → tp_M → tp_O) (z9 : Int) (M10 : tp_M) : tp_O :=
(tp_bd (fx_X4_crossings 5 M10) (fun r11 M12 =>
(if w32 z9 < w32 r11 then
(tp_bd (fx_X4_degree 5 z9 M12) (fun r13 M14 =>
(tp_lt r13 (fun x15 =>
(tp_jn0 (fun M16 => 
(tp_lt (z9 + 1) (fun x17 =>
(rec x17 M16)))) (fun jk120 =>
(if w32 x15 < 1 then
(jk120 M14)
else
(tp_ck (w32 z9) 8 (tp_nz (w32 x15) (tp_lt ((M14 50 (w32 z9)) * (w32 (x_div 12 x15))) (fun x18 =>
(tp_lt 0 (fun x19 =>
(tp_lp1 (fx_X0_spreadOnce_L78 z9 x15 x18 (fun M30 =>
(jk120 M30))) tp_F x19 M14))))))))))))))
else
(K126 M12))))
def fx_X0_spreadOnce_L128  (rec : Int → tp_M → tp_O) (z33 : Int) (M34 : tp_M) : tp_O :=
(if w32 z33 < 8 then
(tp_ck (w32 z33) 8 (tp_ck (w32 z33) 8 (tp_lm (tp_up M34 50 (w32 z33) (M34 51 (w32 z33))) (fun M35 =>
(tp_lt (z33 + 1) (fun x36 =>
(rec x36 M35)))))))
else
(some (0, M34)))
def fx_X0_spreadOnce   (M : tp_M) : tp_O :=
(tp_lt 0 (fun x1 =>
(tp_lp1 (fx_X0_spreadOnce_L2  (fun M6 =>
(tp_lm (tp_up M6 51 0 ((M6 50 0) * 12)) (fun M7 =>
(tp_lt 1 (fun x8 =>
(tp_lp1 (fx_X0_spreadOnce_L39  (fun M31 =>
(tp_lt 0 (fun x32 =>
(tp_lp1 (fx_X0_spreadOnce_L128  ) tp_F x32 M31))))) tp_F x8 M7))))))) tp_F x1 M)))
set_option maxRecDepth 100000 in
set_option maxHeartbeats 4000000 in
theorem fx_X0_spreadOnce_L2_ok {X : tp_X} {Y : tp_Y} (G : tp_Ok X Y 64 cX0_spreadOnce 8 RX0 none)  {K21 : tp_M → tp_O}   (hK21 : ∀ (M9 : tp_M), tp_J X Y LC 64 8 3 0 (K21  M9) M9 [(0, vR X 40), (1, vR X 5)] [] 21) (n : Nat) : ∀ (z2 : Int) (M3 : tp_M), tp_J X Y LC 64 8 3 0 (tp_lp1 (fx_X0_spreadOnce_L2   K21) n z2 M3) M3 [(0, vR X 40), (1, vR X 5), (2, vI z2)] [] 2 := by
  refine tp_lp1_ok (P := fun o z2 M3 => tp_J X Y LC 64 8 3 0 (o) M3 [(0, vR X 40), (1, vR X 5), (2, vI z2)] [] 2) (fun z2 M3 => tj_none) (fun rec hrec z2 M3 => ?_) n
  unfold fx_X0_spreadOnce_L2
  refine tj_iload_n (pc := 2) G 2 dX0_spreadOnce_2 rfl rfl ?_
  refine tj_bipush (pc := 3) G dX0_spreadOnce_3 rfl ?_
  refine tj_icmp_ge (pc := 5) G (tgt := 21) (a2 := w32 z2) (b2 := 8) dX0_spreadOnce_5 (by decide) rfl rfl ?_ ?_
  · exact tj_sub [0, 1] rfl (hK21  M3)
  refine tj_aload_n (pc := 8) G 0 dX0_spreadOnce_8 rfl rfl ?_
  refine tj_getR (pc := 9) G (k := 40) (j := 2) (j2 := 2) tk_X0 (by decide) lc_40 rfl (by decide) rfl fl_X0_20 dX0_spreadOnce_9 ?_
  refine tj_iload_n (pc := 12) G 2 dX0_spreadOnce_12 rfl rfl ?_
  refine tj_lconst (pc := 13) G (v := 0) dX0_spreadOnce_13 rfl ?_
  refine tj_last (pc := 14) G (k := 51) (i2 := w32 z2) (n2 := 8) (by decide) lc_51 rfl rfl dX0_spreadOnce_14 (fun M4 => ?_)
  refine tj_iinc (pc := 15) G 2 (fun x5 => [(2, vI x5), (0, vR X 40), (1, vR X 5)]) dX0_spreadOnce_15 rfl (by decide) (fun _ => rfl) (fun x5 => ?_)
  refine tj_goto (pc := 18) G (tgt := 2) dX0_spreadOnce_18 (by decide) ?_
  exact tj_sub [1, 2, 0] rfl (hrec x5 M4)
set_option maxRecDepth 100000 in
set_option maxHeartbeats 4000000 in
theorem fx_X0_spreadOnce_L78_ok {X : tp_X} {Y : tp_Y} (G : tp_Ok X Y 64 cX0_spreadOnce 8 RX0 none)  {c2 : Int} {c3 : Int} {c4 : Int} {K120 : tp_M → tp_O}   (hK120 : ∀ (M9 : tp_M), tp_J X Y LC 64 8 3 0 (K120  M9) M9 [(0, vR X 40), (1, vR X 5), (2, vI c2)] [] 120) (n : Nat) : ∀ (z20 : Int) (M21 : tp_M), tp_J X Y LC 64 8 3 0 (tp_lp1 (fx_X0_spreadOnce_L78  c2 c3 c4 K120) n z20 M21) M21 [(0, vR X 40), (1, vR X 5), (2, vI c2), (3, vI c3), (4, vL c4), (6, vI z20)] [] 78 := by
  refine tp_lp1_ok (P := fun o z20 M21 => tp_J X Y LC 64 8 3 0 (o) M21 [(0, vR X 40), (1, vR X 5), (2, vI c2), (3, vI c3), (4, vL c4), (6, vI z20)] [] 78) (fun z20 M21 => tj_none) (fun rec hrec z20 M21 => ?_) n
  unfold fx_X0_spreadOnce_L78
  refine tj_iload (pc := 78) G 5 dX0_spreadOnce_78 rfl ?_
  refine tj_iload_n (pc := 80) G 3 dX0_spreadOnce_80 rfl rfl ?_
  refine tj_icmp_ge (pc := 81) G (tgt := 120) (a2 := w32 z20) (b2 := w32 c3) dX0_spreadOnce_81 (by decide) rfl rfl ?_ ?_
  · exact tj_sub [0, 1, 2] rfl (hK120  M21)
  refine tj_aload_n (pc := 84) G 1 dX0_spreadOnce_84 rfl rfl ?_
  refine tj_iload_n (pc := 85) G 2 dX0_spreadOnce_85 rfl rfl ?_
  refine tj_iload (pc := 86) G 5 dX0_spreadOnce_86 rfl ?_
  refine tj_callVi (pc := 88) G [vI c2, vI z20] mf_X4_goal (k := 5) (by decide) lc_5 rfl rfl ml_X0_32 (by decide) rfl rfl (Nat.le_of_ble_eq_true rfl) (fun _ h9 => ok_X4_goal X gg_Paths_5 h9) dX0_spreadOnce_88 (fun r22 M23 => ?_)
  refine tj_istore (pc := 91) G (fun x24 => [(7, vI x24), (0, vR X 40), (1, vR X 5), (2, vI c2), (3, vI c3), (4, vL c4), (6, vI z20)]) dX0_spreadOnce_91 (by decide) (fun _ => rfl) (fun x24 => ?_)
  refine tj_aload_n (pc := 93) G 2 dX0_spreadOnce_93 rfl rfl ?_
  refine tj_iload (pc := 94) G 0 dX0_spreadOnce_94 rfl ?_
  refine tj_callVi (pc := 96) G [vI x24] mf_X4_has (k := 5) (by decide) lc_5 rfl rfl ml_X0_63 (by decide) rfl rfl (Nat.le_of_ble_eq_true rfl) (fun _ h9 => ok_X4_has X gg_Paths_5 h9) dX0_spreadOnce_96 (fun r25 M26 => ?_)
  refine tj_jn0 [(0, vR X 40), (1, vR X 5), (2, vI c2), (3, vI c3), (4, vL c4), (6, vI z20)] [] 114 (fun M27 => ?_) (fun jk114 hj114 => ?_)
  · refine tj_iinc (pc := 114) G 5 (fun x28 => [(6, vI x28), (0, vR X 40), (1, vR X 5), (2, vI c2), (3, vI c3), (4, vL c4)]) dX0_spreadOnce_114 rfl (by decide) (fun _ => rfl) (fun x28 => ?_)
    refine tj_goto (pc := 117) G (tgt := 78) dX0_spreadOnce_117 (by decide) ?_
    exact tj_sub [1, 2, 3, 4, 5, 0] rfl (hrec x28 M27)
  refine tj_if_eq (pc := 99) G (tgt := 114) (a2 := w32 r25) dX0_spreadOnce_99 (by decide) rfl ?_ ?_
  · exact tj_sub [1, 2, 3, 4, 5, 6] rfl (hj114  M26)
  refine tj_aload_n (pc := 102) G 1 dX0_spreadOnce_102 rfl rfl ?_
  refine tj_getR (pc := 103) G (k := 40) (j := 2) (j2 := 2) tk_X0 (by decide) lc_40 rfl (by decide) rfl fl_X0_20 dX0_spreadOnce_103 ?_
  refine tj_iload (pc := 106) G 0 dX0_spreadOnce_106 rfl ?_
  refine tj_dup2 (pc := 108) G dX0_spreadOnce_108 rfl rfl ?_
  refine tj_lald (pc := 109) G (k := 51) (i2 := w32 x24) (n2 := 8) (by decide) lc_51 rfl rfl dX0_spreadOnce_109 ?_
  refine tj_lload (pc := 110) G 5 dX0_spreadOnce_110 rfl ?_
  refine tj_ladd (pc := 112) G dX0_spreadOnce_112 ?_
  refine tj_last (pc := 113) G (k := 51) (i2 := w32 x24) (n2 := 8) (by decide) lc_51 rfl rfl dX0_spreadOnce_113 (fun M29 => ?_)
  exact tj_sub [1, 2, 3, 4, 5, 6] rfl (hj114  M29)
set_option maxRecDepth 100000 in
set_option maxHeartbeats 4000000 in
theorem fx_X0_spreadOnce_L39_ok {X : tp_X} {Y : tp_Y} (G : tp_Ok X Y 64 cX0_spreadOnce 8 RX0 none)  {K126 : tp_M → tp_O}   (hK126 : ∀ (M9 : tp_M), tp_J X Y LC 64 8 3 0 (K126  M9) M9 [(0, vR X 40)] [] 126) (n : Nat) : ∀ (z9 : Int) (M10 : tp_M), tp_J X Y LC 64 8 3 0 (tp_lp1 (fx_X0_spreadOnce_L39   K126) n z9 M10) M10 [(0, vR X 40), (1, vR X 5), (2, vI z9)] [] 39 := by
  refine tp_lp1_ok (P := fun o z9 M10 => tp_J X Y LC 64 8 3 0 (o) M10 [(0, vR X 40), (1, vR X 5), (2, vI z9)] [] 39) (fun z9 M10 => tj_none) (fun rec hrec z9 M10 => ?_) n
  unfold fx_X0_spreadOnce_L39
  refine tj_iload_n (pc := 39) G 2 dX0_spreadOnce_39 rfl rfl ?_
  refine tj_aload_n (pc := 40) G 1 dX0_spreadOnce_40 rfl rfl ?_
  refine tj_callVi (pc := 41) G [] mf_X4_crossings (k := 5) (by decide) lc_5 rfl rfl ml_X0_23 (by decide) rfl rfl (Nat.le_of_ble_eq_true rfl) (fun _ h9 => ok_X4_crossings X gg_Paths_5 h9) dX0_spreadOnce_41 (fun r11 M12 => ?_)
  refine tj_icmp_ge (pc := 44) G (tgt := 126) (a2 := w32 z9) (b2 := w32 r11) dX0_spreadOnce_44 (by decide) rfl rfl ?_ ?_
  · exact tj_sub [0] rfl (hK126  M12)
  refine tj_aload_n (pc := 47) G 1 dX0_spreadOnce_47 rfl rfl ?_
  refine tj_iload_n (pc := 48) G 2 dX0_spreadOnce_48 rfl rfl ?_
  refine tj_callVi (pc := 49) G [vI z9] mf_X4_degree (k := 5) (by decide) lc_5 rfl rfl ml_X0_40 (by decide) rfl rfl (Nat.le_of_ble_eq_true rfl) (fun _ h9 => ok_X4_degree X gg_Paths_5 h9) dX0_spreadOnce_49 (fun r13 M14 => ?_)
  refine tj_istore_n (pc := 52) G (fun x15 => [(3, vI x15), (0, vR X 40), (1, vR X 5), (2, vI z9)]) dX0_spreadOnce_52 rfl (by decide) (fun _ => rfl) (fun x15 => ?_)
  refine tj_iload_n (pc := 53) G 0 dX0_spreadOnce_53 rfl rfl ?_
  refine tj_iconst (pc := 54) G dX0_spreadOnce_54 ?_
  refine tj_jn0 [(0, vR X 40), (1, vR X 5), (2, vI z9)] [] 120 (fun M16 => ?_) (fun jk120 hj120 => ?_)
  · refine tj_iinc (pc := 120) G 2 (fun x17 => [(2, vI x17), (0, vR X 40), (1, vR X 5)]) dX0_spreadOnce_120 rfl (by decide) (fun _ => rfl) (fun x17 => ?_)
    refine tj_goto (pc := 123) G (tgt := 39) dX0_spreadOnce_123 (by decide) ?_
    exact tj_sub [1, 2, 0] rfl (hrec x17 M16)
  refine tj_icmp_ge (pc := 55) G (tgt := 61) (a2 := w32 x15) (b2 := 1) dX0_spreadOnce_55 (by decide) rfl rfl ?_ ?_
  · refine tj_aload_n (pc := 61) G 1 dX0_spreadOnce_61 rfl rfl ?_
    refine tj_getR (pc := 62) G (k := 40) (j := 1) (j2 := 1) tk_X0 (by decide) lc_40 rfl (by decide) rfl fl_X0_16 dX0_spreadOnce_62 ?_
    refine tj_iload_n (pc := 65) G 3 dX0_spreadOnce_65 rfl rfl ?_
    refine tj_lald (pc := 66) G (k := 50) (i2 := w32 z9) (n2 := 8) (by decide) lc_50 rfl rfl dX0_spreadOnce_66 ?_
    refine tj_bipush (pc := 67) G dX0_spreadOnce_67 rfl ?_
    refine tj_iload_n (pc := 69) G 0 dX0_spreadOnce_69 rfl rfl ?_
    refine tj_idiv (pc := 70) G (b2 := w32 x15) dX0_spreadOnce_70 rfl ?_
    refine tj_i2l (pc := 71) G (b := w32 (x_div 12 x15)) dX0_spreadOnce_71 rfl ?_
    refine tj_lmul (pc := 72) G dX0_spreadOnce_72 ?_
    refine tj_lstore (pc := 73) G (fun x18 => [(4, vL x18), (3, vI x15), (0, vR X 40), (1, vR X 5), (2, vI z9)]) dX0_spreadOnce_73 (by decide) (fun _ => rfl) (fun x18 => ?_)
    refine tj_iconst (pc := 75) G dX0_spreadOnce_75 ?_
    refine tj_istore (pc := 76) G (fun x19 => [(6, vI x19), (4, vL x18), (3, vI x15), (0, vR X 40), (1, vR X 5), (2, vI z9)]) dX0_spreadOnce_76 (by decide) (fun _ => rfl) (fun x19 => ?_)
    refine tj_sub [3, 4, 5, 2, 1, 0] rfl (fx_X0_spreadOnce_L78_ok G    (fun M30 => ?_) tp_F x19 M14)
    exact tj_sub [0, 1, 2] rfl (hj120  M30)
  refine tj_goto (pc := 58) G (tgt := 120) dX0_spreadOnce_58 (by decide) ?_
  exact tj_sub [1, 2, 3] rfl (hj120  M14)
set_option maxRecDepth 100000 in
set_option maxHeartbeats 4000000 in
theorem fx_X0_spreadOnce_L128_ok {X : tp_X} {Y : tp_Y} (G : tp_Ok X Y 64 cX0_spreadOnce 8 RX0 none)      (n : Nat) : ∀ (z33 : Int) (M34 : tp_M), tp_J X Y LC 64 8 3 0 (tp_lp1 (fx_X0_spreadOnce_L128   ) n z33 M34) M34 [(0, vR X 40), (2, vI z33)] [] 128 := by
  refine tp_lp1_ok (P := fun o z33 M34 => tp_J X Y LC 64 8 3 0 (o) M34 [(0, vR X 40), (2, vI z33)] [] 128) (fun z33 M34 => tj_none) (fun rec hrec z33 M34 => ?_) n
  unfold fx_X0_spreadOnce_L128
  refine tj_iload_n (pc := 128) G 1 dX0_spreadOnce_128 rfl rfl ?_
  refine tj_bipush (pc := 129) G dX0_spreadOnce_129 rfl ?_
  refine tj_icmp_ge (pc := 131) G (tgt := 152) (a2 := w32 z33) (b2 := 8) dX0_spreadOnce_131 (by decide) rfl rfl ?_ ?_
  · exact tj_vret (pc := 152) G dX0_spreadOnce_152
  refine tj_aload_n (pc := 134) G 0 dX0_spreadOnce_134 rfl rfl ?_
  refine tj_getR (pc := 135) G (k := 40) (j := 1) (j2 := 1) tk_X0 (by decide) lc_40 rfl (by decide) rfl fl_X0_16 dX0_spreadOnce_135 ?_
  refine tj_iload_n (pc := 138) G 1 dX0_spreadOnce_138 rfl rfl ?_
  refine tj_aload_n (pc := 139) G 0 dX0_spreadOnce_139 rfl rfl ?_
  refine tj_getR (pc := 140) G (k := 40) (j := 2) (j2 := 2) tk_X0 (by decide) lc_40 rfl (by decide) rfl fl_X0_20 dX0_spreadOnce_140 ?_
  refine tj_iload_n (pc := 143) G 1 dX0_spreadOnce_143 rfl rfl ?_
  refine tj_lald (pc := 144) G (k := 51) (i2 := w32 z33) (n2 := 8) (by decide) lc_51 rfl rfl dX0_spreadOnce_144 ?_
  refine tj_last (pc := 145) G (k := 50) (i2 := w32 z33) (n2 := 8) (by decide) lc_50 rfl rfl dX0_spreadOnce_145 (fun M35 => ?_)
  refine tj_iinc (pc := 146) G 1 (fun x36 => [(2, vI x36), (0, vR X 40)]) dX0_spreadOnce_146 rfl (by decide) (fun _ => rfl) (fun x36 => ?_)
  refine tj_goto (pc := 149) G (tgt := 128) dX0_spreadOnce_149 (by decide) ?_
  exact tj_sub [1, 0] rfl (hrec x36 M35)
set_option maxRecDepth 100000 in
set_option maxHeartbeats 4000000 in
theorem ok_X0_spreadOnce (X : tp_X)    {M : tp_M} {res : Int × tp_M} (h : fx_X0_spreadOnce   M = some res) : tp_Ret X LC 64 0 yX0_spreadOnce (Cond.code yX0_spreadOnce cX0_spreadOnce 8 none) 3 [vR X 40, vR X 5] M res := by
  refine tp_ofW (by decide +kernel) rfl rfl (by show _ ≤ 8; exact Nat.le_of_ble_eq_true rfl) h (fun Y G => ?_)
  show tp_J X Y LC 64 8 3 0 (fx_X0_spreadOnce   M) M [(0, vR X 40), (1, vR X 5)] [] 0
  unfold fx_X0_spreadOnce
  refine tj_iconst (pc := 0) G dX0_spreadOnce_0 ?_
  refine tj_istore_n (pc := 1) G (fun x1 => [(2, vI x1), (0, vR X 40), (1, vR X 5)]) dX0_spreadOnce_1 rfl (by decide) (fun _ => rfl) (fun x1 => ?_)
  refine tj_sub [1, 2, 0] rfl (fx_X0_spreadOnce_L2_ok G    (fun M6 => ?_) tp_F x1 M)
  refine tj_aload_n (pc := 21) G 0 dX0_spreadOnce_21 rfl rfl ?_
  refine tj_getR (pc := 22) G (k := 40) (j := 2) (j2 := 2) tk_X0 (by decide) lc_40 rfl (by decide) rfl fl_X0_20 dX0_spreadOnce_22 ?_
  refine tj_iconst (pc := 25) G dX0_spreadOnce_25 ?_
  refine tj_aload_n (pc := 26) G 0 dX0_spreadOnce_26 rfl rfl ?_
  refine tj_getR (pc := 27) G (k := 40) (j := 1) (j2 := 1) tk_X0 (by decide) lc_40 rfl (by decide) rfl fl_X0_16 dX0_spreadOnce_27 ?_
  refine tj_iconst (pc := 30) G dX0_spreadOnce_30 ?_
  refine tj_lald1 (pc := 31) G (k := 50) (i2 := 0) (n2 := 0) (by decide) lc_50 rfl (by decide) dX0_spreadOnce_31 ?_
  refine tj_ldc2 (pc := 32) G (v := 12) dX0_spreadOnce_32 ct_X0_70 rfl ?_
  refine tj_lmul (pc := 35) G dX0_spreadOnce_35 ?_
  refine tj_last1 (pc := 36) G (k := 51) (i2 := 0) (n2 := 0) (by decide) lc_51 rfl (by decide) dX0_spreadOnce_36 (fun M7 => ?_)
  refine tj_iconst (pc := 37) G dX0_spreadOnce_37 ?_
  refine tj_istore_n (pc := 38) G (fun x8 => [(2, vI x8), (0, vR X 40), (1, vR X 5)]) dX0_spreadOnce_38 rfl (by decide) (fun _ => rfl) (fun x8 => ?_)
  refine tj_sub [1, 2, 0] rfl (fx_X0_spreadOnce_L39_ok G    (fun M31 => ?_) tp_F x8 M7)
  refine tj_iconst (pc := 126) G dX0_spreadOnce_126 ?_
  refine tj_istore_n (pc := 127) G (fun x32 => [(2, vI x32), (0, vR X 40)]) dX0_spreadOnce_127 rfl (by decide) (fun _ => rfl) (fun x32 => ?_)
  refine tj_sub [1, 0] rfl (fx_X0_spreadOnce_L128_ok G     tp_F x32 M31)

def fx_X0_spread_L21 (c2 : Int) (c3 : Int) (c4 : Int) (K52 : tp_M → tp_O) (rec : Int → tp_M → tp_O) (z6 : Int) (M7 : tp_M) : tp_O :=
(if w32 z6 < 8 then
(tp_jn1 (fun y8 M9 => 
(tp_ck (w32 z6) 8 (tp_lm (tp_up M9 50 (w32 z6) y8) (fun M10 =>
(tp_lt (z6 + 1) (fun x11 =>
(rec x11 M10))))))) (fun jk45 =>
(if w32 z6 = w32 c2 then
(jk45 1 M7)
else
(jk45 0 M7))))
else
(K52 M7))
def fx_X0_spread_L58 (c3 : Int) (c4 : Int) (K90 : Int → tp_M → tp_O) (rec : Int → Int → tp_M → tp_O) (z15 z16 : Int) (M17 : tp_M) : tp_O :=
(if w32 z16 < w32 c3 then
(if w32 z16 < 8 then
(tp_bd (fx_X0_spreadOnce  M17) (fun r19 M20 =>
(tp_lt (z15 * 12) (fun x21 =>
(tp_lt (z16 + 1) (fun x22 =>
(rec x21 x22 M20)))))))
else
(K90 z15 M17))
else
(K90 z15 M17))
def fx_X0_spread  (a2 : Int) (a3 : Int) (a4 : Int) (M : tp_M) : tp_O :=
(tp_bd (fx_X4_has 5 a2 M) (fun r1 M2 =>
(if w32 r1 = 0 then
(some (0, M2))
else
(tp_bd (fx_X4_has 5 a4 M2) (fun r3 M4 =>
(if w32 r3 = 0 then
(some (0, M4))
else
(tp_lt 0 (fun x5 =>
(tp_lp1 (fx_X0_spread_L21 a2 a3 a4 (fun M12 =>
(tp_lt 1 (fun x13 =>
(tp_lt 0 (fun x14 =>
(tp_lp2 (fx_X0_spread_L58 a3 a4 (fun y18 M23 =>
(tp_ck (w32 a4) 8 (tp_bd (fx_X0_tellFraction (M23 50 (w32 a4)) y18 M23) (fun r24 M25 =>
(some (0, M25))))))) tp_F x13 x14 M12))))))) tp_F x5 M4)))))))))
set_option maxRecDepth 100000 in
set_option maxHeartbeats 4000000 in
theorem fx_X0_spread_L21_ok {X : tp_X} {Y : tp_Y} (G : tp_Ok X Y 64 cX0_spread 8 RX0 none)  {c2 : Int} {c3 : Int} {c4 : Int} {K52 : tp_M → tp_O}   (hK52 : ∀ (M9 : tp_M), tp_J X Y LC 64 8 4 0 (K52  M9) M9 [(0, vR X 40), (1, vR X 5), (3, vI c3), (4, vI c4)] [] 52) (n : Nat) : ∀ (z6 : Int) (M7 : tp_M), tp_J X Y LC 64 8 4 0 (tp_lp1 (fx_X0_spread_L21  c2 c3 c4 K52) n z6 M7) M7 [(0, vR X 40), (1, vR X 5), (2, vI c2), (3, vI c3), (4, vI c4), (5, vI z6)] [] 21 := by
  refine tp_lp1_ok (P := fun o z6 M7 => tp_J X Y LC 64 8 4 0 (o) M7 [(0, vR X 40), (1, vR X 5), (2, vI c2), (3, vI c3), (4, vI c4), (5, vI z6)] [] 21) (fun z6 M7 => tj_none) (fun rec hrec z6 M7 => ?_) n
  unfold fx_X0_spread_L21
  refine tj_iload (pc := 21) G 5 dX0_spread_21 rfl ?_
  refine tj_bipush (pc := 23) G dX0_spread_23 rfl ?_
  refine tj_icmp_ge (pc := 25) G (tgt := 52) (a2 := w32 z6) (b2 := 8) dX0_spread_25 (by decide) rfl rfl ?_ ?_
  · exact tj_sub [0, 1, 3, 4] rfl (hK52  M7)
  refine tj_aload_n (pc := 28) G 0 dX0_spread_28 rfl rfl ?_
  refine tj_getR (pc := 29) G (k := 40) (j := 1) (j2 := 1) tk_X0 (by decide) lc_40 rfl (by decide) rfl fl_X0_16 dX0_spread_29 ?_
  refine tj_iload (pc := 32) G 5 dX0_spread_32 rfl ?_
  refine tj_iload (pc := 34) G 5 dX0_spread_34 rfl ?_
  refine tj_iload_n (pc := 36) G 2 dX0_spread_36 rfl rfl ?_
  refine tj_jn1 (fun y8 => [(0, vR X 40), (1, vR X 5), (2, vI c2), (3, vI c3), (4, vI c4), (5, vI z6)]) (fun y8 => [vL y8, vI z6, vR X 50]) 45 (fun y8 M9 => ?_) (fun jk45 hj45 => ?_)
  · refine tj_last (pc := 45) G (k := 50) (i2 := w32 z6) (n2 := 8) (by decide) lc_50 rfl rfl dX0_spread_45 (fun M10 => ?_)
    refine tj_iinc (pc := 46) G 5 (fun x11 => [(5, vI x11), (0, vR X 40), (1, vR X 5), (2, vI c2), (3, vI c3), (4, vI c4)]) dX0_spread_46 rfl (by decide) (fun _ => rfl) (fun x11 => ?_)
    refine tj_goto (pc := 49) G (tgt := 21) dX0_spread_49 (by decide) ?_
    exact tj_sub [1, 2, 3, 4, 5, 0] rfl (hrec x11 M10)
  refine tj_icmp_ne (pc := 37) G (tgt := 44) (a2 := w32 z6) (b2 := w32 c2) dX0_spread_37 (by decide) rfl rfl ?_ ?_
  · refine tj_lconst (pc := 44) G (v := 0) dX0_spread_44 rfl ?_
    exact tj_sub [0, 1, 2, 3, 4, 5] rfl (hj45 0 M7)
  refine tj_lconst (pc := 40) G (v := 1) dX0_spread_40 rfl ?_
  refine tj_goto (pc := 41) G (tgt := 45) dX0_spread_41 (by decide) ?_
  exact tj_sub [0, 1, 2, 3, 4, 5] rfl (hj45 1 M7)
set_option maxRecDepth 100000 in
set_option maxHeartbeats 4000000 in
theorem fx_X0_spread_L58_ok {X : tp_X} {Y : tp_Y} (G : tp_Ok X Y 64 cX0_spread 8 RX0 none)  {c3 : Int} {c4 : Int} {K90 : Int → tp_M → tp_O}   (hK90 : ∀ (y18 : Int) (M9 : tp_M), tp_J X Y LC 64 8 4 0 (K90 y18 M9) M9 [(0, vR X 40), (4, vI c4), (5, vL y18)] [] 90) (n : Nat) : ∀ (z15 z16 : Int) (M17 : tp_M), tp_J X Y LC 64 8 4 0 (tp_lp2 (fx_X0_spread_L58  c3 c4 K90) n z15 z16 M17) M17 [(0, vR X 40), (1, vR X 5), (3, vI c3), (4, vI c4), (5, vL z15), (7, vI z16)] [] 58 := by
  refine tp_lp2_ok (P := fun o z15 z16 M17 => tp_J X Y LC 64 8 4 0 (o) M17 [(0, vR X 40), (1, vR X 5), (3, vI c3), (4, vI c4), (5, vL z15), (7, vI z16)] [] 58) (fun z15 z16 M17 => tj_none) (fun rec hrec z15 z16 M17 => ?_) n
  unfold fx_X0_spread_L58
  refine tj_iload (pc := 58) G 5 dX0_spread_58 rfl ?_
  refine tj_iload_n (pc := 60) G 2 dX0_spread_60 rfl rfl ?_
  refine tj_icmp_ge (pc := 61) G (tgt := 90) (a2 := w32 z16) (b2 := w32 c3) dX0_spread_61 (by decide) rfl rfl ?_ ?_
  · exact tj_sub [0, 3, 4] rfl (hK90 z15 M17)
  refine tj_iload (pc := 64) G 5 dX0_spread_64 rfl ?_
  refine tj_bipush (pc := 66) G dX0_spread_66 rfl ?_
  refine tj_icmp_ge (pc := 68) G (tgt := 90) (a2 := w32 z16) (b2 := 8) dX0_spread_68 (by decide) rfl rfl ?_ ?_
  · exact tj_sub [0, 3, 4] rfl (hK90 z15 M17)
  refine tj_aload_n (pc := 71) G 0 dX0_spread_71 rfl rfl ?_
  refine tj_aload_n (pc := 72) G 1 dX0_spread_72 rfl rfl ?_
  refine tj_callVv (pc := 73) G [vR X 5] mf_X0_spreadOnce (k := 40) (by decide) lc_40 rfl rfl ml_X0_66 (by decide) rfl rfl (Nat.le_of_ble_eq_true rfl) (fun _ h9 => ok_X0_spreadOnce X  h9) dX0_spread_73 (fun r19 M20 => ?_)
  refine tj_lload (pc := 76) G 4 dX0_spread_76 rfl ?_
  refine tj_ldc2 (pc := 78) G (v := 12) dX0_spread_78 ct_X0_70 rfl ?_
  refine tj_lmul (pc := 81) G dX0_spread_81 ?_
  refine tj_lstore (pc := 82) G (fun x21 => [(5, vL x21), (0, vR X 40), (1, vR X 5), (3, vI c3), (4, vI c4), (7, vI z16)]) dX0_spread_82 (by decide) (fun _ => rfl) (fun x21 => ?_)
  refine tj_iinc (pc := 84) G 5 (fun x22 => [(7, vI x22), (5, vL x21), (0, vR X 40), (1, vR X 5), (3, vI c3), (4, vI c4)]) dX0_spread_84 rfl (by decide) (fun _ => rfl) (fun x22 => ?_)
  refine tj_goto (pc := 87) G (tgt := 58) dX0_spread_87 (by decide) ?_
  exact tj_sub [2, 3, 4, 5, 1, 0] rfl (hrec x21 x22 M20)
set_option maxRecDepth 100000 in
set_option maxHeartbeats 4000000 in
theorem ok_X0_spread (X : tp_X)  {a2 : Int} {a3 : Int} {a4 : Int}  {M : tp_M} {res : Int × tp_M} (h : fx_X0_spread  a2 a3 a4 M = some res) : tp_Ret X LC 64 0 yX0_spread (Cond.code yX0_spread cX0_spread 8 none) 4 [vR X 40, vR X 5, vI a2, vI a3, vI a4] M res := by
  refine tp_ofW (by decide +kernel) rfl rfl (by show _ ≤ 8; exact Nat.le_of_ble_eq_true rfl) h (fun Y G => ?_)
  show tp_J X Y LC 64 8 4 0 (fx_X0_spread  a2 a3 a4 M) M [(0, vR X 40), (1, vR X 5), (2, vI a2), (3, vI a3), (4, vI a4)] [] 0
  unfold fx_X0_spread
  refine tj_aload_n (pc := 0) G 1 dX0_spread_0 rfl rfl ?_
  refine tj_iload_n (pc := 1) G 2 dX0_spread_1 rfl rfl ?_
  refine tj_callVi (pc := 2) G [vI a2] mf_X4_has (k := 5) (by decide) lc_5 rfl rfl ml_X0_63 (by decide) rfl rfl (Nat.le_of_ble_eq_true rfl) (fun _ h9 => ok_X4_has X gg_Paths_5 h9) dX0_spread_2 (fun r1 M2 => ?_)
  refine tj_if_eq (pc := 5) G (tgt := 17) (a2 := w32 r1) dX0_spread_5 (by decide) rfl ?_ ?_
  · exact tj_vret (pc := 17) G dX0_spread_17
  refine tj_aload_n (pc := 8) G 1 dX0_spread_8 rfl rfl ?_
  refine tj_iload (pc := 9) G 4 dX0_spread_9 rfl ?_
  refine tj_callVi (pc := 11) G [vI a4] mf_X4_has (k := 5) (by decide) lc_5 rfl rfl ml_X0_63 (by decide) rfl rfl (Nat.le_of_ble_eq_true rfl) (fun _ h9 => ok_X4_has X gg_Paths_5 h9) dX0_spread_11 (fun r3 M4 => ?_)
  refine tj_if_ne (pc := 14) G (tgt := 18) (a2 := w32 r3) dX0_spread_14 (by decide) rfl ?_ ?_
  · refine tj_iconst (pc := 18) G dX0_spread_18 ?_
    refine tj_istore (pc := 19) G (fun x5 => [(5, vI x5), (0, vR X 40), (1, vR X 5), (2, vI a2), (3, vI a3), (4, vI a4)]) dX0_spread_19 (by decide) (fun _ => rfl) (fun x5 => ?_)
    refine tj_sub [1, 2, 3, 4, 5, 0] rfl (fx_X0_spread_L21_ok G    (fun M12 => ?_) tp_F x5 M4)
    refine tj_lconst (pc := 52) G (v := 1) dX0_spread_52 rfl ?_
    refine tj_lstore (pc := 53) G (fun x13 => [(5, vL x13), (0, vR X 40), (1, vR X 5), (3, vI a3), (4, vI a4)]) dX0_spread_53 (by decide) (fun _ => rfl) (fun x13 => ?_)
    refine tj_iconst (pc := 55) G dX0_spread_55 ?_
    refine tj_istore (pc := 56) G (fun x14 => [(7, vI x14), (5, vL x13), (0, vR X 40), (1, vR X 5), (3, vI a3), (4, vI a4)]) dX0_spread_56 (by decide) (fun _ => rfl) (fun x14 => ?_)
    refine tj_sub [2, 3, 4, 5, 1, 0] rfl (fx_X0_spread_L58_ok G    (fun y18 M23 => ?_) tp_F x13 x14 M12)
    refine tj_aload_n (pc := 90) G 0 dX0_spread_90 rfl rfl ?_
    refine tj_aload_n (pc := 91) G 0 dX0_spread_91 rfl rfl ?_
    refine tj_getR (pc := 92) G (k := 40) (j := 1) (j2 := 1) tk_X0 (by decide) lc_40 rfl (by decide) rfl fl_X0_16 dX0_spread_92 ?_
    refine tj_iload (pc := 95) G 1 dX0_spread_95 rfl ?_
    refine tj_lald (pc := 97) G (k := 50) (i2 := w32 a4) (n2 := 8) (by decide) lc_50 rfl rfl dX0_spread_97 ?_
    refine tj_lload (pc := 98) G 2 dX0_spread_98 rfl ?_
    refine tj_callVv (pc := 100) G [vL (M23 50 (w32 a4)), vL y18] mf_X0_tellFraction (k := 40) (by decide) lc_40 rfl rfl ml_X0_52 (by decide) rfl rfl (Nat.le_of_ble_eq_true rfl) (fun _ h9 => ok_X0_tellFraction X  h9) dX0_spread_100 (fun r24 M25 => ?_)
    exact tj_vret (pc := 103) G dX0_spread_103
  exact tj_vret (pc := 17) G dX0_spread_17

def fx_X1_canBeHeard  (a1 : Int) (a2 : Int) (M : tp_M) : tp_O :=
(if w32 a1 = 0 then
(if w32 a2 < 1 then
(some (0, M))
else
(if w32 a2 ≤ 4 then
(some (1, M))
else
(some (0, M))))
else
(if w32 a1 = 1 then
(if w32 a2 < 0 then
(some (0, M))
else
(if w32 a2 ≤ 9 then
(some (1, M))
else
(some (0, M))))
else
(if w32 a1 = 2 then
(if w32 a2 < 0 then
(some (0, M))
else
(if w32 a2 < 8 then
(some (1, M))
else
(some (0, M))))
else
(if w32 a1 = 3 then
(if w32 a2 < 1 then
(some (0, M))
else
(if w32 a2 < 8 then
(some (1, M))
else
(some (0, M))))
else
(some (0, M))))))
set_option maxRecDepth 100000 in
set_option maxHeartbeats 4000000 in
theorem ok_X1_canBeHeard (X : tp_X)  {a1 : Int} {a2 : Int}  {M : tp_M} {res : Int × tp_M} (h : fx_X1_canBeHeard  a1 a2 M = some res) : tp_Ret X LC 64 1 yX1_canBeHeard (Cond.code yX1_canBeHeard cX1_canBeHeard 2 (some .boolean)) 1 [vI a1, vI a2] M res := by
  refine tp_ofW (by decide +kernel) rfl rfl (by show _ ≤ 2; exact Nat.le_of_ble_eq_true rfl) h (fun Y G => ?_)
  show tp_J X Y LC 64 2 1 1 (fx_X1_canBeHeard  a1 a2 M) M [(0, vI a1), (1, vI a2)] [] 0
  unfold fx_X1_canBeHeard
  refine tj_iload_n (pc := 0) G 0 dX1_canBeHeard_0 rfl rfl ?_
  refine tj_case (fun hq1 => ?_) (fun hq2 => ?_)
  · refine tj_tabIn (pc := 1) G (v := 0) (tgt := 32) dX1_canBeHeard_1 hq1 (by decide) rfl (by decide) ?_
    refine tj_iload_n (pc := 32) G 1 dX1_canBeHeard_32 rfl rfl ?_
    refine tj_iconst (pc := 33) G dX1_canBeHeard_33 ?_
    refine tj_icmp_lt (pc := 34) G (tgt := 46) (a2 := w32 a2) (b2 := 1) dX1_canBeHeard_34 (by decide) rfl rfl ?_ ?_
    · refine tj_iconst (pc := 46) G dX1_canBeHeard_46 ?_
      exact tj_zret (pc := 47) G (by decide) dX1_canBeHeard_47
    refine tj_iload_n (pc := 37) G 1 dX1_canBeHeard_37 rfl rfl ?_
    refine tj_iconst (pc := 38) G dX1_canBeHeard_38 ?_
    refine tj_icmp_gt (pc := 39) G (tgt := 46) (a2 := w32 a2) (b2 := 4) dX1_canBeHeard_39 (by decide) rfl rfl ?_ ?_
    · refine tj_iconst (pc := 46) G dX1_canBeHeard_46 ?_
      exact tj_zret (pc := 47) G (by decide) dX1_canBeHeard_47
    refine tj_iconst (pc := 42) G dX1_canBeHeard_42 ?_
    refine tj_goto (pc := 43) G (tgt := 47) dX1_canBeHeard_43 (by decide) ?_
    exact tj_zret (pc := 47) G (by decide) dX1_canBeHeard_47
  refine tj_case (fun hq3 => ?_) (fun hq4 => ?_)
  · refine tj_tabIn (pc := 1) G (v := 1) (tgt := 48) dX1_canBeHeard_1 hq3 (by decide) rfl (by decide) ?_
    refine tj_iload_n (pc := 48) G 1 dX1_canBeHeard_48 rfl rfl ?_
    refine tj_if_lt (pc := 49) G (tgt := 62) (a2 := w32 a2) dX1_canBeHeard_49 (by decide) rfl ?_ ?_
    · refine tj_iconst (pc := 62) G dX1_canBeHeard_62 ?_
      exact tj_zret (pc := 63) G (by decide) dX1_canBeHeard_63
    refine tj_iload_n (pc := 52) G 1 dX1_canBeHeard_52 rfl rfl ?_
    refine tj_bipush (pc := 53) G dX1_canBeHeard_53 rfl ?_
    refine tj_icmp_gt (pc := 55) G (tgt := 62) (a2 := w32 a2) (b2 := 9) dX1_canBeHeard_55 (by decide) rfl rfl ?_ ?_
    · refine tj_iconst (pc := 62) G dX1_canBeHeard_62 ?_
      exact tj_zret (pc := 63) G (by decide) dX1_canBeHeard_63
    refine tj_iconst (pc := 58) G dX1_canBeHeard_58 ?_
    refine tj_goto (pc := 59) G (tgt := 63) dX1_canBeHeard_59 (by decide) ?_
    exact tj_zret (pc := 63) G (by decide) dX1_canBeHeard_63
  refine tj_case (fun hq5 => ?_) (fun hq6 => ?_)
  · refine tj_tabIn (pc := 1) G (v := 2) (tgt := 64) dX1_canBeHeard_1 hq5 (by decide) rfl (by decide) ?_
    refine tj_iload_n (pc := 64) G 1 dX1_canBeHeard_64 rfl rfl ?_
    refine tj_if_lt (pc := 65) G (tgt := 78) (a2 := w32 a2) dX1_canBeHeard_65 (by decide) rfl ?_ ?_
    · refine tj_iconst (pc := 78) G dX1_canBeHeard_78 ?_
      exact tj_zret (pc := 79) G (by decide) dX1_canBeHeard_79
    refine tj_iload_n (pc := 68) G 1 dX1_canBeHeard_68 rfl rfl ?_
    refine tj_bipush (pc := 69) G dX1_canBeHeard_69 rfl ?_
    refine tj_icmp_ge (pc := 71) G (tgt := 78) (a2 := w32 a2) (b2 := 8) dX1_canBeHeard_71 (by decide) rfl rfl ?_ ?_
    · refine tj_iconst (pc := 78) G dX1_canBeHeard_78 ?_
      exact tj_zret (pc := 79) G (by decide) dX1_canBeHeard_79
    refine tj_iconst (pc := 74) G dX1_canBeHeard_74 ?_
    refine tj_goto (pc := 75) G (tgt := 79) dX1_canBeHeard_75 (by decide) ?_
    exact tj_zret (pc := 79) G (by decide) dX1_canBeHeard_79
  refine tj_case (fun hq7 => ?_) (fun hq8 => ?_)
  · refine tj_tabIn (pc := 1) G (v := 3) (tgt := 80) dX1_canBeHeard_1 hq7 (by decide) rfl (by decide) ?_
    refine tj_iload_n (pc := 80) G 1 dX1_canBeHeard_80 rfl rfl ?_
    refine tj_iconst (pc := 81) G dX1_canBeHeard_81 ?_
    refine tj_icmp_lt (pc := 82) G (tgt := 95) (a2 := w32 a2) (b2 := 1) dX1_canBeHeard_82 (by decide) rfl rfl ?_ ?_
    · refine tj_iconst (pc := 95) G dX1_canBeHeard_95 ?_
      exact tj_zret (pc := 96) G (by decide) dX1_canBeHeard_96
    refine tj_iload_n (pc := 85) G 1 dX1_canBeHeard_85 rfl rfl ?_
    refine tj_bipush (pc := 86) G dX1_canBeHeard_86 rfl ?_
    refine tj_icmp_ge (pc := 88) G (tgt := 95) (a2 := w32 a2) (b2 := 8) dX1_canBeHeard_88 (by decide) rfl rfl ?_ ?_
    · refine tj_iconst (pc := 95) G dX1_canBeHeard_95 ?_
      exact tj_zret (pc := 96) G (by decide) dX1_canBeHeard_96
    refine tj_iconst (pc := 91) G dX1_canBeHeard_91 ?_
    refine tj_goto (pc := 92) G (tgt := 96) dX1_canBeHeard_92 (by decide) ?_
    exact tj_zret (pc := 96) G (by decide) dX1_canBeHeard_96
  refine tj_tabOut (pc := 1) G (tgt := 97) dX1_canBeHeard_1 (by omega) (by decide) ?_
  refine tj_iconst (pc := 97) G dX1_canBeHeard_97 ?_
  exact tj_zret (pc := 98) G (by decide) dX1_canBeHeard_98

def fx_X1_size   (M : tp_M) : tp_O :=
(some (M 56 2, M))
set_option maxRecDepth 100000 in
set_option maxHeartbeats 4000000 in
theorem ok_X1_size (X : tp_X)    {M : tp_M} {res : Int × tp_M} (h : fx_X1_size   M = some res) : tp_Ret X LC 64 1 yX1_size (Cond.code yX1_size cX1_size 1 (some .int)) 1 [vR X 56] M res := by
  refine tp_ofW (by decide +kernel) rfl rfl (by show _ ≤ 1; exact Nat.le_of_ble_eq_true rfl) h (fun Y G => ?_)
  show tp_J X Y LC 64 1 1 1 (fx_X1_size   M) M [(0, vR X 56)] [] 0
  unfold fx_X1_size
  refine tj_aload_n (pc := 0) G 0 dX1_size_0 rfl rfl ?_
  refine tj_getI (pc := 1) G (k := 56) (j := 2) (j2 := 2) tk_X1 (by decide) lc_56 rfl (by decide) rfl fl_X1_18 dX1_size_1 ?_
  exact tj_iret (pc := 4) G dX1_size_4

def fx_X1_clear   (M : tp_M) : tp_O :=
(tp_lm (tp_up M 56 2 0) (fun M1 =>
(some (0, M1))))
set_option maxRecDepth 100000 in
set_option maxHeartbeats 4000000 in
theorem ok_X1_clear (X : tp_X)    {M : tp_M} {res : Int × tp_M} (h : fx_X1_clear   M = some res) : tp_Ret X LC 64 0 yX1_clear (Cond.code yX1_clear cX1_clear 1 none) 1 [vR X 56] M res := by
  refine tp_ofW (by decide +kernel) rfl rfl (by show _ ≤ 1; exact Nat.le_of_ble_eq_true rfl) h (fun Y G => ?_)
  show tp_J X Y LC 64 1 1 0 (fx_X1_clear   M) M [(0, vR X 56)] [] 0
  unfold fx_X1_clear
  refine tj_aload_n (pc := 0) G 0 dX1_clear_0 rfl rfl ?_
  refine tj_iconst (pc := 1) G dX1_clear_1 ?_
  refine tj_putI (pc := 2) G (k := 56) (j := 2) (j2 := 2) tk_X1 (by decide) lc_56 rfl (by decide) rfl fl_X1_18 rfl rfl dX1_clear_2 (fun M1 => ?_)
  exact tj_vret (pc := 5) G dX1_clear_5

def fx_X1_add  (a1 : Int) (a2 : Int) (M : tp_M) : tp_O :=
(if w32 (M 56 2) < 12 then
(tp_ck (w32 (M 56 2)) 12 (tp_lm (tp_up M 57 (w32 (M 56 2)) a1) (fun M1 =>
(tp_ck (w32 (M1 56 2)) 12 (tp_lm (tp_up M1 58 (w32 (M1 56 2)) a2) (fun M2 =>
(tp_lm (tp_up M2 56 2 ((M2 56 2) + 1)) (fun M3 =>
(some (1, M3))))))))))
else
(some (0, M)))
set_option maxRecDepth 100000 in
set_option maxHeartbeats 4000000 in
theorem ok_X1_add (X : tp_X)  {a1 : Int} {a2 : Int}  {M : tp_M} {res : Int × tp_M} (h : fx_X1_add  a1 a2 M = some res) : tp_Ret X LC 64 1 yX1_add (Cond.code yX1_add cX1_add 3 (some .boolean)) 1 [vR X 56, vI a1, vI a2] M res := by
  refine tp_ofW (by decide +kernel) rfl rfl (by show _ ≤ 3; exact Nat.le_of_ble_eq_true rfl) h (fun Y G => ?_)
  show tp_J X Y LC 64 3 1 1 (fx_X1_add  a1 a2 M) M [(0, vR X 56), (1, vI a1), (2, vI a2)] [] 0
  unfold fx_X1_add
  refine tj_aload_n (pc := 0) G 0 dX1_add_0 rfl rfl ?_
  refine tj_getI (pc := 1) G (k := 56) (j := 2) (j2 := 2) tk_X1 (by decide) lc_56 rfl (by decide) rfl fl_X1_18 dX1_add_1 ?_
  refine tj_bipush (pc := 4) G dX1_add_4 rfl ?_
  refine tj_icmp_lt (pc := 6) G (tgt := 11) (a2 := w32 (M 56 2)) (b2 := 12) dX1_add_6 (by decide) rfl rfl ?_ ?_
  · refine tj_aload_n (pc := 11) G 0 dX1_add_11 rfl rfl ?_
    refine tj_getR (pc := 12) G (k := 56) (j := 0) (j2 := 0) tk_X1 (by decide) lc_56 rfl (by decide) rfl fl_X1_11 dX1_add_12 ?_
    refine tj_aload_n (pc := 15) G 0 dX1_add_15 rfl rfl ?_
    refine tj_getI (pc := 16) G (k := 56) (j := 2) (j2 := 2) tk_X1 (by decide) lc_56 rfl (by decide) rfl fl_X1_18 dX1_add_16 ?_
    refine tj_iload_n (pc := 19) G 1 dX1_add_19 rfl rfl ?_
    refine tj_iast (pc := 20) G (k := 57) (i2 := w32 (M 56 2)) (n2 := 12) (by decide) lc_57 rfl rfl dX1_add_20 (fun M1 => ?_)
    refine tj_aload_n (pc := 21) G 0 dX1_add_21 rfl rfl ?_
    refine tj_getR (pc := 22) G (k := 56) (j := 1) (j2 := 1) tk_X1 (by decide) lc_56 rfl (by decide) rfl fl_X1_15 dX1_add_22 ?_
    refine tj_aload_n (pc := 25) G 0 dX1_add_25 rfl rfl ?_
    refine tj_getI (pc := 26) G (k := 56) (j := 2) (j2 := 2) tk_X1 (by decide) lc_56 rfl (by decide) rfl fl_X1_18 dX1_add_26 ?_
    refine tj_iload_n (pc := 29) G 2 dX1_add_29 rfl rfl ?_
    refine tj_iast (pc := 30) G (k := 58) (i2 := w32 (M1 56 2)) (n2 := 12) (by decide) lc_58 rfl rfl dX1_add_30 (fun M2 => ?_)
    refine tj_aload_n (pc := 31) G 0 dX1_add_31 rfl rfl ?_
    refine tj_dup (pc := 32) G dX1_add_32 rfl ?_
    refine tj_getI (pc := 33) G (k := 56) (j := 2) (j2 := 2) tk_X1 (by decide) lc_56 rfl (by decide) rfl fl_X1_18 dX1_add_33 ?_
    refine tj_iconst (pc := 36) G dX1_add_36 ?_
    refine tj_iadd (pc := 37) G dX1_add_37 ?_
    refine tj_putI (pc := 38) G (k := 56) (j := 2) (j2 := 2) tk_X1 (by decide) lc_56 rfl (by decide) rfl fl_X1_18 rfl rfl dX1_add_38 (fun M3 => ?_)
    refine tj_iconst (pc := 41) G dX1_add_41 ?_
    exact tj_zret (pc := 42) G (by decide) dX1_add_42
  refine tj_iconst (pc := 9) G dX1_add_9 ?_
  exact tj_zret (pc := 10) G (by decide) dX1_add_10

def fx_X1_what  (a1 : Int) (M : tp_M) : tp_O :=
(if w32 a1 < 0 then
(some ((-1), M))
else
(if w32 a1 < w32 (M 56 2) then
(tp_ck (w32 a1) 12 (some (M 57 (w32 a1), M)))
else
(some ((-1), M))))
set_option maxRecDepth 100000 in
set_option maxHeartbeats 4000000 in
theorem ok_X1_what (X : tp_X)  {a1 : Int}  {M : tp_M} {res : Int × tp_M} (h : fx_X1_what  a1 M = some res) : tp_Ret X LC 64 1 yX1_what (Cond.code yX1_what cX1_what 2 (some .int)) 1 [vR X 56, vI a1] M res := by
  refine tp_ofW (by decide +kernel) rfl rfl (by show _ ≤ 2; exact Nat.le_of_ble_eq_true rfl) h (fun Y G => ?_)
  show tp_J X Y LC 64 2 1 1 (fx_X1_what  a1 M) M [(0, vR X 56), (1, vI a1)] [] 0
  unfold fx_X1_what
  refine tj_iload_n (pc := 0) G 1 dX1_what_0 rfl rfl ?_
  refine tj_if_lt (pc := 1) G (tgt := 21) (a2 := w32 a1) dX1_what_1 (by decide) rfl ?_ ?_
  · refine tj_iconst (pc := 21) G dX1_what_21 ?_
    exact tj_iret (pc := 22) G dX1_what_22
  refine tj_iload_n (pc := 4) G 1 dX1_what_4 rfl rfl ?_
  refine tj_aload_n (pc := 5) G 0 dX1_what_5 rfl rfl ?_
  refine tj_getI (pc := 6) G (k := 56) (j := 2) (j2 := 2) tk_X1 (by decide) lc_56 rfl (by decide) rfl fl_X1_18 dX1_what_6 ?_
  refine tj_icmp_ge (pc := 9) G (tgt := 21) (a2 := w32 a1) (b2 := w32 (M 56 2)) dX1_what_9 (by decide) rfl rfl ?_ ?_
  · refine tj_iconst (pc := 21) G dX1_what_21 ?_
    exact tj_iret (pc := 22) G dX1_what_22
  refine tj_aload_n (pc := 12) G 0 dX1_what_12 rfl rfl ?_
  refine tj_getR (pc := 13) G (k := 56) (j := 0) (j2 := 0) tk_X1 (by decide) lc_56 rfl (by decide) rfl fl_X1_11 dX1_what_13 ?_
  refine tj_iload_n (pc := 16) G 1 dX1_what_16 rfl rfl ?_
  refine tj_iald (pc := 17) G (k := 57) (i2 := w32 a1) (n2 := 12) (by decide) lc_57 rfl rfl dX1_what_17 ?_
  refine tj_goto (pc := 18) G (tgt := 22) dX1_what_18 (by decide) ?_
  exact tj_iret (pc := 22) G dX1_what_22

def fx_X1_value  (a1 : Int) (M : tp_M) : tp_O :=
(if w32 a1 < 0 then
(some ((-1), M))
else
(if w32 a1 < w32 (M 56 2) then
(tp_ck (w32 a1) 12 (some (M 58 (w32 a1), M)))
else
(some ((-1), M))))
set_option maxRecDepth 100000 in
set_option maxHeartbeats 4000000 in
theorem ok_X1_value (X : tp_X)  {a1 : Int}  {M : tp_M} {res : Int × tp_M} (h : fx_X1_value  a1 M = some res) : tp_Ret X LC 64 1 yX1_value (Cond.code yX1_value cX1_value 2 (some .int)) 1 [vR X 56, vI a1] M res := by
  refine tp_ofW (by decide +kernel) rfl rfl (by show _ ≤ 2; exact Nat.le_of_ble_eq_true rfl) h (fun Y G => ?_)
  show tp_J X Y LC 64 2 1 1 (fx_X1_value  a1 M) M [(0, vR X 56), (1, vI a1)] [] 0
  unfold fx_X1_value
  refine tj_iload_n (pc := 0) G 1 dX1_value_0 rfl rfl ?_
  refine tj_if_lt (pc := 1) G (tgt := 21) (a2 := w32 a1) dX1_value_1 (by decide) rfl ?_ ?_
  · refine tj_iconst (pc := 21) G dX1_value_21 ?_
    exact tj_iret (pc := 22) G dX1_value_22
  refine tj_iload_n (pc := 4) G 1 dX1_value_4 rfl rfl ?_
  refine tj_aload_n (pc := 5) G 0 dX1_value_5 rfl rfl ?_
  refine tj_getI (pc := 6) G (k := 56) (j := 2) (j2 := 2) tk_X1 (by decide) lc_56 rfl (by decide) rfl fl_X1_18 dX1_value_6 ?_
  refine tj_icmp_ge (pc := 9) G (tgt := 21) (a2 := w32 a1) (b2 := w32 (M 56 2)) dX1_value_9 (by decide) rfl rfl ?_ ?_
  · refine tj_iconst (pc := 21) G dX1_value_21 ?_
    exact tj_iret (pc := 22) G dX1_value_22
  refine tj_aload_n (pc := 12) G 0 dX1_value_12 rfl rfl ?_
  refine tj_getR (pc := 13) G (k := 56) (j := 1) (j2 := 1) tk_X1 (by decide) lc_56 rfl (by decide) rfl fl_X1_15 dX1_value_13 ?_
  refine tj_iload_n (pc := 16) G 1 dX1_value_16 rfl rfl ?_
  refine tj_iald (pc := 17) G (k := 58) (i2 := w32 a1) (n2 := 12) (by decide) lc_58 rfl rfl dX1_value_17 ?_
  refine tj_goto (pc := 18) G (tgt := 22) dX1_value_18 (by decide) ?_
  exact tj_iret (pc := 22) G dX1_value_22

def fx_X2_clear_L12 (t : Nat)  (rec : Int → tp_M → tp_O) (z4 : Int) (M5 : tp_M) : tp_O :=
(if w32 z4 < 8 then
(tp_ck (w32 z4) 8 (tp_lm (tp_up M5 (t + 1) (w32 z4) 0) (fun M6 =>
(tp_ck (w32 z4) 8 (tp_lm (tp_up M6 (t + 2) (w32 z4) 0) (fun M7 =>
(tp_lt (z4 + 1) (fun x8 =>
(rec x8 M7)))))))))
else
(some (0, M5)))
def fx_X2_clear  (t : Nat) (M : tp_M) : tp_O :=
(tp_lm (tp_up M t 2 0) (fun M1 =>
(tp_lm (tp_up M1 t 3 0) (fun M2 =>
(tp_lt 0 (fun x3 =>
(tp_lp1 (fx_X2_clear_L12 t ) tp_F x3 M2)))))))
set_option maxRecDepth 100000 in
set_option maxHeartbeats 4000000 in
theorem fx_X2_clear_L12_ok {X : tp_X} {Y : tp_Y} (G : tp_Ok X Y 64 cX2_clear 2 RX2 none)  {t : Nat} (ht : tg_Moor LC 64 t)   (n : Nat) : ∀ (z4 : Int) (M5 : tp_M), tp_J X Y LC 64 2 1 0 (tp_lp1 (fx_X2_clear_L12 t  ) n z4 M5) M5 [(0, vR X t), (1, vI z4)] [] 12 := by
  refine tp_lp1_ok (P := fun o z4 M5 => tp_J X Y LC 64 2 1 0 (o) M5 [(0, vR X t), (1, vI z4)] [] 12) (fun z4 M5 => tj_none) (fun rec hrec z4 M5 => ?_) n
  unfold fx_X2_clear_L12
  refine tj_iload_n (pc := 12) G 1 dX2_clear_12 rfl rfl ?_
  refine tj_bipush (pc := 13) G dX2_clear_13 rfl ?_
  refine tj_icmp_ge (pc := 15) G (tgt := 38) (a2 := w32 z4) (b2 := 8) dX2_clear_15 (by decide) rfl rfl ?_ ?_
  · exact tj_vret (pc := 38) G dX2_clear_38
  refine tj_aload_n (pc := 18) G 0 dX2_clear_18 rfl rfl ?_
  refine tj_getR (pc := 19) G (k := t) (j := 0) (j2 := 0) tk_X2 (tg_Moor_l0 ht) ht.2.1 rfl (by decide) rfl fl_X2_9 dX2_clear_19 ?_
  refine tj_iload_n (pc := 22) G 1 dX2_clear_22 rfl rfl ?_
  refine tj_iconst (pc := 23) G dX2_clear_23 ?_
  refine tj_iast (pc := 24) G (k := (t + 1)) (i2 := w32 z4) (n2 := 8) (tg_Moor_l1 ht) ht.2.2.1 rfl rfl dX2_clear_24 (fun M6 => ?_)
  refine tj_aload_n (pc := 25) G 0 dX2_clear_25 rfl rfl ?_
  refine tj_getR (pc := 26) G (k := t) (j := 1) (j2 := 1) tk_X2 (tg_Moor_l0 ht) ht.2.1 rfl (by decide) rfl fl_X2_15 dX2_clear_26 ?_
  refine tj_iload_n (pc := 29) G 1 dX2_clear_29 rfl rfl ?_
  refine tj_iconst (pc := 30) G dX2_clear_30 ?_
  refine tj_iast (pc := 31) G (k := (t + 2)) (i2 := w32 z4) (n2 := 8) (tg_Moor_l2 ht) ht.2.2.2 rfl rfl dX2_clear_31 (fun M7 => ?_)
  refine tj_iinc (pc := 32) G 1 (fun x8 => [(1, vI x8), (0, vR X t)]) dX2_clear_32 rfl (by decide) (fun _ => rfl) (fun x8 => ?_)
  refine tj_goto (pc := 35) G (tgt := 12) dX2_clear_35 (by decide) ?_
  exact tj_sub [1, 0] rfl (hrec x8 M7)
set_option maxRecDepth 100000 in
set_option maxHeartbeats 4000000 in
theorem ok_X2_clear (X : tp_X)  {t : Nat} (ht : tg_Moor LC 64 t) {M : tp_M} {res : Int × tp_M} (h : fx_X2_clear  t M = some res) : tp_Ret X LC 64 0 yX2_clear (Cond.code yX2_clear cX2_clear 2 none) 1 [vR X t] M res := by
  refine tp_ofW (by decide +kernel) rfl rfl (by show _ ≤ 2; exact Nat.le_of_ble_eq_true rfl) h (fun Y G => ?_)
  show tp_J X Y LC 64 2 1 0 (fx_X2_clear  t M) M [(0, vR X t)] [] 0
  unfold fx_X2_clear
  refine tj_aload_n (pc := 0) G 0 dX2_clear_0 rfl rfl ?_
  refine tj_iconst (pc := 1) G dX2_clear_1 ?_
  refine tj_putI (pc := 2) G (k := t) (j := 2) (j2 := 2) tk_X2 (tg_Moor_l0 ht) ht.2.1 rfl (by decide) rfl fl_X2_18 rfl rfl dX2_clear_2 (fun M1 => ?_)
  refine tj_aload_n (pc := 5) G 0 dX2_clear_5 rfl rfl ?_
  refine tj_iconst (pc := 6) G dX2_clear_6 ?_
  refine tj_putI (pc := 7) G (k := t) (j := 3) (j2 := 3) tk_X2 (tg_Moor_l0 ht) ht.2.1 rfl (by decide) rfl fl_X2_22 rfl rfl dX2_clear_7 (fun M2 => ?_)
  refine tj_iconst (pc := 10) G dX2_clear_10 ?_
  refine tj_istore_n (pc := 11) G (fun x3 => [(1, vI x3), (0, vR X t)]) dX2_clear_11 rfl (by decide) (fun _ => rfl) (fun x3 => ?_)
  refine tj_sub [1, 0] rfl (fx_X2_clear_L12_ok G  ht   tp_F x3 M2)
