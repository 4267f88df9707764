theorem ml_L_22 : Cond.methodLink RL 22 yX10_init ∈ tp_W := tp_W_of (tm_1 (List.mem_of_getElem? (i := 26) rfl)) rfl
theorem ml_L_25 : Cond.methodLink RL 25 yX11_init ∈ tp_W := tp_W_of (tm_5 (List.mem_of_getElem? (i := 179) rfl)) rfl
def st_giv : List Cond := flatC (Cond.and given_1 narrow_1)
def st_tm (i : Nat) : Term := .string RX11 ([348, 222, 231, 233, 235].getD i 0)
theorem st_hex : ∀ i, i < 5 → Cond.exactly (st_tm i) "java/lang/String" ∈ st_giv := by decide +kernel
theorem st_hco : ∀ i, i < 5 → Cond.eq (.field (st_tm i) "java/lang/String" "coder" "B") (.int 0) ∈ st_giv := by decide +kernel
theorem st_har : ∀ i, i < 5 → Cond.arrayOf (.field (st_tm i) "java/lang/String" "value" "[B") .byte ∈ st_giv := by decide +kernel
theorem st_hle : ∀ i, i < 5 → Cond.eq (.length (.field (st_tm i) "java/lang/String" "value" "[B")) (.int (Int32.ofNat (tp_len.getD i 0))) ∈ st_giv := by decide +kernel
theorem st_hel : ∀ i, i < 5 → ∀ j, j < tp_len.getD i 0 → Cond.eq (.elem (.field (st_tm i) "java/lang/String" "value" "[B") (.int (Int32.ofNat j))) (.int ((tp_byt.getD i []).getD j 0)) ∈ st_giv := by decide +kernel
theorem st_hne : ∀ i, i < 5 → ∀ j, j < 5 → i ≠ j → (Cond.not (Cond.eq (st_tm i) (st_tm j)) ∈ st_giv ∨ Cond.not (Cond.eq (st_tm j) (st_tm i)) ∈ st_giv) := by decide +kernel
theorem st_len : ∀ i, i < 5 → tp_len.getD i 0 < 2 ^ 31 := by decide +kernel
theorem st_g1 : Cond.isRef (.static "java/lang/Throwable" "UNASSIGNED_STACK" "[Ljava/lang/StackTraceElement;") ∈ st_giv := by decide +kernel
theorem st_g2 : Cond.isRef (.static "java/lang/Throwable" "SUPPRESSED_SENTINEL" "Ljava/util/List;") ∈ st_giv := by decide +kernel
theorem st_g3 : Cond.eq (.static "java/lang/String" "COMPACT_STRINGS" "Z") (.int 1) ∈ st_giv := by decide +kernel
theorem st_g4 : Cond.isRef (.static "jdk/internal/util/Preconditions" "SIOOBE_FORMATTER" "Ljava/util/function/BiFunction;") ∈ st_giv := by decide +kernel
section ST
variable {s : State} {b : Nat}
theorem st_thr (hT : ∀ w ∈ tables_1, w.before #[Value.ref b] s = true) (hg : ∀ w ∈ st_giv, w.before #[Value.ref b] s = true) {A : Nat → Prop} (hA : ∀ a : Nat, a < s.heap.size → ¬ A a) : tp_thr A s := by
  refine ⟨fun w hw => ?_, vx_Zqof (args := #[Value.ref b]) (C := Bundle.tN) (n := "UNASSIGNED_STACK") (d := Bundle.steD) (hT _ (tm_5 (List.mem_of_getElem? (i := 117) rfl))) (hT _ (tm_1 (List.mem_of_getElem? (i := 19) rfl))) (hg _ st_g1) hA, vx_Zqof (args := #[Value.ref b]) (C := Bundle.tN) (n := "SUPPRESSED_SENTINEL") (d := Bundle.listD) (hT _ (tm_5 (List.mem_of_getElem? (i := 119) rfl))) (hT _ (tm_1 (List.mem_of_getElem? (i := 19) rfl))) (hg _ st_g2) hA⟩
  simp only [tp_thw, List.mem_cons, List.not_mem_nil, or_false] at hw
  rcases hw with rfl | rfl | rfl | rfl
  · exact va_tabs rfl rfl (hT _ (tm_5 (List.mem_of_getElem? (i := 93) rfl)))
  · exact va_tabs rfl rfl (hT _ (tm_5 (List.mem_of_getElem? (i := 95) rfl)))
  · exact va_tabs rfl rfl (hT _ (tm_5 (List.mem_of_getElem? (i := 97) rfl)))
  · exact va_tabs rfl rfl (hT _ (tm_5 (List.mem_of_getElem? (i := 92) rfl)))
theorem st_str (hT : ∀ w ∈ tables_1, w.before #[Value.ref b] s = true) (hg : ∀ w ∈ st_giv, w.before #[Value.ref b] s = true) {A : Nat → Prop} (hA : ∀ a : Nat, a < s.heap.size → ¬ A a) : ∃ adK adV : Nat → Nat, ∀ I : Nat → Nat, (∀ i, i < 5 → I (10 + i) = adK i) → (∀ i, i < 5 → I (20 + i) = adV i) → tp_str I A s := by
  obtain ⟨adK, adV, hS, hE⟩ := vk_Sof (args := #[Value.ref b]) (s := s) (N := 5) (tm := st_tm) (len := tp_len) (byt := tp_byt) (A := A) st_len (fun i hi => hg _ (st_hex i hi)) (fun i hi => hg _ (st_hco i hi)) (fun i hi => hg _ (st_har i hi)) (fun i hi => hg _ (st_hle i hi)) (fun i hi j hj => hg _ (st_hel i hi j hj)) (fun i j hi hj hij => (st_hne i hi j hj hij).imp (fun h => hg _ h) (fun h => hg _ h)) hA
  refine ⟨adK, adV, fun I hK hV => ⟨va_Zof (args := #[Value.ref b]) (hT _ (tm_6 (List.mem_of_getElem? (i := 190) rfl))) (hT _ (tm_1 (List.mem_of_getElem? (i := 15) rfl))) (va_eqi (hg _ st_g3)) hA, va_Zqof (args := #[Value.ref b]) (hT _ (tm_6 (List.mem_of_getElem? (i := 206) rfl))) (hT _ (tm_1 (List.mem_of_getElem? (i := 17) rfl))) (hg _ st_g4) hA, ⟨fun i hi => ?_, fun i j hi hj h => ?_⟩, ?_, ?_, ?_, ?_, ?_⟩⟩
  · have h := hS.1 i hi
    rw [← hK i hi, ← hV i hi] at h
    exact h
  · have h : I (10 + i) = I (10 + j) := h
    rw [hK i hi, hK j hj] at h
    exact hS.2 i j hi hj h
  · exact vk_R.of (hT _ (tm_7 (List.mem_of_getElem? (i := 156) rfl))) (by have h := hE 0 (by decide); rw [← hK 0 (by decide)] at h; exact h)
  · exact vk_R.of (hT _ (tm_6 (List.mem_of_getElem? (i := 176) rfl))) (by have h := hE 1 (by decide); rw [← hK 1 (by decide)] at h; exact h)
  · exact vk_R.of (hT _ (tm_6 (List.mem_of_getElem? (i := 229) rfl))) (by have h := hE 2 (by decide); rw [← hK 2 (by decide)] at h; exact h)
  · exact vk_R.of (hT _ (tm_6 (List.mem_of_getElem? (i := 230) rfl))) (by have h := hE 3 (by decide); rw [← hK 3 (by decide)] at h; exact h)
  · exact vk_R.of (hT _ (tm_6 (List.mem_of_getElem? (i := 231) rfl))) (by have h := hE 4 (by decide); rw [← hK 4 (by decide)] at h; exact h)
theorem tp_str_narrow {I : Nat → Nat} {A B : Nat → Prop} (h : tp_str I A s) (hAB : ∀ q, B q → A q) : tp_str I B s := by
  obtain ⟨h1, h2, h3, h4⟩ := h
  exact ⟨h1.narrow hAB, h2.narrow hAB, h3.narrow hAB, h4⟩
theorem st_arr (hts : ∀ w ∈ tp_W, w.before #[Value.ref b] s = true) {ty : FieldType} (hw : Cond.arrayClass ty ∈ tp_W) (hra : ∀ c : ClassId, s.vm.findClass ("[" ++ ty.toString) = some c → va_RA s c ty) : ∃ c : ClassId, ArrOfT s c ty ∧ va_RA s c ty := by
  obtain ⟨c, k, comp, h1, h2, h3⟩ := Cond.arrayClass_spec (hts _ hw)
  exact ⟨c, fun N z => ⟨(fun q hq => by cases hq), k, h2, comp, h3⟩, hra c h1⟩
theorem st_over (h : tp_AO s) : ∃ c : ClassId, ArrOfT s c (.array .long) ∧ va_RA s c (.array .long) := by
  obtain ⟨comp, c, k, h1, -, h3, h4, h5⟩ := Jvm.Stand.arrayOver_specB h
  exact ⟨c, fun N z => ⟨(fun q hq => by cases hq), k, h3, comp, h4⟩, h5⟩
theorem st_D (hts : ∀ w ∈ tp_W, w.before #[Value.ref b] s = true) : ∃ D : va_G, ∀ (k : Nat) (q : vw_C), tp_cl[k]? = some q → u_Kn s q.1 q.2.1 q.2.2 (D.1 k) (D.2 k) := by
  have h0 : ∀ k : Nat, ∃ z : ClassId × (Nat → Nat), ∀ q : vw_C, tp_cl[k]? = some q → u_Kn s q.1 q.2.1 q.2.2 z.1 z.2 := by
    intro k
    match k with

    | 0 =>
      obtain ⟨cC, iS, h⟩ := u_known hts tk_X0.2.1 (hts _ mt_X0)
      exact ⟨(cC, iS), fun q hq => by cases hq; exact h⟩
    | 1 =>
      obtain ⟨cC, iS, h⟩ := u_known hts tk_X1.2.1 (hts _ mt_X1)
      exact ⟨(cC, iS), fun q hq => by cases hq; exact h⟩
    | 2 =>
      obtain ⟨cC, iS, h⟩ := u_known hts tk_X2.2.1 (hts _ mt_X2)
      exact ⟨(cC, iS), fun q hq => by cases hq; exact h⟩
    | 3 =>
      obtain ⟨cC, iS, h⟩ := u_known hts tk_X3.2.1 (hts _ mt_X3)
      exact ⟨(cC, iS), fun q hq => by cases hq; exact h⟩
    | 4 =>
      obtain ⟨cC, iS, h⟩ := u_known hts tk_X4.2.1 (hts _ mt_X4)
      exact ⟨(cC, iS), fun q hq => by cases hq; exact h⟩
    | 5 =>
      obtain ⟨cC, iS, h⟩ := u_known hts tk_X5.2.1 (hts _ mt_X5)
      exact ⟨(cC, iS), fun q hq => by cases hq; exact h⟩
    | 6 =>
      obtain ⟨cC, iS, h⟩ := u_known hts tk_X6.2.1 (hts _ mt_X6)
      exact ⟨(cC, iS), fun q hq => by cases hq; exact h⟩
    | 7 =>
      obtain ⟨cC, iS, h⟩ := u_known hts tk_X7.2.1 (hts _ mt_X7)
      exact ⟨(cC, iS), fun q hq => by cases hq; exact h⟩
    | 8 =>
      obtain ⟨cC, iS, h⟩ := u_known hts tk_X8.2.1 (hts _ mt_X8)
      exact ⟨(cC, iS), fun q hq => by cases hq; exact h⟩
    | 9 =>
      obtain ⟨cC, iS, h⟩ := u_known hts tk_X9.2.1 (hts _ mt_X9)
      exact ⟨(cC, iS), fun q hq => by cases hq; exact h⟩
    | 10 =>
      obtain ⟨cC, iS, h⟩ := u_known hts tk_X10.2.1 (hts _ mt_X10)
      exact ⟨(cC, iS), fun q hq => by cases hq; exact h⟩
    | 11 =>
      obtain ⟨cC, iS, h⟩ := u_known hts tk_X11.2.1 (hts _ mt_X11)
      exact ⟨(cC, iS), fun q hq => by cases hq; exact h⟩
    | k + 12 => exact ⟨(0, fun _ => 0), fun q hq => by simp at hq⟩
  obtain ⟨z, hz⟩ := Classical.axiomOfChoice h0
  exact ⟨(fun k => (z k).1, fun k => (z k).2), hz⟩
theorem st_P {D : va_G} {n ci Nf : Nat} {H1 : Heap} {kC : Class} {C : String} {T : u_T} {ty : Nat → FieldType} {fs : List Value} (hts : ∀ w ∈ tp_W, w.before #[Value.ref b] s = true) (Cx : tp_Cl ci C T Nf ty) (hfs : ∀ j, j < Nf → defaultValue (ty j) = vp_V fs j) (hKn : u_Kn s C T Nf (D.1 ci) (D.2 ci)) (hkC : s.vm.classes[D.1 ci]? = some kC) (e1 : H1[n]? = some (blank (D.1 ci) kC)) : va_P D tp_cl (cs_ws n [.inr (ci, fs)]) H1 := by
  intro k x hx
  obtain ⟨g1, g2, g3⟩ := cs_ge hx
  have g1 : k < 1 := g1
  obtain rfl : k = 0 := by omega
  obtain ⟨x1, x2⟩ := x
  obtain rfl : x1 = n := g2
  cases g3
  exact ⟨_, Cx.1, (u_born ty hts Cx.2.1 hKn hkC e1 Cx.2.2.1).to hfs⟩
end ST
set_option maxRecDepth 100000 in
set_option maxHeartbeats 4000000 in
/-- the law, from its entry, out of the pure step -/
theorem whole_start_of {p : Program} {e : Env} {s : State} {m : MethodId} {below : List Frame} {meth : Method} {c : Code} (l : Launch) (hflags : l.flags = flags0) {b L : Nat} {xs : Nat → Int32} (hL : L ≤ 2560) (C0 : lw_At p s m meth c b L xs) {r1 r2 : Int × tp_M} (h1 : fx_X4_startAnew 5 (fun _ _ => 0) = some r1) (h2 : fx_X10_fillColdPartners 63 31 r1.2 = some r2) (hgo : pu_go 512 r2.2 (tp_up (tp_up (fun _ _ => 0) 0 3 2) 2 1 1)) : W p l e room_1 s m #[Value.ref b] below meth c s.heap [] 0 0 (lw_Z below #[Value.ref b] s) (entryFrame m ([Value.ref b] : List Value).toArray 8) := by
  obtain ⟨hx, hb, hr, hml, hown, htl, hXs, hbl, hlocks, hgv⟩ := id C0
  have hT : ∀ w ∈ tables_1, w.before #[Value.ref b] s = true := fun w h => htl w (List.mem_append_right _ h)
  have hts : ∀ w ∈ tp_W, w.before #[Value.ref b] s = true := fun w h => htl w (List.mem_filter.mp h).1
  have hg : ∀ w ∈ st_giv, w.before #[Value.ref b] s = true := flat_of_before _ hgv
  have hAO : tp_AO s := hT _ (tm_1 (List.mem_of_getElem? (i := 196) rfl))
  have hNW : ∀ w ∈ tp_NW, va_Nw w s := by
    intro w hw
    have h3 := hT w (List.mem_filter.mp hw).1
    have h4 := (List.mem_filter.mp hw).2
    cases w <;> first | exact va_tabs rfl rfl h3 | cases h4
  obtain ⟨D, hD⟩ := st_D hts
  obtain ⟨c0, g0⟩ := st_arr hts ma_int (fun _ h => h)
  obtain ⟨c1, g1⟩ := st_arr hts ma_long (fun _ h => h)
  obtain ⟨c2, g2⟩ := st_arr hts ma_boolean (fun _ h => h)
  obtain ⟨c3, g3⟩ := st_over hAO
  obtain ⟨adK, adV, hstr⟩ := st_str hT hg (A := fun q => s.heap.size ≤ q) (fun a h => Nat.not_le.mpr h)
  obtain ⟨I, hI, hstr⟩ : ∃ I : Nat → ClassId, (∀ (k : Nat) (q : ClassId × FieldType), (tp_tys I)[k]? = some q → ArrOfT s q.1 q.2 ∧ va_RA s q.1 q.2) ∧ tp_str I (fun q => s.heap.size ≤ q) s := by
    refine ⟨fun k => if k = 0 then c0 else if k = 1 then c1 else if k = 2 then c2 else if k = 3 then c3 else if k < 20 then adK (k - 10) else adV (k - 20), fun k q hq => ?_, hstr _ (fun i hi => ?_) (fun i hi => ?_)⟩
    · match k, hq with
      | 0, hq => cases hq; exact g0
      | 1, hq => cases hq; exact g1
      | 2, hq => cases hq; exact g2
      | 3, hq => cases hq; exact g3
      | k + 4, hq => simp [tp_tys] at hq
    · rw [if_neg (by omega), if_neg (by omega), if_neg (by omega), if_neg (by omega), if_pos (by omega), show 10 + i - 10 = i by omega]
    · rw [if_neg (by omega), if_neg (by omega), if_neg (by omega), if_neg (by omega), if_neg (by omega), show 20 + i - 20 = i by omega]
  have hK : va_K D tp_cl (tp_tys I) s := ⟨hD, hI⟩
  obtain ⟨n0, hn0⟩ : ∃ n : Nat, s.heap.size = n := ⟨_, rfl⟩
  have hEc : tp_thr (tp_A n0 64) s := st_thr hT hg (fun a h h9 => by
    have h8 : n0 ≤ a := h9.1
    omega)
  obtain ⟨X, hXd⟩ : ∃ X : tp_X, X = (l, D, I, tp_thr (tp_A n0 64), n0) := ⟨_, rfl⟩
  have hl := lv_entry ([.ref b]) (n := 8) (Nat.le_of_ble_eq_true rfl)
  rw [lg_entry_eq]
  generalize (lg_sl ([.ref b]) ++ List.replicate (8 - (lg_sl ([.ref b])).length) Slot.unset).toArray = ls at hl ⊢
  have hl : lv_has ls 8 [(0, .ref b)] := hl
  have hK10 := hK.1 10 _ tk_X10.1
  have hK11 := hK.1 11 _ tk_X11.1
  refine W.newcK (index := 8) (n := 19) hx hb hown (hts _ cl_L_8) (hts _ mt_X10) (hts _ mi_X10) rfl dL_law_0 (Nat.le_of_ble_eq_true rfl) (Nat.le_of_ble_eq_true rfl) hK10.2.1 hn0 (fun H1 kC hkC e1 z1 o1 => ?_)
  refine W.eq (g2 := F0 m 3 ls [.ref n0]) rfl ?_
  have hP1 : va_P D tp_cl (cs_ws n0 [.inr (10, [.null, .null, .null, .null, .null, .null, .null, .null, .null, .null, .null, .null, .null, .null, .null, .null, .null, .null, .null])]) H1 := st_P hts tk_X10 (by decide +kernel) hK10 hkC e1
  have hS1 : va_S (fun q => s.heap.size ≤ q) s.heap H1 [] := ⟨by omega, fun q h3 _ => o1 q (by omega), fun q h => by cases h⟩
  refine lv_dup (pc := 3) hx hb dL_law_3 rfl ?_
  have hM1 := nc_X10 (l, D, I, tp_thr (tp_A n0 64), n0) h1 h2
  refine va_callv (va_runI (As := []) (rest := [.ref n0]) ⟨hx, hb, hml, hown, hts⟩ hM1 (cwI (Ts := tp_W) 0 hts (tp_Gd (fun w hwm => by
      rcases List.mem_cons.mp hwm with q | q
      · rw [q]; exact mc_X10_init
      · exact q)) rfl rfl rfl (hts _ mi_X10) (hts _ ml_L_22) (hts _ mn_X10_init) rfl (by decide +kernel) ⟨Nat.le_of_ble_eq_true rfl, Nat.le_of_ble_eq_true rfl⟩) ⟨tp_blindc, fun U hU hW => ⟨rfl, ⟨by rw [hU]; exact z1, by rw [hU]; exact hP1, va_K.moved hW.alike hK, tp_NW_warm hW hNW, tp_AO_moved hW.alike hAO⟩, tp_thr_st s U hEc hW (by rw [hU]; exact hS1.1) (fun q h3 _ => by rw [hU]; exact hS1.2.1 q h3 (Nat.not_le.mpr h3)), tp_thr_st⟩⟩ rfl rfl hl.1 rfl (lv_room (Nat.le_of_ble_eq_true rfl)) dL_law_4 ⟨Nat.le_of_ble_eq_true rfl, Nat.le_of_ble_eq_true rfl⟩) hS1 (fun q _ h => by rw [hn0]; exact h) (fun q h => by rw [hn0]; exact h) (fun u t H2 locs2 ht hvm hw hB hz2 hk2 hS2 => ?_)
  have hP2 : tp_P X LC 64 r2.2 H2 := by rw [hXd, ← ht]; exact hB
  have hbm : n0 + 64 ≤ H2.size := by
    have h3 := (hP2 63 _ (tp_ws_at (by decide))).lt
    rw [hXd] at h3
    have h4 : n0 + 63 < H2.size := h3
    omega
  refine lv_astore_n (pc := 7) (lv' := [(1, .ref n0), (0, .ref b)]) hx hb dL_law_7 rfl hl (by decide) rfl (fun ls hl => ?_)
  obtain ⟨bm, hbme⟩ : ∃ n : Nat, H2.size = n := ⟨_, rfl⟩
  refine W.newcK (index := 23) (n := 52) hx hb hown (hts _ cl_L_23) (hts _ mt_X11) (hts _ mi_X11) rfl dL_law_8 (Nat.le_of_ble_eq_true rfl) (Nat.le_of_ble_eq_true rfl) hK11.2.1 hbme (fun H3 kC3 hkC3 e3 z3 o3 => ?_)
  refine W.eq (g2 := F0 m 11 ls [.ref bm]) rfl ?_
  have hP3 : va_P D tp_cl (cs_ws bm [.inr (11, [vI 0, vI 0, .null, vI 0, .null, .null, .null, .null, .null, vI 0, vI 0, vI 0, vI 0, .null, .null, vI 0, .null, .null, vI 0, vI 0, .null, .null, .null, vI 0, .null, vI 0, .null, .null, .null, .null, vI 0, .null, vI 0, vI 0, .null, .null, vI 0, .null, .null, vI 0, .null, .null, .null, .null, vI 0, .null, .null, .null, .null, vI 0, .null, .null])]) H3 := st_P hts tk_X11 (by decide +kernel) hK11 hkC3 e3
  have hS3 : va_S (fun q => s.heap.size ≤ q) s.heap H3 locs2 := ⟨by have := hS2.1; omega, fun q h3 h4 => (o3 q (by have := hS2.1; omega)).trans (hS2.2.1 q h3 h4), hS2.2.2⟩
  have hEm : tp_str I (tp_A bm 34) s := tp_str_narrow hstr (fun q h => by
    have h4 : bm ≤ q := h.1
    show s.heap.size ≤ q
    omega)
  refine lv_dup (pc := 11) hx hb dL_law_11 rfl ?_
  have hM2 := nc_X11 (mX (l, D, I, tp_thr (tp_A n0 64), n0) (tp_str I (tp_A bm 34)) bm)
  refine va_callv (va_runI (As := []) (rest := [.ref bm]) ⟨hx, hb, hml, hown, hts⟩ hM2 (cwI (Ts := tp_W) 0 hts (tp_Gd (fun w hwm => by
      rcases List.mem_cons.mp hwm with q | q
      · rw [q]; exact mc_X11_init
      · exact q)) rfl rfl rfl (hts _ mi_X11) (hts _ ml_L_25) (hts _ mn_X11_init) rfl (by decide +kernel) ⟨Nat.le_of_ble_eq_true rfl, Nat.le_of_ble_eq_true rfl⟩) ⟨tp_blindc, fun U hU hW => ⟨rfl, ⟨by rw [hU]; exact z3, by rw [hU]; exact hP3, va_K.moved hW.alike hK, tp_NW_warm hW hNW, tp_AO_moved hW.alike hAO⟩, tp_str_st s U hEm hW (by rw [hU]; exact hS3.1) (fun q h3 _ => by rw [hU]; exact hS3.2.1 q h3 (Nat.not_le.mpr h3)), tp_str_st⟩⟩ rfl rfl hl.1 rfl (lv_room (Nat.le_of_ble_eq_true rfl)) dL_law_12 ⟨Nat.le_of_ble_eq_true rfl, Nat.le_of_ble_eq_true rfl⟩) hS3 (fun q _ h => by have h4 : bm ≤ q := h; show s.heap.size ≤ q; omega) (fun q h => by have h4 : bm ≤ q := h; show s.heap.size ≤ q; omega) (fun u4 t4 H4 locs4 ht4 hvm4 hw4 hB4 hz4 hk4 hS4 => ?_)
  have hQ4 : tp_P (mX (l, D, I, tp_thr (tp_A n0 64), n0) (tp_str I (tp_A bm 34)) bm) LM 34 (tp_up (tp_up (fun _ _ => 0) 0 3 2) 2 1 1) H4 := by rw [← ht4]; exact hB4
  have hP4 : tp_P (l, D, I, tp_thr (tp_A n0 64), n0) LC 64 r2.2 H4 := by
    rw [hXd] at hP2
    refine tp_P_kept (tp_P_kept (H1 := H3) hP2 (fun q h3 h4 => o3 q (by omega))) (fun q h3 h4 => hk4 q h4 (fun h5 => ?_))
    have h6 : q < n0 + 64 := h3.2
    have h7 : bm ≤ q := h5
    omega
  have hbo : bm + 34 ≤ H4.size := by
    have h3 := (hQ4 33 _ (tp_ws_at (by decide))).lt
    have h4 : bm + 33 < H4.size := h3
    omega
  refine lv_astore_n (pc := 15) (lv' := [(2, .ref bm), (1, .ref n0), (0, .ref b)]) hx hb dL_law_15 rfl hl (by decide) rfl (fun ls hl => ?_)
  refine lv_iconst (pc := 16) (v := Int32.ofInt 1) hx hb dL_law_16 rfl ?_
  obtain ⟨bo, hboe⟩ : ∃ n : Nat, H4.size = n := ⟨_, rfl⟩
  refine va_newaK (atype := .long) (N := 1) hx hb (hts _ ma_long) rfl dL_law_17 rfl (by decide) (by decide) (by decide) (Nat.le_of_ble_eq_true rfl) (Nat.le_of_ble_eq_true rfl) hboe (fun H5 cA e5 z5 o5 hAr hNm => ?_)
  refine W.eq (g2 := F0 m 19 ls [.ref bo]) rfl ?_
  have hcA : cA = I 1 := Option.some.inj (hNm.symm.trans (hK.2 1 _ rfl).2)
  subst hcA
  have hO5 : va_P D tp_cl (tp_out (l, D, I, tp_thr (tp_A n0 64), n0) bo 0) H5 := fun k q hk => by
    have h3 : k < 1 := (List.getElem?_eq_some_iff.mp hk).1
    obtain rfl : k = 0 := by omega
    cases hk
    exact e5
  have hP5 := tp_P_kept (H1 := H5) hP4 (fun q _ h4 => o5 q (by omega))
  have hQ5 := tp_P_kept (H1 := H5) hQ4 (fun q _ h4 => o5 q (by omega))
  have hS5 : va_S (fun q => s.heap.size ≤ q) s.heap H5 locs4 := ⟨by have := hS4.1; omega, fun q h3 h4 => (o5 q (by have := hS4.1; omega)).trans (hS4.2.1 q h3 h4), hS4.2.2⟩
  refine lv_astore_n (pc := 19) (lv' := [(3, .ref bo), (2, .ref bm), (1, .ref n0), (0, .ref b)]) hx hb dL_law_19 rfl hl (by decide) rfl (fun ls hl => ?_)
  refine lv_iconst (pc := 20) (v := Int32.ofInt 0) hx hb dL_law_20 rfl ?_
  refine lv_istore (pc := 21) (lv' := [(4, .int (Int32.ofInt 0)), (3, .ref bo), (2, .ref bm), (1, .ref n0), (0, .ref b)]) hx hb dL_law_21 hl (by decide) rfl (fun ls hl => ?_)
  have G : lw_G (p, e, s, m, below, meth, c, b, L, xs, (l, D, I, tp_thr (tp_A n0 64), n0), tp_str I (tp_A bm 34), bm, bo) := ⟨⟨hx, hb, hr, hml, hown, hts, hXs, hbl, hlocks⟩, hL, hK, hNW, ⟨hEc, tp_thr_st⟩, ⟨hEm, tp_str_st⟩, ⟨by show s.heap.size ≤ n0; omega, by show n0 + 64 ≤ bm; omega, by omega⟩, ⟨by show (!l.flags.contains noTraceFlag) = false; rw [hflags]; decide, fun U h => h⟩, fun U h => h⟩
  exact lw_loop G 512 0 r2.2 (tp_up (tp_up (fun _ _ => 0) 0 3 2) 2 1 1) 0 _ _ (by omega) (by show L < 0 + 5 * (512 + 1); omega) (Nat.le_of_ble_eq_true rfl) (Nat.le_of_ble_eq_true rfl) hgo H5 locs4 ls hP5 hQ5 hO5 hS5 (lv_sub hl [0, 4, 3, 2, 1] rfl)
