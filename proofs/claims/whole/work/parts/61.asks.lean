/-! ASKS -/
theorem bcs {x : Int} (hx : 0 ≤ x ∧ x < 256) : bc x = sumI (fun j => if x.toNat.testBit j.toNat = true then 1 else 0) 0 8 := by
  have h2 : ∀ n : Nat, n < 256 → bc (n : Int) = sumI (fun j => if (n : Int).toNat.testBit j.toNat = true then 1 else 0) 0 8 := by decide +kernel
  obtain ⟨k, rfl⟩ := Int.eq_ofNat_of_zero_le hx.1
  exact h2 k (by omega)
def sow (D G R F : Int → Int) (c what v : Int) : Int := if what = 0 then (if D c = v then 1 else 0) else if what = 1 then (if v ≤ R (8 + c) then 1 else 0) else if what = 2 then (if G (4 * c + R c) = v then 1 else 0) else (if F c = v then 1 else 0)
theorem sow_so {D G R F : Int → Int} {c what v : Int} (hw : 0 ≤ what ∧ what ≤ 3) : (so D G R F c what v → sow D G R F c what v = 1) ∧ (¬ so D G R F c what v → sow D G R F c what v = 0) := by
  unfold so sow
  have h4 : what = 0 ∨ what = 1 ∨ what = 2 ∨ what = 3 := by omega
  rcases h4 with rfl | rfl | rfl | rfl
  · constructor
    · intro q; rw [if_pos rfl, if_pos (by omega)]
    · intro q; rw [if_pos rfl, if_neg (by omega)]
  · constructor
    · intro q; rw [if_neg (by decide), if_pos rfl, if_pos (by omega)]
    · intro q; rw [if_neg (by decide), if_pos rfl, if_neg (by omega)]
  · constructor
    · intro q; rw [if_neg (by decide), if_neg (by decide), if_pos rfl, if_pos (by omega)]
    · intro q; rw [if_neg (by decide), if_neg (by decide), if_pos rfl, if_neg (by omega)]
  · constructor
    · intro q; rw [if_neg (by decide), if_neg (by decide), if_neg (by decide), if_pos (by omega)]
    · intro q; rw [if_neg (by decide), if_neg (by decide), if_neg (by decide), if_neg (by omega)]
/-- of those left, of how many it is so -/
def yesw (D G R F : Int → Int) (x what v : Int) (j : Int) : Int := if x.toNat.testBit j.toNat = true then sow D G R F j what v else 0
theorem yesw_in (D G R F : Int → Int) (x what v j : Int) : 0 ≤ yesw D G R F x what v j ∧ yesw D G R F x what v j ≤ 1 := by
  unfold yesw sow
  repeat' split
  all_goals omega
def yes (D G R F : Int → Int) (x n what v : Int) : Int := sumI (yesw D G R F x what v) 1 (n - 1).toNat
theorem yes_in {D G R F : Int → Int} {x n what v : Int} (hn : 2 ≤ n ∧ n ≤ 8) : 0 ≤ yes D G R F x n what v ∧ yes D G R F x n what v ≤ 7 := by
  have := sumI_in (g := yesw D G R F x what v) (lo := 0) (hi := 1) (n - 1).toNat 1 (fun z _ _ => yesw_in _ _ _ _ _ _ _ _)
  unfold yes
  omega
theorem sum_mid {f : Int → Int} {n : Int} (hn : 2 ≤ n ∧ n ≤ 8) (h0 : f 0 = 0) (h8 : ∀ j : Int, n ≤ j → j < 8 → f j = 0) : sumI f 0 8 = sumI f 1 (n - 1).toNat := by
  have e : 8 = 1 + (n - 1).toNat + (8 - n).toNat := by omega
  rw [e, sumI_add, sumI_add, sumI_0 (8 - n).toNat _ (fun z z1 z2 => h8 z (by omega) (by omega))]
  have : sumI f 0 1 = f 0 := by unfold sumI sumI; simp
  rw [this, h0]
  simp
theorem cs_yes {D G R F : Int → Int} {x y n what v : Int} (hn : 2 ≤ n ∧ n ≤ 8) (hw : 0 ≤ what ∧ what ≤ 3) (hx : 0 ≤ x ∧ x < 256) (hxn : ∀ j : Nat, j < 8 → (bt x j → 1 ≤ (j : Int) ∧ (j : Int) < n)) (hy : 0 ≤ y ∧ y < 256) (hyc : ∀ j : Nat, j < 8 → (bt y j ↔ (1 ≤ (j : Int) ∧ (j : Int) < n) ∧ so D G R F (j : Int) what v)) : bc (x_and x y) = yes D G R F x n what v := by
  have hb := bt_and hx hy
  rw [bcs hb.1]
  have hcg : sumI (fun j => if (x_and x y).toNat.testBit j.toNat = true then 1 else 0) 0 8 = sumI (yesw D G R F x what v) 0 8 := sumI_cg _ _ (fun z z1 z2 => by
    have hz := hb.2 z.toNat
    have hyz := hyc z.toNat (by omega)
    have hxz := hxn z.toNat (by omega)
    rw [show ((z.toNat : Nat) : Int) = z by omega] at hyz hxz
    have hs := sow_so (D := D) (G := G) (R := R) (F := F) (c := z) (what := what) (v := v) hw
    unfold yesw
    unfold bt at hz hyz hxz
    by_cases h1 : x.toNat.testBit z.toNat = true
    · rw [if_pos h1]
      by_cases h2 : so D G R F z what v
      · rw [hs.1 h2, if_pos (hz.mpr ⟨h1, hyz.mpr ⟨hxz h1, h2⟩⟩)]
      · rw [hs.2 h2, if_neg (fun q => h2 (hyz.mp (hz.mp q).2).2)]
    · rw [if_neg h1, if_neg (fun q => h1 (hz.mp q).1)])
  rw [hcg]
  unfold yes
  refine sum_mid hn ?_ (fun j j1 j2 => ?_)
  · unfold yesw
    rw [if_neg (fun q => by have := hxn 0 (by omega) q; omega)]
  · unfold yesw
    rw [if_neg (fun q => by
      have := hxn j.toNat (by omega) q
      omega)]
/-- the least so far, of the questions below k -/
def qf (val : Int → Int) (b l : Int) : Nat → Int × Int
  | 0 => (b, l)
  | k + 1 => if hd_ok ((k : Int) / 10) ((k : Int) % 10) ∧ val (k : Int) < (qf val b l k).2 then ((k : Int), val (k : Int)) else qf val b l k
theorem qf_y {val : Int → Int} {b l : Int} {k : Nat} (h : hd_ok ((k : Int) / 10) ((k : Int) % 10)) (h2 : val (k : Int) < (qf val b l k).2) : qf val b l (k + 1) = ((k : Int), val (k : Int)) := if_pos ⟨h, h2⟩
theorem qf_n {val : Int → Int} {b l : Int} {k : Nat} (h : ¬ (hd_ok ((k : Int) / 10) ((k : Int) % 10) ∧ val (k : Int) < (qf val b l k).2)) : qf val b l (k + 1) = qf val b l k := if_neg h
theorem qf_skip {val : Int → Int} {b l : Int} {a : Nat} : ∀ d : Nat, (∀ q : Nat, a ≤ q → q < a + d → ¬ hd_ok ((q : Int) / 10) ((q : Int) % 10)) → qf val b l (a + d) = qf val b l a := by
  intro d
  induction d with
  | zero => intro _; rfl
  | succ d ih =>
    intro h
    show qf val b l (a + d + 1) = _
    rw [qf_n (fun q => h (a + d) (by omega) (by omega) q.1), ih (fun q q1 q2 => h q q1 (by omega))]
theorem qf_in {val : Int → Int} {b l : Int} (hl : 0 ≤ l ∧ l ≤ 1000000) (hv : ∀ q : Int, 0 ≤ val q ∧ val q ≤ 7) : ∀ k : Nat, 0 ≤ (qf val b l k).2 ∧ (qf val b l k).2 ≤ 1000000 := by
  intro k
  induction k with
  | zero => exact hl
  | succ k ih =>
    by_cases h : hd_ok ((k : Int) / 10) ((k : Int) % 10) ∧ val (k : Int) < (qf val b l k).2
    · rw [qf_y h.1 h.2]
      have := hv (k : Int)
      dsimp only
      omega
    · rw [qf_n h]; exact ih
theorem qf_eq {val : Int → Int} {b b2 l l2 : Int} (hv : ∀ q : Int, 0 ≤ val q ∧ val q ≤ 7) (hl : 8 ≤ l) (hl2 : 8 ≤ l2) : ∀ k : Nat, 2 ≤ k → qf val b l k = qf val b2 l2 k := by
  intro k
  induction k with
  | zero => intro h; omega
  | succ k ih =>
    intro hk
    by_cases h1 : k = 1
    · subst h1
      have e0 (b l : Int) : qf val b l 1 = (b, l) := by
        show qf val b l (0 + 1) = _
        rw [qf_n (fun q => by have := q.1; unfold hd_ok at this; omega)]
        rfl
      have h7 := hv 1
      have ok1 : hd_ok (((1 : Nat) : Int) / 10) (((1 : Nat) : Int) % 10) := by decide
      rw [qf_y ok1 (by rw [e0]; show val 1 < l; omega), qf_y ok1 (by rw [e0]; show val 1 < l2; omega)]
    · have e := ih (by omega)
      by_cases h : hd_ok ((k : Int) / 10) ((k : Int) % 10) ∧ val (k : Int) < (qf val b l k).2
      · rw [qf_y h.1 h.2]
        rw [e] at h
        rw [qf_y h.1 h.2]
      · rw [qf_n h]
        rw [e] at h ⊢
        rw [qf_n h]
def qval (D G R F : Int → Int) (x n : Int) (q : Int) : Int := max (yes D G R F x n (q / 10) (q % 10)) (bc x - yes D G R F x n (q / 10) (q % 10))
theorem x_div_nn {a b : Int} (ha : 0 ≤ a ∧ a < 2147483648) (hb : 0 < b ∧ b < 2147483648) : x_div a b = a / b := by
  unfold x_div
  rw [w32_id (by omega), w32_id (by omega), Int.tdiv_eq_ediv_of_nonneg ha.1]
theorem cs_asks {C : tp_M} {n : Int} {D G R : Int → Int} {B x all : Int} {K : Int → Int → tp_M → tp_O} {Q : Int → tp_M → Prop} (hN : nC C n D G) (hR : sm_row (C 26) (C 27) (C 25 2) (C 25 3) R n D B) (hB : B ≤ 1000000) (hx : 0 ≤ x ∧ x < 256) (hxn : ∀ j : Nat, j < 8 → (bt x j → 1 ≤ (j : Int) ∧ (j : Int) < n)) (hall : all = bc x) (hv : ∀ q : Int, 0 ≤ qval D G R (C 9) x n q ∧ qval D G R (C 9) x n q ≤ 7) (hK : wp (K (qf (qval D G R (C 9) x n) 0 8 40).1 (qf (qval D G R (C 9) x n) 0 8 40).2 C) Q) : wp (tp_lp3 (fx_X10_asks_L26 x all K) tp_F 0 8 0 C) Q := by
  have n8 := cn_n hN
  have hbx := bc_in hx
  refine wp_lp3 (fun b l z C1 => C1 = C ∧ ∃ k : Nat, z = (k : Int) ∧ k ≤ 40 ∧ b = (qf (qval D G R (C 9) x n) 0 8 k).1 ∧ l = (qf (qval D G R (C 9) x n) 0 8 k).2) (fun _ _ z _ => (40 - z).toNat) ?_ tp_F 0 8 0 C ⟨rfl, 0, rfl, by omega, rfl, rfl⟩ (tp_F_pos (by omega))
  intro rec b l z C1 hI hrec
  obtain ⟨rfl, k, rfl, k40, rfl, rfl⟩ := hI
  have hq := qf_in (val := qval D G R (C1 9) x n) (b := 0) (l := 8) (by omega) hv k
  unfold fx_X10_asks_L26
  by_cases hk : (k : Int) < 40
  · rw [w32_id (show -2147483648 ≤ (k : Int) ∧ (k : Int) < 2147483648 by omega), if_pos hk, tp_nz_t (by decide), tp_lt_s, tp_nz_t (by decide), tp_lt_s, x_div_nn (by omega) (by decide), x_rem_nn (by omega) (by decide), pc_canBeHeard (by unfold pu_in; omega) (by unfold pu_in; omega), tp_bd_s]
    refine wp_jn2 ?_
    by_cases hok : hd_ok ((k : Int) / 10) ((k : Int) % 10)
    · have hok' := hok
      unfold hd_ok at hok'
      obtain ⟨y, y1, y2, y3⟩ := cs_crossingsOf hN hR hB (what := (k : Int) / 10) (v := (k : Int) % 10) (by omega) (by omega)
      have hyes := cs_yes n8 (by omega) hx hxn y1 y2
      have hyin := yes_in (D := D) (G := G) (R := R) (F := C1 9) (x := x) (n := n) (what := (k : Int) / 10) (v := (k : Int) % 10) n8
      have hqv : qval D G R (C1 9) x n (k : Int) = max (yes D G R (C1 9) x n ((k : Int) / 10) ((k : Int) % 10)) (bc x - yes D G R (C1 9) x n ((k : Int) / 10) ((k : Int) % 10)) := rfl
      have hvk := hv (k : Int)
      rw [if_pos hok, show w32 1 = 1 from rfl, if_neg (by decide), y3, tp_bd_s, pj_bits, tp_bd_s, hyes, hall]
      refine wp_lt ?_
      refine wp_lt ?_
      rw [w32_id (show -2147483648 ≤ yes D G R (C1 9) x n ((k : Int) / 10) ((k : Int) % 10) ∧ yes D G R (C1 9) x n ((k : Int) / 10) ((k : Int) % 10) < 2147483648 by omega), w32_id (show -2147483648 ≤ bc x - yes D G R (C1 9) x n ((k : Int) / 10) ((k : Int) % 10) ∧ bc x - yes D G R (C1 9) x n ((k : Int) / 10) ((k : Int) % 10) < 2147483648 by omega), ← hqv, w32_id (show -2147483648 ≤ qval D G R (C1 9) x n (k : Int) ∧ qval D G R (C1 9) x n (k : Int) < 2147483648 by omega), w32_id (show -2147483648 ≤ (qf (qval D G R (C1 9) x n) 0 8 k).2 ∧ (qf (qval D G R (C1 9) x n) 0 8 k).2 < 2147483648 by omega)]
      by_cases hl : qval D G R (C1 9) x n (k : Int) < (qf (qval D G R (C1 9) x n) 0 8 k).2
      · rw [if_pos hl]
        refine wp_lt ?_
        refine wp_lt ?_
        refine wp_lt ?_
        exact hrec _ _ _ _ ⟨rfl, k + 1, by omega, by omega, by rw [qf_y hok hl], by rw [qf_y hok hl]⟩ (by omega)
      · rw [if_neg hl]
        refine wp_lt ?_
        exact hrec _ _ _ _ ⟨rfl, k + 1, by omega, by omega, by rw [qf_n (fun q => hl q.2)], by rw [qf_n (fun q => hl q.2)]⟩ (by omega)
    · rw [if_neg hok, show w32 0 = 0 from rfl, if_pos rfl]
      refine wp_lt ?_
      exact hrec _ _ _ _ ⟨rfl, k + 1, by omega, by omega, by rw [qf_n (fun q => hok q.1)], by rw [qf_n (fun q => hok q.1)]⟩ (by omega)
  · rw [w32_id (show -2147483648 ≤ (k : Int) ∧ (k : Int) < 2147483648 by omega), if_neg hk]
    rw [show k = 40 by omega]
    exact hK
theorem ps_yes {M : tp_M} {x what v B : Int} {F : Int → Int} {P W : Int → Int} {hh ss : Int} (hn : nt_net (M 0 3) (M 2) (M 3)) (hR : sm_row P W hh ss (M 4) (M 0 3) (M 2) B) (hB : B ≤ 1000000) (hF : ∀ v : Int, 0 ≤ v → v < M 0 3 → M 13 v = F v ∧ 0 ≤ F v ∧ F v < 8) (hx : 0 ≤ x ∧ x < 256) (hw : 0 ≤ what ∧ what ≤ 3) (hv : 0 ≤ v ∧ v ≤ 9) (c2 c3 : Int) (K : Int → tp_M → tp_O) : tp_lp2 (fx_X11_asks_L55 x c2 c3 what v K) tp_F 0 1 M = K (yes (M 2) (M 3) (M 4) F x (M 0 3) what v) M := by
  have n8 := hn.1
  rw [lp2_for (body := fx_X11_asks_L55 x c2 c3 what v K) (f := fun z a => a + yesw (M 2) (M 3) (M 4) F x what v z) (K := fun a => K a M) (M := M) (fun _ _ => True) (M 0 3 - 1).toNat 1 0 tp_F trivial (fun rec a z _ z1 z2 => ⟨?_, trivial⟩) (fun rec a _ => ?_) (tp_F_pos (by omega))]
  · rw [fZ_sum (g := yesw (M 2) (M 3) (M 4) F x what v) _ _ _ (fun _ _ _ _ => rfl), Int.zero_add]
    rfl
  · have hz : z < M 0 3 := by omega
    obtain ⟨-, -, -, b4⟩ := hR.2.2.2.2.1 z z1 hz
    have hfz := hF z (by omega) hz
    have hs := ps_isSo (M := M) (c := z) (what := what) (v := v) (B := B) hn (rr_of hR) ⟨z1, hz⟩ (by omega) (by rw [hfz.1]; exact hfz.2) hw hv
    have hso : so (M 2) (M 3) (M 4) (M 13) z what v ↔ so (M 2) (M 3) (M 4) F z what v := by
      unfold so
      rw [hfz.1]
    have hsw := sow_so (D := M 2) (G := M 3) (R := M 4) (F := F) (c := z) (what := what) (v := v) hw
    have hh := pm_has (a := x) (v := z) (by omega) (by omega) M
    have g1 : fx_X11_flag 1 M = some (1, M) := rfl
    have g0 : fx_X11_flag 0 M = some (0, M) := rfl
    unfold yesw
    rw [fx_X11_asks_L55, w32_id (show -2147483648 ≤ z ∧ z < 2147483648 by omega), w32_id (show -2147483648 ≤ M 0 3 ∧ M 0 3 < 2147483648 by omega), if_pos hz]
    by_cases h1 : bt x z.toNat
    · rw [hh.1 h1, tp_bd_s, if_pos (show x.toNat.testBit z.toNat = true from h1)]
      by_cases h2 : so (M 2) (M 3) (M 4) F z what v
      · rw [hsw.1 h2]
        have hs1 := hs.1 (hso.mpr h2)
        clear hs hso hsw hh hF hR
        simp (disch := omega) only [↓tp_lm_n, ↓tp_lt_n, ↓tp_bd_n, ↓tp_jn0_n, ↓tp_jn1_n, ↓tp_jn2_n, ↓tp_jn3_n, w32_id, if_pos, if_neg, if_true, if_false, tp_ck_t, tp_nz_t, tp_gd_i, hs1, g1]
      · rw [hsw.2 h2]
        have hs1 := hs.2 (fun q => h2 (hso.mp q))
        clear hs hso hsw hh hF hR
        simp (disch := omega) only [↓tp_lm_n, ↓tp_lt_n, ↓tp_bd_n, ↓tp_jn0_n, ↓tp_jn1_n, ↓tp_jn2_n, ↓tp_jn3_n, w32_id, if_pos, if_neg, if_true, if_false, tp_ck_t, tp_nz_t, tp_gd_i, hs1, g0]
    · rw [hh.2 h1, tp_bd_s, if_neg (show ¬ x.toNat.testBit z.toNat = true from h1)]
      clear hs hso hsw hh hF hR
      simp (disch := omega) only [↓tp_lm_n, ↓tp_lt_n, ↓tp_bd_n, ↓tp_jn0_n, ↓tp_jn1_n, ↓tp_jn2_n, ↓tp_jn3_n, w32_id, if_pos, if_neg, if_true, if_false, tp_ck_t, tp_nz_t, tp_gd_i, g0]
  · rw [fx_X11_asks_L55, w32_id (by omega), w32_id (by omega), if_neg (by omega)]
theorem ps_asks {M : tp_M} {x B : Int} {F : Int → Int} {P W : Int → Int} {hh ss : Int} {K : Int → Int → tp_M → tp_O} {Q : Int → tp_M → Prop} (hn : nt_net (M 0 3) (M 2) (M 3)) (hR : sm_row P W hh ss (M 4) (M 0 3) (M 2) B) (hB : B ≤ 1000000) (hF : ∀ v : Int, 0 ≤ v → v < M 0 3 → M 13 v = F v ∧ 0 ≤ F v ∧ F v < 8) (hx : 0 ≤ x ∧ x < 256) (hv : ∀ q : Int, 0 ≤ qval (M 2) (M 3) (M 4) F x (M 0 3) q ∧ qval (M 2) (M 3) (M 4) F x (M 0 3) q ≤ 7) (hK : wp (K (qf (qval (M 2) (M 3) (M 4) F x (M 0 3)) (-1) 1000000 40).1 (qf (qval (M 2) (M 3) (M 4) F x (M 0 3)) (-1) 1000000 40).2 M) Q) : wp (tp_lp3 (fx_X11_asks_L26 x K) tp_F (-1) 1000000 0 M) Q := by
  have n8 := hn.1
  have hbx := bc_in hx
  generalize hval : qval (M 2) (M 3) (M 4) F x (M 0 3) = val at *
  refine wp_lp3 (fun b l z M1 => M1 = M ∧ ∃ w : Nat, z = (w : Int) ∧ w ≤ 4 ∧ b = (qf val (-1) 1000000 (10 * w)).1 ∧ l = (qf val (-1) 1000000 (10 * w)).2) (fun _ _ z _ => (4 - z).toNat) ?_ tp_F (-1) 1000000 0 M ⟨rfl, 0, rfl, by omega, rfl, rfl⟩ (tp_F_pos (by omega))
  intro rec b l z M1 hI hrec
  obtain ⟨rfl, w, rfl, w4, rfl, rfl⟩ := hI
  unfold fx_X11_asks_L26
  by_cases hw : (w : Int) < 4
  · rw [w32_id (show -2147483648 ≤ (w : Int) ∧ (w : Int) < 2147483648 by omega), if_pos hw, pm_lowest (by unfold pu_in; omega), tp_bd_s]
    refine wp_lt ?_
    have hlo : ∃ lo hi : Nat, (if (w : Int) = 0 ∨ (w : Int) = 3 then (1 : Int) else 0) = (lo : Int) ∧ (if (w : Int) = 0 then (4 : Int) else if (w : Int) = 1 then 9 else 7) = (hi : Int) ∧ lo ≤ hi ∧ hi ≤ 9 ∧ ∀ v : Nat, v < 10 → (hd_ok (w : Int) (v : Int) ↔ lo ≤ v ∧ v ≤ hi) := by
      have h4 : w = 0 ∨ w = 1 ∨ w = 2 ∨ w = 3 := by omega
      rcases h4 with rfl | rfl | rfl | rfl
      · exact ⟨1, 4, by decide, by decide, by decide, by decide, by decide⟩
      · exact ⟨0, 9, by decide, by decide, by decide, by decide, by decide⟩
      · exact ⟨0, 7, by decide, by decide, by decide, by decide, by decide⟩
      · exact ⟨1, 7, by decide, by decide, by decide, by decide, by decide⟩
    obtain ⟨lo, hi, l1, l2, l3, l4, l5⟩ := hlo
    rw [l1]
    have hdm : ∀ v : Nat, v < 10 → (((10 * w + v : Nat) : Int) / 10 = (w : Int) ∧ ((10 * w + v : Nat) : Int) % 10 = (v : Int)) := fun v hv => by omega
    have hs1 : qf val (-1) 1000000 (10 * w + lo) = qf val (-1) 1000000 (10 * w) := qf_skip lo (fun q q1 q2 => by
      have e := hdm (q - 10 * w) (by omega)
      rw [show 10 * w + (q - 10 * w) = q by omega] at e
      rw [e.1, e.2, l5 _ (by omega)]
      omega)
    refine wp_lp3 (fun b l z M2 => M2 = M1 ∧ ∃ v : Nat, z = (v : Int) ∧ lo ≤ v ∧ v ≤ hi + 1 ∧ b = (qf val (-1) 1000000 (10 * w + v)).1 ∧ l = (qf val (-1) 1000000 (10 * w + v)).2) (fun _ _ z _ => (11 - z).toNat) ?_ tp_F _ _ _ M1 ⟨rfl, lo, rfl, Nat.le_refl lo, by omega, by rw [hs1], by rw [hs1]⟩ (tp_F_pos (by omega))
    intro rec2 b2 l2' z2 M2 hI2 hrec2
    obtain ⟨rfl, v, rfl, v1, v2, rfl, rfl⟩ := hI2
    have hq := qf_in (val := val) (b := -1) (l := 1000000) (by omega) hv (10 * w + v)
    unfold fx_X11_asks_L39
    rw [pm_highest (by unfold pu_in; omega), tp_bd_s, l2, w32_id (show -2147483648 ≤ (v : Int) ∧ (v : Int) < 2147483648 by omega), w32_id (show -2147483648 ≤ (hi : Int) ∧ (hi : Int) < 2147483648 by omega)]
    by_cases hvh : (v : Int) ≤ (hi : Int)
    · rw [if_pos hvh]
      refine wp_lt ?_
      refine wp_lt ?_
      rw [ps_yes hn hR hB hF hx (by omega) (by omega)]
      have e := hdm v (by omega)
      have hok : hd_ok (((10 * w + v : Nat) : Int) / 10) (((10 * w + v : Nat) : Int) % 10) := by
        rw [e.1, e.2, l5 v (by omega)]
        omega
      have hyin := yes_in (D := M2 2) (G := M2 3) (R := M2 4) (F := F) (x := x) (n := M2 0 3) (what := (w : Int)) (v := (v : Int)) n8
      have hqv : max (yes (M2 2) (M2 3) (M2 4) F x (M2 0 3) (w : Int) (v : Int)) (bc x - yes (M2 2) (M2 3) (M2 4) F x (M2 0 3) (w : Int) (v : Int)) = val ((10 * w + v : Nat) : Int) := by
        rw [← hval]
        unfold qval
        rw [e.1, e.2]
      have hvk := hv ((10 * w + v : Nat) : Int)
      rw [pj_bits, tp_bd_s]
      refine wp_lt ?_
      rw [w32_id (show -2147483648 ≤ yes (M2 2) (M2 3) (M2 4) F x (M2 0 3) (w : Int) (v : Int) ∧ yes (M2 2) (M2 3) (M2 4) F x (M2 0 3) (w : Int) (v : Int) < 2147483648 by omega), w32_id (show -2147483648 ≤ bc x - yes (M2 2) (M2 3) (M2 4) F x (M2 0 3) (w : Int) (v : Int) ∧ bc x - yes (M2 2) (M2 3) (M2 4) F x (M2 0 3) (w : Int) (v : Int) < 2147483648 by omega), hqv]
      refine wp_jn1 ?_
      rw [w32_id (show -2147483648 ≤ val ((10 * w + v : Nat) : Int) ∧ val ((10 * w + v : Nat) : Int) < 2147483648 by omega), w32_id (show -2147483648 ≤ (qf val (-1) 1000000 (10 * w + v)).2 ∧ (qf val (-1) 1000000 (10 * w + v)).2 < 2147483648 by omega)]
      by_cases hl : val ((10 * w + v : Nat) : Int) < (qf val (-1) 1000000 (10 * w + v)).2
      · rw [if_pos hl]
        refine wp_lt ?_
        refine wp_lt ?_
        refine wp_lt ?_
        refine hrec2 _ _ _ _ ⟨rfl, v + 1, by omega, by omega, by omega, ?_, ?_⟩ (by omega)
        · show _ = (qf val (-1) 1000000 (10 * w + v + 1)).1
          rw [qf_y hok hl]
          dsimp only
          omega
        · show _ = (qf val (-1) 1000000 (10 * w + v + 1)).2
          rw [qf_y hok hl]
          dsimp only
          omega
      · rw [if_neg hl]
        refine wp_lt ?_
        refine wp_lt ?_
        refine wp_lt ?_
        refine hrec2 _ _ _ _ ⟨rfl, v + 1, by omega, by omega, by omega, ?_, ?_⟩ (by omega)
        · show _ = (qf val (-1) 1000000 (10 * w + v + 1)).1
          rw [qf_n (fun q => hl q.2)]
        · show _ = (qf val (-1) 1000000 (10 * w + v + 1)).2
          rw [qf_n (fun q => hl q.2)]
          omega
    · rw [if_neg hvh]
      refine wp_lt ?_
      have hs2 : qf val (-1) 1000000 (10 * w + v + (10 - v)) = qf val (-1) 1000000 (10 * w + v) := qf_skip (10 - v) (fun q q1 q2 => by
        have e := hdm (q - 10 * w) (by omega)
        rw [show 10 * w + (q - 10 * w) = q by omega] at e
        rw [e.1, e.2, l5 _ (by omega)]
        omega)
      rw [show 10 * w + v + (10 - v) = 10 * (w + 1) by omega] at hs2
      exact hrec _ _ _ _ ⟨rfl, w + 1, by omega, by omega, by rw [hs2], by rw [hs2]⟩ (by omega)
  · rw [w32_id (show -2147483648 ≤ (w : Int) ∧ (w : Int) < 2147483648 by omega), if_neg hw]
    rw [show w = 4 by omega]
    exact hK
theorem st_asks {B : Int} {C M : tp_M} (hB : 1000 ≤ B ∧ B ≤ 600000) (h : Sim B C M) : wp2 (fx_X10_asks C) (fx_X11_asks M) (Ans B) := by
  have hN : nC C (M 0 3) (M 2) (M 3) := h.2.2.1
  have n8 := cn_n hN
  obtain ⟨x, M1, f1, f2, g, g13, x1, x2⟩ := w2_fitting hB h
  have gA : tp_fr sc_M M M1 := fr_tr (fr_up fr_rf (by simp)) (fr_mono g (by simp))
  have g0 : ∀ j : Int, ¬ j = 0 → M1 0 j = M 0 j := fun j hj => by rw [g 0 (by simp), up_j _ _ _ hj]
  have gF : sc_F M M1 := fun j hj => g0 j (f0_ne hj (by decide))
  have hbx := bc_in x1
  have hF : ∀ v : Int, 0 ≤ v → v < M 0 3 → 0 ≤ C 9 v ∧ C 9 v < 8 := fun v v1 v2 => by
    obtain ⟨d, d8, d9, -⟩ := hN.2.2.2.2.2 v v1 v2
    omega
  have e2 : M1 2 = M 2 := by rw [g 2 (by simp), up_k _ _ _ (by decide)]
  have e3 : M1 3 = M 3 := by rw [g 3 (by simp), up_k _ _ _ (by decide)]
  have e4 : M1 4 = M 4 := by rw [g 4 (by simp), up_k _ _ _ (by decide)]
  have e03 := g0 3 (by decide)
  have hall7 : bc x ≤ 7 := by
    rw [bcs x1, sum_mid n8 (by rw [if_neg (fun q => by have := x2 0 (by omega) q; omega)]) (fun j j1 j2 => by
      rw [if_neg (fun q => by
        have := x2 j.toNat (by omega) q
        omega)])]
    have := sumI_in (g := fun j => if x.toNat.testBit j.toNat = true then 1 else 0) (lo := 0) (hi := 1) (M 0 3 - 1).toNat 1 (fun z _ _ => by split <;> omega)
    omega
  have hqv : ∀ q : Int, 0 ≤ qval (M 2) (M 3) (M 4) (C 9) x (M 0 3) q ∧ qval (M 2) (M 3) (M 4) (C 9) x (M 0 3) q ≤ 7 := fun q => by
    have := yes_in (D := M 2) (G := M 3) (R := M 4) (F := C 9) (x := x) (n := M 0 3) (what := q / 10) (v := q % 10) n8
    unfold qval
    omega
  unfold fx_X10_asks fx_X11_asks
  refine wp2_lm2 ?_
  rw [f1, f2, tp_bd_s, tp_bd_s]
  refine wp2_lt1 ?_
  refine wp2_lt2 ?_
  rw [w32_id (show -2147483648 ≤ x ∧ x < 2147483648 by omega)]
  by_cases h0 : x = 0
  · rw [if_pos h0, if_pos h0]
    exact wp2_some (ans_same h fr_rf gA gF rfl rfl rfl (g0 1 (by decide)) (by rw [g 1 (by simp), up_k _ _ _ (by decide)]))
  · rw [if_neg h0, if_neg h0, pj_bits, tp_bd_s]
    refine wp2_lt1 ?_
    refine wp2_lt1 ?_
    refine wp2_lt1 ?_
    refine wp2_lt1 ?_
    refine wp2_lt2 ?_
    refine wp2_lt2 ?_
    refine wp2_lt2 ?_
    have he := qf_eq (val := qval (M 2) (M 3) (M 4) (C 9) x (M 0 3)) (b := 0) (b2 := -1) (l := 8) (l2 := 1000000) hqv (by decide) (by decide) 40 (by decide)
    generalize hqq : qf (qval (M 2) (M 3) (M 4) (C 9) x (M 0 3)) 0 8 40 = qq at he
    refine wp2_of (P1 := fun r C1 => r = qq.1 ∧ C1 = tp_up (tp_up (tp_up C 3 1 0) 4 0 (w32 qq.2)) 3 1 1) (P2 := fun r M2 => r = qq.1 ∧ M2 = tp_up (tp_up (tp_up M1 0 1 0) 1 0 (w32 qq.2)) 0 1 (0 + 1)) ?_ ?_ (fun r1 C1 r2 M2 p q => ?_)
    · refine cs_asks hN h.2.2.2.1 (by omega) x1 x2 rfl hqv ?_
      rw [hqq, pc_tell1, tp_bd_s]
      exact wp_some ⟨rfl, rfl⟩
    · refine ps_asks (M := M1) (F := C 9) (by rw [e03, e2, e3]; exact hN.2.1) (by rw [e03, e2, e4]; exact h.2.2.2.1) (by omega) (by rw [e03]; exact fun v v1 v2 => ⟨g13 v v1 v2, hF v v1 v2⟩) x1 (by rw [e03, e2, e3, e4]; exact hqv) ?_
      rw [e03, e2, e3, e4, ← he]
      refine wp_lm ?_
      rw [pm_enters (t := 0) (up_s _ _ _ _) (by decide), tp_bd_s]
      exact wp_some ⟨rfl, rfl⟩
    · obtain ⟨rfl, rfl⟩ := p
      obtain ⟨rfl, rfl⟩ := q
      refine ans_told h (by (repeat (first | exact fr_rf | assumption | refine fr_up ?_ (by simp) | refine fr_cp ?_ (by simp) | exact fr_mono (by assumption) (by simp)))) (fr_up (fr_up (fr_up gA (by simp)) (by simp)) (by simp)) ?_ rfl ⟨by decide, by decide⟩ (td_1C _ _) (td_1M _ _) (fun _ _ _ => rfl)
      exact scF_up (scF_k (scF_up gF (by decide)) (by decide)) (by decide)
