def LC (k : Nat) : tp_K := match k with
  | 0 => (14, 19, [3, 5, 7, 12, 17, 22, 27, 30, 33, 36, 38, 42, 54, 58, 61, 62, 63, 64, 65])
  | 1 => (11, 2, [4, 0])
  | 2 => (0, 80, [])
  | 3 => (12, 2, [6, 0])
  | 4 => (1, 8, [])
  | 5 => (8, 6, [8, 9, 10, 11, 0, 0])
  | 6 => (0, 8, [])
  | 7 => (0, 32, [])
  | 8 => (0, 8, [])
  | 9 => (0, 8, [])
  | 10 => (8, 6, [13, 14, 15, 16, 0, 0])
  | 11 => (0, 8, [])
  | 12 => (0, 32, [])
  | 13 => (0, 8, [])
  | 14 => (0, 8, [])
  | 15 => (13, 9, [18, 19, 20, 21, 0, 0, 0, 0, 0])
  | 16 => (0, 40, [])
  | 17 => (0, 40, [])
  | 18 => (0, 40, [])
  | 19 => (2, 5, [])
  | 20 => (13, 9, [23, 24, 25, 26, 0, 0, 0, 0, 0])
  | 21 => (0, 40, [])
  | 22 => (0, 40, [])
  | 23 => (0, 40, [])
  | 24 => (2, 5, [])
  | 25 => (6, 4, [28, 29, 0, 0])
  | 26 => (0, 8, [])
  | 27 => (0, 8, [])
  | 28 => (6, 4, [31, 32, 0, 0])
  | 29 => (0, 8, [])
  | 30 => (0, 8, [])
  | 31 => (6, 4, [34, 35, 0, 0])
  | 32 => (0, 8, [])
  | 33 => (0, 8, [])
  | 34 => (7, 4, [37, 0, 0, 0])
  | 35 => (0, 324, [])
  | 36 => (9, 3, [39, 40, 41])
  | 37 => (0, 8, [])
  | 38 => (0, 8, [])
  | 39 => (0, 8, [])
  | 40 => (4, 5, [43, 52, 53, 1, 1])
  | 41 => (3, 8, [42])
  | 42 => (1, 9, [])
  | 43 => (1, 9, [])
  | 44 => (1, 9, [])
  | 45 => (1, 9, [])
  | 46 => (1, 9, [])
  | 47 => (1, 9, [])
  | 48 => (1, 9, [])
  | 49 => (1, 9, [])
  | 50 => (1, 8, [])
  | 51 => (1, 8, [])
  | 52 => (10, 4, [55, 56, 57, 0])
  | 53 => (0, 10, [])
  | 54 => (0, 10, [])
  | 55 => (0, 10, [])
  | 56 => (5, 3, [59, 60, 0])
  | 57 => (0, 12, [])
  | 58 => (0, 12, [])
  | 59 => (0, 8, [])
  | 60 => (0, 8, [])
  | 61 => (0, 8, [])
  | 62 => (0, 84, [])
  | 63 => (0, 31, [])
  | _ => (0, 0, [])
theorem lc_0 : LC 0 = (14, 19, [3, 5, 7, 12, 17, 22, 27, 30, 33, 36, 38, 42, 54, 58, 61, 62, 63, 64, 65]) := rfl
theorem lc_1 : LC 1 = (11, 2, [4, 0]) := rfl
theorem lc_2 : LC 2 = (0, 80, []) := rfl
theorem lc_3 : LC 3 = (12, 2, [6, 0]) := rfl
theorem lc_4 : LC 4 = (1, 8, []) := rfl
theorem lc_5 : LC 5 = (8, 6, [8, 9, 10, 11, 0, 0]) := rfl
theorem lc_6 : LC 6 = (0, 8, []) := rfl
theorem lc_7 : LC 7 = (0, 32, []) := rfl
theorem lc_8 : LC 8 = (0, 8, []) := rfl
theorem lc_9 : LC 9 = (0, 8, []) := rfl
theorem lc_10 : LC 10 = (8, 6, [13, 14, 15, 16, 0, 0]) := rfl
theorem lc_11 : LC 11 = (0, 8, []) := rfl
theorem lc_12 : LC 12 = (0, 32, []) := rfl
theorem lc_13 : LC 13 = (0, 8, []) := rfl
theorem lc_14 : LC 14 = (0, 8, []) := rfl
theorem lc_15 : LC 15 = (13, 9, [18, 19, 20, 21, 0, 0, 0, 0, 0]) := rfl
theorem lc_16 : LC 16 = (0, 40, []) := rfl
theorem lc_17 : LC 17 = (0, 40, []) := rfl
theorem lc_18 : LC 18 = (0, 40, []) := rfl
theorem lc_19 : LC 19 = (2, 5, []) := rfl
theorem lc_20 : LC 20 = (13, 9, [23, 24, 25, 26, 0, 0, 0, 0, 0]) := rfl
theorem lc_21 : LC 21 = (0, 40, []) := rfl
theorem lc_22 : LC 22 = (0, 40, []) := rfl
theorem lc_23 : LC 23 = (0, 40, []) := rfl
theorem lc_24 : LC 24 = (2, 5, []) := rfl
theorem lc_25 : LC 25 = (6, 4, [28, 29, 0, 0]) := rfl
theorem lc_26 : LC 26 = (0, 8, []) := rfl
theorem lc_27 : LC 27 = (0, 8, []) := rfl
theorem lc_28 : LC 28 = (6, 4, [31, 32, 0, 0]) := rfl
theorem lc_29 : LC 29 = (0, 8, []) := rfl
theorem lc_30 : LC 30 = (0, 8, []) := rfl
theorem lc_31 : LC 31 = (6, 4, [34, 35, 0, 0]) := rfl
theorem lc_32 : LC 32 = (0, 8, []) := rfl
theorem lc_33 : LC 33 = (0, 8, []) := rfl
theorem lc_34 : LC 34 = (7, 4, [37, 0, 0, 0]) := rfl
theorem lc_35 : LC 35 = (0, 324, []) := rfl
theorem lc_36 : LC 36 = (9, 3, [39, 40, 41]) := rfl
theorem lc_37 : LC 37 = (0, 8, []) := rfl
theorem lc_38 : LC 38 = (0, 8, []) := rfl
theorem lc_39 : LC 39 = (0, 8, []) := rfl
theorem lc_40 : LC 40 = (4, 5, [43, 52, 53, 1, 1]) := rfl
theorem lc_41 : LC 41 = (3, 8, [42]) := rfl
theorem lc_42 : LC 42 = (1, 9, []) := rfl
theorem lc_43 : LC 43 = (1, 9, []) := rfl
theorem lc_44 : LC 44 = (1, 9, []) := rfl
theorem lc_45 : LC 45 = (1, 9, []) := rfl
theorem lc_46 : LC 46 = (1, 9, []) := rfl
theorem lc_47 : LC 47 = (1, 9, []) := rfl
theorem lc_48 : LC 48 = (1, 9, []) := rfl
theorem lc_49 : LC 49 = (1, 9, []) := rfl
theorem lc_50 : LC 50 = (1, 8, []) := rfl
theorem lc_51 : LC 51 = (1, 8, []) := rfl
theorem lc_52 : LC 52 = (10, 4, [55, 56, 57, 0]) := rfl
theorem lc_53 : LC 53 = (0, 10, []) := rfl
theorem lc_54 : LC 54 = (0, 10, []) := rfl
theorem lc_55 : LC 55 = (0, 10, []) := rfl
theorem lc_56 : LC 56 = (5, 3, [59, 60, 0]) := rfl
theorem lc_57 : LC 57 = (0, 12, []) := rfl
theorem lc_58 : LC 58 = (0, 12, []) := rfl
theorem lc_59 : LC 59 = (0, 8, []) := rfl
theorem lc_60 : LC 60 = (0, 8, []) := rfl
theorem lc_61 : LC 61 = (0, 8, []) := rfl
theorem lc_62 : LC 62 = (0, 84, []) := rfl
theorem lc_63 : LC 63 = (0, 31, []) := rfl
def LM (k : Nat) : tp_K := match k with
  | 0 => (15, 52, [0, 0, 3, 0, 4, 5, 6, 7, 8, 0, 0, 0, 0, 9, 10, 0, 11, 12, 0, 0, 13, 14, 15, 0, 16, 0, 17, 18, 19, 20, 0, 21, 0, 0, 22, 23, 0, 24, 25, 0, 26, 27, 28, 29, 0, 30, 31, 32, 33, 0, 34, 35])
  | 1 => (1, 24, [])
  | 2 => (0, 8, [])
  | 3 => (0, 32, [])
  | 4 => (0, 17, [])
  | 5 => (0, 17, [])
  | 6 => (0, 80, [])
  | 7 => (0, 8, [])
  | 8 => (0, 32, [])
  | 9 => (0, 80, [])
  | 10 => (0, 80, [])
  | 11 => (0, 80, [])
  | 12 => (0, 7, [])
  | 13 => (0, 8, [])
  | 14 => (0, 272, [])
  | 15 => (0, 8, [])
  | 16 => (0, 60, [])
  | 17 => (0, 60, [])
  | 18 => (0, 60, [])
  | 19 => (0, 8, [])
  | 20 => (0, 8, [])
  | 21 => (1, 64, [])
  | 22 => (1, 8, [])
  | 23 => (1, 8, [])
  | 24 => (0, 10, [])
  | 25 => (0, 10, [])
  | 26 => (0, 10, [])
  | 27 => (0, 8, [])
  | 28 => (0, 12, [])
  | 29 => (0, 12, [])
  | 30 => (2, 961, [])
  | 31 => (0, 80, [])
  | 32 => (2, 3, [])
  | 33 => (0, 51, [])
  | _ => (0, 0, [])
theorem lm_0 : LM 0 = (15, 52, [0, 0, 3, 0, 4, 5, 6, 7, 8, 0, 0, 0, 0, 9, 10, 0, 11, 12, 0, 0, 13, 14, 15, 0, 16, 0, 17, 18, 19, 20, 0, 21, 0, 0, 22, 23, 0, 24, 25, 0, 26, 27, 28, 29, 0, 30, 31, 32, 33, 0, 34, 35]) := rfl
theorem lm_1 : LM 1 = (1, 24, []) := rfl
theorem lm_2 : LM 2 = (0, 8, []) := rfl
theorem lm_3 : LM 3 = (0, 32, []) := rfl
theorem lm_4 : LM 4 = (0, 17, []) := rfl
theorem lm_5 : LM 5 = (0, 17, []) := rfl
theorem lm_6 : LM 6 = (0, 80, []) := rfl
theorem lm_7 : LM 7 = (0, 8, []) := rfl
theorem lm_8 : LM 8 = (0, 32, []) := rfl
theorem lm_9 : LM 9 = (0, 80, []) := rfl
theorem lm_10 : LM 10 = (0, 80, []) := rfl
theorem lm_11 : LM 11 = (0, 80, []) := rfl
theorem lm_12 : LM 12 = (0, 7, []) := rfl
theorem lm_13 : LM 13 = (0, 8, []) := rfl
theorem lm_14 : LM 14 = (0, 272, []) := rfl
theorem lm_15 : LM 15 = (0, 8, []) := rfl
theorem lm_16 : LM 16 = (0, 60, []) := rfl
theorem lm_17 : LM 17 = (0, 60, []) := rfl
theorem lm_18 : LM 18 = (0, 60, []) := rfl
theorem lm_19 : LM 19 = (0, 8, []) := rfl
theorem lm_20 : LM 20 = (0, 8, []) := rfl
theorem lm_21 : LM 21 = (1, 64, []) := rfl
theorem lm_22 : LM 22 = (1, 8, []) := rfl
theorem lm_23 : LM 23 = (1, 8, []) := rfl
theorem lm_24 : LM 24 = (0, 10, []) := rfl
theorem lm_25 : LM 25 = (0, 10, []) := rfl
theorem lm_26 : LM 26 = (0, 10, []) := rfl
theorem lm_27 : LM 27 = (0, 8, []) := rfl
theorem lm_28 : LM 28 = (0, 12, []) := rfl
theorem lm_29 : LM 29 = (0, 12, []) := rfl
theorem lm_30 : LM 30 = (2, 961, []) := rfl
theorem lm_31 : LM 31 = (0, 80, []) := rfl
theorem lm_32 : LM 32 = (2, 3, []) := rfl
theorem lm_33 : LM 33 = (0, 51, []) := rfl
def tg_Moor (L : Nat → tp_K) (N k : Nat) : Prop := k + 2 < N ∧ L k = (6, 4, [k + 1 + 2, k + 2 + 2, 0, 0]) ∧ L (k + 1) = (0, 8, []) ∧ L (k + 2) = (0, 8, [])
def tg_Paths (L : Nat → tp_K) (N k : Nat) : Prop := k + 4 < N ∧ L k = (8, 6, [k + 1 + 2, k + 2 + 2, k + 3 + 2, k + 4 + 2, 0, 0]) ∧ L (k + 1) = (0, 8, []) ∧ L (k + 2) = (0, 32, []) ∧ L (k + 3) = (0, 8, []) ∧ L (k + 4) = (0, 8, [])
def tg_Turner (L : Nat → tp_K) (N k : Nat) : Prop := k + 4 < N ∧ L k = (13, 9, [k + 1 + 2, k + 2 + 2, k + 3 + 2, k + 4 + 2, 0, 0, 0, 0, 0]) ∧ L (k + 1) = (0, 40, []) ∧ L (k + 2) = (0, 40, []) ∧ L (k + 3) = (0, 40, []) ∧ L (k + 4) = (2, 5, [])
def tg_I (L : Nat → tp_K) (N k n : Nat) : Prop := k < N ∧ L k = (0, n, [])
theorem tg_Moor_l0 {L : Nat → tp_K} {N k : Nat} (h : tg_Moor L N k) : k < N := by have := h.1; omega
theorem tg_Moor_l1 {L : Nat → tp_K} {N k : Nat} (h : tg_Moor L N k) : k + 1 < N := by have := h.1; omega
theorem tg_Moor_l2 {L : Nat → tp_K} {N k : Nat} (h : tg_Moor L N k) : k + 2 < N := by have := h.1; omega
theorem tg_Paths_l0 {L : Nat → tp_K} {N k : Nat} (h : tg_Paths L N k) : k < N := by have := h.1; omega
theorem tg_Paths_l1 {L : Nat → tp_K} {N k : Nat} (h : tg_Paths L N k) : k + 1 < N := by have := h.1; omega
theorem tg_Paths_l2 {L : Nat → tp_K} {N k : Nat} (h : tg_Paths L N k) : k + 2 < N := by have := h.1; omega
theorem tg_Paths_l3 {L : Nat → tp_K} {N k : Nat} (h : tg_Paths L N k) : k + 3 < N := by have := h.1; omega
theorem tg_Paths_l4 {L : Nat → tp_K} {N k : Nat} (h : tg_Paths L N k) : k + 4 < N := by have := h.1; omega
theorem tg_Turner_l0 {L : Nat → tp_K} {N k : Nat} (h : tg_Turner L N k) : k < N := by have := h.1; omega
theorem tg_Turner_l1 {L : Nat → tp_K} {N k : Nat} (h : tg_Turner L N k) : k + 1 < N := by have := h.1; omega
theorem tg_Turner_l2 {L : Nat → tp_K} {N k : Nat} (h : tg_Turner L N k) : k + 2 < N := by have := h.1; omega
theorem tg_Turner_l3 {L : Nat → tp_K} {N k : Nat} (h : tg_Turner L N k) : k + 3 < N := by have := h.1; omega
theorem tg_Turner_l4 {L : Nat → tp_K} {N k : Nat} (h : tg_Turner L N k) : k + 4 < N := by have := h.1; omega
theorem gg_Moor_25 : tg_Moor LC 64 25 := ⟨by decide, rfl, rfl, rfl⟩
theorem gg_Moor_28 : tg_Moor LC 64 28 := ⟨by decide, rfl, rfl, rfl⟩
theorem gg_Moor_31 : tg_Moor LC 64 31 := ⟨by decide, rfl, rfl, rfl⟩
theorem gg_Paths_5 : tg_Paths LC 64 5 := ⟨by decide, rfl, rfl, rfl, rfl, rfl⟩
theorem gg_Paths_10 : tg_Paths LC 64 10 := ⟨by decide, rfl, rfl, rfl, rfl, rfl⟩
theorem gg_Turner_15 : tg_Turner LC 64 15 := ⟨by decide, rfl, rfl, rfl, rfl, rfl⟩
theorem gg_Turner_20 : tg_Turner LC 64 20 := ⟨by decide, rfl, rfl, rfl, rfl, rfl⟩
theorem lc_rows {i : Int} (h : 0 ≤ i ∧ i < 8) : LC (42 + i.toNat) = (1, 9, []) := by
  obtain ⟨n, hn⟩ : ∃ n : Nat, i.toNat = n := ⟨_, rfl⟩
  have hl : n < 8 := by omega
  rw [hn]
  match n, hl with
  | 0, _ => rfl
  | 1, _ => rfl
  | 2, _ => rfl
  | 3, _ => rfl
  | 4, _ => rfl
  | 5, _ => rfl
  | 6, _ => rfl
  | 7, _ => rfl
theorem w32_lcmp (a b : Int) : w32 (x_lcmp a b) = x_lcmp a b := by
  unfold x_lcmp; split
  · rfl
  · split <;> rfl
section TJ
variable {X : tp_X} {Y : tp_Y} {L : Nat → tp_K} {N nL dep rk : Nat} {o : tp_O} {M : tp_M} {lv : tp_V} {st : List Value} {pc : Nat}
theorem tj_gd {c : Prop} {i : Decidable c} (h : c → tp_J X Y L N nL dep rk o M lv st pc) : tp_J X Y L N nL dep rk (tp_gd c i o) M lv st pc := by
  unfold tp_gd
  split
  · rename_i q; exact h q
  · exact tj_none
def tp_jn0 (k : tp_M → tp_O) (b : (tp_M → tp_O) → tp_O) : tp_O := b k
theorem tj_jn0 {k : tp_M → tp_O} {b : (tp_M → tp_O) → tp_O} (lvf : tp_V) (stf : List Value) (pcj : Nat) (hk : ∀ (M : tp_M), tp_J X Y L N nL dep rk (k  M) M (lvf ) (stf ) pcj) (hb : ∀ jk : tp_M → tp_O, (∀ (M : tp_M), tp_J X Y L N nL dep rk (jk  M) M (lvf ) (stf ) pcj) → tp_J X Y L N nL dep rk (b jk) M lv st pc) : tp_J X Y L N nL dep rk (tp_jn0 k b) M lv st pc := hb k hk
def tp_jn1 (k : Int → tp_M → tp_O) (b : (Int → tp_M → tp_O) → tp_O) : tp_O := b k
theorem tj_jn1 {k : Int → tp_M → tp_O} {b : (Int → tp_M → tp_O) → tp_O} (lvf : Int → tp_V) (stf : Int → List Value) (pcj : Nat) (hk : ∀ (x0 : Int) (M : tp_M), tp_J X Y L N nL dep rk (k x0 M) M (lvf x0) (stf x0) pcj) (hb : ∀ jk : Int → tp_M → tp_O, (∀ (x0 : Int) (M : tp_M), tp_J X Y L N nL dep rk (jk x0 M) M (lvf x0) (stf x0) pcj) → tp_J X Y L N nL dep rk (b jk) M lv st pc) : tp_J X Y L N nL dep rk (tp_jn1 k b) M lv st pc := hb k hk
def tp_jn2 (k : Int → Int → tp_M → tp_O) (b : (Int → Int → tp_M → tp_O) → tp_O) : tp_O := b k
theorem tj_jn2 {k : Int → Int → tp_M → tp_O} {b : (Int → Int → tp_M → tp_O) → tp_O} (lvf : Int → Int → tp_V) (stf : Int → Int → List Value) (pcj : Nat) (hk : ∀ (x0 x1 : Int) (M : tp_M), tp_J X Y L N nL dep rk (k x0 x1 M) M (lvf x0 x1) (stf x0 x1) pcj) (hb : ∀ jk : Int → Int → tp_M → tp_O, (∀ (x0 x1 : Int) (M : tp_M), tp_J X Y L N nL dep rk (jk x0 x1 M) M (lvf x0 x1) (stf x0 x1) pcj) → tp_J X Y L N nL dep rk (b jk) M lv st pc) : tp_J X Y L N nL dep rk (tp_jn2 k b) M lv st pc := hb k hk
def tp_jn3 (k : Int → Int → Int → tp_M → tp_O) (b : (Int → Int → Int → tp_M → tp_O) → tp_O) : tp_O := b k
theorem tj_jn3 {k : Int → Int → Int → tp_M → tp_O} {b : (Int → Int → Int → tp_M → tp_O) → tp_O} (lvf : Int → Int → Int → tp_V) (stf : Int → Int → Int → List Value) (pcj : Nat) (hk : ∀ (x0 x1 x2 : Int) (M : tp_M), tp_J X Y L N nL dep rk (k x0 x1 x2 M) M (lvf x0 x1 x2) (stf x0 x1 x2) pcj) (hb : ∀ jk : Int → Int → Int → tp_M → tp_O, (∀ (x0 x1 x2 : Int) (M : tp_M), tp_J X Y L N nL dep rk (jk x0 x1 x2 M) M (lvf x0 x1 x2) (stf x0 x1 x2) pcj) → tp_J X Y L N nL dep rk (b jk) M lv st pc) : tp_J X Y L N nL dep rk (tp_jn3 k b) M lv st pc := hb k hk
def tp_jn4 (k : Int → Int → Int → Int → tp_M → tp_O) (b : (Int → Int → Int → Int → tp_M → tp_O) → tp_O) : tp_O := b k
theorem tj_jn4 {k : Int → Int → Int → Int → tp_M → tp_O} {b : (Int → Int → Int → Int → tp_M → tp_O) → tp_O} (lvf : Int → Int → Int → Int → tp_V) (stf : Int → Int → Int → Int → List Value) (pcj : Nat) (hk : ∀ (x0 x1 x2 x3 : Int) (M : tp_M), tp_J X Y L N nL dep rk (k x0 x1 x2 x3 M) M (lvf x0 x1 x2 x3) (stf x0 x1 x2 x3) pcj) (hb : ∀ jk : Int → Int → Int → Int → tp_M → tp_O, (∀ (x0 x1 x2 x3 : Int) (M : tp_M), tp_J X Y L N nL dep rk (jk x0 x1 x2 x3 M) M (lvf x0 x1 x2 x3) (stf x0 x1 x2 x3) pcj) → tp_J X Y L N nL dep rk (b jk) M lv st pc) : tp_J X Y L N nL dep rk (tp_jn4 k b) M lv st pc := hb k hk
def tp_jn5 (k : Int → Int → Int → Int → Int → tp_M → tp_O) (b : (Int → Int → Int → Int → Int → tp_M → tp_O) → tp_O) : tp_O := b k
theorem tj_jn5 {k : Int → Int → Int → Int → Int → tp_M → tp_O} {b : (Int → Int → Int → Int → Int → tp_M → tp_O) → tp_O} (lvf : Int → Int → Int → Int → Int → tp_V) (stf : Int → Int → Int → Int → Int → List Value) (pcj : Nat) (hk : ∀ (x0 x1 x2 x3 x4 : Int) (M : tp_M), tp_J X Y L N nL dep rk (k x0 x1 x2 x3 x4 M) M (lvf x0 x1 x2 x3 x4) (stf x0 x1 x2 x3 x4) pcj) (hb : ∀ jk : Int → Int → Int → Int → Int → tp_M → tp_O, (∀ (x0 x1 x2 x3 x4 : Int) (M : tp_M), tp_J X Y L N nL dep rk (jk x0 x1 x2 x3 x4 M) M (lvf x0 x1 x2 x3 x4) (stf x0 x1 x2 x3 x4) pcj) → tp_J X Y L N nL dep rk (b jk) M lv st pc) : tp_J X Y L N nL dep rk (tp_jn5 k b) M lv st pc := hb k hk
end TJ

