/-! MENDS: rings, changes, the search -/
/-- how many below u rank lower -/
def rk (h : Nat → Nat) (x : Nat) : Nat → Nat
  | 0 => 0
  | u + 1 => rk h x u + if h u < x then 1 else 0
theorem rk_le (h : Nat → Nat) (x : Nat) : ∀ u : Nat, rk h x u ≤ u := by
  intro u
  induction u with
  | zero => exact Nat.le_refl 0
  | succ u ih => show rk h x u + _ ≤ u + 1; split <;> omega
theorem rk_mono (h : Nat → Nat) {x y : Nat} (hxy : x ≤ y) : ∀ u : Nat, rk h x u ≤ rk h y u := by
  intro u
  induction u with
  | zero => exact Nat.le_refl 0
  | succ u ih =>
    show rk h x u + (if h u < x then 1 else 0) ≤ rk h y u + (if h u < y then 1 else 0)
    by_cases c : h u < x
    · rw [if_pos c, if_pos (show h u < y by omega)]; omega
    · rw [if_neg c]; omega
theorem rk_lt (h : Nat → Nat) {y : Nat} : ∀ (u w : Nat), w < u → h w < y → rk h (h w) u < rk h y u := by
  intro u
  induction u with
  | zero => intro w hw _; omega
  | succ u ih =>
    intro w hw hy
    show rk h (h w) u + (if h u < h w then 1 else 0) < rk h y u + (if h u < y then 1 else 0)
    by_cases e : w = u
    · rw [e, if_neg (Nat.lt_irrefl _), if_pos (by rw [← e]; exact hy)]
      have := rk_mono h (Nat.le_of_lt hy) u
      rw [e] at this
      omega
    · have := ih w (by omega) hy
      by_cases c : h u < h w
      · rw [if_pos c, if_pos (by omega)]; omega
      · rw [if_neg c]; omega
theorem rk_self (h : Nat → Nat) : ∀ (u v : Nat), v < u → rk h (h v) u < u := by
  intro u
  induction u with
  | zero => intro v hv; omega
  | succ u ih =>
    intro v hv
    show rk h (h v) u + (if h u < h v then 1 else 0) < u + 1
    by_cases e : v = u
    · rw [e, if_neg (Nat.lt_irrefl _)]
      have := rk_le h (h u) u
      omega
    · have := ih v (by omega)
      split <;> omega
/-- a rank below u -/
theorem al_small {u : Nat} {s : Nat → Int} (ha : al u s) : ∃ h : Nat → Nat, (∀ v : Nat, v < u → h v < u) ∧ ∀ v w : Nat, v < u → s v = (w : Int) → w < u → h w < h v := by
  obtain ⟨h, hh⟩ := ha
  exact ⟨fun v => rk h (h v) u, fun v hv => rk_self h u v hv, fun v w hv e hw => rk_lt h u w hw (hh v w hv e hw)⟩
/-- from w one comes to u by the posts below u -/
def rch (u : Nat) (s : Nat → Int) : Nat → Int → Prop
  | 0, w => w = (u : Int)
  | k + 1, w => rch u s k w ∨ ((0 ≤ w ∧ w < (u : Int)) ∧ rch u s k (s w.toNat))
theorem rch_in {u : Nat} {s : Nat → Int} {w : Int} (hw : 0 ≤ w ∧ w < (u : Int)) : (∃ k : Nat, rch u s k w) ↔ ∃ k : Nat, rch u s k (s w.toNat) := by
  constructor
  · rintro ⟨k, hk⟩
    induction k with
    | zero => have hk : w = (u : Int) := hk; omega
    | succ k ih =>
      rcases hk with hk | ⟨-, hk⟩
      · exact ih hk
      · exact ⟨k, hk⟩
  · rintro ⟨k, hk⟩
    exact ⟨k + 1, Or.inr ⟨hw, hk⟩⟩
theorem rch_out {u : Nat} {s : Nat → Int} {w : Int} (hw : ¬ (0 ≤ w ∧ w < (u : Int))) (hu : ¬ w = (u : Int)) : ¬ ∃ k : Nat, rch u s k w := by
  rintro ⟨k, hk⟩
  induction k with
  | zero => exact hu hk
  | succ k ih =>
    rcases hk with hk | ⟨h, -⟩
    · exact ih hk
    · exact hw h
/-- one post more without a ring -/
theorem al_more {u : Nat} {s : Nat → Int} {h : Nat → Nat} (h1 : ∀ v : Nat, v < u → h v < u) (h2 : ∀ v w : Nat, v < u → s v = (w : Int) → w < u → h w < h v) (hu : ¬ s u = (u : Int)) (hn : ¬ ∃ k : Nat, rch u s k (s u)) : al (u + 1) s := by
  have hb : ∀ v : Nat, ∃ b : Nat, ((∃ k : Nat, rch u s k (v : Int)) → b = u + 1) ∧ ((¬ ∃ k : Nat, rch u s k (v : Int)) → b = 0) := fun v => by
    by_cases c : ∃ k : Nat, rch u s k (v : Int)
    · exact ⟨u + 1, fun _ => rfl, fun q => absurd c q⟩
    · exact ⟨0, fun q => absurd q c, fun _ => rfl⟩
  let b : Nat → Nat := fun v => Classical.choose (hb v)
  have hbs : ∀ v : Nat, ((∃ k : Nat, rch u s k (v : Int)) → b v = u + 1) ∧ ((¬ ∃ k : Nat, rch u s k (v : Int)) → b v = 0) := fun v => Classical.choose_spec (hb v)
  refine ⟨fun v => if v = u then u else h v + b v, fun v w hv e hw => ?_⟩
  show (if w = u then u else h w + b w) < (if v = u then u else h v + b v)
  by_cases hvu : v = u
  · subst hvu
    have hwv : ¬ w = v := fun c => hu (by rw [e, c])
    rw [if_pos rfl, if_neg hwv]
    have : b w = 0 := (hbs w).2 (by rw [← e]; exact hn)
    have := h1 w (by omega)
    omega
  · rw [if_neg hvu]
    by_cases hwu : w = u
    · rw [if_pos hwu]
      rw [hwu] at e
      have : b v = u + 1 := (hbs v).1 ⟨1, Or.inr ⟨by omega, by rw [Int.toNat_natCast]; exact e⟩⟩
      omega
    · rw [if_neg hwu]
      have hh := h2 v w (by omega) e (by omega)
      have hiff := rch_in (u := u) (s := s) (w := (v : Int)) (by omega)
      rw [Int.toNat_natCast, e] at hiff
      have : b w = b v := by
        by_cases c : ∃ k : Nat, rch u s k (v : Int)
        · rw [(hbs v).1 c, (hbs w).1 (hiff.mp c)]
        · rw [(hbs v).2 c, (hbs w).2 (fun q => c (hiff.mpr q))]
      omega
/-- the ring looked for -/
theorem cs_closesRing {C : tp_M} {n : Int} {D G : Int → Int} {m u : Nat} {e : Nat → Nat} (hN : nC C n D G) (hm : (n - 1).toNat = m) (hu : u < m) (he : ∀ i : Nat, i ≤ u → C 60 ((i : Int) + 1) = (e i : Int) ∧ e i < nD D i) (ha : al u (sg_of (nG G) e)) : wp (fx_X10_closesRing ((u : Int) + 1) C) (fun r C1 => C1 = C ∧ ((r = 1 ∧ ¬ al (u + 1) (sg_of (nG G) e)) ∨ (r = 0 ∧ al (u + 1) (sg_of (nG G) e)))) := by
  have n8 := cn_n hN
  have hD := nt_D hN.2.1 hm
  obtain ⟨h, h1, h2⟩ := al_small ha
  generalize hs : sg_of (nG G) e = s at *
  have hgo : ∀ i : Nat, i ≤ u → fx_X4_goal 5 ((i : Int) + 1) (e i : Int) C = some (s i + 1, C) ∧ -1 ≤ s i ∧ s i < (m : Int) := fun i hi => by
    have hd := hD i (by omega)
    have hl := (he i hi).2
    have hg := cn_G hN (a := (i : Int) + 1) (k := (e i : Int)) (by omega) (by omega)
    have es : s i = G (4 * ((i : Int) + 1) + (e i : Int)) - 1 := by rw [← hs]; rfl
    refine ⟨?_, by omega⟩
    rw [cn_goal hN (a := (i : Int) + 1) (k := (e i : Int)) (by omega) (by omega), es]
    congr 2
    omega
  have hself : ¬ s u = (u : Int) := by
    have hd := hD u hu
    have hl := (he u (Nat.le_refl u)).2
    have hg := cn_G hN (a := (u : Int) + 1) (k := (e u : Int)) (by omega) (by omega)
    have es : s u = G (4 * ((u : Int) + 1) + (e u : Int)) - 1 := by rw [← hs]; rfl
    omega
  refine wp_K (fun Q hQ => ?_)
  unfold fx_X10_closesRing
  rw [w32_id (show -2147483648 ≤ (u : Int) + 1 ∧ (u : Int) + 1 < 2147483648 by omega)]
  refine wp_ck (by omega) ?_
  rw [(he u (Nat.le_refl u)).1, (hgo u (Nat.le_refl u)).1, tp_bd_s]
  refine wp_lt ?_
  refine wp_lt ?_
  refine wp_lp2 (fun a z C1 => C1 = C ∧ ∃ (w : Int) (t : Nat), a = w + 1 ∧ z = (t : Int) + 1 ∧ (-1 ≤ w ∧ w < (m : Int)) ∧ t ≤ u ∧ (0 ≤ w → w < (u : Int) → h w.toNat + t + 1 ≤ u) ∧ (∀ H : Nat → Nat, (∀ v x : Nat, v < u + 1 → s v = (x : Int) → x < u + 1 → H x < H v) → 0 ≤ w → w < (u : Int) + 1 → H w.toNat < H u) ∧ ((∃ k : Nat, rch u s k w) ↔ ∃ k : Nat, rch u s k (s u))) (fun _ z _ => (9 - z).toNat) ?_ tp_F (s u + 1) 1 C ⟨rfl, s u, 0, rfl, rfl, (hgo u (Nat.le_refl u)).2, by omega, fun w1 w2 => by have := h1 (s u).toNat (by omega); omega, fun H hH w1 w2 => hH u (s u).toNat (by omega) (by omega) (by omega), Iff.rfl⟩ (tp_F_pos (by omega))
  rintro rec a z C1 ⟨rfl, w, t, rfl, rfl, w1, t1, t2, t3, t4⟩ hrec
  unfold fx_X10_closesRing_L17
  rw [w32_id (show -2147483648 ≤ (t : Int) + 1 ∧ (t : Int) + 1 < 2147483648 by omega), if_pos (by omega), w32_id (show -2147483648 ≤ w + 1 ∧ w + 1 < 2147483648 by omega), w32_id (show -2147483648 ≤ (u : Int) + 1 ∧ (u : Int) + 1 < 2147483648 by omega)]
  have fin : ¬ (0 ≤ w ∧ w < (u : Int)) → wp (if w + 1 = (u : Int) + 1 then some (1, C1) else some (0, C1)) Q := fun hout => by
    by_cases c : w = (u : Int)
    · rw [if_pos (by omega)]
      refine wp_some (hQ _ _ ⟨rfl, Or.inl ⟨rfl, fun ⟨H, hH⟩ => ?_⟩⟩)
      have := t3 H hH (by omega) (by omega)
      rw [c, Int.toNat_natCast] at this
      exact Nat.lt_irrefl _ this
    · rw [if_neg (by omega)]
      refine wp_some (hQ _ _ ⟨rfl, Or.inr ⟨rfl, al_more h1 h2 hself (fun q => rch_out hout c (t4.mpr q))⟩⟩)
  by_cases c0 : w + 1 ≤ 0
  · rw [if_pos c0]
    have := fin (by omega)
    try dsimp only
    rw [w32_id (show -2147483648 ≤ w + 1 ∧ w + 1 < 2147483648 by omega)]
    exact this
  · rw [if_neg c0]
    by_cases c1 : w + 1 < (u : Int) + 1
    · have hw : w = ((w.toNat : Nat) : Int) := by omega
      have ht2 := t2 (by omega) (by omega)
      rw [if_pos c1]
      refine wp_ck (by omega) ?_
      have hcell : C1 60 (w + 1) = (e w.toNat : Int) := by
        have := (he w.toNat (by omega)).1
        rw [← hw] at this
        exact this
      have hg := hgo w.toNat (by omega)
      rw [← hw] at hg
      rw [hcell, hg.1, tp_bd_s]
      refine wp_lt ?_
      refine wp_lt ?_
      refine hrec _ _ _ ⟨rfl, s w.toNat, t + 1, rfl, by omega, hg.2, by omega, fun x1 x2 => ?_, fun H hH x1 x2 => ?_, ?_⟩ (by omega)
      · have := h2 w.toNat (s w.toNat).toNat (by omega) (by omega) (by omega)
        omega
      · have a1 := t3 H hH (by omega) (by omega)
        have a2 := hH w.toNat (s w.toNat).toNat (by omega) (by omega) (by omega)
        omega
      · rw [← rch_in (by omega)]; exact t4
    · rw [if_neg c1]
      have := fin (by omega)
      try dsimp only
      rw [w32_id (show -2147483648 ≤ w + 1 ∧ w + 1 < 2147483648 by omega)]
      exact this
def chg (d e : Nat → Nat) : Nat → Nat
  | 0 => 0
  | u + 1 => chg d e u + if e u = d u then 0 else 1
theorem chg_cg {d e e2 : Nat → Nat} : ∀ u : Nat, (∀ i : Nat, i < u → e2 i = e i) → chg d e2 u = chg d e u := by
  intro u
  induction u with
  | zero => intro _; rfl
  | succ u ih =>
    intro h
    show chg d e2 u + (if e2 u = d u then 0 else 1) = chg d e u + (if e u = d u then 0 else 1)
    rw [ih (fun i hi => h i (by omega)), h u (by omega)]
theorem chg_mono {d e : Nat → Nat} {u v : Nat} (h : u ≤ v) : chg d e u ≤ chg d e v := by
  obtain ⟨k, rfl⟩ : ∃ k, v = u + k := ⟨v - u, by omega⟩
  induction k with
  | zero => exact Nat.le_refl _
  | succ k ih =>
    have := ih (by omega)
    show chg d e u ≤ chg d e (u + k) + _
    omega
theorem chg_le (d e : Nat → Nat) : ∀ u : Nat, chg d e u ≤ u := by
  intro u
  induction u with
  | zero => exact Nat.le_refl 0
  | succ u ih => show chg d e u + _ ≤ u + 1; split <;> omega
theorem cs_changed {C : tp_M} {u : Nat} {d e : Nat → Nat} (hu : u < 8) (he : ∀ i : Nat, i < u → C 60 ((i : Int) + 1) = (e i : Int) ∧ C 26 ((i : Int) + 1) = (d i : Int) ∧ e i < 8 ∧ d i < 8) : fx_X10_changedUpTo (u : Int) C = some (((chg d e u : Nat) : Int), C) := by
  suffices h : wp (fx_X10_changedUpTo (u : Int) C) (fun r C1 => C1 = C ∧ r = ((chg d e u : Nat) : Int)) by
    obtain ⟨r, C1, e1, rfl, rfl⟩ := h
    exact e1
  unfold fx_X10_changedUpTo
  refine wp_lt ?_
  refine wp_lt ?_
  refine wp_lp2 (fun a z C1 => C1 = C ∧ ∃ i : Nat, z = (i : Int) + 1 ∧ i ≤ u ∧ a = ((chg d e i : Nat) : Int)) (fun _ z _ => (9 - z).toNat) ?_ tp_F 0 1 C ⟨rfl, 0, rfl, by omega, rfl⟩ (tp_F_pos (by omega))
  rintro rec a z C1 ⟨rfl, i, rfl, i1, rfl⟩ hrec
  unfold fx_X10_changedUpTo_L4
  rw [w32_id (show -2147483648 ≤ (i : Int) + 1 ∧ (i : Int) + 1 < 2147483648 by omega), w32_id (show -2147483648 ≤ (u : Int) ∧ (u : Int) < 2147483648 by omega)]
  by_cases hi : (i : Int) + 1 ≤ (u : Int)
  · obtain ⟨a1, a2, a3, a4⟩ := he i (by omega)
    rw [if_pos hi, a1, a2, w32_id (show -2147483648 ≤ (e i : Int) ∧ (e i : Int) < 2147483648 by omega), w32_id (show -2147483648 ≤ (d i : Int) ∧ (d i : Int) < 2147483648 by omega)]
    refine wp_ck (by omega) ?_
    refine wp_ck (by omega) ?_
    refine wp_jn1 ?_
    have e1 : chg d e (i + 1) = chg d e i + if e i = d i then 0 else 1 := rfl
    by_cases c : e i = d i
    · rw [if_pos (by omega)]
      refine wp_lt ?_
      exact hrec _ _ _ ⟨rfl, i + 1, by omega, by omega, by rw [e1, if_pos c, Nat.add_zero]⟩ (by omega)
    · rw [if_neg (by omega)]
      refine wp_lt ?_
      refine wp_lt ?_
      exact hrec _ _ _ ⟨rfl, i + 1, by omega, by omega, by rw [e1, if_neg c]; omega⟩ (by omega)
  · rw [if_neg hi]
    exact wp_some ⟨rfl, by rw [show i = u by omega]⟩
