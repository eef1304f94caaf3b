section
/-! ===== lowest terms ===== -/
theorem lcmp0 {n : Nat} (hn : n < 2 ^ 31) : lg_cmp (lN n) 0 = 0 ↔ n = 0 := by
  have e0 : ((0 : Int64)).toInt = 0 := rfl
  have h1 := lcmp_lt (x := lN n) (y := 0)
  have h2 := lcmp_gt (x := lN n) (y := 0)
  rw [lN_toInt hn, e0, i_lt] at h1
  rw [lN_toInt hn, e0, i_lt] at h2
  rw [i_eq]
  rw [show ((0 : Int32)).toInt = 0 from rfl] at *
  omega
theorem lcmp0_le {n : Nat} (hn : n < 2 ^ 31) : lg_cmp (lN n) 0 ≤ 0 ↔ n = 0 := by
  have e0 : ((0 : Int64)).toInt = 0 := rfl
  have h2 := lcmp_gt (x := lN n) (y := 0)
  rw [lN_toInt hn, e0, i_lt] at h2
  rw [i_le]
  rw [show ((0 : Int32)).toInt = 0 from rfl] at *
  omega
theorem lN_ne0 {n : Nat} (hn : n < 2 ^ 31) (h : 0 < n) : ¬ lN n = 0 := fun z => absurd ((lN_eq (b := 0) hn (by omega)).mp z) (by omega)
theorem jreml_N {a b : Nat} (ha : a < 2 ^ 31) (h0 : 0 < b) (hb : b < 2 ^ 31) : jreml (lN a) (lN b) = lN (a % b) := pk_lRem (by omega) h0 (by omega)
def lowV (num den w : Nat) : Int64 := if w = 0 then lN (num / Nat.gcd num den) else lN (den / Nat.gcd num den)
theorem X_low_44 {q : Int64 → DD → Prop} {d : DD} {num den w g : Nat} {l7 : Int64} {l9 : Int32} (hn : num < 2 ^ 31) (hd : den < 2 ^ 31) (hg : g = Nat.gcd num den) (h0 : 0 < g) (hg2 : g < 2 ^ 31) (hw : w < 2) (h : q (lowV num den w) d) : Ev SX MX4_inLowestTerms 44 [.long (lN num), uJ, .long (lN den), uJ, .int (nI w), .long (lN g), uJ, .long l7, uJ, .int l9, uJ, uJ] [] d (rL q) := by
  unfold lowV at h
  have g0 : ¬ lg_cmp (lN g) 0 ≤ 0 := fun z => absurd ((lcmp0_le hg2).mp z) (by omega)
  refine bk_X4_inLowestTerms_44 ?_
  rw [pk_lDiv (by omega) h0 (by omega), pk_lDiv (by omega) h0 (by omega), hg]
  rw [hg] at g0 h0 hg2
  rcases (show w = 0 ∨ w = 1 by omega) with rfl | rfl
  · exact rr_t rfl (br_f g0 ⟨lN_ne0 hg2 h0, h⟩)
  · exact rr_f (by decide) (br_f g0 ⟨lN_ne0 hg2 h0, h⟩)
theorem X_lowest {q : Int64 → DD → Prop} {d : DD} {num den w : Nat} (hn : num < 2 ^ 30) (hd : den < 2 ^ 30) (h0 : 0 < den) (hw : w < 2) (h : q (lowV num den w) d) : Cn SX MX4_inLowestTerms [.long (lN num), .long (lN den), .int (nI w)] d (rL q) := by
  have gp : 0 < Nat.gcd num den := Nat.gcd_pos_of_pos_right _ h0
  have gl : Nat.gcd num den < 2 ^ 31 := Nat.lt_of_le_of_lt (Nat.gcd_le_right _ h0) (by omega)
  refine cn_X4_inLowestTerms ?_
  rw [li_0]
  suffices hh : ∀ n a b i, b < 2 ^ n → i + 2 * n < 100 → a < 2 ^ 30 → b < 2 ^ 30 → Nat.gcd a b = Nat.gcd num den → Ev SX MX4_inLowestTerms 9 [.long (lN num), uJ, .long (lN den), uJ, .int (nI w), .long (lN a), uJ, .long (lN b), uJ, .int (nI i), uJ, uJ] [] d (rL q) from hh 30 den num 0 hn (by omega) hd hn (Nat.gcd_comm _ _)
  have zero : ∀ a i, i < 100 → a < 2 ^ 30 → Nat.gcd a 0 = Nat.gcd num den → Ev SX MX4_inLowestTerms 9 [.long (lN num), uJ, .long (lN den), uJ, .int (nI w), .long (lN a), uJ, .long (lN 0), uJ, .int (nI i), uJ, uJ] [] d (rL q) := by
    intro a i hi ha hg
    rw [Nat.gcd_zero_right] at hg
    refine bk_X4_inLowestTerms_9 (br_f ?_ (br_t ((lcmp0 (by omega)).mpr rfl) (X_low_44 (by omega) (by omega) hg (by omega) (by omega) hw h)))
    rw [li_100]; exact fun c => absurd ((nI_leI (by omega) (by omega)).mp c) (by omega)
  have step : ∀ a b i, 0 < b → i < 100 → a < 2 ^ 30 → b < 2 ^ 30 → Ev SX MX4_inLowestTerms 9 [.long (lN num), uJ, .long (lN den), uJ, .int (nI w), .long (lN b), uJ, .long (lN (a % b)), uJ, .int (nI (i + 1)), uJ, uJ] [] d (rL q) → Ev SX MX4_inLowestTerms 9 [.long (lN num), uJ, .long (lN den), uJ, .int (nI w), .long (lN a), uJ, .long (lN b), uJ, .int (nI i), uJ, uJ] [] d (rL q) := by
    intro a b i hb hi ha hb2 t
    refine bk_X4_inLowestTerms_9 (br_f ?_ (br_f (fun z => absurd ((lcmp0 (by omega)).mp z) (by omega)) ⟨lN_ne0 (by omega) hb, nm_e ?_⟩))
    · rw [li_100]; exact fun c => absurd ((nI_leI (by omega) (by omega)).mp c) (by omega)
    · rw [jreml_N (by omega) hb (by omega), nI_1]; exact t
  intro n
  induction n with
  | zero =>
    intro a b i hb hi ha _ hg
    have : b = 0 := by omega
    subst this
    exact zero a i (by omega) ha hg
  | succ n ih =>
    intro a b i hb hi ha hb2 hg
    rcases Nat.eq_zero_or_pos b with z | z
    · subst z; exact zero a i (by omega) ha hg
    · have r1 := Nat.mod_lt a z
      have g1 : Nat.gcd b (a % b) = Nat.gcd num den := by rw [← hg, Nat.gcd_comm a b, Nat.gcd_rec b a, Nat.gcd_comm]
      refine step a b i z (by omega) ha hb2 ?_
      rcases Nat.eq_zero_or_pos (a % b) with y | y
      · rw [y] at g1 ⊢; exact zero b (i + 1) (by omega) hb2 g1
      · have r2 := Nat.mod_lt b y
        have r3 : b % (a % b) ≤ b - a % b := by
          have := Nat.mod_add_div b (a % b)
          have hd1 : 1 ≤ b / (a % b) := Nat.div_pos (by omega) y
          have := Nat.mul_le_mul_left (a % b) hd1
          omega
        have g2 : Nat.gcd (a % b) (b % (a % b)) = Nat.gcd num den := by rw [← g1, Nat.gcd_comm b (a % b), Nat.gcd_rec (a % b) b, Nat.gcd_comm]
        refine step b (a % b) (i + 1) y (by omega) hb2 (by omega) ?_
        have hp : 2 ^ (n + 1) = 2 * 2 ^ n := by rw [Nat.pow_succ, Nat.mul_comm]
        exact ih (a % b) (b % (a % b)) (i + 2) (by omega) (by omega) (by omega) (by omega) g2
end
section
theorem M_lowest {q : Int64 → DD → Prop} {d : DD} {num den w : Nat} (hn : num < 2 ^ 30) (hd : den < 2 ^ 30) (h0 : 0 < den) (hw : w < 2) (h : q (lowV num den w) d) : Cn SM MX5_lowest [.long (lN num), .long (lN den), .int (nI w)] d (rL q) := by
  have gp : 0 < Nat.gcd num den := Nat.gcd_pos_of_pos_right _ h0
  have gl : Nat.gcd num den < 2 ^ 31 := Nat.lt_of_le_of_lt (Nat.gcd_le_right _ h0) (by omega)
  refine cn_X5_lowest ?_
  suffices hh : ∀ n a b, b < n → a < 2 ^ 30 → b < 2 ^ 30 → Nat.gcd a b = Nat.gcd num den → Ev SM MX5_lowest 6 [.long (lN num), uJ, .long (lN den), uJ, .int (nI w), .long (lN a), uJ, .long (lN b), uJ, uJ, uJ] [] d (rL q) from hh (den + 1) num den (by omega) hn hd rfl
  intro n
  induction n with
  | zero => intro a b hb; exact absurd hb (Nat.not_lt_zero b)
  | succ n ih =>
    intro a b hb ha hb2 hg
    rcases Nat.eq_zero_or_pos b with z | z
    · subst z
      rw [Nat.gcd_zero_right] at hg
      subst hg
      unfold lowV at h
      refine bk_X5_lowest_6 (br_t ((lcmp0 (by omega)).mpr rfl) ?_)
      rw [pk_lDiv (by omega) gp (by omega), pk_lDiv (by omega) gp (by omega)]
      rcases (show w = 0 ∨ w = 1 by omega) with rfl | rfl
      · exact rr_t rfl ⟨lN_ne0 gl gp, h⟩
      · exact rr_f (by decide) ⟨lN_ne0 gl gp, h⟩
    · have r1 := Nat.mod_lt a z
      have g1 : Nat.gcd b (a % b) = Nat.gcd num den := by rw [← hg, Nat.gcd_comm a b, Nat.gcd_rec b a, Nat.gcd_comm]
      refine bk_X5_lowest_6 (br_f (fun y => absurd ((lcmp0 (by omega)).mp y) (by omega)) ⟨lN_ne0 (by omega) z, nm_e ?_⟩)
      rw [jreml_N (by omega) z (by omega)]
      exact ih b (a % b) (by omega) hb2 (by omega) g1
end
section
/-! ===== how many of the cases a set of strings takes ===== -/
def wgt (c v : Nat) : Nat → Nat
  | 0 => 1
  | k + 1 => wgt c v k * (if c.testBit k then v else 10 - v)
theorem wgt_le {c v : Nat} (hv : v ≤ 10) : ∀ k, wgt c v k ≤ 10 ^ k := by
  intro k
  induction k with
  | zero => exact Nat.le_refl _
  | succ k ih =>
    show wgt c v k * _ ≤ 10 ^ k * 10
    refine Nat.mul_le_mul ih ?_
    split <;> omega
theorem X_weight {q : Int64 → DD → Prop} {d : DD} {H : HH} {c v : Nat} (hX : XH 1 d H) (ok : OKH H) (hc : c < 2 ^ 30) (hv : v ≤ 10) (h : q (lN (wgt c v (nP H))) d) : Cn SX MX4_weight [.ref 0, .int (nI c), .int (nI v)] d (rL q) := by
  have o4 := ok.p4
  refine cn_X4_weight ?_
  rw [li_0]
  refine for_up (W := fun k d' => Ev SX MX4_weight 5 [.ref 0, .int (nI c), .int (nI v), .long (lN (wgt c v k)), uJ, .int (nI k)] [] d' (rL q)) (I := fun _ d' => d' = d) (nP H) ?_ ?_ 0 d (Nat.zero_le _) rfl
  · rintro d' rfl
    refine bk_X4_weight_5 (br_t ?_ h)
    rw [hX.np]; exact nI_le (Nat.le_refl _) (by omega)
  · rintro k d' hk rfl ih
    have := ih d' rfl
    rw [show wgt c v (k + 1) = wgt c v k * (if c.testBit k then v else 10 - v) from rfl] at this
    refine bk_X4_weight_5 (br_f ?_ ?_)
    · rw [hX.np]; exact fun z => absurd ((nI_leI (by omega) (by omega)).mp z) (by omega)
    · rw [bit_of (by omega) (by omega), li_10, pk_sub hv, nI_64 (n := 10 - v) (by omega), nI_64 (n := v) (by omega), lN_mul, lN_mul, nI_1]
      cases hb : c.testBit k
      · rw [hb] at this; exact rr_f (by decide) (nm_e this)
      · rw [hb] at this; exact rr_t rfl (nm_e this)
end
section
def meaN (H : HH) (v : Nat) : Nat → Nat := sumN (fun c => wgt c v (nP H) * awayS H (playS H c))
theorem meaN_s {H : HH} {v k : Nat} : meaN H v (k + 1) = meaN H v k + wgt k v (nP H) * awayS H (playS H k) := rfl
theorem ten_le {n : Nat} (h : n ≤ 4) : 10 ^ n ≤ 10000 ∧ 0 < 10 ^ n := ⟨Nat.le_trans (Nat.pow_le_pow_right (by decide) h) (by decide), Nat.pow_pos (by decide)⟩
theorem meaN_le {H : HH} {v : Nat} (ok : OKH H) (hv : v ≤ 10) (k : Nat) : meaN H v k ≤ k * (10000 * 6) := sumN_le (fun c _ => Nat.mul_le_mul (Nat.le_trans (wgt_le hv _) (ten_le ok.p4).1) (awayS_le ok))
theorem X_mean_28 {q : Int64 → DD → Prop} {x : DD} {H : HH} {v w : Nat} (hX : XH 1 x H) (ok : OKH H) (hv : v ≤ 10) (hw : w < 2) (h : ∀ d', XK x d' → q (lowV (meaN H v (2 ^ nP H)) (10 ^ nP H) w) d') : Ev SX MX4_mean 28 [.ref 0, .int (nI v), .int (nI w), .long (lN 0), uJ, .int (nI 0)] [] x (rL q) := by
  have o4 := ok.p4
  have hN : 2 ^ nP H ≤ 16 := Nat.le_trans (Nat.pow_le_pow_right (by decide) o4) (by decide)
  have ht := ten_le o4
  refine for_up (W := fun k d' => Ev SX MX4_mean 28 [.ref 0, .int (nI v), .int (nI w), .long (lN (meaN H v k)), uJ, .int (nI k)] [] d' (rL q)) (I := fun _ d' => XK x d') (2 ^ nP H) ?_ ?_ 0 x (Nat.zero_le _) XK.rf
  · intro d' g1
    have hl := meaN_le (v := v) ok hv (2 ^ nP H)
    refine bk_X4_mean_28 (br_t ?_ ?_)
    · rw [(hX.xk g1).np, shl1 (by omega)]; exact nI_le (Nat.le_refl _) (by omega)
    · rw [(hX.xk g1).np]
      refine X_power (b := 10) (by omega) ?_
      rw [nI_64 (n := 10 ^ nP H) (by omega)]
      exact X_lowest (by omega) (by omega) ht.2 hw (h d' g1)
  · intro k d' hk g1 ih
    have ha := awayS_le (P := playS H k) ok
    refine bk_X4_mean_28 (br_f ?_ (X_run (sil := k) isH1 (hX.xk g1) ok (by omega) fun d2 f e => X_weight (hX.xk (g1.tr f.k)) ok (by omega) hv (X_away isH1 (hX.xk (g1.tr f.k)) ok (play_inv ok) e (nm_e ?_))))
    · rw [(hX.xk g1).np, shl1 (by omega)]; exact fun c => absurd ((nI_leI (by omega) (by omega)).mp c) (by omega)
    · have := ih d2 (g1.tr f.k)
      rw [meaN_s] at this
      rw [nI_64 (n := awayS H (playS H k)) (by omega), lN_mul, lN_add, nI_1]
      exact this
end
section
def lucN (H : HH) (v p : Nat) : Nat → Nat := sumN (fun c => if playS H c 1 (H 9 p) = 0 then wgt c v (nP H) else 0)
theorem lucN_s {H : HH} {v p k : Nat} : lucN H v p (k + 1) = lucN H v p k + (if playS H k 1 (H 9 p) = 0 then wgt k v (nP H) else 0) := rfl
theorem lucN_le {H : HH} {v p : Nat} (ok : OKH H) (hv : v ≤ 10) (k : Nat) : lucN H v p k ≤ k * 10000 := sumN_le (fun c _ => by
  have := Nat.le_trans (wgt_le (c := c) hv (nP H)) (ten_le ok.p4).1
  split
  · exact this
  · exact Nat.zero_le _)
theorem X_luck_40 {q : Int64 → DD → Prop} {x : DD} {H : HH} {v w p : Nat} (hX : XH 1 x H) (ok : OKH H) (hv : v ≤ 10) (hp : p < nB H) (hw : w < 2) (h : ∀ d', XK x d' → q (lowV (lucN H v p (2 ^ nP H)) (10 ^ nP H) w) d') : Ev SX MX4_luck 40 [.ref 0, .int (nI v), .int (nI p), .int (nI w), .long (lN 0), uJ, .int (nI 0)] [] x (rL q) := by
  have o4 := ok.p4
  have hN : 2 ^ nP H ≤ 16 := Nat.le_trans (Nat.pow_le_pow_right (by decide) o4) (by decide)
  have ht := ten_le o4
  refine for_up (W := fun k d' => Ev SX MX4_luck 40 [.ref 0, .int (nI v), .int (nI p), .int (nI w), .long (lN (lucN H v p k)), uJ, .int (nI k)] [] d' (rL q)) (I := fun _ d' => XK x d') (2 ^ nP H) ?_ ?_ 0 x (Nat.zero_le _) XK.rf
  · intro d' g1
    have hl := lucN_le (v := v) (p := p) ok hv (2 ^ nP H)
    refine bk_X4_luck_40 (br_t ?_ ?_)
    · rw [(hX.xk g1).np, shl1 (by omega)]; exact nI_le (Nat.le_refl _) (by omega)
    · rw [(hX.xk g1).np]
      refine X_power (b := 10) (by omega) ?_
      rw [nI_64 (n := 10 ^ nP H) (by omega)]
      exact X_lowest (by omega) (by omega) ht.2 hw (h d' g1)
  · intro k d' hk g1 ih
    refine bk_X4_luck_40 (br_f ?_ (X_run (sil := k) isH1 (hX.xk g1) ok (by omega) fun d2 f e => X_getsAway isH1 (hX.xk (g1.tr f.k)) ok (play_inv ok) e hp ?_))
    · rw [(hX.xk g1).np, shl1 (by omega)]; exact fun c => absurd ((nI_leI (by omega) (by omega)).mp c) (by omega)
    · have := ih d2 (g1.tr f.k)
      rw [lucN_s] at this
      rw [nI_1]
      by_cases z : playS H k 1 (H 9 p) = 0
      · rw [if_pos z] at this; rw [if_pos z]
        refine rr_t rfl (X_weight (hX.xk (g1.tr f.k)) ok (by omega) hv ?_)
        rw [lN_add]; exact this
      · rw [if_neg z, Nat.add_zero] at this; rw [if_neg z]
        exact rr_f (by decide) this
end
section
/-! ===== the reference's sums over the sets of strings ===== -/
def avM (H : HH) (P : PL) : Nat := maskN (fun q => decide (P 1 (H 9 q) ≠ 0)) (nB H)
/-- what one set of strings adds -/
def bysT (H : HH) (v : Nat) (e : Option Nat) (c : Nat) : Nat := match e with
  | none => wgt c v (nP H) * awayS H (playS H c)
  | some p => if playS H c 1 (H 9 p) = 0 then wgt c v (nP H) else 0
def bysN (H : HH) (v : Nat) (e : Option Nat) : Nat → Nat := sumN (bysT H v e)
theorem bysN_s {H : HH} {v k : Nat} {e : Option Nat} : bysN H v e (k + 1) = bysN H v e k + bysT H v e k := rfl
theorem bysT_le {H : HH} {v c : Nat} {e : Option Nat} (ok : OKH H) (hv : v ≤ 10) : bysT H v e c ≤ 60000 := by
  have h1 := Nat.le_trans (wgt_le (c := c) hv (nP H)) (ten_le ok.p4).1
  cases e with
  | none => exact Nat.mul_le_mul h1 (awayS_le (P := playS H c) ok)
  | some p =>
    show (if playS H c 1 (H 9 p) = 0 then wgt c v (nP H) else 0) ≤ _
    split <;> omega
theorem bysN_le {H : HH} {v : Nat} {e : Option Nat} (ok : OKH H) (hv : v ≤ 10) (k : Nat) : bysN H v e k ≤ k * 60000 := sumN_le (fun c _ => bysT_le ok hv)
def eI : Option Nat → Int32
  | none => -4
  | some p => nI p
theorem M_bys_52 {q : Int64 → DD → Prop} {d : DD} {H : HH} {v c : Nat} {l2 l3 : Int32} {l4 l6 : Int64} (hM : MH 0 d H) (ok : OKH H) (hv : v ≤ 10) (hc : c < 2 ^ 30) (h : Ev SM MX5_byStrings 52 [.ref 0, .int (nI v), .int l2, .int l3, .long l4, uJ, .long l6, uJ, .int (nI c), .long (lN (wgt c v (nP H))), uJ, .int (nI (nP H))] [] d (rL q)) : Ev SM MX5_byStrings 52 [.ref 0, .int (nI v), .int l2, .int l3, .long l4, uJ, .long l6, uJ, .int (nI c), .long 1, uJ, .int (nI 0)] [] d (rL q) := by
  have o4 := ok.p4
  refine for_up (W := fun k d' => Ev SM MX5_byStrings 52 [.ref 0, .int (nI v), .int l2, .int l3, .long l4, uJ, .long l6, uJ, .int (nI c), .long (lN (wgt c v k)), uJ, .int (nI k)] [] d' (rL q)) (I := fun _ d' => d' = d) (nP H) ?_ ?_ 0 d (Nat.zero_le _) rfl
  · rintro d' rfl
    exact h
  · rintro k d' hk rfl ih
    have := ih d' rfl
    rw [show wgt c v (k + 1) = wgt c v k * (if c.testBit k then v else 10 - v) from rfl] at this
    refine bk_X5_byStrings_52 (br_f ?_ ?_)
    · rw [hM.np]; exact fun z => absurd ((nI_leI (by omega) (by omega)).mp z) (by omega)
    · rw [bit_of (by omega) (by omega), li_10, pk_sub hv, nI_64 (n := 10 - v) (by omega), nI_64 (n := v) (by omega), lN_mul, lN_mul, nI_1]
      cases hb : c.testBit k
      · rw [hb] at this; exact rr_f (by decide) (nm_e this)
      · rw [hb] at this; exact rr_t rfl (nm_e this)
theorem M_bys_9 {q : Int64 → DD → Prop} {d : DD} {H : HH} {l1 l2 l3 : Int32} (hM : MH 0 d H) (ok : OKH H) (h : Ev SM MX5_byStrings 35 [.ref 0, .int l1, .int l2, .int l3, .long 0, uJ, .long (lN (10 ^ nP H)), uJ, .int 0, uJ, uJ, uJ] [] d (rL q)) : Ev SM MX5_byStrings 9 [.ref 0, .int l1, .int l2, .int l3, .long 0, uJ, .long 1, uJ, .int 0, uJ, uJ, uJ] [] d (rL q) := by
  have o4 := ok.p4
  rw [li_0] at h ⊢
  refine for_up (W := fun k d' => Ev SM MX5_byStrings 9 [.ref 0, .int l1, .int l2, .int l3, .long 0, uJ, .long (lN (10 ^ k)), uJ, .int (nI k), uJ, uJ, uJ] [] d' (rL q)) (I := fun _ d' => d' = d) (nP H) ?_ ?_ 0 d (Nat.zero_le _) rfl
  · rintro d' rfl
    refine bk_X5_byStrings_9 (br_t ?_ h)
    rw [hM.np]; exact nI_le (Nat.le_refl _) (by omega)
  · rintro k d' hk rfl ih
    have := ih d' rfl
    rw [Nat.pow_succ] at this
    refine bk_X5_byStrings_9 (br_f ?_ ?_)
    · rw [hM.np]; exact fun z => absurd ((nI_leI (by omega) (by omega)).mp z) (by omega)
    · rw [show (10 : Int64) = lN 10 from rfl, lN_mul, nI_1]; exact this
theorem MK26.en {m d : DD} (h : MK26 m d) (hs : m 0 26 = nI 0) : MK m (up d 0 26 0) := h
theorem M_bys {q : Int64 → DD → Prop} {m : DD} {H : HH} {v w : Nat} {e : Option Nat} (hM : MH 0 m H) (ok : OKH H) (hs0 : m 0 26 = nI 0) (hv : v ≤ 10) (he : ∀ p, e = some p → p < nB H) (hw : w < 2) (h : ∀ d', MK m d' → q (lowV (bysN H v e (2 ^ nP H)) (10 ^ nP H) w) d') : Cn SM MX5_byStrings [.ref 0, .int (nI v), .int (eI e), .int (nI w)] m (rL q) := by
  have o4 := ok.p4
  have o6 := ok.b6
  have hN : 2 ^ nP H ≤ 16 := Nat.le_trans (Nat.pow_le_pow_right (by decide) o4) (by decide)
  have ht := ten_le o4
  refine cn_X5_byStrings (M_bys_9 hM ok ?_)
  rw [li_0, show (0 : Int64) = lN 0 from rfl]
  refine for_up (W := fun k d' => Ev SM MX5_byStrings 35 [.ref 0, .int (nI v), .int (eI e), .int (nI w), .long (lN (bysN H v e k)), uJ, .long (lN (10 ^ nP H)), uJ, .int (nI k), uJ, uJ, uJ] [] d' (rL q)) (I := fun _ d' => MK26 m d') (2 ^ nP H) ?_ ?_ 0 m (Nat.zero_le _) (MK26.of MK.rf hs0)
  · intro d' g1
    have hl := bysN_le (v := v) (e := e) ok hv (2 ^ nP H)
    have hM1 := hM.mk26 ok g1 (v := 0)
    have hnp : d' 0 2 = nI (nP H) := by have := hM1.np; rw [up_n (by omega)] at this; exact this
    refine bk_X5_byStrings_35 (br_t ?_ (nm_e ?_))
    · rw [hnp, shl1 (by omega)]; exact nI_le (Nat.le_refl _) (by omega)
    · exact M_lowest (by omega) (by omega) ht.2 hw (h _ g1)
  · intro k d' hk g1 ih
    have hM1 := fun v => hM.mk26 ok g1 (v := v)
    have hnp : d' 0 2 = nI (nP H) := by have := (hM1 0).np; rw [up_n (by omega)] at this; exact this
    have hM0 : MH 0 d' H := by
      have := hM1 (d' 0 26)
      have ee : up d' 0 26 (d' 0 26) = d' := by
        funext a j
        rw [up_rd]; split
        · rename_i z; rw [z.1, z.2]
        · rfl
      rw [ee] at this; exact this
    refine bk_X5_byStrings_35 (br_f ?_ ?_)
    · rw [hnp, shl1 (by omega)]; exact fun c => absurd ((nI_leI (by omega) (by omega)).mp c) (by omega)
    rw [li_0]
    refine M_bys_52 hM0 ok hv (by omega) (bk_X5_byStrings_52 (br_t ?_ (nm_e (M_awayMany (sil := k) (hM1 (nI k)) ok up_s (by omega) fun d2 f e2 => ?_))))
    · rw [hnp]; exact nI_le (Nat.le_refl _) (by omega)
    · have nx := ih d2 (g1.st f)
      rw [bysN_s] at nx
      have hM2 := (hM1 (nI k)).mf ok f
      have ha := awayS_le (P := playS H k) ok
      cases e with
      | none =>
        refine rr_t rfl (nm_e ?_)
        rw [nI_64 (n := awayS H (playS H k)) (by omega), lN_mul, lN_add, nI_1]
        exact nx
      | some p =>
        have hp := he p rfl
        refine rr_f (ne_m4 (by omega)) (M_away hM2 ok (play_inv ok) e2 (nm_e ?_))
        have hm := mask64 (p := fun q => decide (playS H k 1 (H 9 q) ≠ 0)) o6
        show Ev SM MX5_byStrings 35 [.ref 0, .int (nI v), .int (eI (some p)), .int (nI w), .long (lN (bysN H v (some p) k) + lN (wgt k v (nP H)) * (1 - ((nI (maskN (fun q => decide (playS H k 1 (H 9 q) ≠ 0)) (nB H)) >>> (nI p &&& 31)) &&& 1)).toInt64), uJ, .long (lN (10 ^ nP H)), uJ, .int (nI k + 1), uJ, uJ, uJ] [] d2 (rL q)
        rw [bit_of (by omega) (by omega), maskN_bit, decide_eq_true hp, Bool.true_and, nI_1]
        have nx2 : Ev SM MX5_byStrings 35 [.ref 0, .int (nI v), .int (eI (some p)), .int (nI w), .long (lN (bysN H v (some p) k + (if playS H k 1 (H 9 p) = 0 then wgt k v (nP H) else 0))), uJ, .long (lN (10 ^ nP H)), uJ, .int (nI (k + 1)), uJ, uJ, uJ] [] d2 (rL q) := nx
        by_cases z : playS H k 1 (H 9 p) = 0
        · rw [if_pos z] at nx2
          rw [decide_eq_false (fun c => c z)]
          rw [show ((1 : Int32) - (if false = true then 1 else 0)).toInt64 = lN 1 from rfl, lN_mul, lN_add, Nat.mul_one]
          exact nx2
        · rw [if_neg z] at nx2
          rw [decide_eq_true z]
          rw [show ((1 : Int32) - (if true = true then 1 else 0)).toInt64 = lN 0 from rfl, lN_mul, lN_add, Nat.mul_zero]
          exact nx2
/-- one call on both, of a long answer -/
def TwoL (M1 M2 : MM) (As : List Value) (x m : DD) : Prop := ∃ (r : Int64) (PX PM : DD → Prop), Cn SX M1 As x (rL fun r' d => r' = r ∧ PX d) ∧ Cn SM M2 As m (rL fun r' d => r' = r ∧ PM d) ∧ ∀ d d', PX d → PM d' → Rel d d'
theorem two_askL {M1 M2 : MM} {As : List Value} {x m : DD} {H : HH} (hR : RelH H x m) (r : Int64) (h1 : Cn SX M1 As x (rL fun r' d => r' = r ∧ XK x d)) (h2 : Cn SM M2 As m (rL fun r' d => r' = r ∧ MK m d)) : TwoL M1 M2 As x m := ⟨r, _, _, h1, h2, fun _ _ a b => (hR.keep a b).rel⟩
theorem two_mean {x m : DD} {H : HH} {p0 p1 : Int32} (hR : RelH H x m) : TwoL MX4_mean MX5_mean [.ref 0, .int p0, .int p1] x m := by
  obtain ⟨ok, hX, hM, hO⟩ := id hR
  rcases ge_of (n := 11) (v := p0) (by omega) with ⟨v, hv, rfl⟩ | hz
  · rcases ge_of (n := 2) (v := p1) (by omega) with ⟨w, hw, rfl⟩ | hz2
    · refine two_askL hR (lowV (meaN H v (2 ^ nP H)) (10 ^ nP H) w) (cn_X4_mean (X_win_y (n := 10) (by omega) (by omega) (y1' (X_win_y (n := 1) (by omega) (by omega) (y1 (X_mean_28 hX ok (by omega) hw (fun d' g => ⟨rfl, g⟩))))))) (cn_X5_mean (M_win_y (n := 10) (by omega) (by omega) (y1' (M_win_y (n := 1) (by omega) (by omega) (y1' (M_bys (e := none) hM ok hO.sil (by omega) (fun p z => nomatch z) hw (fun d' g => ⟨rfl, g⟩)))))))
    · exact two_askL hR (-1) (cn_X4_mean (X_win_y (n := 10) (by omega) (by omega) (y1' (X_win_n (n := 1) (by omega) hz2 (y0 ⟨rfl, XK.rf⟩))))) (cn_X5_mean (M_win_y (n := 10) (by omega) (by omega) (y1' (M_win_n (n := 1) (by omega) hz2 (y0' ⟨rfl, MK.rf⟩)))))
  · exact two_askL hR (-1) (cn_X4_mean (X_win_n (n := 10) (by omega) hz (y0' ⟨rfl, XK.rf⟩))) (cn_X5_mean (M_win_n (n := 10) (by omega) hz (y0' ⟨rfl, MK.rf⟩)))
theorem two_luck {x m : DD} {H : HH} {p0 p1 p2 : Int32} (hR : RelH H x m) : TwoL MX4_luck MX5_luck [.ref 0, .int p0, .int p1, .int p2] x m := by
  obtain ⟨ok, hX, hM, hO⟩ := id hR
  have o6 := ok.b6
  rcases ge_of (n := 11) (v := p0) (by omega) with ⟨v, hv, rfl⟩ | hz
  · rcases ge_of (n := nB H) (v := p1) (by omega) with ⟨p, hp, rfl⟩ | hz3
    · rcases ge_of (n := 2) (v := p2) (by omega) with ⟨w, hw, rfl⟩ | hz2
      · refine two_askL hR (lowV (lucN H v p (2 ^ nP H)) (10 ^ nP H) w) (cn_X4_luck (X_win_y (n := 10) (by omega) (by omega) (y1' (X_hasPrisoner_y isH1 hX ok hp (y1' (X_win_y (n := 1) (by omega) (by omega) (y1 (X_luck_40 hX ok (by omega) hp hw (fun d' g => ⟨rfl, g⟩))))))))) (cn_X5_luck (M_win_y (n := 10) (by omega) (by omega) (y1' (M_isBound_y hM ok hp (y1' (M_win_y (n := 1) (by omega) (by omega) (y1' (M_bys (e := some p) hM ok hO.sil (by omega) (fun p' z => by cases z; exact hp) hw (fun d' g => ⟨rfl, g⟩)))))))))
      · exact two_askL hR (-1) (cn_X4_luck (X_win_y (n := 10) (by omega) (by omega) (y1' (X_hasPrisoner_y isH1 hX ok hp (y1' (X_win_n (n := 1) (by omega) hz2 (y0 ⟨rfl, XK.rf⟩))))))) (cn_X5_luck (M_win_y (n := 10) (by omega) (by omega) (y1' (M_isBound_y hM ok hp (y1' (M_win_n (n := 1) (by omega) hz2 (y0' ⟨rfl, MK.rf⟩)))))))
    · exact two_askL hR (-1) (cn_X4_luck (X_win_y (n := 10) (by omega) (by omega) (y1' (X_hasPrisoner_n isH1 hX ok hz3 (y0' ⟨rfl, XK.rf⟩))))) (cn_X5_luck (M_win_y (n := 10) (by omega) (by omega) (y1' (M_isBound_n hM ok hz3 (y0' ⟨rfl, MK.rf⟩)))))
  · exact two_askL hR (-1) (cn_X4_luck (X_win_n (n := 10) (by omega) hz (y0' ⟨rfl, XK.rf⟩))) (cn_X5_luck (M_win_n (n := 10) (by omega) hz (y0' ⟨rfl, MK.rf⟩)))
end
section
/-! ===== read ===== -/
theorem c64_add {f : Int32} {c : Nat} (hc : c < 2 ^ 30) : (f.toInt64 + (nI c).toInt64).toInt = f.toInt + (c : Int) := by
  rw [Int64.toInt_add, Int32.toInt_toInt64, Int32.toInt_toInt64, nI_toInt (by omega)]
  have := f.le_toInt
  have := f.toInt_lt
  exact Int.bmod_eq_of_le (by omega) (by omega)
theorem c32_add {f : Int32} {c j : Nat} (h : f.toInt + (c : Int) = (j : Int)) (hc : c < 2 ^ 30) (hj : j < 2 ^ 30) : f + nI c = nI j := Int32.toInt_inj.mp (by
  rw [Int32.toInt_add, nI_toInt (by omega), nI_toInt (by omega), h]
  exact Int.bmod_eq_of_le (by omega) (by omega))
theorem c64_N {v : Int64} {j : Nat} (h : v.toInt = (j : Int)) (hj : j < 2 ^ 31) : v = lN j := Int64.toInt_inj.mp (by rw [lN_toInt hj]; exact h)
theorem lN_32 {j : Nat} : (lN j).toInt32 = nI j := Int64.toInt32_ofNat'
theorem a_nI {a : Int32} (h : 0 ≤ a.toInt) : a = nI a.toInt.toNat := by
  have := a.toInt_lt
  exact Int32.toInt_inj.mp (by rw [nI_toInt (by omega)]; omega)
/-- a prisoner is bound anew; none: it is refused -/
def rbH (H : HH) (a b : Int32) : Option HH := if 0 ≤ a.toInt ∧ a.toInt < nB H ∧ 0 ≤ b.toInt ∧ b.toInt < nT H ∧ H 9 a.toInt.toNat ≠ b.toInt.toNat then some (pu H 9 a.toInt.toNat b.toInt.toNat) else none
theorem rbH_n1 {H : HH} {a b : Int32} (h : ∀ j, j < nB H → a ≠ nI j) : rbH H a b = none := if_neg (fun z => h a.toInt.toNat (by omega) (a_nI z.1))
theorem rbH_n2 {H : HH} {a b : Int32} (h : ∀ j, j < nT H → b ≠ nI j) : rbH H a b = none := if_neg (fun z => h b.toInt.toNat (by omega) (a_nI z.2.2.1))
theorem rbH_n3 {H : HH} {p t : Nat} (hp : p < 2 ^ 31) (ht : t < 2 ^ 31) (h : H 9 p = t) : rbH H (nI p) (nI t) = none := if_neg (fun z => by
  rw [nI_toInt hp, nI_toInt ht] at z
  exact z.2.2.2.2 (by rw [Int.toNat_natCast, Int.toNat_natCast]; exact h))
theorem rbH_y {H : HH} {p t : Nat} (hp : p < nB H) (ht : t < nT H) (hp2 : p < 2 ^ 31) (ht2 : t < 2 ^ 31) (h : H 9 p ≠ t) : rbH H (nI p) (nI t) = some (pu H 9 p t) := by
  unfold rbH
  rw [nI_toInt hp2, nI_toInt ht2, Int.toNat_natCast, Int.toNat_natCast]
  exact if_pos ⟨(by omega), (by omega), (by omega), (by omega), h⟩
theorem lt0_m1 : ¬ (0 : Int32) ≤ -1 := by decide
theorem lt0_m2 : ¬ (0 : Int32) ≤ -2 := by decide
theorem X_rebindH {q : Int32 → DD → Prop} {d : DD} {H : HH} {a c : Int32} (hX : XH 23 d H) (ok : OKH H) (h0 : ∀ r, rbH H a c = none → ¬ 0 ≤ r → q r d) (h1 : ∀ p t, p < nB H → t < nT H → rbH H a c = some (pu H 9 p t) → q (nI (H 9 p)) (up d 33 p (nI t))) : Cn SX MX0_rebind [.ref 23, .int a, .int c] d (rI q) := by
  have Hb : isH 23 := Or.inr (Or.inr (Or.inl rfl))
  have o4 := ok.t4
  have o6 := ok.b6
  rcases ge_of (n := nB H) (v := a) (by omega) with ⟨p, hp, rfl⟩ | hz
  · rcases ge_of (n := nT H) (v := c) (by omega) with ⟨t, ht, rfl⟩ | hz2
    · have hb := ok.bb hp
      by_cases z : H 9 p = t
      · refine cn_X0_rebind Hb (X_hasPrisoner_y Hb hX ok hp (y1' (X_hasTune_y Hb hX ok ht (y1 ⟨vp_in_nI (by omega) (by omega), rr_t ?_ (h0 _ (rbH_n3 (by omega) (by omega) z) lt0_m2)⟩))))
        rw [nI_clamp (by omega), hX.bond hp, z]
      · have c' : ¬ nI (H 9 p) = nI t := fun y => z (nI_inj (by omega) (by omega) y)
        refine cn_X0_rebind Hb (X_hasPrisoner_y Hb hX ok hp (y1' (X_hasTune_y Hb hX ok ht (y1 ⟨vp_in_nI (by omega) (by omega), rr_f ?_ (X_exch rfl (by omega) (by omega) ?_)⟩))))
        · rw [nI_clamp (by omega), hX.bond hp]; exact c'
        · rw [hX.bond hp]
          exact h1 p t hp ht (rbH_y hp ht (by omega) (by omega) z)
    · exact cn_X0_rebind Hb (X_hasPrisoner_y Hb hX ok hp (y1' (X_hasTune_n Hb hX ok hz2 (y0 (h0 _ (rbH_n2 hz2) lt0_m1)))))
  · exact cn_X0_rebind Hb (X_hasPrisoner_n Hb hX ok hz (y0' (h0 _ (rbH_n1 hz) lt0_m1)))
theorem M_bindsH {q : Int32 → DD → Prop} {d : DD} {H : HH} {a c : Int32} (hM : MH 0 d H) (ok : OKH H) (h0 : ∀ r, rbH H a c = none → ¬ 0 ≤ r → q r d) (h1 : ∀ p t, p < nB H → t < nT H → rbH H a c = some (pu H 9 p t) → q (nI (H 9 p)) (up d 1 (64 + p) (nI t))) : Cn SM MX5_binds [.ref 0, .int a, .int c] d (rI q) := by
  have o4 := ok.t4
  have o6 := ok.b6
  rcases ge_of (n := nB H) (v := a) (by omega) with ⟨p, hp, rfl⟩ | hz
  · rcases ge_of (n := nT H) (v := c) (by omega) with ⟨t, ht, rfl⟩ | hz2
    · have hb := ok.bb hp
      refine cn_X5_binds (M_isBound_y hM ok hp (y1' (M_isTune_y hM ok ht (y1 ?_))))
      rw [show (64 : Int32) + nI p = nI (64 + p) from nI_add 64 p]
      refine ⟨vp_in_nI (by omega) (by omega), ?_⟩
      rw [nI_clamp (by omega), hM.bond hp]
      by_cases z : H 9 p = t
      · exact rr_t (by rw [z]) (h0 _ (rbH_n3 (by omega) (by omega) z) lt0_m2)
      · refine rr_f (fun y => z (nI_inj (by omega) (by omega) y)) (M_puts_y (by omega) ?_)
        rw [hM.bond hp]
        exact h1 p t hp ht (rbH_y hp ht (by omega) (by omega) z)
    · exact cn_X5_binds (M_isBound_y hM ok hp (y1' (M_isTune_n hM ok hz2 (y0 (h0 _ (rbH_n2 hz2) lt0_m1)))))
  · exact cn_X5_binds (M_isBound_n hM ok hz (y0' (h0 _ (rbH_n1 hz) lt0_m1)))
/-- what is read of n cells c from the place f on: answer, what is torn, the house -/
def rdR (c : Nat → Int32) (f : Int) (n : Nat) : Nat → Nat → HH → Int32 × Option Nat × HH
  | 0, i, H => (nI i, some 0, H)
  | r + 1, i, H => if 0 ≤ f + ((2 * i : Nat) : Int) ∧ f + ((2 * i : Nat) : Int) + 1 < n then
      match rbH H (c (f + ((2 * i : Nat) : Int)).toNat) (c ((f + ((2 * i : Nat) : Int)).toNat + 1)) with
      | none => ((-20) - nI i, none, H)
      | some H' => rdR c f n r (i + 1) H'
    else (nI i, some 2, H)
theorem rdR_out {c : Nat → Int32} {f : Int} {n r i : Nat} {H : HH} (h : ¬ (0 ≤ f + ((2 * i : Nat) : Int) ∧ f + ((2 * i : Nat) : Int) + 1 < n)) : rdR c f n (r + 1) i H = (nI i, some 2, H) := if_neg h
theorem rdR_no {c : Nat → Int32} {f : Int} {n r i j : Nat} {H : HH} (h : f + ((2 * i : Nat) : Int) = (j : Int)) (hj : j + 1 < n) (hr : rbH H (c j) (c (j + 1)) = none) : rdR c f n (r + 1) i H = ((-20) - nI i, none, H) := by
  unfold rdR
  rw [if_pos (by omega), h, Int.toNat_natCast, hr]
theorem rdR_go {c : Nat → Int32} {f : Int} {n r i j : Nat} {H H' : HH} (h : f + ((2 * i : Nat) : Int) = (j : Int)) (hj : j + 1 < n) (hr : rbH H (c j) (c (j + 1)) = some H') : rdR c f n (r + 1) i H = rdR c f n r (i + 1) H' := by
  rw [rdR, if_pos (by omega), h, Int.toNat_natCast, hr]
theorem bond_put {H : HH} {p t : Nat} (ok : OKH H) (hp : p < nB H) (ht : t < nT H) : OKH (pu H 9 p t) := ok.put (f := 9) (i := p) (v := t) (by omega) ⟨by simp, by simp, by simp, by simp, by simp, by simp, by simp, by simp, by simp, fun _ => ht⟩
def XRd (x d : DD) : Prop := ∀ a, a < 23 ∨ 33 < a → d a = x a
theorem X_read_73 {q : Int32 → DD → Prop} {x : DD} {H : HH} {c : Nat → Int32} {k n N : Nat} {l1 l2 f : Int32} (hk : k < 4) (hs : x (74 + 2 * k) 2 = nI n) (hn : n ≤ 40) (hc : ∀ i, i < n → x (75 + 2 * k) i = c i) (hN : N ≤ 20)
    (h0 : ∀ a H' d', rdR c f.toInt n N 0 H = (a, none, H') → XRd x d' → q a d')
    (h1 : ∀ a t H' d' l8, rdR c f.toInt n N 0 H = (a, some t, H') → XRd x d' → XH 23 d' H' → OKH H' → (∀ j, H' 10 j = H 10 j) → Ev SX MX4_read 168 [.ref 0, .int l1, .int l2, .int f, .int (nI N), .ref (74 + 2 * k), .int (nI t), .int a, .int l8, uJ, uJ] [] d' (rI q)) :
    ∀ r i H1 d, i + r = N → rdR c f.toInt n r i H1 = rdR c f.toInt n N 0 H → XRd x d → XH 23 d H1 → OKH H1 → (∀ j, H1 10 j = H 10 j) → Ev SX MX4_read 73 [.ref 0, .int l1, .int l2, .int f, .int (nI N), .ref (74 + 2 * k), .int 0, .int (nI i), .int (nI i), uJ, uJ] [] d (rI q) := by
  have Hs : isSh (74 + 2 * k) := by unfold isSh; omega
  intro r
  induction r with
  | zero =>
    intro i H1 d hi hr g hX ok h10
    refine bk_X4_read_73 Hs (br_t ?_ ?_)
    · exact nI_le (by omega) (by omega)
    · exact h1 (nI i) 0 H1 d _ hr.symm g hX ok h10
  | succ r ih =>
    intro i H1 d hi hr g hX ok h10
    have o4 := ok.t4
    have o6 := ok.b6
    have es : d (74 + 2 * k) 2 = nI n := by rw [g _ (by omega)]; exact hs
    refine bk_X4_read_73 Hs (br_f ?_ (rr_t rfl (nm_e ?_)))
    · exact fun z => absurd ((nI_leI (by omega) (by omega)).mp z) (by omega)
    rw [li_2, pk_mul, nI_1]
    have e3 := c64_add (f := f) (c := 2 * i) (by omega)
    by_cases z : 0 ≤ f.toInt + ((2 * i : Nat) : Int) ∧ f.toInt + ((2 * i : Nat) : Int) + 1 < n
    · obtain ⟨j, ej⟩ : ∃ j : Nat, f.toInt + ((2 * i : Nat) : Int) = (j : Int) := ⟨(f.toInt + ((2 * i : Nat) : Int)).toNat, (by omega)⟩
      have hj : j + 1 < n := by omega
      rw [ej] at e3
      rw [c64_N e3 (by omega), show lN j + 1 = lN (j + 1) from lN_add j 1, lN_32, show nI j + 1 = nI (j + 1) from nI_1 j]
      refine X_hasCell Hs es (by omega) (fun _ _ _ => y1' (X_hasCell Hs es (by omega) (fun _ _ _ => y1 ⟨vp_in_nI (by omega) (by omega), vp_in_nI (by omega) (by omega), ?_⟩) (fun y => absurd (lN_toInt (by omega)) (y (j + 1) (by omega))))) (fun y => absurd (lN_toInt (by omega)) (y j (by omega)))
      rw [nI_clamp (by omega), nI_clamp (by omega), show 74 + 2 * k + 1 = 75 + 2 * k by omega, g (75 + 2 * k) (by omega), hc j (by omega), hc (j + 1) (by omega)]
      refine X_rebindH hX ok (fun rr hn0 hlt => br_f hlt (h0 _ H1 d (by rw [← hr]; exact rdR_no ej hj hn0) g)) (fun p t hp ht hsm => br_t ?_ (ih (i + 1) _ _ (by omega) (by rw [← hr]; exact (rdR_go ej hj hsm).symm) (fun a ha => by rw [up_ne a (by omega)]; exact g a ha) (hX.put (f := 9) (i := p) (v := t) (by omega) (fun c => absurd c (by decide))) (bond_put ok hp ht) (fun j => by rw [pu_n (by omega)]; exact h10 j)))
      have := ok.bb hp
      rw [li_0]; exact (nI_leI (by omega) (by omega)).mpr (by omega)
    · have fail : Ev SX MX4_read 73 [.ref 0, .int l1, .int l2, .int f, .int (nI N), .ref (74 + 2 * k), .int (nI 2), .int (nI i), .int (nI (i + 1)), uJ, uJ] [] d (rI q) := by
        have e := h1 (nI i) 2 H1 d (nI (i + 1)) (by rw [← hr]; exact rdR_out z) g hX ok h10
        exact bk_X4_read_73 Hs ⟨fun _ => e, fun _ => rr_f (by decide) e⟩
      refine X_hasCell Hs es (by omega) (fun j hj ej => y1' ?_) (fun _ => y0' fail)
      rw [e3] at ej
      rw [c64_N (e3.trans ej) (by omega), show lN j + 1 = lN (j + 1) from lN_add j 1]
      refine X_hasCell Hs es (by omega) (fun j2 hj2 ej2 => absurd ?_ z) (fun _ => y0 fail)
      rw [lN_toInt (by omega)] at ej2
      exact ⟨(by omega), (by omega)⟩
/-- the page is kept at 210 -/
def MRd (m d : DD) : Prop := (∀ a, a ≠ 1 → d a = m a) ∧ (∀ j, 70 ≤ j → j < 210 → d 1 j = m 1 j) ∧ ∀ i, i < 70 → d 1 (210 + i) = m 1 i
theorem MRd.fin {m d d' : DD} (h : MRd m d) (f : ∀ a, a ≠ 1 → d' a = d a) (f1 : ∀ j, j < 0 ∨ 0 + 70 ≤ j → d' 1 j = d 1 j) (f2 : ∀ i, i < 70 → d' 1 (0 + i) = d 1 (210 + i)) : MK m d' := by
  obtain ⟨a1, a2, a3⟩ := h
  refine ⟨fun j _ => by rw [f 0 (by omega), a1 0 (by omega)], fun j hj => ?_, fun a ha => by rw [f a (by omega), a1 a (by omega)]⟩
  rcases Nat.lt_or_ge j 70 with z | z
  · have := f2 j z
    rw [Nat.zero_add] at this
    rw [this]; exact a3 j z
  · rw [f1 j (by omega)]; exact a2 j z hj
theorem M_cellIn {q : Int32 → DD → Prop} {d : DD} {f : Int32} {i n : Nat} (hi : i < 100) (hn : n ≤ 40) (h1 : ∀ j : Nat, j < n → f.toInt + (i : Int) = (j : Int) → q 1 d) (h0 : (∀ j : Nat, j < n → f.toInt + (i : Int) ≠ (j : Int)) → q 0 d) : Cn SM MX5_in [.long (f.toInt64 + (nI i).toInt64), .long 0, .long (nI n - 1).toInt64] d (rI q) := by
  have e := c64_add (f := f) (c := i) (by omega)
  have e2 : (nI n - 1).toInt64.toInt = (n : Int) - 1 := by
    cases n with
    | zero => decide
    | succ n => rw [nI_pred, nI_l (by omega), lN_toInt (by omega)]; omega
  refine M_inL (fun a b => ?_) (fun z => h0 (fun j hj ej => z ?_))
  · rw [e] at a b
    rw [e2] at b
    rw [show ((0 : Int64)).toInt = 0 from rfl] at a
    exact h1 (f.toInt + (i : Int)).toNat (by omega) (by omega)
  · rw [e, e2, show ((0 : Int64)).toInt = 0 from rfl]
    omega
theorem M_read_56 {q : Int32 → DD → Prop} {m : DD} {H : HH} {c : Nat → Int32} {k n N la : Nat} {f : Int32} (hk : k < 4) (hla : la ≤ 2) (hl : m 14 k = nI la) (hs : m 15 k = nI n) (hn : n ≤ 40) (hc : ∀ i, i < n → m 16 (40 * k + i) = c i) (hN : N ≤ 20)
    (h0 : ∀ a H' d', rdR c f.toInt n N 0 H = (a, none, H') → MK m d' → q a d')
    (h1 : ∀ a t H' d', rdR c f.toInt n N 0 H = (a, some t, H') → MRd m d' → MH 0 d' H' → OKH H' → (∀ j, H' 10 j = H 10 j) → q a (up d' 0 34 (nI t))) :
    ∀ r i H1 d, i + r = N → rdR c f.toInt n r i H1 = rdR c f.toInt n N 0 H → MRd m d → MH 0 d H1 → OKH H1 → (∀ j, H1 10 j = H 10 j) → Ev SM MX5_read 56 [.ref 0, .int (nI k), .int (nI la), .int f, .int (nI N), .int 0, .int (nI i), .int (nI (2 * i)), uJ] [] d (rI q) := by
  have i4 : vp_in (nI k) 4 := vp_in_nI (by omega) (by omega)
  intro r
  induction r with
  | zero =>
    intro i H1 d hi hr g hM ok h10
    refine bk_X5_read_56 (br_t ?_ (nm_e ?_))
    · rw [li_2, pk_mul]; exact nI_le (by omega) (by omega)
    · exact h1 (nI i) 0 H1 d hr.symm g hM ok h10
  | succ r ih =>
    intro i H1 d hi hr g hM ok h10
    have o4 := ok.t4
    have o6 := ok.b6
    have e14 : d 14 (nI k).toNatClampNeg = nI la := by rw [nI_clamp (by omega), g.1 14 (by omega)]; exact hl
    have e15 : d 15 (nI k).toNatClampNeg = nI n := by rw [nI_clamp (by omega), g.1 15 (by omega)]; exact hs
    have n4 : ¬ nI la = -4 := ne_m4 (by omega)
    have fail : ∀ w, ¬ (0 ≤ f.toInt + ((2 * i : Nat) : Int) ∧ f.toInt + ((2 * i : Nat) : Int) + 1 < n) → w < 100 → Ev SM MX5_read 126 [.ref 0, .int (nI k), .int (nI la), .int f, .int (nI N), .int 0, .int (nI i), .int (nI w), uJ] [.int 2] d (rI q) := by
      intro w z hw
      have e := h1 (nI i) 2 H1 d (by rw [← hr]; exact rdR_out z) g hM ok h10
      exact bk_X5_read_126 (rr_f (by decide) (bk_X5_read_56 ⟨fun _ => nm_e e, fun _ => rr_f (by decide) (nm_e e)⟩))
    refine bk_X5_read_56 (br_f ?_ (rr_t rfl ⟨i4, ?_⟩))
    · rw [li_2, pk_mul]; exact fun z => absurd ((nI_leI (by omega) (by omega)).mp z) (by omega)
    rw [e14, e15]
    refine rr_f n4 ⟨i4, br_t rfl ⟨i4, M_cellIn (by omega) hn (fun j hj ej => y1 ?_) (fun y => y0 (fail _ (fun z => y (f.toInt + ((2 * i : Nat) : Int)).toNat (by omega) (by omega)) (by omega)))⟩⟩
    refine bk_X5_read_126 (rr_t rfl (rr_f ?_ ?_))
    · rw [li_2, jrem_nI (by omega) (by omega) (by omega), Nat.mul_mod_right]; decide
    rw [nI_1]
    refine bk_X5_read_56 (br_f ?_ (rr_t rfl ⟨i4, ?_⟩))
    · rw [li_2, pk_mul]; exact fun z => absurd ((nI_leI (by omega) (by omega)).mp z) (by omega)
    rw [e14, e15]
    refine rr_f n4 ⟨i4, br_t rfl ⟨i4, M_cellIn (by omega) hn (fun j2 hj2 ej2 => y1 ?_) (fun y => y0 (fail _ (fun z => y (j + 1) (by omega) (by omega)) (by omega)))⟩⟩
    refine bk_X5_read_126 (rr_t rfl (rr_t ?_ (nm_e ?_)))
    · rw [li_2, jrem_nI (by omega) (by omega) (by omega), show (2 * i + 1) % 2 = 1 by omega]; rfl
    have hx : (40 : Int32) * nI k + f + nI (2 * i + 1) = nI (40 * k + (j + 1)) := by
      rw [li_40, pk_mul, Int32.add_assoc, c32_add (j := j + 1) (by omega) (by omega) (by omega), nI_add]
    rw [hx, show nI (40 * k + (j + 1)) - 1 = nI (40 * k + j) from nI_pred (40 * k + j)]
    refine ⟨vp_in_nI (by omega) (by omega), vp_in_nI (by omega) (by omega), ?_⟩
    rw [nI_clamp (by omega), nI_clamp (by omega), g.1 16 (by omega), hc j (by omega), hc (j + 1) (by omega)]
    refine M_bindsH hM ok (fun rr hn0 hlt => br_f hlt (M_copies (f := 210) (t := 0) (by omega) (by omega) (by omega) fun d' g1 g2 g3 => h0 _ H1 d' (by rw [← hr]; exact rdR_no ej (by omega) hn0) (g.fin g1 g2 g3))) (fun p t hp ht hsm => br_t ?_ ?_)
    · have := ok.bb hp
      rw [li_0]; exact (nI_leI (by omega) (by omega)).mpr (by omega)
    · rw [nI_1, nI_1, show 2 * i + 1 + 1 = 2 * (i + 1) by omega]
      refine ih (i + 1) _ _ (by omega) (by rw [← hr]; exact (rdR_go ej (by omega) hsm).symm) ⟨fun a ha => by rw [up_ne a ha]; exact g.1 a ha, fun j h1 h2 => by rw [up_n (by omega)]; exact g.2.1 j h1 h2, fun i hi => by rw [up_n (by omega)]; exact g.2.2 i hi⟩ ?_ (bond_put ok hp ht) (fun j => by rw [pu_n (by omega)]; exact h10 j)
      have := hM.put (f := 9) (i := p) (v := t) ok (by omega) (show p < 6 by omega) (fun c => absurd c (by decide)) (fun c => absurd c (by decide))
      rw [show (0 : Nat) + (po 9 + p) = 64 + p from Nat.zero_add _] at this
      exact this
end
section
theorem read_fin {H H' : HH} {x m d' d2 e : DD} {t : Nat} (hR : RelH H x m) (g : XRd x d') (ok : OKH H') (h10 : ∀ j, H' 10 j = H 10 j) (g1 : ∀ a, a < 1 ∨ 1 + 10 < a → d2 a = d' a) (hX : XH 1 d2 H') (g2 : MRd m e) (hM : MH 0 e H') : Rel (up d2 0 12 (nI t)) (up e 0 34 (nI t)) := by
  obtain ⟨b1, b2, b3, b4, b5, b6, b7, b8⟩ := (hR.2.2.2).keep2 (H' := H') (x' := d2) (m' := e) (fun a ha => by rw [g1 a (by omega), g a (by omega)]) ⟨fun j _ => by rw [g2.1 0 (by omega)], g2.2.1, fun a ha => g2.1 a (by omega)⟩ h10
  have hx : ∀ a, a ≠ 0 → up d2 0 12 (nI t) a = d2 a := fun a h => up_ne a h
  have hm : ∀ a, a ≠ 0 → up e 0 34 (nI t) a = e a := fun a h => up_ne a h
  refine RelH.rel (H := H') ⟨ok, hX.kept (fun a _ _ => hx a (by omega)), hM.kept (fun j _ _ => up_n (by omega)) (fun j _ _ => by rw [hm 1 (by omega)]) ok, b1.k (by rw [hx 36 (by omega)]) (hx 37 (by omega)) (up_n (by omega)) (hm 3 (by omega)), b2.k (up_n (by omega)) (hx 49 (by omega)) (hx 50 (by omega)) (hx 51 (by omega)) (up_n (by omega)) (hm 12 (by omega)), fun i hi => (b3 i hi).k (by rw [hx 35 (by omega)]) (fun a _ _ => hx a (by omega)) (by rw [hm 13 (by omega)]) (fun j _ _ => up_n (by omega)) (fun j _ _ => by rw [hm 1 (by omega)]), fun i hi => (b4 i hi).k (hx _ (by omega)) (hx _ (by omega)) (by rw [hm 14 (by omega)]) (by rw [hm 15 (by omega)]) (fun j _ => by rw [hm 16 (by omega)]), b5.k (hm 4 (by omega)) (hm 5 (by omega)), ?_, ?_, ?_⟩
  · rw [up_n (by omega)]; exact b6
  · rw [hx 36 (by omega), up_n (by omega)]; exact b7
  · rw [up_s, up_s]
/-- the end of a reading that isn't refused -/
def PXr (x : DD) (t : Nat) (H' : HH) (d : DD) : Prop := ∃ d' d2, XRd x d' ∧ (∀ a, a < 1 ∨ 1 + 10 < a → d2 a = d' a) ∧ XH 1 d2 H' ∧ d = up d2 0 12 (nI t)
def PMr (m : DD) (t : Nat) (H' : HH) (d : DD) : Prop := ∃ e, MRd m e ∧ MH 0 e H' ∧ d = up e 0 34 (nI t)
theorem two_rd {M1 M2 : MM} {As : List Value} {x m : DD} {H H' : HH} {r : Int32} {t : Nat} (hR : RelH H x m) (ok : OKH H') (h10 : ∀ j, H' 10 j = H 10 j) (h1 : Cn SX M1 As x (rI fun r' d => r' = r ∧ PXr x t H' d)) (h2 : Cn SM M2 As m (rI fun r' d => r' = r ∧ PMr m t H' d)) : Two M1 M2 As x m := ⟨r, _, _, h1, h2, fun d d' a b => by
  obtain ⟨e1, e2, e3, e4, e5, rfl⟩ := a
  obtain ⟨e6, e7, e8, rfl⟩ := b
  exact read_fin hR e3 ok h10 e4 e5 e7 e8⟩
theorem X_read_168 {x d : DD} {H' : HH} {k t : Nat} {l1 l2 l3 l4 l8 a : Int32} (hk : k < 4) (g : XRd x d) (hX : XH 23 d H') (ok : OKH H') : Ev SX MX4_read 168 [.ref 0, .int l1, .int l2, .int l3, .int l4, .ref (74 + 2 * k), .int (nI t), .int a, .int l8, uJ, uJ] [] d (rI fun r' d => r' = a ∧ PXr x t H' d) :=
  bk_X4_read_168 (by unfold isSh; omega) (X_becomeH isH1 (Or.inr (Or.inr (Or.inl rfl))) (by omega) hX ok fun d2 g1 g2 => nm_e ⟨rfl, d, d2, g, g1, g2, rfl⟩)
theorem X_read_54 {q : Int32 → DD → Prop} {x : DD} {H : HH} {k : Nat} {l1 l2 l3 l4 k0 : Int32} (hk : k < 4) (hX : XH 1 x H) (ok : OKH H) (h : ∀ d, XRd x d → XH 23 d H → Ev SX MX4_read 73 [.ref 0, .int l1, .int l2, .int l3, .int l4, .ref (74 + 2 * k), .int k0, .int 0, .int 0, uJ, uJ] [] d (rI q)) : Ev SX MX4_read 54 [.ref 0, .int l1, .int l2, .int l3, .int l4, .ref (74 + 2 * k), uJ, uJ, uJ, uJ, uJ] [.int k0] x (rI q) :=
  bk_X4_read_54 (by unfold isSh; omega) (X_becomeH (Or.inr (Or.inr (Or.inl rfl))) isH1 (by omega) hX ok fun d2 g1 g2 => h d2 (fun a ha => g1 a (by omega)) g2)
/-- nothing is read: n is 0, or the sheet has a fault -/
theorem X_read_st {x : DD} {H : HH} {k t N : Nat} {l1 l2 l3 : Int32} (hk : k < 4) (hX : XH 1 x H) (ok : OKH H) (hN : N ≤ 20) (ht : t ≤ 3) (hn : N = 0 ∨ t ≠ 0) : Ev SX MX4_read 54 [.ref 0, .int l1, .int l2, .int l3, .int (nI N), .ref (74 + 2 * k), uJ, uJ, uJ, uJ, uJ] [.int (nI t)] x (rI fun r' d => r' = nI 0 ∧ PXr x t H d) := by
  refine X_read_54 hk hX ok fun d g hX2 => ?_
  have e := fun l8 => X_read_168 (l1 := l1) (l2 := l2) (l3 := l3) (l4 := nI N) (l8 := l8) (a := 0) (t := t) hk g hX2 ok
  refine bk_X4_read_73 (by unfold isSh; omega) ⟨fun _ => e _, fun c => ?_⟩
  rcases Nat.eq_zero_or_pos N with z | z
  · subst z; exact absurd (by decide) c
  · exact rr_f (lit_ne (b := 0) (by omega) (by omega) (by omega)) (e _)
theorem MRd.beg {m d : DD} (g1 : ∀ a, a ≠ 1 → d a = m a) (g2 : ∀ j, j < 210 ∨ 210 + 70 ≤ j → d 1 j = m 1 j) (g3 : ∀ i, i < 70 → d 1 (210 + i) = m 1 (0 + i)) : MRd m d := ⟨g1, fun j _ h => g2 j (by omega), fun i hi => by rw [g3 i hi, Nat.zero_add]⟩
theorem M_read_c {q : Int32 → DD → Prop} {m : DD} {H : HH} {k la N : Nat} {p2 : Int32} (hM : MH 0 m H) (ok : OKH H) (hk : k < 4) (hla : la < 3) (hN : N ≤ 20) (h : ∀ d, MRd m d → MH 0 d H → Ev SM MX5_read 56 [.ref 0, .int (nI k), .int (nI la), .int p2, .int (nI N), .int 0, .int 0, .int 0, uJ] [] d (rI q)) : Cn SM MX5_read [.ref 0, .int (nI k), .int (nI la), .int p2, .int (nI N)] m (rI q) :=
  cn_X5_read (M_win_y (n := 3) (by omega) (by omega) (y1' (M_win_y (n := 2) (by omega) (by omega) (y1' (M_win_y (n := 20) (by omega) hN (y1 (M_copies (f := 0) (t := 210) (by omega) (by omega) (by omega) fun d g1 g2 g3 => h d (MRd.beg g1 g2 g3) (hM.kept (fun j _ _ => by rw [g1 0 (by omega)]) (fun j _ _ => g2 j (by omega)) ok))))))))
theorem X_read_c {q : Int32 → DD → Prop} {x : DD} {k la N : Nat} {p2 : Int32} (hk : k < 4) (hla : la < 3) (hN : N ≤ 20) (h : ((¬ nI N = 0 → Cn SX MX2_faultAs [.ref (74 + 2 * k), .int (nI la)] x (rI fun r13 d12 => Ev SX MX4_read 54 [.ref 0, .int (nI k), .int (nI la), .int p2, .int (nI N), .ref (74 + 2 * k), uJ, uJ, uJ, uJ, uJ] [.int r13] d12 (rI q))) ∧ (nI N = 0 → Ev SX MX4_read 54 [.ref 0, .int (nI k), .int (nI la), .int p2, .int (nI N), .ref (74 + 2 * k), uJ, uJ, uJ, uJ, uJ] [.int 0] x (rI q)))) : Cn SX MX4_read [.ref 0, .int (nI k), .int (nI la), .int p2, .int (nI N)] x (rI q) :=
  cn_X4_read (X_win_y (n := 3) (by omega) (by omega) (y1' (X_win_y (n := 2) (by omega) (by omega) (y1' (X_win_y (n := 20) (by omega) hN (y1 ⟨vp_in_nI (by omega) (by omega), fun b hb e => by rw [shB_n hk] at e; subst e; exact h⟩))))))
theorem two_read {x m : DD} {H : HH} {p0 p1 p2 p3 : Int32} (hR : RelH H x m) : Two MX4_read MX5_read [.ref 0, .int p0, .int p1, .int p2, .int p3] x m := by
  obtain ⟨ok, hX, hM, hO⟩ := id hR
  rcases ge_of (n := 4) (v := p0) (by omega) with ⟨k, hk, rfl⟩ | hz
  · have i4 : vp_in (nI k) 4 := vp_in_nI (by omega) (by omega)
    rcases ge_of (n := 3) (v := p1) (by omega) with ⟨la, hla, rfl⟩ | hz2
    · rcases ge_of (n := 21) (v := p3) (by omega) with ⟨N, hN, rfl⟩ | hz3
      · rcases Nat.eq_zero_or_pos N with z | z
        · subst z
          exact two_rd (t := 0) hR ok (fun _ => rfl) (X_read_c hk hla (by omega) (rr_t rfl (X_read_st (t := 0) (N := 0) hk hX ok (by omega) (by omega) (Or.inl rfl)))) (M_read_c hM ok hk hla (by omega) fun d g hM2 => bk_X5_read_56 (br_t (by decide) (nm_e ⟨rfl, d, g, hM2, rfl⟩)))
        · have nz : ¬ nI N = 0 := lit_ne (b := 0) (by omega) (by omega) (by omega)
          have nz2 : ¬ (2 : Int32) * nI N ≤ 0 := by rw [li_2, pk_mul]; exact fun c => absurd ((nI_leI (by omega) (show 0 < 2 ^ 31 by omega)).mp c) (by omega)
          have Hs : isSh (74 + 2 * k) := by unfold isSh; omega
          have mf : ∀ t d, 1 ≤ t → t ≤ 3 → MRd m d → MH 0 d H → Ev SM MX5_read 126 [.ref 0, .int (nI k), .int (nI la), .int p2, .int (nI N), .int 0, .int 0, .int 0, uJ] [.int (nI t)] d (rI fun r' d => r' = nI 0 ∧ PMr m t H d) := by
            intro t d h1 h2 g hM2
            have tz : ¬ nI t = 0 := lit_ne (b := 0) (by omega) (by omega) (by omega)
            exact bk_X5_read_126 (rr_f tz (bk_X5_read_56 ⟨fun _ => nm_e ⟨rfl, d, g, hM2, rfl⟩, fun _ => rr_f tz (nm_e ⟨rfl, d, g, hM2, rfl⟩)⟩))
          rcases hO.2.2.2.1 k hk with ⟨a1, a2⟩ | ⟨a1, l, n, a2, a3, a4, a5, a6, a7, a8⟩
          · refine two_rd (t := 1) hR ok (fun _ => rfl) (X_read_c hk hla (by omega) (rr_f nz (cn_X2_faultAs Hs (rr_t a1 (X_read_st (t := 1) hk hX ok (by omega) (by omega) (Or.inr (by omega))))))) (M_read_c hM ok hk hla (by omega) fun d g hM2 => bk_X5_read_56 (br_f nz2 (rr_t rfl ⟨i4, rr_t ?_ (mf 1 d (by omega) (by omega) g hM2)⟩)))
            rw [nI_clamp (by omega), g.1 14 (by omega)]; exact a2
          · have xz : ¬ x (74 + 2 * k) 0 = 0 := by rw [a1]; decide
            by_cases el : l = la
            · subst el
              rcases hr : rdR (fun i => x (75 + 2 * k) i) p2.toInt n N 0 H with ⟨ra, rt, rH⟩
              have xx : ∀ {q : Int32 → DD → Prop}, (∀ a H' d', rdR (fun i => x (75 + 2 * k) i) p2.toInt n N 0 H = (a, none, H') → XRd x d' → q a d') → (∀ a t H' d' l8, rdR (fun i => x (75 + 2 * k) i) p2.toInt n N 0 H = (a, some t, H') → XRd x d' → XH 23 d' H' → OKH H' → (∀ j, H' 10 j = H 10 j) → Ev SX MX4_read 168 [.ref 0, .int (nI k), .int (nI l), .int p2, .int (nI N), .ref (74 + 2 * k), .int (nI t), .int a, .int l8, uJ, uJ] [] d' (rI q)) → Cn SX MX4_read [.ref 0, .int (nI k), .int (nI l), .int p2, .int (nI N)] x (rI q) := fun h0 h1 => X_read_c hk hla (by omega) (rr_f nz (cn_X2_faultAs Hs (rr_f xz (rr_t a4 (X_read_54 hk hX ok fun d g hX2 => X_read_73 hk a6 (by omega) (fun i _ => rfl) (by omega) h0 h1 N 0 H d (by omega) rfl g hX2 ok (fun _ => rfl))))))
              have mm : ∀ {q : Int32 → DD → Prop}, (∀ a H' d', rdR (fun i => x (75 + 2 * k) i) p2.toInt n N 0 H = (a, none, H') → MK m d' → q a d') → (∀ a t H' d', rdR (fun i => x (75 + 2 * k) i) p2.toInt n N 0 H = (a, some t, H') → MRd m d' → MH 0 d' H' → OKH H' → (∀ j, H' 10 j = H 10 j) → q a (up d' 0 34 (nI t))) → Cn SM MX5_read [.ref 0, .int (nI k), .int (nI l), .int p2, .int (nI N)] m (rI q) := fun h0 h1 => M_read_c hM ok hk hla (by omega) fun d g hM2 => M_read_56 hk (by omega) a5 a7 (by omega) (fun i hi => (a8 i hi).symm) (by omega) h0 h1 N 0 H d (by omega) rfl g hM2 ok (fun _ => rfl)
              rw [hr] at xx mm
              cases rt with
              | none =>
                refine two_ask hR ra (xx (fun a H' d' e g => ?_) (fun a t H' d' l8 e => ?_)) (mm (fun a H' d' e g => ?_) (fun a t H' d' e => ?_))
                · cases e; exact ⟨rfl, fun a ha => g a (by omega)⟩
                · cases e
                · cases e; exact ⟨rfl, g⟩
                · cases e
              | some t =>
                by_cases hok : OKH rH ∧ ∀ j, rH 10 j = H 10 j
                · refine two_rd (t := t) (r := ra) hR hok.1 hok.2 (xx (fun a H' d' e g => ?_) (fun a t H' d' l8 e g h1 h2 h3 => ?_)) (mm (fun a H' d' e g => ?_) (fun a t H' d' e g h1 h2 h3 => ?_))
                  · cases e
                  · cases e; exact X_read_168 hk g h1 h2
                  · cases e
                  · cases e; exact ⟨rfl, d', g, h1, rfl⟩
                · refine ⟨0, fun _ => False, fun _ => False, xx (fun a H' d' e g => ?_) (fun a t H' d' l8 e g h1 h2 h3 => ?_), mm (fun a H' d' e g => ?_) (fun a t H' d' e g h1 h2 h3 => ?_), fun d d' a => absurd a id⟩
                  · cases e
                  · cases e; exact absurd ⟨h2, h3⟩ hok
                  · cases e
                  · cases e; exact absurd ⟨h2, h3⟩ hok
            · refine two_rd (t := 3) hR ok (fun _ => rfl) (X_read_c hk hla (by omega) (rr_f nz (cn_X2_faultAs Hs (rr_f xz (rr_f ?_ (X_read_st (t := 3) hk hX ok (by omega) (by omega) (Or.inr (by omega)))))))) (M_read_c hM ok hk hla (by omega) fun d g hM2 => bk_X5_read_56 (br_f nz2 (rr_t rfl ⟨i4, rr_f ?_ ⟨i4, br_f ?_ (mf 3 d (by omega) (by omega) g hM2)⟩⟩)))
              · rw [a4]; exact lit_ne (by omega) (by omega) el
              · rw [nI_clamp (by omega), g.1 14 (by omega), a5]; exact ne_m4 (by omega)
              · rw [nI_clamp (by omega), g.1 14 (by omega), a5]; exact lit_ne (by omega) (by omega) el
      · exact two_ask hR (-1) (cn_X4_read (X_win_y (n := 3) (by omega) (by omega) (y1' (X_win_y (n := 2) (by omega) (by omega) (y1' (X_win_n (n := 20) (by omega) hz3 (y0 ⟨rfl, XK.rf⟩))))))) (cn_X5_read (M_win_y (n := 3) (by omega) (by omega) (y1' (M_win_y (n := 2) (by omega) (by omega) (y1' (M_win_n (n := 20) (by omega) hz3 (y0 ⟨rfl, MK.rf⟩)))))))
    · exact two_ask hR (-1) (cn_X4_read (X_win_y (n := 3) (by omega) (by omega) (y1' (X_win_n (n := 2) (by omega) hz2 (y0' ⟨rfl, XK.rf⟩))))) (cn_X5_read (M_win_y (n := 3) (by omega) (by omega) (y1' (M_win_n (n := 2) (by omega) hz2 (y0' ⟨rfl, MK.rf⟩)))))
  · exact two_ask hR (-1) (cn_X4_read (X_win_n (n := 3) (by omega) hz (y0' ⟨rfl, XK.rf⟩))) (cn_X5_read (M_win_n (n := 3) (by omega) hz (y0' ⟨rfl, MK.rf⟩)))
end
