/-! ===== lowest terms ===== -/
theorem lcmp0 {n : Nat} (hn : n < 2 ^ 31) : lg_cmp (lN n) 0 = 0 ↔ n = 0 := by
  have e0 : ((0 : Int64)).toInt = 0 := rfl
  have h1 := lcmp_lt (x := lN n) (y := 0)
  have h2 := lcmp_gt (x := lN n) (y := 0)
  rw [lN_toInt hn, e0, i_lt] at h1
  rw [lN_toInt hn, e0, i_lt] at h2
  rw [i_eq]
  rw [show ((0 : Int32)).toInt = 0 from rfl] at *
  omega
theorem lcmp0_le {n : Nat} (hn : n < 2 ^ 31) : lg_cmp (lN n) 0 ≤ 0 ↔ n = 0 := by
  have e0 : ((0 : Int64)).toInt = 0 := rfl
  have h2 := lcmp_gt (x := lN n) (y := 0)
  rw [lN_toInt hn, e0, i_lt] at h2
  rw [i_le]
  rw [show ((0 : Int32)).toInt = 0 from rfl] at *
  omega
theorem lN_ne0 {n : Nat} (hn : n < 2 ^ 31) (h : 0 < n) : ¬ lN n = 0 := fun z => absurd ((lN_eq (b := 0) hn (by omega)).mp z) (by omega)
theorem jreml_N {a b : Nat} (ha : a < 2 ^ 31) (h0 : 0 < b) (hb : b < 2 ^ 31) : jreml (lN a) (lN b) = lN (a % b) := pk_lRem (by omega) h0 (by omega)
def lowV (num den w : Nat) : Int64 := if w = 0 then lN (num / Nat.gcd num den) else lN (den / Nat.gcd num den)
theorem X_low_44 {q : Int64 → DD → Prop} {d : DD} {num den w g : Nat} {l7 : Int64} {l9 : Int32} (hn : num < 2 ^ 31) (hd : den < 2 ^ 31) (hg : g = Nat.gcd num den) (h0 : 0 < g) (hg2 : g < 2 ^ 31) (hw : w < 2) (h : q (lowV num den w) d) : Ev SX MX4_inLowestTerms 44 [.long (lN num), uJ, .long (lN den), uJ, .int (nI w), .long (lN g), uJ, .long l7, uJ, .int l9, uJ, uJ] [] d (rL q) := by
  unfold lowV at h
  have g0 : ¬ lg_cmp (lN g) 0 ≤ 0 := fun z => absurd ((lcmp0_le hg2).mp z) (by omega)
  refine bk_X4_inLowestTerms_44 ?_
  rw [pk_lDiv (by omega) h0 (by omega), pk_lDiv (by omega) h0 (by omega), hg]
  rw [hg] at g0 h0 hg2
  rcases (show w = 0 ∨ w = 1 by omega) with rfl | rfl
  · exact rr_t rfl (br_f g0 ⟨lN_ne0 hg2 h0, h⟩)
  · exact rr_f (by decide) (br_f g0 ⟨lN_ne0 hg2 h0, h⟩)
theorem X_lowest {q : Int64 → DD → Prop} {d : DD} {num den w : Nat} (hn : num < 2 ^ 30) (hd : den < 2 ^ 30) (h0 : 0 < den) (hw : w < 2) (h : q (lowV num den w) d) : Cn SX MX4_inLowestTerms [.long (lN num), .long (lN den), .int (nI w)] d (rL q) := by
  have gp : 0 < Nat.gcd num den := Nat.gcd_pos_of_pos_right _ h0
  have gl : Nat.gcd num den < 2 ^ 31 := Nat.lt_of_le_of_lt (Nat.gcd_le_right _ h0) (by omega)
  refine cn_X4_inLowestTerms ?_
  rw [li_0]
  suffices hh : ∀ n a b i, b < 2 ^ n → i + 2 * n < 100 → a < 2 ^ 30 → b < 2 ^ 30 → Nat.gcd a b = Nat.gcd num den → Ev SX MX4_inLowestTerms 9 [.long (lN num), uJ, .long (lN den), uJ, .int (nI w), .long (lN a), uJ, .long (lN b), uJ, .int (nI i), uJ, uJ] [] d (rL q) from hh 30 den num 0 hn (by omega) hd hn (Nat.gcd_comm _ _)
  have zero : ∀ a i, i < 100 → a < 2 ^ 30 → Nat.gcd a 0 = Nat.gcd num den → Ev SX MX4_inLowestTerms 9 [.long (lN num), uJ, .long (lN den), uJ, .int (nI w), .long (lN a), uJ, .long (lN 0), uJ, .int (nI i), uJ, uJ] [] d (rL q) := by
    intro a i hi ha hg
    rw [Nat.gcd_zero_right] at hg
    refine bk_X4_inLowestTerms_9 (br_f ?_ (br_t ((lcmp0 (by omega)).mpr rfl) (X_low_44 (by omega) (by omega) hg (by omega) (by omega) hw h)))
    rw [li_100]; exact fun c => absurd ((nI_leI (by omega) (by omega)).mp c) (by omega)
  have step : ∀ a b i, 0 < b → i < 100 → a < 2 ^ 30 → b < 2 ^ 30 → Ev SX MX4_inLowestTerms 9 [.long (lN num), uJ, .long (lN den), uJ, .int (nI w), .long (lN b), uJ, .long (lN (a % b)), uJ, .int (nI (i + 1)), uJ, uJ] [] d (rL q) → Ev SX MX4_inLowestTerms 9 [.long (lN num), uJ, .long (lN den), uJ, .int (nI w), .long (lN a), uJ, .long (lN b), uJ, .int (nI i), uJ, uJ] [] d (rL q) := by
    intro a b i hb hi ha hb2 t
    refine bk_X4_inLowestTerms_9 (br_f ?_ (br_f (fun z => absurd ((lcmp0 (by omega)).mp z) (by omega)) ⟨lN_ne0 (by omega) hb, nm_e ?_⟩))
    · rw [li_100]; exact fun c => absurd ((nI_leI (by omega) (by omega)).mp c) (by omega)
    · rw [jreml_N (by omega) hb (by omega), nI_1]; exact t
  intro n
  induction n with
  | zero =>
    intro a b i hb hi ha _ hg
    have : b = 0 := by omega
    subst this
    exact zero a i (by omega) ha hg
  | succ n ih =>
    intro a b i hb hi ha hb2 hg
    rcases Nat.eq_zero_or_pos b with z | z
    · subst z; exact zero a i (by omega) ha hg
    · have r1 := Nat.mod_lt a z
      have g1 : Nat.gcd b (a % b) = Nat.gcd num den := by rw [← hg, Nat.gcd_comm a b, Nat.gcd_rec b a, Nat.gcd_comm]
      refine step a b i z (by omega) ha hb2 ?_
      rcases Nat.eq_zero_or_pos (a % b) with y | y
      · rw [y] at g1 ⊢; exact zero b (i + 1) (by omega) hb2 g1
      · have r2 := Nat.mod_lt b y
        have r3 : b % (a % b) ≤ b - a % b := by
          have := Nat.mod_add_div b (a % b)
          have hd1 : 1 ≤ b / (a % b) := Nat.div_pos (by omega) y
          have := Nat.mul_le_mul_left (a % b) hd1
          omega
        have g2 : Nat.gcd (a % b) (b % (a % b)) = Nat.gcd num den := by rw [← g1, Nat.gcd_comm b (a % b), Nat.gcd_rec (a % b) b, Nat.gcd_comm]
        refine step b (a % b) (i + 1) y (by omega) hb2 (by omega) ?_
        have hp : 2 ^ (n + 1) = 2 * 2 ^ n := by rw [Nat.pow_succ, Nat.mul_comm]
        exact ih (a % b) (b % (a % b)) (i + 2) (by omega) (by omega) (by omega) (by omega) g2
