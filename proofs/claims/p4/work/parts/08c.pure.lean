theorem li_0 : (0 : Int32) = nI 0 := rfl
theorem li_1 : (1 : Int32) = nI 1 := rfl
theorem li_2 : (2 : Int32) = nI 2 := rfl
theorem li_3 : (3 : Int32) = nI 3 := rfl
theorem li_4 : (4 : Int32) = nI 4 := rfl
theorem li_5 : (5 : Int32) = nI 5 := rfl
theorem li_6 : (6 : Int32) = nI 6 := rfl
theorem li_7 : (7 : Int32) = nI 7 := rfl
theorem li_8 : (8 : Int32) = nI 8 := rfl
theorem li_9 : (9 : Int32) = nI 9 := rfl
theorem li_10 : (10 : Int32) = nI 10 := rfl
theorem li_12 : (12 : Int32) = nI 12 := rfl
theorem li_15 : (15 : Int32) = nI 15 := rfl
theorem li_16 : (16 : Int32) = nI 16 := rfl
theorem li_18 : (18 : Int32) = nI 18 := rfl
theorem li_20 : (20 : Int32) = nI 20 := rfl
theorem li_24 : (24 : Int32) = nI 24 := rfl
theorem li_31 : (31 : Int32) = nI 31 := rfl
theorem li_32 : (32 : Int32) = nI 32 := rfl
theorem li_40 : (40 : Int32) = nI 40 := rfl
theorem li_48 : (48 : Int32) = nI 48 := rfl
theorem li_52 : (52 : Int32) = nI 52 := rfl
theorem li_56 : (56 : Int32) = nI 56 := rfl
theorem li_60 : (60 : Int32) = nI 60 := rfl
theorem li_64 : (64 : Int32) = nI 64 := rfl
theorem li_70 : (70 : Int32) = nI 70 := rfl
theorem li_97 : (97 : Int32) = nI 97 := rfl
theorem li_99 : (99 : Int32) = nI 99 := rfl
theorem li_100 : (100 : Int32) = nI 100 := rfl
theorem li_122 : (122 : Int32) = nI 122 := rfl
theorem li_127 : (127 : Int32) = nI 127 := rfl
theorem li_140 : (140 : Int32) = nI 140 := rfl
theorem li_144 : (144 : Int32) = nI 144 := rfl
theorem li_159 : (159 : Int32) = nI 159 := rfl
theorem li_160 : (160 : Int32) = nI 160 := rfl
theorem li_210 : (210 : Int32) = nI 210 := rfl
theorem li_255 : (255 : Int32) = nI 255 := rfl
theorem li_280 : (280 : Int32) = nI 280 := rfl
theorem li_350 : (350 : Int32) = nI 350 := rfl
theorem li_32767 : (32767 : Int32) = nI 32767 := rfl
theorem li_1000000 : (1000000 : Int32) = nI 1000000 := rfl
theorem jrem_nI {a b : Nat} (ha : a < 2 ^ 31) (h0 : 0 < b) (hb : b < 2 ^ 31) : jrem (nI a) (nI b) = nI (a % b) := pk_rem ha h0 hb
/-- -4, -1: what is not a nI -/
theorem nI_ti {n : Nat} (h : n < 2 ^ 31) : (nI n).toInt = (n : Int) := nI_toInt h
theorem ne_m4 {n : Nat} (h : n < 2 ^ 31) : ¬ nI n = -4 := fun e => by
  have h1 := congrArg Int32.toInt e
  rw [nI_toInt h, show ((-4 : Int32)).toInt = -4 from by decide] at h1
  omega
theorem ne_m1 {n : Nat} (h : n < 2 ^ 31) : ¬ nI n = -1 := fun e => by
  have h1 := congrArg Int32.toInt e
  rw [nI_toInt h, show ((-1 : Int32)).toInt = -1 from by decide] at h1
  omega
theorem i_lt {a b : Int32} : a < b ↔ a.toInt < b.toInt := fa_lt a b
theorem i_le {a b : Int32} : a ≤ b ↔ a.toInt ≤ b.toInt := fa_le a b
theorem i_eq {a b : Int32} : a = b ↔ a.toInt = b.toInt := fa_eq a b
theorem nb_0 : narrow .boolean (.int 0) = .int 0 := rfl
theorem nb_1 : narrow .boolean (.int 1) = .int 1 := rfl
/-- an int against a bound: a Nat below it, or not -/
theorem ix_or (x : Int32) (n : Nat) : (∃ j, j < n ∧ j < 2 ^ 31 ∧ x = nI j) ∨ ∀ j, j < n → j < 2 ^ 31 → x ≠ nI j := by
  by_cases h : ∃ j, j < n ∧ j < 2 ^ 31 ∧ x = nI j
  · exact Or.inl h
  · exact Or.inr (fun j h1 h2 e => h ⟨j, h1, h2, e⟩)
theorem ix_out {x : Int32} {n : Nat} (h : ∀ j, j < n → j < 2 ^ 31 → x ≠ nI j) (hn : n ≤ 2 ^ 31) : x.toInt < 0 ∨ (n : Int) ≤ x.toInt := by
  by_cases h0 : x < 0
  · left; exact i_lt.mp h0
  · obtain ⟨j, hj, rfl⟩ := nI_of h0
    right
    rw [nI_toInt hj]
    by_cases h1 : j < n
    · exact absurd rfl (h j h1 hj)
    · omega
theorem nI_inj {a b : Nat} (ha : a < 2 ^ 31) (hb : b < 2 ^ 31) (h : nI a = nI b) : a = b := (nI_eq ha hb).mp h
/-! loops: f k s for k = 0, 1 .. -/
def itr {σ : Type} (f : Nat → σ → σ) (s : σ) : Nat → σ
  | 0 => s
  | k + 1 => f k (itr f s k)
theorem itr_s {σ : Type} (f : Nat → σ → σ) (s : σ) (k : Nat) : itr f s (k + 1) = f k (itr f s k) := rfl
/-- sums, masks -/
def sumN (f : Nat → Nat) : Nat → Nat
  | 0 => 0
  | k + 1 => sumN f k + f k
theorem sumN_le {f : Nat → Nat} {c : Nat} : ∀ {n : Nat}, (∀ i, i < n → f i ≤ c) → sumN f n ≤ n * c := by
  intro n
  induction n with
  | zero => intro _; exact Nat.zero_le _
  | succ n ih =>
    intro h
    have h1 := ih (fun i hi => h i (by omega))
    have h2 := h n (by omega)
    show sumN f n + f n ≤ (n + 1) * c
    rw [Nat.succ_mul]
    omega
theorem sumN_cong {f g : Nat → Nat} : ∀ {n : Nat}, (∀ i, i < n → f i = g i) → sumN f n = sumN g n := by
  intro n
  induction n with
  | zero => intro _; rfl
  | succ n ih =>
    intro h
    show sumN f n + f n = sumN g n + g n
    rw [ih (fun i hi => h i (by omega)), h n (by omega)]
def maskN (p : Nat → Bool) (n : Nat) : Nat := sumN (fun k => if p k then 2 ^ k else 0) n
theorem maskN_lt (p : Nat → Bool) : ∀ n, maskN p n < 2 ^ n := by
  intro n
  induction n with
  | zero => exact Nat.one_pos
  | succ n ih =>
    show maskN p n + (if p n then 2 ^ n else 0) < 2 ^ (n + 1)
    have : 2 ^ (n + 1) = 2 ^ n + 2 ^ n := by omega
    split <;> omega
theorem maskN_bit (p : Nat → Bool) : ∀ n i, (maskN p n).testBit i = (decide (i < n) && p i) := by
  intro n
  induction n with
  | zero => intro i; simp [maskN, sumN]
  | succ n ih =>
    intro i
    have h0 := maskN_lt p n
    have e : maskN p (n + 1) = maskN p n + (if p n then 2 ^ n else 0) := rfl
    rw [e]
    by_cases hp : p n = true
    · rw [if_pos hp, Nat.add_comm]
      rcases Nat.lt_trichotomy i n with h | h | h
      · rw [Nat.testBit_two_pow_add_gt h, ih]
        simp [h, Nat.lt_succ_of_lt h]
      · subst h
        rw [Nat.testBit_two_pow_add_eq, ih]
        simp [hp]
      · have h1 : 2 ^ n + maskN p n < 2 ^ i := Nat.lt_of_lt_of_le (by have : 2 ^ (n + 1) = 2 ^ n + 2 ^ n := by omega
                                                                      omega : 2 ^ n + maskN p n < 2 ^ (n + 1)) (Nat.pow_le_pow_right (by decide) h)
        rw [Nat.testBit_lt_two_pow h1]
        simp; omega
    · rw [if_neg hp, Nat.add_zero, ih]
      by_cases h : i = n
      · subst h; simp [Bool.not_eq_true _ ▸ hp]
      · have : (i < n ↔ i < n + 1) := by omega
        simp [this]
theorem shl1 {k : Nat} (hk : k < 31) : (1 : Int32) <<< (nI k &&& 31) = nI (2 ^ k) := by
  have h := pk_shlN (n := 1) (nI k &&& 31) k (s_l k (by omega)) (by have := Nat.pow_lt_pow_right (a := 2) (by decide) (show k < 32 by omega); omega)
  rw [Nat.one_mul] at h
  exact h
theorem shr_n {a k : Nat} (ha : a < 2 ^ 31) (hk : k < 32) : nI a >>> (nI k &&& 31) = nI (a / 2 ^ k) := pk_shrN ha _ k (s_l k hk)
theorem mask_or {p : Nat → Bool} {n : Nat} (hn : n < 31) : nI (maskN p n) ||| nI (2 ^ n) = nI (maskN p n + 2 ^ n) := by
  have h := fa_or_sum (a := maskN p n) (k := n) 1 (maskN_lt p n)
  rw [Nat.mul_one] at h
  rw [Int32.or_comm, h, Nat.add_comm]
theorem and1 (n : Nat) : nI n &&& 1 = nI (n % 2) := fa_mask n 1
theorem bit_of {a k : Nat} (ha : a < 2 ^ 31) (hk : k < 32) : ((nI a >>> (nI k &&& 31)) &&& 1) = if a.testBit k then 1 else 0 := by
  rw [shr_n ha hk, and1, Nat.testBit_eq_decide_div_mod_eq]
  rcases Nat.mod_two_eq_zero_or_one (a / 2 ^ k) with h | h <;> rw [h] <;> rfl
theorem bit_t {a k : Nat} (ha : a < 2 ^ 31) (hk : k < 32) (h : a.testBit k = true) : ((nI a >>> (nI k &&& 31)) &&& 1) = 1 := by rw [bit_of ha hk, h]; rfl
theorem bit_f {a k : Nat} (ha : a < 2 ^ 31) (hk : k < 32) (h : a.testBit k = false) : ((nI a >>> (nI k &&& 31)) &&& 1) = 0 := by rw [bit_of ha hk, h]; rfl
theorem up_rd {d : DD} {b j a i : Nat} {x : Int32} : up d b j x a i = if a = b ∧ i = j then x else d a i := by
  by_cases h : a = b
  · subst h
    rw [up_at]
    by_cases h2 : i = j
    · subst h2; simp [upd]
    · simp [upd, h2]
  · rw [up_ne a h]; simp [h]
theorem up_s {d : DD} {b j : Nat} {x : Int32} : up d b j x b j = x := by rw [up_rd, if_pos ⟨rfl, rfl⟩]
theorem up_n {d : DD} {b j a i : Nat} {x : Int32} (h : ¬ (a = b ∧ i = j)) : up d b j x a i = d a i := by rw [up_rd, if_neg h]
