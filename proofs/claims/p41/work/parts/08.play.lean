section
/-! plain facts on numbers and arrays, to paste: each family by itself; over the kit's rows on nI and upd -/
/-! ===== order of ints, in all its forms, and through longs ===== -/
theorem fa_lt (a b : Int32) : a < b ↔ a.toInt < b.toInt := Int32.lt_iff_toInt_lt
theorem fa_le (a b : Int32) : a ≤ b ↔ a.toInt ≤ b.toInt := Int32.le_iff_toInt_le
theorem fa_eq (a b : Int32) : a = b ↔ a.toInt = b.toInt := Int32.toInt_inj.symm
theorem fa_lt64 (a b : Int64) : a < b ↔ a.toInt < b.toInt := Int64.lt_iff_toInt_lt
theorem fa_le64 (a b : Int64) : a ≤ b ↔ a.toInt ≤ b.toInt := Int64.le_iff_toInt_le
theorem fa_eq64 (a b : Int64) : a = b ↔ a.toInt = b.toInt := Int64.toInt_inj.symm
/-- a comparison of two ints taken as longs -/
theorem fa_wide_lt (a b : Int32) : a.toInt64 < b.toInt64 ↔ a < b := by rw [fa_lt64, fa_lt, Int32.toInt_toInt64, Int32.toInt_toInt64]
theorem fa_wide_le (a b : Int32) : a.toInt64 ≤ b.toInt64 ↔ a ≤ b := by rw [fa_le64, fa_le, Int32.toInt_toInt64, Int32.toInt_toInt64]
theorem fa_wide_eq (a b : Int32) : a.toInt64 = b.toInt64 ↔ a = b := by rw [fa_eq64, fa_eq, Int32.toInt_toInt64, Int32.toInt_toInt64]
/-- one strict comparison gives all the others -/
theorem fa_of_lt {a b : Int32} (h : a < b) : a ≤ b ∧ ¬ b ≤ a ∧ ¬ b < a ∧ a ≠ b ∧ b ≠ a := by
  rw [fa_lt] at h
  refine ⟨?_, ?_, ?_, ?_, ?_⟩
  · rw [fa_le]; omega
  · rw [fa_le]; omega
  · rw [fa_lt]; omega
  · intro e; rw [fa_eq] at e; omega
  · intro e; rw [fa_eq] at e; omega
theorem fa_of_nlt {a b : Int32} (h : ¬ a < b) : b ≤ a := by
  rw [fa_lt] at h
  rw [fa_le]
  omega
theorem fa_of_nle {a b : Int32} (h : ¬ a ≤ b) : b < a := by
  rw [fa_le] at h
  rw [fa_lt]
  omega
theorem fa_le_ne {a b : Int32} (h : a ≤ b) (h2 : a ≠ b) : a < b := by
  rw [fa_le] at h
  rw [fa_lt]
  have h3 : a.toInt ≠ b.toInt := fun e => h2 ((fa_eq a b).mpr e)
  omega
theorem fa_three (a b : Int32) : a < b ∨ a = b ∨ b < a := by
  rw [fa_lt, fa_lt, fa_eq]
  omega
theorem fa_trans {a b c : Int32} (h : a < b) (h2 : b ≤ c) : a < c := by
  rw [fa_lt] at *
  rw [fa_le] at h2
  omega
/-! ===== small literals as numbers ===== -/
theorem fa_lit (n : Nat) : (OfNat.ofNat n : Int32) = nI n := rfl
theorem fa_litL (n : Nat) : (OfNat.ofNat n : Int64) = lN n := rfl
/-! ===== bits of a number: 'or', masks, one bit ===== -/
theorem fa_and (a b : Nat) : nI a &&& nI b = nI (a &&& b) := by
  apply Int32.toBitVec_inj.1
  show BitVec.ofNat 32 a &&& BitVec.ofNat 32 b = BitVec.ofNat 32 (a &&& b)
  apply BitVec.eq_of_getLsbD_eq
  intro i hi
  simp [hi]
theorem fa_or (a b : Nat) : nI a ||| nI b = nI (a ||| b) := by
  apply Int32.toBitVec_inj.1
  show BitVec.ofNat 32 a ||| BitVec.ofNat 32 b = BitVec.ofNat 32 (a ||| b)
  apply BitVec.eq_of_getLsbD_eq
  intro i hi
  simp [hi]
/-- a remainder by a power of two, as a mask -/
theorem fa_mask (n k : Nat) : nI n &&& nI (2 ^ k - 1) = nI (n % 2 ^ k) := by rw [fa_and, Nat.and_two_pow_sub_one_eq_mod]
/-- 'or' of a high part and a low one that don't meet is their sum -/
theorem fa_or_sum {a k : Nat} (b : Nat) (h : a < 2 ^ k) : nI (2 ^ k * b) ||| nI a = nI (2 ^ k * b + a) := by rw [fa_or, Nat.two_pow_add_eq_or_of_lt h]
/-- one bit, by 'and' with a power of two -/
theorem fa_bit {n j : Nat} (hj : j < 31) : nI n &&& nI (2 ^ j) = 0 ↔ n.testBit j = false := by
  have h2 : (2 : Nat) ^ j < 2 ^ 31 := Nat.pow_lt_pow_right (by decide) hj
  have hle : n &&& 2 ^ j ≤ 2 ^ j := Nat.and_le_right
  have e : n &&& 2 ^ j = 0 ↔ n.testBit j = false := by
    constructor
    · intro h
      have h1 : (n &&& 2 ^ j).testBit j = false := by rw [h]; simp
      rw [Nat.testBit_and] at h1
      first | simpa using h1 | simpa [Nat.testBit_two_pow_self] using h1 | simpa [Nat.testBit_two_pow] using h1
    · intro h
      apply Nat.eq_of_testBit_eq
      intro i
      rw [Nat.testBit_and]
      by_cases hi : j = i
      · subst hi; simp [h]
      · first | (simp [Nat.testBit_two_pow, hi]; done) | (simp [Nat.testBit_two_pow_of_ne hi]; done)
  rw [fa_and]
  constructor
  · intro h
    apply e.mp
    rcases Nat.eq_zero_or_pos (n &&& 2 ^ j) with z | z
    · exact z
    · exact absurd h (nI_ne0 z (Nat.lt_of_le_of_lt hle h2))
  · intro h
    rw [e.mpr h]; exact nI_0
/-- a remainder by a power of two of a number that isn't negative, as Java divides -/
theorem fa_rem {a k : Nat} (ha : a < 2 ^ 31) (hk : k < 31) : nI a - nI a / nI (2 ^ k) * nI (2 ^ k) = nI (a % 2 ^ k) := pk_rem ha (Nat.two_pow_pos k) (Nat.pow_lt_pow_right (by decide) hk)
/-! ===== cuts to a byte, a short ===== -/
theorem fa_byte_xor (x y : Int32) : (x ^^^ y).toInt8 = x.toInt8 ^^^ y.toInt8 := by
  apply Int8.toBitVec_inj.1
  apply BitVec.eq_of_getLsbD_eq
  intro i hi
  first | (simp [hi]; done) | (simp [hi, BitVec.getLsbD_setWidth, BitVec.getLsbD_signExtend]; done)
theorem fa_short_xor (x y : Int32) : (x ^^^ y).toInt16 = x.toInt16 ^^^ y.toInt16 := by
  apply Int16.toBitVec_inj.1
  apply BitVec.eq_of_getLsbD_eq
  intro i hi
  first | (simp [hi]; done) | (simp [hi, BitVec.getLsbD_setWidth, BitVec.getLsbD_signExtend]; done)
/-- the cut to a byte sees the low byte alone -/
theorem fa_byte_low (x : Int32) : (x &&& 255).toInt8 = x.toInt8 := by
  apply Int8.toBitVec_inj.1
  apply BitVec.eq_of_getLsbD_eq
  intro i hi
  have h2 : (255 : Int32).toBitVec.getLsbD i = true := by
    have : ∀ j : Fin 8, (255 : Int32).toBitVec.getLsbD j.val = true := by decide +kernel
    exact this ⟨i, hi⟩
  have h4 : (x &&& 255).toBitVec.getLsbD i = x.toBitVec.getLsbD i := by
    show (x.toBitVec &&& (255 : Int32).toBitVec).getLsbD i = _
    rw [BitVec.getLsbD_and, h2, Bool.and_true]
  have h3 : i < 32 := by omega
  first
    | (show (((x &&& 255).toBitVec).signExtend 8).getLsbD i = (x.toBitVec.signExtend 8).getLsbD i; rw [BitVec.getLsbD_signExtend, BitVec.getLsbD_signExtend, if_pos h3, if_pos h3, h4])
    | (show (((x &&& 255).toBitVec).setWidth 8).getLsbD i = (x.toBitVec.setWidth 8).getLsbD i; rw [BitVec.getLsbD_setWidth, BitVec.getLsbD_setWidth, h4])
    | (simp [hi, h3, h4]; done)
theorem fa_short_low (x : Int32) : (x &&& 65535).toInt16 = x.toInt16 := by
  apply Int16.toBitVec_inj.1
  apply BitVec.eq_of_getLsbD_eq
  intro i hi
  have h2 : (65535 : Int32).toBitVec.getLsbD i = true := by
    have : ∀ j : Fin 16, (65535 : Int32).toBitVec.getLsbD j.val = true := by decide +kernel
    exact this ⟨i, hi⟩
  have h4 : (x &&& 65535).toBitVec.getLsbD i = x.toBitVec.getLsbD i := by
    show (x.toBitVec &&& (65535 : Int32).toBitVec).getLsbD i = _
    rw [BitVec.getLsbD_and, h2, Bool.and_true]
  have h3 : i < 32 := by omega
  first
    | (show (((x &&& 65535).toBitVec).signExtend 16).getLsbD i = (x.toBitVec.signExtend 16).getLsbD i; rw [BitVec.getLsbD_signExtend, BitVec.getLsbD_signExtend, if_pos h3, if_pos h3, h4])
    | (show (((x &&& 65535).toBitVec).setWidth 16).getLsbD i = (x.toBitVec.setWidth 16).getLsbD i; rw [BitVec.getLsbD_setWidth, BitVec.getLsbD_setWidth, h4])
    | (simp [hi, h3, h4]; done)
/-- a small number is its own byte, its own short -/
theorem fa_byte_small {n : Nat} (h : n < 128) : (nI n).toInt8.toInt32 = nI n := by
  have : ∀ j : Fin 128, (nI j.val).toInt8.toInt32 = nI j.val := by decide +kernel
  exact this ⟨n, h⟩
/-! ===== absolute difference ===== -/
theorem fa_absdiff {a b : Nat} (ha : a < 2 ^ 31) (hb : b < 2 ^ 31) : (if nI a < nI b then nI b - nI a else nI a - nI b) = nI (if a < b then b - a else a - b) := by
  by_cases h : a < b
  · rw [if_pos (nI_lt h hb), if_pos h]
    exact pk_sub (Nat.le_of_lt h)
  · rw [if_neg (nI_nlt (Nat.le_of_not_lt h) ha), if_neg h]
    exact pk_sub (Nat.le_of_not_lt h)
/-! ===== an array behind i stores, a conditional store, a row copied ===== -/
/-- f where k < i, what stood there else -/
def fa_fill {α : Type} (f g : Nat → α) (i : Nat) : Nat → α := fun k => if k < i then f k else g k
theorem fa_fill_0 {α : Type} (f g : Nat → α) : fa_fill f g 0 = g := funext fun k => if_neg (Nat.not_lt_zero k)
theorem fa_fill_in {α : Type} {f g : Nat → α} {i k : Nat} (h : k < i) : fa_fill f g i k = f k := if_pos h
theorem fa_fill_out {α : Type} {f g : Nat → α} {i k : Nat} (h : i ≤ k) : fa_fill f g i k = g k := if_neg (Nat.not_lt.mpr h)
theorem fa_fill_succ (f g : Nat → Int32) (i : Nat) : upd (fa_fill f g i) i (f i) = fa_fill f g (i + 1) := by
  funext k
  by_cases e : k = i
  · subst e
    rw [pk_us]
    exact (if_pos (Nat.lt_succ_self k)).symm
  · rw [pk_un e]
    by_cases h : k < i
    · rw [fa_fill_in h, fa_fill_in (Nat.lt_succ_of_lt h)]
    · rw [fa_fill_out (Nat.le_of_not_lt h), fa_fill_out (by omega)]
/-- a store that changes nothing -/
theorem fa_upd_same {f : Nat → Int32} {i : Nat} {x : Int32} (h : f i = x) : upd f i x = f := by
  funext k
  by_cases e : k = i
  · subst e
    rw [pk_us, h]
  · rw [pk_un e]
/-- a store under a condition, told as one -/
theorem fa_upd_if (c : Prop) [Decidable c] (f : Nat → Int32) (i : Nat) (x : Int32) : (if c then upd f i x else f) = upd f i (if c then x else f i) := by
  by_cases h : c
  · rw [if_pos h, if_pos h]
  · rw [if_neg h, if_neg h, fa_upd_same rfl]
/-- two stores at one place, at two -/
theorem fa_upd_twice (f : Nat → Int32) (i : Nat) (x y : Int32) : upd (upd f i x) i y = upd f i y := by
  funext k
  by_cases e : k = i
  · subst e
    rw [pk_us, pk_us]
  · rw [pk_un e, pk_un e, pk_un e]
theorem fa_upd_swap (f : Nat → Int32) {i j : Nat} (h : i ≠ j) (x y : Int32) : upd (upd f i x) j y = upd (upd f j y) i x := by
  funext k
  by_cases e : k = i
  · subst e
    rw [pk_un h, pk_us, pk_us]
  · by_cases e2 : k = j
    · subst e2
      rw [pk_us, pk_un e, pk_us]
    · rw [pk_un e2, pk_un e, pk_un e, pk_un e2]
/-! ===== the first index with a property; a count ===== -/
/-- the first k < n with p k, n if there is none -/
def fa_first (p : Nat → Bool) : Nat → Nat
  | 0 => 0
  | n + 1 => if fa_first p n < n then fa_first p n else if p n then n else n + 1
theorem fa_first_le (p : Nat → Bool) : ∀ n, fa_first p n ≤ n
  | 0 => Nat.le_refl 0
  | n + 1 => by
    have ih := fa_first_le p n
    unfold fa_first
    split
    · omega
    · split
      · omega
      · omega
theorem fa_first_no (p : Nat → Bool) : ∀ n k, k < fa_first p n → p k = false
  | 0, k, h => absurd h (Nat.not_lt_zero k)
  | n + 1, k, h => by
    have ih := fa_first_no p n
    have hl := fa_first_le p n
    unfold fa_first at h
    split at h
    · exact ih k h
    · rename_i h1
      split at h
      · exact ih k (by omega)
      · rename_i h2
        by_cases e : k = n
        · subst e
          exact Bool.eq_false_iff.mpr h2
        · exact ih k (by omega)
theorem fa_first_yes (p : Nat → Bool) : ∀ n, fa_first p n < n → p (fa_first p n) = true
  | 0, h => absurd h (Nat.not_lt_zero _)
  | n + 1, h => by
    have ih := fa_first_yes p n
    have hl := fa_first_le p n
    unfold fa_first at h ⊢
    split at h
    · rename_i h1
      rw [if_pos h1]
      exact ih h1
    · rename_i h1
      rw [if_neg h1]
      split at h
      · rename_i h2
        rw [if_pos h2]
        exact h2
      · omega
/-- how many k < n have p k -/
def fa_cnt (p : Nat → Bool) : Nat → Nat
  | 0 => 0
  | n + 1 => fa_cnt p n + if p n then 1 else 0
theorem fa_cnt_le (p : Nat → Bool) : ∀ n, fa_cnt p n ≤ n
  | 0 => Nat.le_refl 0
  | n + 1 => by
    have ih := fa_cnt_le p n
    unfold fa_cnt
    split
    · omega
    · omega
theorem fa_cnt_yes {p : Nat → Bool} {n : Nat} (h : p n = true) : fa_cnt p (n + 1) = fa_cnt p n + 1 := by rw [fa_cnt, if_pos h]
theorem fa_cnt_no {p : Nat → Bool} {n : Nat} (h : p n = false) : fa_cnt p (n + 1) = fa_cnt p n := by rw [fa_cnt, if_neg (by rw [h]; decide)]; rfl
theorem fa_cnt_cong {p q : Nat → Bool} : ∀ {n : Nat}, (∀ k, k < n → p k = q k) → fa_cnt p n = fa_cnt q n
  | 0, _ => rfl
  | n + 1, h => by rw [fa_cnt, fa_cnt, fa_cnt_cong (fun k hk => h k (Nat.lt_succ_of_lt hk)), h n (Nat.lt_succ_self n)]
/-! ===== an answer carried into a post; a branch on a boolean answer ===== -/
theorem fa_post {α : Type} {P : α → Prop} {x y : α} (h : x = y) (hp : P y) : P x := h ▸ hp
theorem fa_post2 {α β : Type} {P : α → β → Prop} {x y : α} {u v : β} (h : x = y) (h2 : u = v) (hp : P y v) : P x u := h ▸ h2 ▸ hp
theorem fa_bool {r : Int32} {b : Bool} (h : r = if b then 1 else 0) : (r = 0 ↔ b = false) ∧ (¬ r = 0 ↔ b = true) := by
  subst h
  cases b
  · exact ⟨⟨fun _ => rfl, fun _ => rfl⟩, ⟨fun h => absurd rfl h, fun h => absurd h (by decide)⟩⟩
  · exact ⟨⟨fun h => absurd h (by decide), fun h => absurd h (by decide)⟩, ⟨fun _ => rfl, fun _ => by decide⟩⟩
/-- a boolean's narrowing changes nothing -/
theorem fa_bool_and {r : Int32} (h : r = 0 ∨ r = 1) : r &&& 1 = r := by
  rcases h with rfl | rfl
  · decide
  · decide
theorem fa_bool_prop {c : Prop} [Decidable c] {r : Int32} (h : r = if c then 1 else 0) : (r = 0 ↔ ¬ c) ∧ (¬ r = 0 ↔ c) := by
  subst h
  by_cases hc : c
  · rw [if_pos hc]
    exact ⟨⟨fun h => absurd h (by decide), fun h => absurd hc h⟩, ⟨fun _ => hc, fun _ => by decide⟩⟩
  · rw [if_neg hc]
    exact ⟨⟨fun _ => hc, fun _ => rfl⟩, ⟨fun h => absurd rfl h, fun h => absurd h hc⟩⟩
end
section
/-! rows on bits, shifts and unsigned numbers, to paste: each family out of a closed proof of our own, whole with what it rests on; each by itself clean at Lean in its own claim (generation 39, form 5). Take a family whole -/
/-! ===== Int32 by its bits: bt x i ===== -/
def bt (x : Int32) (i : Nat) : Bool := x.toBitVec.getLsbD i
theorem b_ext {x y : Int32} (h : ∀ i, i < 32 → bt x i = bt y i) : x = y := Int32.toBitVec_inj.mp (BitVec.eq_of_getLsbD_eq (fun i hi => h i hi))
theorem b_or (x y : Int32) (i : Nat) : bt (x ||| y) i = (bt x i || bt y i) := by unfold bt; rw [Int32.toBitVec_or, BitVec.getLsbD_or]
theorem b_and (x y : Int32) (i : Nat) : bt (x &&& y) i = (bt x i && bt y i) := by unfold bt; rw [Int32.toBitVec_and, BitVec.getLsbD_and]
theorem b_xor (x y : Int32) (i : Nat) : bt (x ^^^ y) i = (bt x i ^^ bt y i) := by unfold bt; rw [Int32.toBitVec_xor, BitVec.getLsbD_xor]
theorem b_big {x : Int32} {i : Nat} (h : 32 ≤ i) : bt x i = false := BitVec.getLsbD_of_ge _ _ h
theorem b_255 (i : Nat) : bt 255 i = decide (i < 8) := by
  rcases Nat.lt_or_ge i 32 with h | h
  · exact (by decide +kernel : ∀ i, i < 32 → bt 255 i = decide (i < 8)) i h
  · rw [b_big h, decide_eq_false (by omega)]
theorem b_65535 (i : Nat) : bt 65535 i = decide (i < 16) := by
  rcases Nat.lt_or_ge i 32 with h | h
  · exact (by decide +kernel : ∀ i, i < 32 → bt 65535 i = decide (i < 16)) i h
  · rw [b_big h, decide_eq_false (by omega)]
theorem b_m1 : ∀ i, i < 32 → bt (-1) i = true := by decide +kernel
theorem b_0 (i : Nat) : bt 0 i = false := BitVec.getLsbD_zero
theorem s_l : ∀ n, n < 32 → ((nI n &&& 31).toBitVec.smod 32).toNat = n := by decide +kernel
theorem s_u : ∀ n, n < 32 → (((nI n).toUInt32 &&& Int32.toUInt32 31).toBitVec % 32).toNat = n := by decide +kernel
theorem b_shl (n : Nat) (hn : n < 32) (x : Int32) {i : Nat} (hi : i < 32) : bt (x <<< (nI n &&& 31)) i = (decide (n ≤ i) && bt x (i - n)) := by
  unfold bt
  rw [Int32.toBitVec_shiftLeft]
  show (x.toBitVec <<< ((nI n &&& 31).toBitVec.smod 32).toNat).getLsbD i = _
  rw [s_l n hn, BitVec.getLsbD_shiftLeft]
  rcases Nat.lt_or_ge i n with h | h
  · simp [h, Nat.not_le.mpr h]
  · simp [hi, h, Nat.not_lt.mpr h]
theorem b_ushr (n : Nat) (hn : n < 32) (x : Int32) (i : Nat) : bt ((x.toUInt32 >>> ((nI n).toUInt32 &&& Int32.toUInt32 31)).toInt32) i = bt x (n + i) := by
  show (x.toUInt32 >>> ((nI n).toUInt32 &&& Int32.toUInt32 31)).toBitVec.getLsbD i = x.toUInt32.toBitVec.getLsbD (n + i)
  rw [UInt32.toBitVec_shiftRight]
  show (x.toUInt32.toBitVec >>> (((nI n).toUInt32 &&& Int32.toUInt32 31).toBitVec % 32).toNat).getLsbD i = _
  rw [s_u n hn, BitVec.getLsbD_ushiftRight]
theorem b_sshr (n : Nat) (hn : n < 32) (x : Int32) {i : Nat} (hi : i < 32) : bt (x >>> (nI n &&& 31)) i = if n + i < 32 then bt x (n + i) else bt x 31 := by
  unfold bt
  rw [Int32.toBitVec_shiftRight]
  show (x.toBitVec.sshiftRight ((nI n &&& 31).toBitVec.smod 32).toNat).getLsbD i = _
  rw [s_l n hn, BitVec.getLsbD_sshiftRight, BitVec.msb_eq_getLsbD_last]
  simp [hi]
theorem b_shl8 (x : Int32) {i : Nat} (hi : i < 32) : bt (x <<< ((8 : Int32) &&& 31)) i = (decide (8 ≤ i) && bt x (i - 8)) := b_shl 8 (by omega) x hi
theorem b_shl16 (x : Int32) {i : Nat} (hi : i < 32) : bt (x <<< ((16 : Int32) &&& 31)) i = (decide (16 ≤ i) && bt x (i - 16)) := b_shl 16 (by omega) x hi
theorem b_shl24 (x : Int32) {i : Nat} (hi : i < 32) : bt (x <<< ((24 : Int32) &&& 31)) i = (decide (24 ≤ i) && bt x (i - 24)) := b_shl 24 (by omega) x hi
theorem b_sshr8 (x : Int32) {i : Nat} (hi : i < 32) : bt (x >>> ((8 : Int32) &&& 31)) i = if 8 + i < 32 then bt x (8 + i) else bt x 31 := b_sshr 8 (by omega) x hi
/-! ===== nI under and, xor, >>>, one bit, 65535 ===== -/
theorem nx_and (a b : Nat) : nI a &&& nI b = nI (a &&& b) := by
  apply Int32.toBitVec_inj.1
  show BitVec.ofNat 32 a &&& BitVec.ofNat 32 b = BitVec.ofNat 32 (a &&& b)
  apply BitVec.eq_of_getLsbD_eq
  intro i hi
  simp [hi]
theorem nx_xor (a b : Nat) : nI a ^^^ nI b = nI (a ^^^ b) := by
  apply Int32.toBitVec_inj.1
  show BitVec.ofNat 32 a ^^^ BitVec.ofNat 32 b = BitVec.ofNat 32 (a ^^^ b)
  apply BitVec.eq_of_getLsbD_eq
  intro i hi
  simp [hi]
theorem nx_cnt : ∀ j : Fin 32, (UInt32.ofNat j.val &&& Int32.toUInt32 31).toNat % 32 = j.val := by decide +kernel
theorem nx_ush {k j : Nat} (hk : k < 65536) (hj : j < 32) : ((nI k).toUInt32 >>> ((nI j).toUInt32 &&& Int32.toUInt32 31)).toInt32 = nI (k >>> j) := by
  have hs : k >>> j ≤ k := by
    rw [Nat.shiftRight_eq_div_pow]
    exact Nat.div_le_self _ _
  have e2 : UInt32.ofNat k >>> (UInt32.ofNat j &&& Int32.toUInt32 31) = UInt32.ofNat (k >>> j) := by
    apply UInt32.toNat_inj.1
    have h1 : (UInt32.ofNat k).toNat = k := Nat.mod_eq_of_lt (by omega)
    have h2 : (UInt32.ofNat (k >>> j)).toNat = k >>> j := Nat.mod_eq_of_lt (by omega)
    rw [UInt32.toNat_shiftRight, nx_cnt ⟨j, hj⟩, h1, h2]
  show (UInt32.ofNat k >>> (UInt32.ofNat j &&& Int32.toUInt32 31)).toInt32 = _
  rw [e2]
  rfl
theorem nx_bit {k j : Nat} (hk : k < 65536) (hj : j < 16) : (((nI k).toUInt32 >>> ((nI j).toUInt32 &&& Int32.toUInt32 31)).toInt32 &&& 1) = 0 ↔ k.testBit j = false := by
  rw [nx_ush hk (by omega)]
  show nI (k >>> j) &&& nI 1 = 0 ↔ _
  rw [nx_and, Nat.and_one_is_mod, ← nI_0, nI_eq (by omega) (by omega), Nat.testBit_eq_decide_div_mod_eq, Nat.shiftRight_eq_div_pow, decide_eq_false_iff_not]
  generalize k / 2 ^ j = z
  omega
theorem nx_mod (k : Nat) : nI k &&& 65535 = nI (k % 65536) := by
  show nI k &&& nI 65535 = _
  rw [nx_and, show (65535 : Nat) = 2 ^ 16 - 1 from rfl, Nat.and_two_pow_sub_one_eq_mod]
theorem nx_m16 {k : Nat} (h : k < 65536) : nI k &&& 65535 = nI k := by rw [nx_mod, Nat.mod_eq_of_lt h]
theorem nx_mask (x : Int32) : ∃ k, k < 65536 ∧ x &&& 65535 = nI k := by
  have e : x = nI x.toBitVec.toNat := by
    apply Int32.toBitVec_inj.1
    show x.toBitVec = BitVec.ofNat 32 x.toBitVec.toNat
    simp
  refine ⟨x.toBitVec.toNat % 65536, Nat.mod_lt _ (by omega), ?_⟩
  rw [← nx_mod, ← e]
/-! ===== Int32 as a set of bits: test, set ===== -/
def nf_M (m : Int32) : Nat := 4294967296 - m.toBitVec.toNat
theorem nf_sh : ∀ l, l < 32 → ((1 : Int32) <<< (nI l &&& 31)).toBitVec = BitVec.twoPow 32 l := by decide +kernel
theorem nf_sl : ∀ l, l < 32 → (((nI l).toUInt32 &&& Int32.toUInt32 31).toBitVec % 32).toNat = l := by decide +kernel
theorem nf_tp : ∀ l, l < 32 → BitVec.twoPow 32 l ≠ 0#32 := by decide +kernel
theorem nf_bit (m : Int32) (l : Nat) (hl : l < 32) : ((m.toUInt32 >>> ((nI l).toUInt32 &&& Int32.toUInt32 31)).toInt32 &&& 1) = 0 ↔ (m &&& ((1 : Int32) <<< (nI l &&& 31))) = 0 := by
  have e : ((m.toUInt32 >>> ((nI l).toUInt32 &&& Int32.toUInt32 31)).toInt32).toBitVec = m.toBitVec >>> l := by
    show m.toBitVec >>> (((nI l).toUInt32 &&& Int32.toUInt32 31).toBitVec % 32) = m.toBitVec >>> l
    rw [BitVec.ushiftRight_eq', nf_sl l hl]
  rw [← Int32.toBitVec_inj, ← Int32.toBitVec_inj, Int32.toBitVec_and, Int32.toBitVec_and, nf_sh l hl, e, BitVec.and_twoPow]
  show (m.toBitVec >>> l &&& 1#32) = 0#32 ↔ _ = 0#32
  rw [BitVec.and_one_eq_setWidth_ofBool_getLsbD, BitVec.getLsbD_ushiftRight, Nat.add_zero]
  cases hb : m.toBitVec.getLsbD l
  · exact ⟨fun _ => by simp, fun _ => by decide⟩
  · exact ⟨fun z => absurd z (by decide), fun z => absurd ((if_pos rfl).symm.trans z) (nf_tp l hl)⟩
theorem nf_gr (m k : Int32) (h : m &&& k = 0) (hk : k ≠ 0) : nf_M (m ||| k) < nf_M m := by
  have hm := m.toBitVec.isLt
  have hm' := (m ||| k).toBitVec.isLt
  have h1 : m.toBitVec.toNat ≤ (m ||| k).toBitVec.toNat := by
    rw [Int32.toBitVec_or, BitVec.toNat_or]
    exact Nat.left_le_or
  have h2 : m.toBitVec.toNat ≠ (m ||| k).toBitVec.toNat := by
    intro e
    have e2 : m = m ||| k := Int32.toBitVec_inj.mp (BitVec.eq_of_toNat_eq e)
    apply hk
    apply Int32.toBitVec_inj.mp
    show k.toBitVec = 0#32
    apply BitVec.eq_of_getLsbD_eq
    intro i hi
    have a : m.toBitVec.getLsbD i = (m.toBitVec.getLsbD i || k.toBitVec.getLsbD i) := by rw [← BitVec.getLsbD_or, ← Int32.toBitVec_or, ← e2]
    have b : (m.toBitVec.getLsbD i && k.toBitVec.getLsbD i) = false := by
      rw [← BitVec.getLsbD_and, ← Int32.toBitVec_and, h]
      exact BitVec.getLsbD_zero
    rw [BitVec.getLsbD_zero]
    revert a b
    cases m.toBitVec.getLsbD i <;> cases k.toBitVec.getLsbD i <;> simp
  unfold nf_M
  omega
/-! ===== a byte read unsigned ===== -/
theorem bp_b (x : Int32) : x.toInt8.toInt32 &&& 255 = x &&& 255 := by
  apply Int32.toBitVec_inj.mp
  rw [Int32.toBitVec_and, Int32.toBitVec_and, Int8.toBitVec_toInt32, Int32.toBitVec_toInt8]
  apply BitVec.eq_of_getLsbD_eq
  intro i hi
  rw [BitVec.getLsbD_and, BitVec.getLsbD_and]
  have hm : ∀ i < 32, 8 ≤ i → (255 : Int32).toBitVec.getLsbD i = false := by decide
  rcases Nat.lt_or_ge i 8 with z | z
  · rw [BitVec.getLsbD_signExtend, BitVec.getLsbD_signExtend, if_pos z, if_pos hi]
    simp only [z, hi, decide_true, Bool.true_and]
  · rw [hm i hi z]; simp
/-! ===== the char cast and 65535 ===== -/
theorem ts_nf {x : Bool} (h : ¬ x = false) : x = true := by cases x <;> first | rfl | exact absurd rfl h
theorem ts_nt {x : Bool} (h : ¬ x = true) : x = false := by cases x <;> first | rfl | exact absurd rfl h
theorem ts_bit {w : Int64} {s : UInt64} {j : Nat} (hj : j < 64) (hs : s.toNat = j) : ((w.toUInt64 >>> s).toInt64 &&& 1) = 0 ↔ w.toBitVec.getLsbD j = false := by
  have e : (w.toUInt64 >>> s).toInt64.toBitVec = w.toBitVec >>> j := by
    apply BitVec.eq_of_toNat_eq
    show (w.toUInt64 >>> s).toNat = _
    rw [UInt64.toNat_shiftRight, hs, Nat.mod_eq_of_lt hj, BitVec.toNat_ushiftRight]
    rfl
  rw [← Int64.toBitVec_inj, Int64.toBitVec_and, e]
  show w.toBitVec >>> j &&& 1#64 = 0#64 ↔ _
  constructor
  · intro h
    have t := congrArg (fun x => x.getLsbD 0) h
    simpa using t
  · intro h
    apply BitVec.eq_of_getLsbD_eq
    intro i hi
    cases i with
    | zero => simp [h]
    | succ i => simp
theorem ts_or {w m : Int64} {j : Nat} (hj : j < 64) (hm : m.toBitVec = BitVec.twoPow 64 j) : (w ||| m) = w ↔ w.toBitVec.getLsbD j = true := by
  rw [← Int64.toBitVec_inj, Int64.toBitVec_or, hm]
  constructor
  · intro h
    have t := congrArg (fun x => x.getLsbD j) h
    simp only [BitVec.getLsbD_or, BitVec.getLsbD_twoPow] at t
    simpa [hj] using t.symm
  · intro h
    apply BitVec.eq_of_getLsbD_eq
    intro i hi
    rw [BitVec.getLsbD_or, BitVec.getLsbD_twoPow]
    by_cases e : j = i
    · subst e; rw [h, Bool.true_or]
    · simp [e]
theorem ts_and {w m : Int64} {j : Nat} (hj : j < 64) (hm : m.toBitVec = BitVec.twoPow 64 j) : (w &&& (m ^^^ (-1))) = w ↔ w.toBitVec.getLsbD j = false := by
  have ha : (-1 : Int64).toBitVec = BitVec.allOnes 64 := by decide
  rw [← Int64.toBitVec_inj, Int64.toBitVec_and, Int64.toBitVec_xor, hm, ha]
  constructor
  · intro h
    have t := congrArg (fun x => x.getLsbD j) h
    simp only [BitVec.getLsbD_and, BitVec.getLsbD_xor, BitVec.getLsbD_twoPow, BitVec.getLsbD_allOnes] at t
    simpa [hj] using t.symm
  · intro h
    apply BitVec.eq_of_getLsbD_eq
    intro i hi
    rw [BitVec.getLsbD_and, BitVec.getLsbD_xor, BitVec.getLsbD_twoPow, BitVec.getLsbD_allOnes]
    by_cases e : j = i
    · subst e; rw [h, Bool.false_and]
    · simp [e, hi]
/-! ===== lN n to 2^64: shifts, and, or, masks, one bit ===== -/
theorem wb_tb (n : Nat) : (lN n).toBitVec = BitVec.ofNat 64 n := rfl
theorem wb_inj {a b : Int64} (h : a.toBitVec = b.toBitVec) : a = b := Int64.toBitVec_inj.mp h
theorem wb_tn {n : Nat} (h : n < 2 ^ 64) : (lN n).toBitVec.toNat = n := by rw [wb_tb, BitVec.toNat_ofNat, Nat.mod_eq_of_lt h]
theorem wb_of (x : Int64) : ∃ n, n < 2 ^ 64 ∧ x = lN n := ⟨x.toBitVec.toNat, x.toBitVec.isLt, wb_inj (by rw [wb_tb]; simp)⟩
theorem wb_of32 (x : Int32) : ∃ n, n < 2 ^ 32 ∧ x = nI n := ⟨x.toBitVec.toNat, x.toBitVec.isLt, Int32.toBitVec_inj.mp (by show _ = BitVec.ofNat 32 _; simp)⟩
theorem wb_c : ∀ k, k < 64 → ((nI k).toInt64 &&& 63) = lN k := by decide +kernel
theorem wb_cu : ∀ k, k < 64 → ((nI k).toInt64.toUInt64 &&& Int64.toUInt64 63) = UInt64.ofNat k := by decide +kernel
theorem wb_sm : ∀ k, k < 64 → (BitVec.ofNat 64 k).smod 64 = BitVec.ofNat 64 k := by decide +kernel
theorem wb_pw {a b : Nat} (h : a ≤ b) : 2 ^ b = 2 ^ a * 2 ^ (b - a) := by rw [← Nat.pow_add]; congr 1; omega
theorem wb_lt2 {a b : Nat} (h : a < b) : 2 ^ a < 2 ^ b := Nat.pow_lt_pow_right (by decide) h
theorem wb_mod (n : Nat) : lN n = lN (n % 2 ^ 64) := wb_inj (by rw [wb_tb, wb_tb]; apply BitVec.eq_of_toNat_eq; rw [BitVec.toNat_ofNat, BitVec.toNat_ofNat, Nat.mod_mod])
theorem wb_shr {n k : Nat} (hn : n < 2 ^ 64) (hk : k < 64) : ((lN n).toUInt64 >>> ((nI k).toInt64.toUInt64 &&& Int64.toUInt64 63)).toInt64 = lN (n / 2 ^ k) := by
  rw [wb_cu k hk]
  apply wb_inj
  apply BitVec.eq_of_toNat_eq
  show ((lN n).toUInt64 >>> UInt64.ofNat k).toNat = (BitVec.ofNat 64 _).toNat
  have h1 : (UInt64.ofNat k).toNat = k := by
    show (BitVec.ofNat 64 k).toNat = k
    rw [BitVec.toNat_ofNat, Nat.mod_eq_of_lt (by omega)]
  have h2 : (lN n).toUInt64.toNat = n := wb_tn hn
  rw [UInt64.toNat_shiftRight, h1, h2, Nat.mod_eq_of_lt hk, Nat.shiftRight_eq_div_pow, BitVec.toNat_ofNat, Nat.mod_eq_of_lt (Nat.lt_of_le_of_lt (Nat.div_le_self _ _) hn)]
theorem wb_shl (n : Nat) {k : Nat} (hk : k < 64) : lN n <<< ((nI k).toInt64 &&& 63) = lN (n * 2 ^ k) := by
  rw [wb_c k hk]
  apply wb_inj
  rw [Int64.toBitVec_shiftLeft, wb_tb, wb_tb, wb_tb, wb_sm k hk]
  apply BitVec.eq_of_toNat_eq
  rw [BitVec.shiftLeft_eq', BitVec.toNat_shiftLeft, BitVec.toNat_ofNat, BitVec.toNat_ofNat, BitVec.toNat_ofNat, Nat.mod_eq_of_lt (show k < 2 ^ 64 by omega), Nat.shiftLeft_eq, Nat.mul_mod, Nat.mod_mod, ← Nat.mul_mod]
theorem wb_and {a b : Nat} (ha : a < 2 ^ 64) (hb : b < 2 ^ 64) : lN a &&& lN b = lN (a &&& b) := by
  apply wb_inj
  rw [Int64.toBitVec_and, wb_tb, wb_tb, wb_tb]
  apply BitVec.eq_of_toNat_eq
  rw [BitVec.toNat_and, BitVec.toNat_ofNat, BitVec.toNat_ofNat, BitVec.toNat_ofNat, Nat.mod_eq_of_lt ha, Nat.mod_eq_of_lt hb, Nat.mod_eq_of_lt (Nat.and_lt_two_pow _ hb)]
theorem wb_or {a b : Nat} (ha : a < 2 ^ 64) (hb : b < 2 ^ 64) : lN a ||| lN b = lN (a ||| b) := by
  apply wb_inj
  rw [Int64.toBitVec_or, wb_tb, wb_tb, wb_tb]
  apply BitVec.eq_of_toNat_eq
  rw [BitVec.toNat_or, BitVec.toNat_ofNat, BitVec.toNat_ofNat, BitVec.toNat_ofNat, Nat.mod_eq_of_lt ha, Nat.mod_eq_of_lt hb, Nat.mod_eq_of_lt (Nat.or_lt_two_pow ha hb)]
theorem wb_mask {n k : Nat} (hn : n < 2 ^ 64) (hk : k < 64) : lN n &&& lN (2 ^ k - 1) = lN (n % 2 ^ k) := by
  rw [wb_and hn (by have := wb_lt2 hk; omega), Nat.and_two_pow_sub_one_eq_mod]
theorem wb_a1 {n : Nat} (hn : n < 2 ^ 64) : lN n &&& 1 = lN (n % 2) := wb_mask (k := 1) hn (by decide)
theorem wb_bit {n k : Nat} (hn : n < 2 ^ 64) (hk : k < 64) : ((lN n).toUInt64 >>> ((nI k).toInt64.toUInt64 &&& Int64.toUInt64 63)).toInt64 &&& 1 = lN (n / 2 ^ k % 2) := by
  rw [wb_shr hn hk, wb_a1 (Nat.lt_of_le_of_lt (Nat.div_le_self _ _) hn)]
theorem wb_xor {q k : Nat} (hk : k < 63) (h : 2 ^ k ≤ q) (h2 : q < 2 ^ (k + 1)) : lN q ^^^ lN (2 ^ k) = lN (q - 2 ^ k) := by
  obtain ⟨r, rfl⟩ : ∃ r, q = 2 ^ k + r := ⟨q - 2 ^ k, by omega⟩
  have hr : r < 2 ^ k := by rw [Nat.pow_succ] at h2; omega
  have hx : (2 ^ k + r) ^^^ 2 ^ k = r := by
    apply Nat.eq_of_testBit_eq
    intro i
    rw [Nat.testBit_xor, Nat.testBit_two_pow]
    rcases Nat.lt_trichotomy i k with h | h | h
    · rw [Nat.testBit_two_pow_add_gt h]
      simp [show ¬ k = i by omega]
    · subst h
      rw [Nat.testBit_two_pow_add_eq]
      simp
    · have a1 : 2 ^ (k + 1) ≤ 2 ^ i := Nat.pow_le_pow_right (by decide) h
      rw [Nat.testBit_lt_two_pow (show 2 ^ k + r < 2 ^ i by omega), Nat.testBit_lt_two_pow (show r < 2 ^ i by omega)]
      simp [show ¬ k = i by omega]
  have b1 := wb_lt2 (show k + 1 < 64 by omega)
  have b2 := wb_lt2 (show k < 64 by omega)
  apply wb_inj
  rw [Int64.toBitVec_xor, wb_tb, wb_tb, wb_tb]
  apply BitVec.eq_of_toNat_eq
  rw [BitVec.toNat_xor, BitVec.toNat_ofNat, BitVec.toNat_ofNat, BitVec.toNat_ofNat, Nat.mod_eq_of_lt (by omega : 2 ^ k + r < 2 ^ 64), Nat.mod_eq_of_lt b2, hx, Nat.add_sub_cancel_left, Nat.mod_eq_of_lt (by omega)]
/-! ===== lN: masks, 'or' of parts that don't overlap is a sum ===== -/
theorem u_tn {n : Nat} (h : n < 2 ^ 64) : (UInt64.ofNat n).toNat = n := Nat.mod_eq_of_lt h
theorem g_and {a b c : Nat} (ha : a < 2 ^ 64) (hb : b < 2 ^ 64) (hc : a &&& b = c) : lN a &&& lN b = lN c := by
  subst hc
  have h : UInt64.ofNat a &&& UInt64.ofNat b = UInt64.ofNat (a &&& b) := UInt64.toNat_inj.mp (by rw [UInt64.toNat_and, u_tn ha, u_tn hb, u_tn (Nat.and_lt_two_pow a hb)])
  have h2 := congrArg UInt64.toInt64 h
  exact h2
theorem g_and1 {a : Nat} (ha : a < 2 ^ 64) : lN a &&& 1 = lN (a % 2) := g_and (b := 1) ha (by decide) (Nat.and_two_pow_sub_one_eq_mod a 1)
theorem g_mask {a s p : Nat} (hp : 2 ^ s = p) (hs : s < 64) (ha : a < 2 ^ 64) : lN a &&& lN (p - 1) = lN (a % p) := by
  subst hp
  have := Nat.pow_lt_pow_right (show 1 < 2 by decide) hs
  exact g_and ha (by omega) (Nat.and_two_pow_sub_one_eq_mod a s)
theorem g_or {k p a b : Nat} (hp : 2 ^ k = p) (ha : a < p) (h : b * p + a < 2 ^ 64) : lN (b * p) ||| lN a = lN (b * p + a) := by
  subst hp
  have h1 : b * 2 ^ k ||| a = b * 2 ^ k + a := by rw [← Nat.shiftLeft_eq, Nat.shiftLeft_add_eq_or_of_lt ha]
  have h3 : UInt64.ofNat (b * 2 ^ k) ||| UInt64.ofNat a = UInt64.ofNat (b * 2 ^ k + a) := UInt64.toNat_inj.mp (by rw [UInt64.toNat_or, u_tn (by omega), u_tn (by omega), u_tn h, h1])
  have h2 := congrArg UInt64.toInt64 h3
  exact h2
theorem g_or' {k p a b : Nat} (hp : 2 ^ k = p) (ha : a < p) (h : a + b * p < 2 ^ 64) : lN a ||| lN (b * p) = lN (a + b * p) := by
  rw [Int64.or_comm, g_or hp ha (by omega), Nat.add_comm]
theorem g_ushr {a k p : Nat} {y : UInt64} (hy : y = UInt64.ofNat k) (hk : k < 64) (hp : 2 ^ k = p) (ha : a < 2 ^ 64) : ((lN a).toUInt64 >>> y).toInt64 = lN (a / p) := by
  subst hy hp
  have h : UInt64.ofNat a >>> UInt64.ofNat k = UInt64.ofNat (a / 2 ^ k) := UInt64.toNat_inj.mp (by rw [UInt64.toNat_shiftRight, u_tn ha, u_tn (by omega), u_tn (Nat.lt_of_le_of_lt (Nat.div_le_self _ _) ha), Nat.mod_eq_of_lt hk, Nat.shiftRight_eq_div_pow])
  have h2 := congrArg UInt64.toInt64 h
  exact h2
theorem g_shl {a k p : Nat} {y : Int64} (hy : y.toBitVec.smod 64 = BitVec.ofNat 64 k) (hk : k < 64) (hp : 2 ^ k = p) (ha : a < 2 ^ 64) : lN a <<< y = lN (a * p) := by
  subst hp
  apply Int64.toBitVec_inj.mp
  rw [Int64.toBitVec_shiftLeft, hy]
  apply BitVec.eq_of_toNat_eq
  have hb : (lN a).toBitVec.toNat = a := Nat.mod_eq_of_lt ha
  have hk' : (BitVec.ofNat 64 k).toNat = k := Nat.mod_eq_of_lt (by omega)
  have h : ((lN a).toBitVec <<< BitVec.ofNat 64 k).toNat = (a * 2 ^ k) % 2 ^ 64 := by simp only [BitVec.shiftLeft_eq', BitVec.toNat_shiftLeft, hb, hk', Nat.shiftLeft_eq]
  exact h
/-! ===== lN to 2^62 under >> and >>> ===== -/
theorem pf_lI {a : Nat} (h : a < 2 ^ 63) : (lN a).toInt = (a : Int) := lg_ofNat_toInt h
theorem pf_shr {a d : Nat} {D : Int64} (hD : (D.toBitVec.smod 64).toNat = d) (h : a < 2 ^ 62) : lN a >>> D = lN (a / 2 ^ d) := by
  have hd : a / 2 ^ d ≤ a := Nat.div_le_self _ _
  apply Int64.toInt_inj.mp
  have e : (lN a >>> D).toInt = (lN a).toInt >>> d := by
    rw [← hD]
    exact BitVec.toInt_sshiftRight ..
  rw [e, Int.shiftRight_eq_div_pow, pf_lI (by omega), pf_lI (by omega)]
  rfl
theorem pf_ushr {a d : Nat} {D : UInt64} (hD : D.toNat % 64 = d) (h : a < 2 ^ 62) : ((lN a).toUInt64 >>> D).toInt64 = lN (a / 2 ^ d) := by
  have hd : a / 2 ^ d ≤ a := Nat.div_le_self _ _
  have e : (lN a).toUInt64 >>> D = UInt64.ofNat (a / 2 ^ d) := UInt64.toNat_inj.mp (by
    rw [UInt64.toNat_shiftRight, hD, Nat.shiftRight_eq_div_pow, UInt64.toNat_ofNat']
    show (UInt64.ofNat a).toNat / 2 ^ d = _
    rw [UInt64.toNat_ofNat', Nat.mod_eq_of_lt (by omega), Nat.mod_eq_of_lt (by omega)])
  rw [e]
  rfl
theorem pf_andw (x : Int64) : ∃ m, m < 2 ^ 32 ∧ x &&& 4294967295 = lN m := ⟨x.toBitVec.toNat % 2 ^ 32, Nat.mod_lt _ (by decide), Int64.toBitVec_inj.mp (BitVec.eq_of_toNat_eq (by
  show (x.toBitVec &&& 4294967295#64).toNat = (BitVec.ofNat 64 (x.toBitVec.toNat % 2 ^ 32)).toNat
  rw [BitVec.toNat_and, show (4294967295#64).toNat = 2 ^ 32 - 1 from by decide, Nat.and_two_pow_sub_one_eq_mod, BitVec.toNat_ofNat]
  omega))⟩
/-! ===== Int64 as an unsigned number: uN x ===== -/
def uN (x : Int64) : Nat := x.toUInt64.toNat
theorem uN_lt (x : Int64) : uN x < 18446744073709551616 := x.toUInt64.toNat_lt
theorem uN_inj {x y : Int64} (h : uN x = uN y) : x = y := congrArg UInt64.toInt64 (UInt64.toNat_inj.mp h)
theorem uN_add (x y : Int64) : uN (x + y) = (uN x + uN y) % 18446744073709551616 := by
  show (x.toUInt64 + y.toUInt64).toNat = _
  exact UInt64.toNat_add _ _
theorem uN_mul (x y : Int64) : uN (x * y) = (uN x * uN y) % 18446744073709551616 := by
  show (x.toUInt64 * y.toUInt64).toNat = _
  exact UInt64.toNat_mul _ _
theorem uN_shl (x : Int64) : uN (x <<< ((1 : Int32).toInt64 &&& 63)) = (2 * uN x) % 18446744073709551616 := by
  have h : (((1 : Int32).toInt64 &&& 63).toBitVec.smod 64).toNat = 1 := by decide
  show (x.toBitVec <<< (((1 : Int32).toInt64 &&& 63).toBitVec.smod 64).toNat).toNat = _
  rw [h, BitVec.toNat_shiftLeft, Nat.shiftLeft_eq, Nat.mul_comm]
  rfl
theorem uN_shr (x : Int64) (s : UInt64) : uN (x.toUInt64 >>> s).toInt64 = uN x / 2 ^ (s.toNat % 64) := by
  show (x.toUInt64 >>> s).toNat = _
  rw [UInt64.toNat_shiftRight, Nat.shiftRight_eq_div_pow]
  rfl
theorem uN_s32 (x : Int64) : uN (x.toUInt64 >>> ((32 : Int32).toInt64.toUInt64 &&& Int64.toUInt64 63)).toInt64 = uN x / 4294967296 := by
  have h : ((32 : Int32).toInt64.toUInt64 &&& Int64.toUInt64 63).toNat % 64 = 32 := by decide
  rw [uN_shr, h]
theorem uN_s63 (x : Int64) : uN (x.toUInt64 >>> ((63 : Int32).toInt64.toUInt64 &&& Int64.toUInt64 63)).toInt64 = uN x / 9223372036854775808 := by
  have h : ((63 : Int32).toInt64.toUInt64 &&& Int64.toUInt64 63).toNat % 64 = 63 := by decide
  rw [uN_shr, h]
theorem uN_lo (x : Int64) : uN (x &&& 4294967295) = uN x % 4294967296 := by
  show (x.toUInt64 &&& Int64.toUInt64 4294967295).toNat = _
  rw [UInt64.toNat_and]
  exact Nat.and_two_pow_sub_one_eq_mod _ 32
theorem uN_bit (x : Int64) : (x &&& 1) = 0 ↔ uN x % 2 = 0 := by
  have h : uN (x &&& 1) = uN x % 2 := by
    show (x.toUInt64 &&& Int64.toUInt64 1).toNat = _
    rw [UInt64.toNat_and]
    exact Nat.and_two_pow_sub_one_eq_mod _ 1
  rw [← h]
  exact ⟨fun z => by rw [z]; rfl, fun z => uN_inj (z.trans rfl)⟩
theorem uN_or {x y : Int64} (hy : uN y < 2) : uN ((x <<< ((1 : Int32).toInt64 &&& 63)) ||| y) = (2 * uN x) % 18446744073709551616 + uN y := by
  have h1 : uN ((x <<< ((1 : Int32).toInt64 &&& 63)) ||| y) = uN (x <<< ((1 : Int32).toInt64 &&& 63)) ||| uN y := UInt64.toNat_or _ _
  have h2 : (2 * uN x) % 18446744073709551616 = 2 ^ 1 * (uN x % 9223372036854775808) := by omega
  rw [h1, uN_shl, h2]
  exact (Nat.two_pow_add_eq_or_of_lt (i := 1) hy _).symm
theorem nat_xor {a : Nat} (h : a < 18446744073709551616) : a ^^^ 2 ^ 63 = (a + 9223372036854775808) % 18446744073709551616 := by
  have h1 : (a ^^^ 2 ^ 63) % 2 ^ 63 = a % 2 ^ 63 := by rw [Nat.xor_mod_two_pow, Nat.mod_self, Nat.xor_zero]
  have h2 : (a ^^^ 2 ^ 63) / 2 ^ 63 = (a / 2 ^ 63) ^^^ 1 := by rw [Nat.xor_div_two_pow, Nat.div_self (Nat.two_pow_pos 63)]
  have h3 : a / 2 ^ 63 = 0 ∨ a / 2 ^ 63 = 1 := by omega
  generalize a ^^^ 2 ^ 63 = t at h1 h2
  rcases h3 with h3 | h3
  · rw [h3] at h2
    have h2 : t / 2 ^ 63 = 1 := h2
    omega
  · rw [h3] at h2
    have h2 : t / 2 ^ 63 = 0 := h2
    omega
theorem uN_xor (x : Int64) : uN (x ^^^ (-9223372036854775808)) = (uN x + 9223372036854775808) % 18446744073709551616 := by
  rw [← nat_xor (uN_lt x)]
  exact UInt64.toNat_xor _ _
theorem uN_int (x : Int64) : x.toInt = if 2 * uN x < 18446744073709551616 then (uN x : Int) else (uN x : Int) - 18446744073709551616 := BitVec.toInt_eq_toNat_cond _
theorem uN_le (x y : Int64) : (x ^^^ (-9223372036854775808)) ≤ (y ^^^ (-9223372036854775808)) ↔ uN x ≤ uN y := by
  have hx := uN_lt x
  have hy := uN_lt y
  rw [Int64.le_iff_toInt_le, uN_int, uN_int, uN_xor, uN_xor]
  omega
theorem uN_sk (x : Int64) {k : Nat} (hk : k < 64) : uN (x.toUInt64 >>> ((nI k).toInt64.toUInt64 &&& Int64.toUInt64 63)).toInt64 = uN x / 2 ^ k := by
  have h : ((nI k).toInt64.toUInt64 &&& Int64.toUInt64 63).toNat % 64 = k := by
    rw [nI_l (by omega), UInt64.toNat_and]
    have e : (lN k).toUInt64.toNat = k % 2 ^ 64 := rfl
    have e2 : (Int64.toUInt64 63).toNat = 2 ^ 6 - 1 := by decide
    rw [e, e2, Nat.and_two_pow_sub_one_eq_mod]
    omega
  rw [uN_shr, h]
/-! ===== unsigned comparison by xor with the least ===== -/
theorem lN_bv (n : Nat) : (lN n).toBitVec = BitVec.ofNat 64 n := rfl
theorem lN_nat {n : Nat} (h : n < 2 ^ 64) : (lN n).toBitVec.toNat = n := by rw [lN_bv, BitVec.toNat_ofNat]; exact Nat.mod_eq_of_lt h
theorem lN_xor (a b : Nat) : lN a ^^^ lN b = lN (a ^^^ b) := by
  apply Int64.toBitVec_inj.mp; rw [Int64.toBitVec_xor, lN_bv, lN_bv, lN_bv]; apply BitVec.eq_of_getLsbD_eq; intro i hi; simp [BitVec.getLsbD_ofNat, Nat.testBit_xor, hi]
theorem lN_ti {m : Nat} (h : m < 2 ^ 64) : (lN m).toInt = if m < 2 ^ 63 then (m : Int) else (m : Int) - 2 ^ 64 := by
  have c := BitVec.toInt_eq_toNat_cond (lN m).toBitVec
  rw [lN_nat h] at c
  show (lN m).toBitVec.toInt = _
  rw [c]
  split <;> split <;> omega
theorem xor63 {x : Nat} (h : x < 2 ^ 63) : x ^^^ 2 ^ 63 = 2 ^ 63 + x := by
  apply Nat.eq_of_testBit_eq
  intro i
  rw [Nat.testBit_xor, Nat.testBit_two_pow]
  rcases Nat.lt_trichotomy i 63 with z | z | z
  · rw [Nat.testBit_two_pow_add_gt z, decide_eq_false (by omega)]; simp
  · subst z; rw [Nat.testBit_two_pow_add_eq]; simp
  · have hp : 2 ^ 64 ≤ 2 ^ i := Nat.pow_le_pow_right (by decide) z
    rw [Nat.testBit_lt_two_pow (show x < 2 ^ i by omega), Nat.testBit_lt_two_pow (show 2 ^ 63 + x < 2 ^ i by omega), decide_eq_false (by omega)]; rfl
theorem xorS {a : Nat} (h : a < 2 ^ 64) : (lN a ^^^ (-9223372036854775808)).toInt = (a : Int) - 2 ^ 63 := by
  rw [show (-9223372036854775808 : Int64) = lN (2 ^ 63) from by decide +kernel, lN_xor]
  rcases Nat.lt_or_ge a (2 ^ 63) with z | z
  · rw [xor63 z, lN_ti (by omega), if_neg (by omega)]; omega
  · obtain ⟨x, rfl⟩ : ∃ x, a = 2 ^ 63 + x := ⟨a - 2 ^ 63, by omega⟩
    rw [← xor63 (by omega), Nat.xor_assoc, Nat.xor_self, Nat.xor_zero, lN_ti (by omega), if_pos (by omega), xor63 (by omega)]; omega
theorem ultL {a b : Nat} (ha : a < 2 ^ 64) (hb : b < 2 ^ 64) : ((lN b ^^^ (-9223372036854775808)) ≤ (lN a ^^^ (-9223372036854775808))) ↔ b ≤ a := by
  rw [Int64.le_iff_toInt_le, xorS ha, xorS hb]; omega
/-! ===== Int64 masks of n low bits ===== -/
theorem cr_bits (W U M : BitVec 64) : ((W &&& U) &&& (U &&& (M ^^^ BitVec.allOnes 64))) = 0#64 ↔ (W &&& U) &&& M = W &&& U := by
  constructor
  · intro h
    apply BitVec.eq_of_getLsbD_eq
    intro i hi
    have e := congrArg (fun x => BitVec.getLsbD x i) h
    simp only [BitVec.getLsbD_and, BitVec.getLsbD_xor, BitVec.getLsbD_allOnes, BitVec.getLsbD_zero, hi, decide_true] at e ⊢
    revert e
    cases W.getLsbD i <;> cases U.getLsbD i <;> cases M.getLsbD i <;> decide
  · intro h
    apply BitVec.eq_of_getLsbD_eq
    intro i hi
    have e := congrArg (fun x => BitVec.getLsbD x i) h
    simp only [BitVec.getLsbD_and, BitVec.getLsbD_xor, BitVec.getLsbD_allOnes, BitVec.getLsbD_zero, hi, decide_true] at e ⊢
    revert e
    cases W.getLsbD i <;> cases U.getLsbD i <;> cases M.getLsbD i <;> decide
theorem cr_mask (w U m : Int64) (n : Nat) (hm : m.toBitVec.toNat = 2 ^ n - 1) : ((w &&& U) &&& (U &&& (m ^^^ (-1)))) = 0 ↔ (w &&& U).toBitVec.toNat < 2 ^ n := by
  have e0 : (-1 : Int64).toBitVec = BitVec.allOnes 64 := by decide
  have z0 : (0 : Int64).toBitVec = 0#64 := by decide
  rw [← Int64.toBitVec_inj, z0, Int64.toBitVec_and, Int64.toBitVec_and, Int64.toBitVec_and, Int64.toBitVec_xor, e0, cr_bits]
  generalize w.toBitVec &&& U.toBitVec = T
  rw [← BitVec.toNat_inj, BitVec.toNat_and, hm, Nat.and_two_pow_sub_one_eq_mod]
  constructor
  · intro h
    have t := Nat.mod_lt T.toNat (Nat.two_pow_pos n)
    rw [h] at t
    exact t
  · exact Nat.mod_eq_of_lt
theorem cr_shr (t : Int64) (x : UInt64) (n : Nat) (hx : x.toNat % 64 = n) : (t.toUInt64 >>> x).toInt64 = 0 ↔ t.toBitVec.toNat < 2 ^ n := by
  rw [← Int64.toBitVec_inj, ← BitVec.toNat_inj]
  show (t.toUInt64 >>> x).toNat = 0 ↔ t.toUInt64.toNat < 2 ^ n
  rw [UInt64.toNat_shiftRight, hx, Nat.shiftRight_eq_div_pow]
  constructor
  · intro h
    have d : t.toUInt64.toNat / 2 ^ n < 1 := by
      rw [h]
      decide
    have e := (Nat.div_lt_iff_lt_mul (Nat.two_pow_pos n)).mp d
    rw [Nat.one_mul] at e
    exact e
  · exact Nat.div_eq_of_lt
theorem cr_amt (s : Int64) : ∃ n, n < 64 ∧ s &&& 63 = lN n ∧ (s.toUInt64 &&& Int64.toUInt64 63).toNat % 64 = n := by
  have e : (s.toUInt64 &&& Int64.toUInt64 63).toNat = s.toUInt64.toNat % 2 ^ 6 := by
    rw [UInt64.toNat_and, show (Int64.toUInt64 63).toNat = 2 ^ 6 - 1 from by decide, Nat.and_two_pow_sub_one_eq_mod]
  refine ⟨s.toUInt64.toNat % 2 ^ 6, by omega, ?_, by omega⟩
  rw [← Int64.toBitVec_inj, ← BitVec.toNat_inj]
  show (s.toUInt64 &&& Int64.toUInt64 63).toNat = (BitVec.ofNat 64 (s.toUInt64.toNat % 2 ^ 6)).toNat
  rw [e, BitVec.toNat_ofNat]
  omega
end
section
theorem li_0 : (0 : Int32) = nI 0 := rfl
theorem li_1 : (1 : Int32) = nI 1 := rfl
theorem li_2 : (2 : Int32) = nI 2 := rfl
theorem li_3 : (3 : Int32) = nI 3 := rfl
theorem li_4 : (4 : Int32) = nI 4 := rfl
theorem li_5 : (5 : Int32) = nI 5 := rfl
theorem li_6 : (6 : Int32) = nI 6 := rfl
theorem li_7 : (7 : Int32) = nI 7 := rfl
theorem li_8 : (8 : Int32) = nI 8 := rfl
theorem li_9 : (9 : Int32) = nI 9 := rfl
theorem li_10 : (10 : Int32) = nI 10 := rfl
theorem li_12 : (12 : Int32) = nI 12 := rfl
theorem li_15 : (15 : Int32) = nI 15 := rfl
theorem li_16 : (16 : Int32) = nI 16 := rfl
theorem li_18 : (18 : Int32) = nI 18 := rfl
theorem li_20 : (20 : Int32) = nI 20 := rfl
theorem li_24 : (24 : Int32) = nI 24 := rfl
theorem li_31 : (31 : Int32) = nI 31 := rfl
theorem li_32 : (32 : Int32) = nI 32 := rfl
theorem li_40 : (40 : Int32) = nI 40 := rfl
theorem li_48 : (48 : Int32) = nI 48 := rfl
theorem li_52 : (52 : Int32) = nI 52 := rfl
theorem li_56 : (56 : Int32) = nI 56 := rfl
theorem li_60 : (60 : Int32) = nI 60 := rfl
theorem li_64 : (64 : Int32) = nI 64 := rfl
theorem li_70 : (70 : Int32) = nI 70 := rfl
theorem li_97 : (97 : Int32) = nI 97 := rfl
theorem li_99 : (99 : Int32) = nI 99 := rfl
theorem li_100 : (100 : Int32) = nI 100 := rfl
theorem li_122 : (122 : Int32) = nI 122 := rfl
theorem li_127 : (127 : Int32) = nI 127 := rfl
theorem li_140 : (140 : Int32) = nI 140 := rfl
theorem li_144 : (144 : Int32) = nI 144 := rfl
theorem li_159 : (159 : Int32) = nI 159 := rfl
theorem li_160 : (160 : Int32) = nI 160 := rfl
theorem li_210 : (210 : Int32) = nI 210 := rfl
theorem li_255 : (255 : Int32) = nI 255 := rfl
theorem li_280 : (280 : Int32) = nI 280 := rfl
theorem li_350 : (350 : Int32) = nI 350 := rfl
theorem li_32767 : (32767 : Int32) = nI 32767 := rfl
theorem li_1000000 : (1000000 : Int32) = nI 1000000 := rfl
theorem jrem_nI {a b : Nat} (ha : a < 2 ^ 31) (h0 : 0 < b) (hb : b < 2 ^ 31) : jrem (nI a) (nI b) = nI (a % b) := pk_rem ha h0 hb
/-- -4, -1: what is not a nI -/
theorem nI_ti {n : Nat} (h : n < 2 ^ 31) : (nI n).toInt = (n : Int) := nI_toInt h
theorem ne_m4 {n : Nat} (h : n < 2 ^ 31) : ¬ nI n = -4 := fun e => by
  have h1 := congrArg Int32.toInt e
  rw [nI_toInt h, show ((-4 : Int32)).toInt = -4 from by decide] at h1
  omega
theorem ne_m1 {n : Nat} (h : n < 2 ^ 31) : ¬ nI n = -1 := fun e => by
  have h1 := congrArg Int32.toInt e
  rw [nI_toInt h, show ((-1 : Int32)).toInt = -1 from by decide] at h1
  omega
theorem i_lt {a b : Int32} : a < b ↔ a.toInt < b.toInt := fa_lt a b
theorem i_le {a b : Int32} : a ≤ b ↔ a.toInt ≤ b.toInt := fa_le a b
theorem i_eq {a b : Int32} : a = b ↔ a.toInt = b.toInt := fa_eq a b
theorem nb_0 : narrow .boolean (.int 0) = .int 0 := rfl
theorem nb_1 : narrow .boolean (.int 1) = .int 1 := rfl
/-- an int against a bound: a Nat below it, or not -/
theorem ix_or (x : Int32) (n : Nat) : (∃ j, j < n ∧ j < 2 ^ 31 ∧ x = nI j) ∨ ∀ j, j < n → j < 2 ^ 31 → x ≠ nI j := by
  by_cases h : ∃ j, j < n ∧ j < 2 ^ 31 ∧ x = nI j
  · exact Or.inl h
  · exact Or.inr (fun j h1 h2 e => h ⟨j, h1, h2, e⟩)
theorem ix_out {x : Int32} {n : Nat} (h : ∀ j, j < n → j < 2 ^ 31 → x ≠ nI j) (hn : n ≤ 2 ^ 31) : x.toInt < 0 ∨ (n : Int) ≤ x.toInt := by
  by_cases h0 : x < 0
  · left; exact i_lt.mp h0
  · obtain ⟨j, hj, rfl⟩ := nI_of h0
    right
    rw [nI_toInt hj]
    by_cases h1 : j < n
    · exact absurd rfl (h j h1 hj)
    · omega
theorem nI_inj {a b : Nat} (ha : a < 2 ^ 31) (hb : b < 2 ^ 31) (h : nI a = nI b) : a = b := (nI_eq ha hb).mp h
/-! loops: f k s for k = 0, 1 .. -/
def itr {σ : Type} (f : Nat → σ → σ) (s : σ) : Nat → σ
  | 0 => s
  | k + 1 => f k (itr f s k)
theorem itr_s {σ : Type} (f : Nat → σ → σ) (s : σ) (k : Nat) : itr f s (k + 1) = f k (itr f s k) := rfl
/-- sums, masks -/
def sumN (f : Nat → Nat) : Nat → Nat
  | 0 => 0
  | k + 1 => sumN f k + f k
theorem sumN_le {f : Nat → Nat} {c : Nat} : ∀ {n : Nat}, (∀ i, i < n → f i ≤ c) → sumN f n ≤ n * c := by
  intro n
  induction n with
  | zero => intro _; exact Nat.zero_le _
  | succ n ih =>
    intro h
    have h1 := ih (fun i hi => h i (by omega))
    have h2 := h n (by omega)
    show sumN f n + f n ≤ (n + 1) * c
    rw [Nat.succ_mul]
    omega
theorem sumN_cong {f g : Nat → Nat} : ∀ {n : Nat}, (∀ i, i < n → f i = g i) → sumN f n = sumN g n := by
  intro n
  induction n with
  | zero => intro _; rfl
  | succ n ih =>
    intro h
    show sumN f n + f n = sumN g n + g n
    rw [ih (fun i hi => h i (by omega)), h n (by omega)]
def maskN (p : Nat → Bool) (n : Nat) : Nat := sumN (fun k => if p k then 2 ^ k else 0) n
theorem maskN_lt (p : Nat → Bool) : ∀ n, maskN p n < 2 ^ n := by
  intro n
  induction n with
  | zero => exact Nat.one_pos
  | succ n ih =>
    show maskN p n + (if p n then 2 ^ n else 0) < 2 ^ (n + 1)
    have : 2 ^ (n + 1) = 2 ^ n + 2 ^ n := by omega
    split <;> omega
theorem maskN_bit (p : Nat → Bool) : ∀ n i, (maskN p n).testBit i = (decide (i < n) && p i) := by
  intro n
  induction n with
  | zero => intro i; simp [maskN, sumN]
  | succ n ih =>
    intro i
    have h0 := maskN_lt p n
    have e : maskN p (n + 1) = maskN p n + (if p n then 2 ^ n else 0) := rfl
    rw [e]
    by_cases hp : p n = true
    · rw [if_pos hp, Nat.add_comm]
      rcases Nat.lt_trichotomy i n with h | h | h
      · rw [Nat.testBit_two_pow_add_gt h, ih]
        simp [h, Nat.lt_succ_of_lt h]
      · subst h
        rw [Nat.testBit_two_pow_add_eq, ih]
        simp [hp]
      · have h1 : 2 ^ n + maskN p n < 2 ^ i := Nat.lt_of_lt_of_le (by have : 2 ^ (n + 1) = 2 ^ n + 2 ^ n := by omega
                                                                      omega : 2 ^ n + maskN p n < 2 ^ (n + 1)) (Nat.pow_le_pow_right (by decide) h)
        rw [Nat.testBit_lt_two_pow h1]
        simp; omega
    · rw [if_neg hp, Nat.add_zero, ih]
      by_cases h : i = n
      · subst h; simp [Bool.not_eq_true _ ▸ hp]
      · have : (i < n ↔ i < n + 1) := by omega
        simp [this]
theorem shl1 {k : Nat} (hk : k < 31) : (1 : Int32) <<< (nI k &&& 31) = nI (2 ^ k) := by
  have h := pk_shlN (n := 1) (nI k &&& 31) k (s_l k (by omega)) (by have := Nat.pow_lt_pow_right (a := 2) (by decide) (show k < 32 by omega); omega)
  rw [Nat.one_mul] at h
  exact h
theorem shr_n {a k : Nat} (ha : a < 2 ^ 31) (hk : k < 32) : nI a >>> (nI k &&& 31) = nI (a / 2 ^ k) := pk_shrN ha _ k (s_l k hk)
theorem mask_or {p : Nat → Bool} {n : Nat} (hn : n < 31) : nI (maskN p n) ||| nI (2 ^ n) = nI (maskN p n + 2 ^ n) := by
  have h := fa_or_sum (a := maskN p n) (k := n) 1 (maskN_lt p n)
  rw [Nat.mul_one] at h
  rw [Int32.or_comm, h, Nat.add_comm]
theorem and1 (n : Nat) : nI n &&& 1 = nI (n % 2) := fa_mask n 1
theorem bit_of {a k : Nat} (ha : a < 2 ^ 31) (hk : k < 32) : ((nI a >>> (nI k &&& 31)) &&& 1) = if a.testBit k then 1 else 0 := by
  rw [shr_n ha hk, and1, Nat.testBit_eq_decide_div_mod_eq]
  rcases Nat.mod_two_eq_zero_or_one (a / 2 ^ k) with h | h <;> rw [h] <;> rfl
theorem bit_t {a k : Nat} (ha : a < 2 ^ 31) (hk : k < 32) (h : a.testBit k = true) : ((nI a >>> (nI k &&& 31)) &&& 1) = 1 := by rw [bit_of ha hk, h]; rfl
theorem bit_f {a k : Nat} (ha : a < 2 ^ 31) (hk : k < 32) (h : a.testBit k = false) : ((nI a >>> (nI k &&& 31)) &&& 1) = 0 := by rw [bit_of ha hk, h]; rfl
theorem up_rd {d : DD} {b j a i : Nat} {x : Int32} : up d b j x a i = if a = b ∧ i = j then x else d a i := by
  by_cases h : a = b
  · subst h
    rw [up_at]
    by_cases h2 : i = j
    · subst h2; simp [upd]
    · simp [upd, h2]
  · rw [up_ne a h]; simp [h]
theorem up_s {d : DD} {b j : Nat} {x : Int32} : up d b j x b j = x := by rw [up_rd, if_pos ⟨rfl, rfl⟩]
theorem up_n {d : DD} {b j a i : Nat} {x : Int32} (h : ¬ (a = b ∧ i = j)) : up d b j x a i = d a i := by rw [up_rd, if_neg h]
end
section
/-! the house: 0 kind, 1 notes, 2 times, 3 start (by tune), 4 score (8 t + i), 5 skill, 6 breath, 7 pay, 8 at (by player), 9 bond (by prisoner), 10 how many tunes, players, prisoners -/
abbrev HH : Type := Nat → Nat → Nat
abbrev nT (H : HH) : Nat := H 10 0
abbrev nP (H : HH) : Nat := H 10 1
abbrev nB (H : HH) : Nat := H 10 2
def rowL (k n : Nat) : Nat := if k = 1 then n + (n + 1) / 2 else if k = 2 then 2 * n else n
def lenB (H : HH) (t k : Nat) : Nat := H 2 t * rowL k (H 1 t)
def lenO (H : HH) (t : Nat) : Nat := lenB H t (H 0 t)
/-- the note i of a row -/
def noteN (H : HH) (t k i : Nat) : Nat :=
  let w := H 4 (8 * t + (if i < H 1 t then i else if k = 2 then 2 * H 1 t - 1 - i else i - H 1 t))
  if k = 3 then w - 1 else w
/-- the note of a minute, -4: none -/
def noteB (H : HH) (t k m : Nat) : Int32 := if m < H 3 t ∨ lenB H t k ≤ m - H 3 t then -4 else nI (noteN H t k ((m - H 3 t) % rowL k (H 1 t)))
def OKt (H : HH) (t : Nat) : Prop := H 0 t ≤ 3 ∧ 1 ≤ H 1 t ∧ H 1 t ≤ 8 ∧ 1 ≤ H 2 t ∧ H 2 t ≤ 9 ∧ H 3 t ≤ 9 ∧ ∀ i, i < H 1 t → H 4 (8 * t + i) ≤ 9
def OKp (H : HH) (p : Nat) : Prop := H 5 p ≤ 9 ∧ 1 ≤ H 6 p ∧ H 6 p ≤ 99 ∧ H 7 p ≤ 9 ∧ H 8 p < nT H
def OKH (H : HH) : Prop := nT H ≤ 4 ∧ nP H ≤ 4 ∧ nB H ≤ 6 ∧ (∀ t, t < nT H → OKt H t) ∧ (∀ p, p < nP H → OKp H p) ∧ ∀ q, q < nB H → H 9 q < nT H
theorem OKH.t4 {H : HH} (ok : OKH H) : nT H ≤ 4 := ok.1
theorem OKH.p4 {H : HH} (ok : OKH H) : nP H ≤ 4 := ok.2.1
theorem OKH.b6 {H : HH} (ok : OKH H) : nB H ≤ 6 := ok.2.2.1
theorem OKH.tt {H : HH} (ok : OKH H) {t : Nat} (h : t < nT H) : OKt H t := ok.2.2.2.1 t h
theorem OKH.pp {H : HH} (ok : OKH H) {p : Nat} (h : p < nP H) : OKp H p := ok.2.2.2.2.1 p h
theorem OKH.bb {H : HH} (ok : OKH H) {q : Nat} (h : q < nB H) : H 9 q < nT H := ok.2.2.2.2.2 q h
theorem rowL_le {k n : Nat} (h : n ≤ 8) : rowL k n ≤ 16 := by unfold rowL; split; · omega
                                                              split <;> omega
theorem rowL_pos {k n : Nat} (h : 1 ≤ n) : 1 ≤ rowL k n := by unfold rowL; split; · omega
                                                              split <;> omega
theorem lenB_le {H : HH} {t k : Nat} (h : OKt H t) : lenB H t k ≤ 144 := by
  obtain ⟨h0, h1, h2, h3, h4, h5, h6⟩ := h
  have := rowL_le (k := k) h2
  calc lenB H t k ≤ 9 * 16 := Nat.mul_le_mul h4 this
    _ = 144 := rfl
theorem lenB_pos {H : HH} {t k : Nat} (h : OKt H t) : 1 ≤ lenB H t k := by
  obtain ⟨h0, h1, h2, h3, h4, h5, h6⟩ := h
  exact Nat.mul_pos h3 (rowL_pos h1)
/-- a place of a row is a place of the notes -/
theorem noteN_ix {H : HH} {t k i : Nat} (h : OKt H t) (hi : i < rowL k (H 1 t)) : (if i < H 1 t then i else if k = 2 then 2 * H 1 t - 1 - i else i - H 1 t) < H 1 t := by
  obtain ⟨h0, h1, h2, h3, h4, h5, h6⟩ := h
  unfold rowL at hi
  split
  · assumption
  · split at hi
    · rw [if_neg (by omega)]; omega
    · split at hi
      · rw [if_pos (by assumption)]; omega
      · omega
theorem noteN_le {H : HH} {t k i : Nat} (h : OKt H t) (hi : i < rowL k (H 1 t)) : noteN H t k i ≤ 9 := by
  have h1 := h.2.2.2.2.2.2 _ (noteN_ix (k := k) h hi)
  unfold noteN
  simp only
  split <;> omega
/-- the class's house at the cells b .. b + 10 -/
def XH (b : Nat) (d : DD) (H : HH) : Prop := d b 0 = nI (nT H) ∧ d b 1 = nI (nP H) ∧ d b 2 = nI (nB H) ∧
  (∀ t, t < nT H → d (b + 1) t = nI (H 0 t) ∧ d (b + 2) t = nI (H 1 t) ∧ d (b + 3) t = nI (H 2 t) ∧ d (b + 4) t = nI (H 3 t) ∧ ∀ i, i < H 1 t → d (b + 5) (8 * t + i) = nI (H 4 (8 * t + i))) ∧
  (∀ p, p < nP H → d (b + 6) p = nI (H 5 p) ∧ d (b + 7) p = nI (H 6 p) ∧ d (b + 8) p = nI (H 7 p) ∧ d (b + 9) p = nI (H 8 p)) ∧ ∀ q, q < nB H → d (b + 10) q = nI (H 9 q)
theorem XH.nt {b : Nat} {d : DD} {H : HH} (h : XH b d H) : d b 0 = nI (nT H) := h.1
theorem XH.np {b : Nat} {d : DD} {H : HH} (h : XH b d H) : d b 1 = nI (nP H) := h.2.1
theorem XH.nb {b : Nat} {d : DD} {H : HH} (h : XH b d H) : d b 2 = nI (nB H) := h.2.2.1
theorem XH.kind {b t : Nat} {d : DD} {H : HH} (h : XH b d H) (ht : t < nT H) : d (b + 1) t = nI (H 0 t) := (h.2.2.2.1 t ht).1
theorem XH.notes {b t : Nat} {d : DD} {H : HH} (h : XH b d H) (ht : t < nT H) : d (b + 2) t = nI (H 1 t) := (h.2.2.2.1 t ht).2.1
theorem XH.times {b t : Nat} {d : DD} {H : HH} (h : XH b d H) (ht : t < nT H) : d (b + 3) t = nI (H 2 t) := (h.2.2.2.1 t ht).2.2.1
theorem XH.start {b t : Nat} {d : DD} {H : HH} (h : XH b d H) (ht : t < nT H) : d (b + 4) t = nI (H 3 t) := (h.2.2.2.1 t ht).2.2.2.1
theorem XH.score {b t i : Nat} {d : DD} {H : HH} (h : XH b d H) (ht : t < nT H) (hi : i < H 1 t) : d (b + 5) (8 * t + i) = nI (H 4 (8 * t + i)) := (h.2.2.2.1 t ht).2.2.2.2 i hi
theorem XH.skill {b p : Nat} {d : DD} {H : HH} (h : XH b d H) (hp : p < nP H) : d (b + 6) p = nI (H 5 p) := (h.2.2.2.2.1 p hp).1
theorem XH.breath {b p : Nat} {d : DD} {H : HH} (h : XH b d H) (hp : p < nP H) : d (b + 7) p = nI (H 6 p) := (h.2.2.2.2.1 p hp).2.1
theorem XH.pay {b p : Nat} {d : DD} {H : HH} (h : XH b d H) (hp : p < nP H) : d (b + 8) p = nI (H 7 p) := (h.2.2.2.2.1 p hp).2.2.1
theorem XH.at {b p : Nat} {d : DD} {H : HH} (h : XH b d H) (hp : p < nP H) : d (b + 9) p = nI (H 8 p) := (h.2.2.2.2.1 p hp).2.2.2
theorem XH.bond {b q : Nat} {d : DD} {H : HH} (h : XH b d H) (hq : q < nB H) : d (b + 10) q = nI (H 9 q) := h.2.2.2.2.2 q hq
theorem XH.kept {b : Nat} {d d' : DD} {H : HH} (h : XH b d H) (e : ∀ a, b ≤ a → a ≤ b + 10 → d' a = d a) : XH b d' H := by
  have e0 := e b (by omega) (by omega)
  have e1 := fun j (hj : j ≤ 10) => e (b + j) (by omega) (by omega)
  unfold XH
  rw [e0, e1 1 (by omega), e1 2 (by omega), e1 3 (by omega), e1 4 (by omega), e1 5 (by omega), e1 6 (by omega), e1 7 (by omega), e1 8 (by omega), e1 9 (by omega), e1 10 (by omega)]
  exact h
/-- the reference's page from place o of row 1 on -/
def MH (o : Nat) (d : DD) (H : HH) : Prop := d 0 1 = nI (nT H) ∧ d 0 2 = nI (nP H) ∧ d 0 3 = nI (nB H) ∧
  (∀ t, t < nT H → d 1 (o + t) = nI (H 0 t) ∧ d 1 (o + (4 + t)) = nI (H 1 t) ∧ d 1 (o + (8 + t)) = nI (H 2 t) ∧ d 1 (o + (12 + t)) = nI (H 3 t) ∧ ∀ i, i < H 1 t → d 1 (o + (16 + (8 * t + i))) = nI (H 4 (8 * t + i))) ∧
  (∀ p, p < nP H → d 1 (o + (48 + p)) = nI (H 5 p) ∧ d 1 (o + (52 + p)) = nI (H 6 p) ∧ d 1 (o + (56 + p)) = nI (H 7 p) ∧ d 1 (o + (60 + p)) = nI (H 8 p)) ∧ ∀ q, q < nB H → d 1 (o + (64 + q)) = nI (H 9 q)
abbrev MH0 (d : DD) (H : HH) : Prop := MH 0 d H
theorem MH.nt {o : Nat} {d : DD} {H : HH} (h : MH o d H) : d 0 1 = nI (nT H) := h.1
theorem MH.np {o : Nat} {d : DD} {H : HH} (h : MH o d H) : d 0 2 = nI (nP H) := h.2.1
theorem MH.nb {o : Nat} {d : DD} {H : HH} (h : MH o d H) : d 0 3 = nI (nB H) := h.2.2.1
theorem MH.kind {t : Nat} {d : DD} {H : HH} (h : MH 0 d H) (ht : t < nT H) : d 1 t = nI (H 0 t) := by have := (h.2.2.2.1 t ht).1; rwa [Nat.zero_add] at this
theorem MH.notes {t : Nat} {d : DD} {H : HH} (h : MH 0 d H) (ht : t < nT H) : d 1 (4 + t) = nI (H 1 t) := by have := (h.2.2.2.1 t ht).2.1; rwa [Nat.zero_add] at this
theorem MH.times {t : Nat} {d : DD} {H : HH} (h : MH 0 d H) (ht : t < nT H) : d 1 (8 + t) = nI (H 2 t) := by have := (h.2.2.2.1 t ht).2.2.1; rwa [Nat.zero_add] at this
theorem MH.start {t : Nat} {d : DD} {H : HH} (h : MH 0 d H) (ht : t < nT H) : d 1 (12 + t) = nI (H 3 t) := by have := (h.2.2.2.1 t ht).2.2.2.1; rwa [Nat.zero_add] at this
theorem MH.score {t i : Nat} {d : DD} {H : HH} (h : MH 0 d H) (ht : t < nT H) (hi : i < H 1 t) : d 1 (16 + (8 * t + i)) = nI (H 4 (8 * t + i)) := by have := (h.2.2.2.1 t ht).2.2.2.2 i hi; rwa [Nat.zero_add] at this
theorem MH.skill {p : Nat} {d : DD} {H : HH} (h : MH 0 d H) (hp : p < nP H) : d 1 (48 + p) = nI (H 5 p) := by have := (h.2.2.2.2.1 p hp).1; rwa [Nat.zero_add] at this
theorem MH.breath {p : Nat} {d : DD} {H : HH} (h : MH 0 d H) (hp : p < nP H) : d 1 (52 + p) = nI (H 6 p) := by have := (h.2.2.2.2.1 p hp).2.1; rwa [Nat.zero_add] at this
theorem MH.pay {p : Nat} {d : DD} {H : HH} (h : MH 0 d H) (hp : p < nP H) : d 1 (56 + p) = nI (H 7 p) := by have := (h.2.2.2.2.1 p hp).2.2.1; rwa [Nat.zero_add] at this
theorem MH.at {p : Nat} {d : DD} {H : HH} (h : MH 0 d H) (hp : p < nP H) : d 1 (60 + p) = nI (H 8 p) := by have := (h.2.2.2.2.1 p hp).2.2.2; rwa [Nat.zero_add] at this
theorem MH.bond {q : Nat} {d : DD} {H : HH} (h : MH 0 d H) (hq : q < nB H) : d 1 (64 + q) = nI (H 9 q) := by have := h.2.2.2.2.2 q hq; rwa [Nat.zero_add] at this
theorem MH.kept {o : Nat} {d d' : DD} {H : HH} (h : MH o d H) (e1 : ∀ j, 1 ≤ j → j ≤ 3 → d' 0 j = d 0 j) (e : ∀ j, o ≤ j → j < o + 70 → d' 1 j = d 1 j) (ok : OKH H) : MH o d' H := by
  obtain ⟨a1, a2, a3, a4, a5, a6⟩ := h
  have o1 := ok.t4; have o2 := ok.p4; have o3 := ok.b6
  refine ⟨by rw [e1 1 (by omega) (by omega)]; exact a1, by rw [e1 2 (by omega) (by omega)]; exact a2, by rw [e1 3 (by omega) (by omega)]; exact a3, fun t ht => ?_, fun p hp => ?_, fun q hq => ?_⟩
  · obtain ⟨b1, b2, b3, b4, b5⟩ := a4 t ht
    have ho := (ok.tt ht).2.2.1
    exact ⟨by rw [e _ (by omega) (by omega)]; exact b1, by rw [e _ (by omega) (by omega)]; exact b2, by rw [e _ (by omega) (by omega)]; exact b3, by rw [e _ (by omega) (by omega)]; exact b4, fun i hi => by rw [e _ (by omega) (by omega)]; exact b5 i hi⟩
  · obtain ⟨b1, b2, b3, b4⟩ := a5 p hp
    exact ⟨by rw [e _ (by omega) (by omega)]; exact b1, by rw [e _ (by omega) (by omega)]; exact b2, by rw [e _ (by omega) (by omega)]; exact b3, by rw [e _ (by omega) (by omega)]; exact b4⟩
  · rw [e _ (by omega) (by omega)]; exact a6 q hq
end
section
/-! ===== bounds ===== -/
theorem X_within {q : Int32 → DD → Prop} {d : DD} {v lo hi : Int32} (h1 : lo ≤ v → v ≤ hi → q 1 d) (h0 : ¬ (lo ≤ v ∧ v ≤ hi) → q 0 d) : Cn SX MX4_within [.int v, .int lo, .int hi] d (rI q) := by
  refine cn_X4_within ⟨fun c => h0 (fun z => ?_), fun c => ⟨fun c2 => h0 (fun z => ?_), fun c2 => h1 ?_ ?_⟩⟩
  · have := i_lt.mp c; have := i_le.mp z.1; omega
  · have := i_lt.mp c2; have := i_le.mp z.2; omega
  · have := mt i_lt.mpr c; exact i_le.mpr (by omega)
  · have := mt i_lt.mpr c2; exact i_le.mpr (by omega)
/-- 0 .. n, by numbers -/
theorem X_win {q : Int32 → DD → Prop} {d : DD} {v : Int32} {n : Nat} (hn : n < 2 ^ 31) (h1 : ∀ j, j ≤ n → v = nI j → q 1 d) (h0 : (∀ j, j ≤ n → v ≠ nI j) → q 0 d) : Cn SX MX4_within [.int v, .int (nI 0), .int (nI n)] d (rI q) := by
  refine X_within (fun a b => ?_) (fun z => h0 (fun j hj e => z ?_))
  · obtain ⟨j, hj, rfl⟩ := nI_of (x := v) (fun c => by have := i_lt.mp c; have := i_le.mp a; rw [nI_toInt (by decide)] at this; rw [show ((0 : Int32)).toInt = 0 from rfl] at *; omega)
    exact h1 j ((nI_leI hj hn).mp b) rfl
  · subst e
    exact ⟨(nI_leI (by decide) (by omega)).mpr (Nat.zero_le _), (nI_leI (by omega) hn).mpr hj⟩
/-- 0 .. n - 1, by numbers; n may be 0 -/
theorem X_wil {q : Int32 → DD → Prop} {d : DD} {v : Int32} {n : Nat} (hn : n < 2 ^ 31) (h1 : ∀ j, j < n → v = nI j → q 1 d) (h0 : (∀ j, j < n → v ≠ nI j) → q 0 d) : Cn SX MX4_within [.int v, .int 0, .int (nI n - 1)] d (rI q) := by
  cases n with
  | zero =>
    refine X_within (fun a b => ?_) (fun _ => h0 (fun j hj => absurd hj (Nat.not_lt_zero j)))
    have := i_le.mp a; have := i_le.mp b
    rw [show (nI 0 - 1 : Int32).toInt = -1 from by decide] at this
    rw [show ((0 : Int32)).toInt = 0 from rfl] at *
    omega
  | succ n =>
    rw [nI_pred]
    exact X_win (by omega) (fun j hj e => h1 j (by omega) e) (fun z => h0 (fun j hj => z j (by omega)))
theorem X_hasTune {q : Int32 → DD → Prop} {d : DD} {b : Nat} {H : HH} {v : Int32} (Hb : isH b) (hX : XH b d H) (ok : OKH H) (h1 : ∀ j, j < nT H → v = nI j → q 1 d) (h0 : (∀ j, j < nT H → v ≠ nI j) → q 0 d) : Cn SX MX0_hasTune [.ref b, .int v] d (rI q) := by
  have := ok.t4
  refine cn_X0_hasTune Hb ?_
  rw [hX.nt]
  exact X_wil (by omega) (fun j hj e => ⟨nb_1, h1 j hj e⟩) (fun z => ⟨nb_0, h0 z⟩)
theorem X_hasPlayer {q : Int32 → DD → Prop} {d : DD} {b : Nat} {H : HH} {v : Int32} (Hb : isH b) (hX : XH b d H) (ok : OKH H) (h1 : ∀ j, j < nP H → v = nI j → q 1 d) (h0 : (∀ j, j < nP H → v ≠ nI j) → q 0 d) : Cn SX MX0_hasPlayer [.ref b, .int v] d (rI q) := by
  have := ok.p4
  refine cn_X0_hasPlayer Hb ?_
  rw [hX.np]
  exact X_wil (by omega) (fun j hj e => ⟨nb_1, h1 j hj e⟩) (fun z => ⟨nb_0, h0 z⟩)
theorem X_hasPrisoner {q : Int32 → DD → Prop} {d : DD} {b : Nat} {H : HH} {v : Int32} (Hb : isH b) (hX : XH b d H) (ok : OKH H) (h1 : ∀ j, j < nB H → v = nI j → q 1 d) (h0 : (∀ j, j < nB H → v ≠ nI j) → q 0 d) : Cn SX MX0_hasPrisoner [.ref b, .int v] d (rI q) := by
  have := ok.b6
  refine cn_X0_hasPrisoner Hb ?_
  rw [hX.nb]
  exact X_wil (by omega) (fun j hj e => ⟨nb_1, h1 j hj e⟩) (fun z => ⟨nb_0, h0 z⟩)
theorem X_hasNote {q : Int32 → DD → Prop} {d : DD} {b : Nat} {H : HH} {v w : Int32} (Hb : isH b) (hX : XH b d H) (ok : OKH H) (h1 : ∀ t i, t < nT H → i < H 1 t → v = nI t → w = nI i → q 1 d) (h0 : (∀ t i, t < nT H → i < H 1 t → v = nI t → w = nI i → False) → q 0 d) : Cn SX MX0_hasNote [.ref b, .int v, .int w] d (rI q) := by
  have o4 := ok.t4
  refine cn_X0_hasNote Hb ?_
  refine X_hasTune Hb hX ok (fun t ht e => ⟨fun c => absurd c (by decide), fun _ => ?_⟩) (fun z => ⟨fun _ => h0 (fun t i ht hi e1 _ => z t ht e1), fun c => absurd rfl c⟩)
  subst e
  have hn := (ok.tt ht).2.2.1
  refine ⟨vp_in_nI (by omega) (by omega), ?_⟩
  rw [nI_clamp (by omega), hX.notes ht]
  exact X_wil (by omega) (fun i hi e => ⟨fun c => absurd c (by decide), fun _ => h1 t i ht hi rfl e⟩) (fun z => ⟨fun _ => h0 (fun t' i ht' hi e1 e2 => by
    have := nI_inj (by omega) (by omega) e1
    subst this
    exact z i hi e2), fun c => absurd rfl c⟩)
/-! ===== the reference's bounds ===== -/
theorem lcmp_lt {x y : Int64} : lg_cmp x y < 0 ↔ x.toInt < y.toInt := by rw [lg_cmp_lt]; exact fa_lt64 x y
theorem lcmp_gt {x y : Int64} : 0 < lg_cmp x y ↔ y.toInt < x.toInt := by rw [lg_cmp_gt]; exact fa_lt64 y x
theorem M_inL {q : Int32 → DD → Prop} {d : DD} {v lo hi : Int64} (h1 : lo.toInt ≤ v.toInt → v.toInt ≤ hi.toInt → q 1 d) (h0 : ¬ (lo.toInt ≤ v.toInt ∧ v.toInt ≤ hi.toInt) → q 0 d) : Cn SM MX5_in [.long v, .long lo, .long hi] d (rI q) := by
  refine cn_X5_in ⟨fun c => h0 (fun z => ?_), fun c => ⟨fun c2 => h0 (fun z => ?_), fun c2 => h1 ?_ ?_⟩⟩
  · have := lcmp_lt.mp c; omega
  · have := lcmp_gt.mp c2; omega
  · have := mt lcmp_lt.mpr c; omega
  · have := mt lcmp_gt.mpr c2; omega
/-- 0 .. n, by numbers -/
theorem M_win {q : Int32 → DD → Prop} {d : DD} {v : Int32} {n : Nat} (hn : n < 2 ^ 31) (h1 : ∀ j, j ≤ n → v = nI j → q 1 d) (h0 : (∀ j, j ≤ n → v ≠ nI j) → q 0 d) : Cn SM MX5_in [.long v.toInt64, .long 0, .long (lN n)] d (rI q) := by
  refine M_inL (fun a b => ?_) (fun z => h0 (fun j hj e => z ?_))
  · rw [Int32.toInt_toInt64] at a b
    rw [lN_toInt hn] at b
    rw [show ((0 : Int64)).toInt = 0 from rfl] at a
    obtain ⟨j, hj, rfl⟩ := nI_of (x := v) (fun c => by have := i_lt.mp c; rw [show ((0 : Int32)).toInt = 0 from rfl] at this; omega)
    rw [nI_toInt hj] at b
    exact h1 j (by omega) rfl
  · subst e
    rw [Int32.toInt_toInt64, lN_toInt hn, nI_toInt (by omega), show ((0 : Int64)).toInt = 0 from rfl]
    omega
/-- 0 .. n - 1, by numbers; n may be 0 -/
theorem M_wil {q : Int32 → DD → Prop} {d : DD} {v : Int32} {n : Nat} (hn : n < 2 ^ 31) (h1 : ∀ j, j < n → v = nI j → q 1 d) (h0 : (∀ j, j < n → v ≠ nI j) → q 0 d) : Cn SM MX5_in [.long v.toInt64, .long 0, .long (nI n - 1).toInt64] d (rI q) := by
  cases n with
  | zero =>
    refine M_inL (fun a b => ?_) (fun _ => h0 (fun j hj => absurd hj (Nat.not_lt_zero j)))
    rw [show (nI 0 - 1 : Int32).toInt64.toInt = -1 from by decide] at b
    rw [show ((0 : Int64)).toInt = 0 from rfl] at a
    omega
  | succ n =>
    rw [nI_pred, nI_l (by omega)]
    exact M_win (by omega) (fun j hj e => h1 j (by omega) e) (fun z => h0 (fun j hj => z j (by omega)))
theorem M_isTune {q : Int32 → DD → Prop} {d : DD} {H : HH} {v : Int32} (hM : MH 0 d H) (ok : OKH H) (h1 : ∀ j, j < nT H → v = nI j → q 1 d) (h0 : (∀ j, j < nT H → v ≠ nI j) → q 0 d) : Cn SM MX5_isTune [.ref 0, .int v] d (rI q) := by
  have := ok.t4
  refine cn_X5_isTune ?_
  rw [hM.nt]
  exact M_wil (by omega) (fun j hj e => ⟨nb_1, h1 j hj e⟩) (fun z => ⟨nb_0, h0 z⟩)
theorem M_isPlayer {q : Int32 → DD → Prop} {d : DD} {H : HH} {v : Int32} (hM : MH 0 d H) (ok : OKH H) (h1 : ∀ j, j < nP H → v = nI j → q 1 d) (h0 : (∀ j, j < nP H → v ≠ nI j) → q 0 d) : Cn SM MX5_isPlayer [.ref 0, .int v] d (rI q) := by
  have := ok.p4
  refine cn_X5_isPlayer ?_
  rw [hM.np]
  exact M_wil (by omega) (fun j hj e => ⟨nb_1, h1 j hj e⟩) (fun z => ⟨nb_0, h0 z⟩)
theorem M_isBound {q : Int32 → DD → Prop} {d : DD} {H : HH} {v : Int32} (hM : MH 0 d H) (ok : OKH H) (h1 : ∀ j, j < nB H → v = nI j → q 1 d) (h0 : (∀ j, j < nB H → v ≠ nI j) → q 0 d) : Cn SM MX5_isBound [.ref 0, .int v] d (rI q) := by
  have := ok.b6
  refine cn_X5_isBound ?_
  rw [hM.nb]
  exact M_wil (by omega) (fun j hj e => ⟨nb_1, h1 j hj e⟩) (fun z => ⟨nb_0, h0 z⟩)
theorem M_isMinute {q : Int32 → DD → Prop} {d : DD} {v : Int32} (h1 : ∀ j, j < 160 → v = nI j → q 1 d) (h0 : (∀ j, j < 160 → v ≠ nI j) → q 0 d) : Cn SM MX5_isMinute [.int v] d (rI q) := by
  refine cn_X5_isMinute ?_
  exact M_win (n := 159) (by omega) (fun j hj e => ⟨nb_1, h1 j (by omega) e⟩) (fun z => ⟨nb_0, h0 (fun j hj => z j (by omega))⟩)
theorem M_isNote {q : Int32 → DD → Prop} {d : DD} {H : HH} {v w : Int32} (hM : MH 0 d H) (ok : OKH H) (h1 : ∀ t i, t < nT H → i < H 1 t → v = nI t → w = nI i → q 1 d) (h0 : (∀ t i, t < nT H → i < H 1 t → v = nI t → w = nI i → False) → q 0 d) : Cn SM MX5_isNote [.ref 0, .int v, .int w] d (rI q) := by
  have o4 := ok.t4
  refine cn_X5_isNote ?_
  refine M_isTune hM ok (fun t ht e => ⟨fun c => absurd c (by decide), fun _ => ?_⟩) (fun z => ⟨fun _ => h0 (fun t i ht hi e1 _ => z t ht e1), fun c => absurd rfl c⟩)
  subst e
  have hn := (ok.tt ht).2.2.1
  rw [show (4 : Int32) + nI t = nI (4 + t) from nI_add 4 t]
  refine ⟨vp_in_nI (by omega) (by omega), ?_⟩
  rw [nI_clamp (by omega), hM.notes ht]
  exact M_wil (by omega) (fun i hi e => ⟨fun c => absurd c (by decide), fun _ => h1 t i ht hi rfl e⟩) (fun z => ⟨fun _ => h0 (fun t' i ht' hi e1 e2 => by
    have := nI_inj (by omega) (by omega) e1
    subst this
    exact z i hi e2), fun c => absurd rfl c⟩)
/-! ===== rows, lengths, notes: the class ===== -/
theorem rowL_32 {k n : Nat} (hk : k ≤ 3) (hn : n ≤ 8) : (if nI k = 1 then nI n + (nI n + 1) / 2 else if nI k = 2 then 2 * nI n else nI n) = nI (rowL k n) := by
  unfold rowL
  by_cases h1 : k = 1
  · subst h1
    rw [if_pos (show nI 1 = (1 : Int32) from rfl), if_pos rfl, show nI n + 1 = nI (n + 1) from nI_1 n, li_2, pk_div (by omega) (by omega) (by omega), nI_add]
  · rw [if_neg (show ¬ nI k = (1 : Int32) from fun e => h1 (nI_inj (b := 1) (by omega) (by omega) e)), if_neg h1]
    by_cases h2 : k = 2
    · subst h2
      rw [if_pos (show nI 2 = (2 : Int32) from rfl), if_pos rfl, li_2, pk_mul]
    · rw [if_neg (show ¬ nI k = (2 : Int32) from fun e => h2 (nI_inj (b := 2) (by omega) (by omega) e)), if_neg h2]
theorem X_rowLength {q : Int32 → DD → Prop} {d : DD} {k n : Nat} (hk : k ≤ 3) (hn : n ≤ 8) (h : q (nI (rowL k n)) d) : Cn SX MX0_rowLength [.int (nI k), .int (nI n)] d (rI q) := by
  rw [← rowL_32 hk hn] at h
  refine cn_X0_rowLength ⟨fun c => by rwa [if_pos c] at h, fun c => ⟨fun c2 => by rwa [if_neg c, if_pos c2] at h, fun c2 => by rwa [if_neg c, if_neg c2] at h⟩⟩
theorem M_rowOf {q : Int32 → DD → Prop} {d : DD} {k n : Nat} (hk : k ≤ 3) (hn : n ≤ 8) (h : q (nI (rowL k n)) d) : Cn SM MX5_rowOf [.int (nI k), .int (nI n)] d (rI q) := by
  rw [← rowL_32 hk hn] at h
  refine cn_X5_rowOf ⟨fun c => ⟨fun c2 => by rwa [if_neg c, if_neg c2] at h, fun c2 => by rwa [if_neg c, if_pos c2] at h⟩, fun c => by rwa [if_pos c] at h⟩
theorem X_lengthAs {q : Int32 → DD → Prop} {d : DD} {b t k : Nat} {H : HH} (Hb : isH b) (hX : XH b d H) (ok : OKH H) (ht : t < nT H) (hk : k ≤ 3) (h : q (nI (lenB H t k)) d) : Cn SX MX0_lengthAs [.ref b, .int (nI t), .int (nI k)] d (rI q) := by
  have o4 := ok.t4
  have ot := ok.tt ht
  refine cn_X0_lengthAs Hb ⟨vp_in_nI (by omega) (by omega), vp_in_nI (by omega) (by omega), ?_⟩
  rw [nI_clamp (by omega), hX.notes ht]
  refine X_rowLength hk ot.2.2.1 ?_
  rw [hX.times ht, pk_mul]
  exact h
theorem M_lengthBy {q : Int32 → DD → Prop} {d : DD} {t k : Nat} {H : HH} (hM : MH 0 d H) (ok : OKH H) (ht : t < nT H) (hk : k ≤ 3) (h : q (nI (lenB H t k)) d) : Cn SM MX5_lengthBy [.ref 0, .int (nI t), .int (nI k)] d (rI q) := by
  have o4 := ok.t4
  have ot := ok.tt ht
  refine cn_X5_lengthBy ?_
  rw [show (8 : Int32) + nI t = nI (8 + t) from nI_add 8 t, show (4 : Int32) + nI t = nI (4 + t) from nI_add 4 t]
  refine ⟨vp_in_nI (by omega) (by omega), vp_in_nI (by omega) (by omega), ?_⟩
  rw [nI_clamp (by omega), hM.notes ht]
  refine M_rowOf hk ot.2.2.1 ?_
  rw [nI_clamp (by omega), hM.times ht, pk_mul]
  exact h
theorem M_lengthOf {q : Int32 → DD → Prop} {d : DD} {t : Nat} {H : HH} (hM : MH 0 d H) (ok : OKH H) (ht : t < nT H) (h : q (nI (lenO H t)) d) : Cn SM MX5_lengthOf [.ref 0, .int (nI t)] d (rI q) := by
  have o4 := ok.t4
  refine cn_X5_lengthOf ⟨vp_in_nI (by omega) (by omega), ?_⟩
  rw [nI_clamp (by omega), hM.kind ht]
  exact M_lengthBy hM ok ht (ok.tt ht).1 h
theorem noteN_p {H : HH} {t k i : Nat} (hk : k ≤ 3) : (if nI k = nI 3 then nI (H 4 (8 * t + (if i < H 1 t then i else if k = 2 then 2 * H 1 t - 1 - i else i - H 1 t)) - 1) else nI (H 4 (8 * t + (if i < H 1 t then i else if k = 2 then 2 * H 1 t - 1 - i else i - H 1 t)))) = nI (noteN H t k i) := by
  unfold noteN
  simp only
  by_cases h : k = 3
  · subst h; simp
  · rw [if_neg (fun e => h (nI_inj (by omega) (by omega) e)), if_neg h]
/-- the common end of rowNote: a place, a base -/
theorem X_rowNote_50 {q : Int32 → DD → Prop} {d : DD} {b t k i j : Nat} {H : HH} {l4 l5 : Int32} (Hb : isH b) (hX : XH b d H) (ok : OKH H) (ht : t < nT H) (hk : k ≤ 3) (hj : j < H 1 t) (e : j = (if i < H 1 t then i else if k = 2 then 2 * H 1 t - 1 - i else i - H 1 t)) (h : q (nI (noteN H t k i)) d) : Ev SX MX0_rowNote 50 [.ref b, .int (nI t), .int (nI k), .int (nI i), .int l4, .int l5, uJ] [.int (nI j), .int (nI t * 8), .ref (b + 5)] d (rI q) := by
  have o4 := ok.t4
  have ot := ok.tt ht
  have oj := ot.2.2.1
  refine bk_X0_rowNote_50 Hb ?_
  rw [show nI t * 8 + nI j = nI (8 * t + j) from by rw [li_8, pk_mul, nI_add, Nat.mul_comm]]
  refine ⟨vp_in_nI (by omega) (by omega), nm_e ?_⟩
  rw [nI_clamp (by omega), hX.score ht hj]
  have hn := noteN_p (H := H) (t := t) (i := i) hk
  rw [← e] at hn
  rw [← hn] at h
  refine ⟨fun c => by rwa [if_neg (show ¬ nI k = nI 3 from c)] at h, fun c => ?_⟩
  rw [if_pos (show nI k = nI 3 from c)] at h
  have hw := ot.2.2.2.2.2.2 j hj
  by_cases h0 : H 4 (8 * t + j) = 0
  · rw [h0] at h ⊢
    exact h
  · rw [li_1, pk_sub (by omega), if_neg]
    · exact h
    · exact nI_pos (by omega)
theorem X_rowNote {q : Int32 → DD → Prop} {d : DD} {b t k i : Nat} {H : HH} (Hb : isH b) (hX : XH b d H) (ok : OKH H) (ht : t < nT H) (hk : k ≤ 3) (hi : i < rowL k (H 1 t)) (h : q (nI (noteN H t k i)) d) : Cn SX MX0_rowNote [.ref b, .int (nI t), .int (nI k), .int (nI i)] d (rI q) := by
  have o4 := ok.t4
  have ot := ok.tt ht
  have hix := noteN_ix ot hi
  have o8 := ot.2.2.1
  have hr := rowL_le (k := k) o8
  refine cn_X0_rowNote Hb ⟨vp_in_nI (by omega) (by omega), nm_e ?_⟩
  rw [nI_clamp (by omega), hX.notes ht]
  refine ⟨fun c => ⟨fun c2 => ?_, fun c2 => ?_⟩, fun c => nm_e ⟨fun c2 => ?_, fun c2 => ?_⟩⟩
  · have c2 := (nI_leI (by omega) (by omega)).mp c2
    rw [if_neg (by omega), if_neg (fun e => c (by rw [e]; rfl))] at hix
    rw [pk_sub c2]
    exact X_rowNote_50 Hb hX ok ht hk hix (by rw [if_neg (by omega), if_neg (fun e => c (by rw [e]; rfl))]) h
  · have c2 := mt (nI_leI (by omega) (by omega)).mpr c2
    rw [if_pos (by omega)] at hix
    exact X_rowNote_50 Hb hX ok ht hk hix (by rw [if_pos (by omega)]) h
  · have c2 := (nI_leI (by omega) (by omega)).mp c2
    have hk2 : k = 2 := nI_inj (by omega) (by omega) c
    rw [if_neg (by omega), if_pos hk2] at hix
    have hr2 : rowL k (H 1 t) = 2 * H 1 t := by rw [hk2]; rfl
    rw [show (2 : Int32) * nI (H 1 t) - 1 - nI i = nI (2 * H 1 t - 1 - i) from by rw [li_2, li_1, pk_mul, pk_sub (by omega), pk_sub (by omega)]]
    exact X_rowNote_50 Hb hX ok ht hk hix (by rw [if_neg (by omega), if_pos hk2]) h
  · have c2 := mt (nI_leI (by omega) (by omega)).mpr c2
    rw [if_pos (by omega)] at hix
    exact X_rowNote_50 Hb hX ok ht hk hix (by rw [if_pos (by omega)]) h
/-- a minute of a tune, any int below 2 ^ 30 -/
theorem X_noteAs {q : Int32 → DD → Prop} {d : DD} {b t k m : Nat} {H : HH} (Hb : isH b) (hX : XH b d H) (ok : OKH H) (ht : t < nT H) (hk : k ≤ 3) (hm : m < 160) (h : q (noteB H t k m) d) : Cn SX MX0_noteAs [.ref b, .int (nI t), .int (nI k), .int (nI m)] d (rI q) := by
  have o4 := ok.t4
  have ot := ok.tt ht
  have hr := rowL_le (k := k) ot.2.2.1
  have hp := rowL_pos (k := k) ot.2.1
  have hl := lenB_le (k := k) ot
  have hs := ot.2.2.2.2.2.1
  refine cn_X0_noteAs Hb ⟨vp_in_nI (by omega) (by omega), ?_⟩
  rw [nI_clamp (by omega), hX.notes ht]
  refine X_rowLength hk ot.2.2.1 ⟨vp_in_nI (by omega) (by omega), nm_e ?_⟩
  rw [hX.start ht, hX.times ht, pk_mul, show H 2 t * rowL k (H 1 t) = lenB H t k from rfl]
  refine ⟨fun c => absurd ((nI_ltI (b := 1) (by omega) (by omega)).mp c) (by omega), fun _ => ?_⟩
  unfold noteB at h
  by_cases hms : m < H 3 t
  · rw [if_pos (Or.inl hms)] at h
    exact ⟨fun _ => h, fun c => absurd (pk_sneg (by omega) hms) c⟩
  · rw [pk_sub (by omega)]
    refine ⟨fun c => absurd c (nI_pos (by omega)), fun _ => ⟨vp_in_nI (by omega) (by omega), fun c => ?_, fun c => ?_⟩⟩
    · have c := (nI_ltI (by omega) (by omega)).mp c
      rw [if_neg (by omega)] at h
      refine ⟨nI_ne0 (by omega) (by omega), ?_⟩
      rw [jrem_nI (by omega) (by omega) (by omega)]
      exact X_rowNote Hb hX ok ht hk (Nat.mod_lt _ (by omega)) h
    · have c := mt (nI_ltI (by omega) (by omega)).mpr c
      rw [if_pos (by omega)] at h
      exact h
theorem M_noteBy_101 {q : Int32 → DD → Prop} {d : DD} {t k i j : Nat} {H : HH} {l3 l4 l5 l6 : Int32} (hM : MH 0 d H) (ok : OKH H) (ht : t < nT H) (hk : k ≤ 3) (hj : j < H 1 t) (e : j = (if i < H 1 t then i else if k = 2 then 2 * H 1 t - 1 - i else i - H 1 t)) (h : q (nI (noteN H t k i)) d) : Ev SM MX5_noteBy 101 [.ref 0, .int (nI t), .int (nI k), .int l3, .int l4, .int l5, .int l6, uJ] [.int (nI j), .int (16 + (8 * nI t)), .ref 1] d (rI q) := by
  have o4 := ok.t4
  have ot := ok.tt ht
  have oj := ot.2.2.1
  refine bk_X5_noteBy_101 ?_
  rw [show 16 + (8 * nI t) + nI j = nI (16 + (8 * t + j)) from by rw [li_8, li_16, pk_mul, nI_add, nI_add, Nat.add_assoc]]
  refine ⟨vp_in_nI (by omega) (by omega), nm_e ?_⟩
  rw [nI_clamp (by omega), hM.score ht hj]
  have hn := noteN_p (H := H) (t := t) (i := i) hk
  rw [← e] at hn
  rw [← hn] at h
  refine ⟨fun c => by rwa [if_neg (show ¬ nI k = nI 3 from c)] at h, fun c => ?_⟩
  rw [if_pos (show nI k = nI 3 from c)] at h
  have hw := ot.2.2.2.2.2.2 j hj
  refine ⟨fun c => ?_, fun c => ?_⟩
  · have c := (nI_leI (b := 0) (by omega) (by omega)).mp c
    rw [show H 4 (8 * t + j) - 1 = H 4 (8 * t + j) from by omega] at h
    exact h
  · have c := mt (nI_leI (b := 0) (by omega) (by omega)).mpr c
    rw [li_1, pk_sub (by omega)]
    exact h
theorem M_noteBy {q : Int32 → DD → Prop} {d : DD} {t k m : Nat} {H : HH} (hM : MH 0 d H) (ok : OKH H) (ht : t < nT H) (hk : k ≤ 3) (hm : m < 160) (h : q (noteB H t k m) d) : Cn SM MX5_noteBy [.ref 0, .int (nI t), .int (nI k), .int (nI m)] d (rI q) := by
  have o4 := ok.t4
  have ot := ok.tt ht
  have hr := rowL_le (k := k) ot.2.2.1
  have hp := rowL_pos (k := k) ot.2.1
  have hl := lenB_le (k := k) ot
  have hl0 := lenB_pos (k := k) ot
  have o8 := ot.2.2.1
  have hs := ot.2.2.2.2.2.1
  refine cn_X5_noteBy ?_
  rw [show (12 : Int32) + nI t = nI (12 + t) from nI_add 12 t, show (4 : Int32) + nI t = nI (4 + t) from nI_add 4 t]
  refine ⟨vp_in_nI (by omega) (by omega), nm_e ?_⟩
  rw [nI_clamp (by omega), hM.start ht]
  refine M_lengthBy hM ok ht hk ?_
  unfold noteB at h
  refine M_wil (by omega) (fun j hj e => ⟨fun _ => ?_, fun c => absurd c (by decide)⟩) (fun z => ⟨fun c => absurd rfl c, fun _ => ?_⟩)
  · have hge : H 3 t ≤ m := by
      rcases Nat.lt_or_ge m (H 3 t) with c | c
      · have h1 := congrArg Int32.toInt e
        rw [pk_sub_toInt (by omega) (by omega), nI_toInt (by omega)] at h1
        omega
      · exact c
    rw [pk_sub hge] at e
    have e := nI_inj (by omega) (by omega) e
    rw [if_neg (by omega)] at h
    refine ⟨vp_in_nI (by omega) (by omega), nm_e ?_⟩
    rw [nI_clamp (by omega), hM.notes ht]
    refine M_rowOf hk ot.2.2.1 ⟨nI_ne0 (by omega) (by omega), ?_⟩
    rw [pk_sub hge, jrem_nI (by omega) (by omega) (by omega)]
    have hi := Nat.mod_lt (m - H 3 t) (show rowL k (H 1 t) > 0 by omega)
    have hix := noteN_ix ot hi
    refine ⟨fun c2 => ⟨fun c => ?_, fun c => ?_⟩, fun c2 => ?_⟩
    · have c2 := (nI_leI (by omega) (by omega)).mp c2
      have hk2 : rowL k (H 1 t) ≤ 2 * H 1 t := by unfold rowL; split
                                                  · omega
                                                  · split <;> omega
      by_cases k2 : k = 2
      · rw [if_neg (by omega), if_pos k2] at hix
        rw [show (2 : Int32) * nI (H 1 t) - 1 - nI ((m - H 3 t) % rowL k (H 1 t)) = nI (2 * H 1 t - 1 - (m - H 3 t) % rowL k (H 1 t)) from by rw [li_2, li_1, pk_mul, pk_sub (by omega), pk_sub (by omega)]]
        exact M_noteBy_101 hM ok ht hk hix (by rw [if_neg (by omega), if_pos k2]) h
      · exfalso
        unfold rowL at hi c2
        have k1 : ¬ k = 1 := fun e => c (by rw [e]; rfl)
        rw [if_neg k1, if_neg k2] at hi c2
        omega
    · have c2 := (nI_leI (by omega) (by omega)).mp c2
      have k1 : k = 1 := nI_inj (by omega) (by omega) c
      rw [if_neg (by omega), if_neg (by omega)] at hix
      rw [pk_sub c2]
      exact M_noteBy_101 hM ok ht hk hix (by rw [if_neg (by omega), if_neg (by omega)]) h
    · have c2 := mt (nI_leI (by omega) (by omega)).mpr c2
      rw [if_pos (by omega)] at hix
      exact M_noteBy_101 hM ok ht hk hix (by rw [if_pos (by omega)]) h
  · rw [if_pos] at h
    · exact h
    · rcases Nat.lt_or_ge m (H 3 t) with c | c
      · exact Or.inl c
      · right
        rcases Nat.lt_or_ge (m - H 3 t) (lenB H t k) with c2 | c2
        · exact absurd (pk_sub c) (z _ c2)
        · exact c2
end
section
theorem for_up {W I : Nat → DD → Prop} (N : Nat) (hx : ∀ d, I N d → W N d) (hs : ∀ k d, k < N → I k d → (∀ d', I (k + 1) d' → W (k + 1) d') → W k d) : ∀ k d, k ≤ N → I k d → W k d := by
  have key : ∀ n k d, k + n = N → I k d → W k d := by
    intro n
    induction n with
    | zero => intro k d e h; have : k = N := by omega
              subst this; exact hx d h
    | succ n ih => intro k d e h; exact hs k d (by omega) h (fun d' h' => ih (k + 1) d' (by omega) h')
  intro k d hk h
  exact key (N - k) k d (by omega) h
/-! ===== a playing, as numbers: 0 over (0 not yet, else the minute and 1), 1 why, 2 sounded, 3 breath left, 4 played, 5 heard (0 none, else the note and 1) ===== -/
abbrev PL : Type := Nat → Nat → Nat
def pu (P : PL) (f i v : Nat) : PL := fun g j => if g = f ∧ j = i then v else P g j
theorem pu_rd {P : PL} {f i v g j : Nat} : pu P f i v g j = if g = f ∧ j = i then v else P g j := rfl
theorem pu_s {P : PL} {f i v : Nat} : pu P f i v f i = v := by simp [pu]
theorem pu_n {P : PL} {f i v g j : Nat} (h : ¬ (g = f ∧ j = i)) : pu P f i v g j = P g j := if_neg h
def playerS (H : HH) (P : PL) (t : Nat) : Nat := fa_first (fun p => decide (H 8 p = t ∧ 0 < P 3 p)) (nP H)
def finS (P : PL) (t m w : Nat) : PL := pu (pu P 0 t (m + 1)) 1 t w
def noteO (H : HH) (t m : Nat) : Nat := noteN H t (H 0 t) ((m - H 3 t) % rowL (H 0 t) (H 1 t))
def hearS (H : HH) (m : Nat) (P : PL) (t : Nat) : PL :=
  if P 0 t ≠ 0 ∨ m < H 3 t then pu P 5 t 0
  else if P 2 t = lenO H t then pu (finS P t m 0) 5 t 0
  else if playerS H P t = nP H then pu (finS P t m 2) 5 t 0
  else if H 5 (playerS H P t) < noteO H t m then pu (finS (pu (pu P 3 (playerS H P t) (P 3 (playerS H P t) - 1)) 4 (playerS H P t) (P 4 (playerS H P t) + 1)) t m 1) 5 t 0
  else pu (pu (pu (pu P 3 (playerS H P t) (P 3 (playerS H P t) - 1)) 4 (playerS H P t) (P 4 (playerS H P t) + 1)) 2 t (P 2 t + 1)) 5 t (noteO H t m + 1)
def thirdS (H : HH) (P : PL) (a b : Nat) : Nat := fa_first (fun c => decide (c ≠ a ∧ c ≠ b ∧ P 5 c ≠ 0 ∧ P 0 c = 0)) (nT H)
def crossS (H : HH) (m : Nat) (P : PL) (a b : Nat) : PL := if P 5 a ≠ 0 ∧ P 5 a = P 5 b ∧ thirdS H P a b < nT H then finS P (thirdS H P a b) m 3 else P
def crossI (H : HH) (m a : Nat) (P : PL) : Nat → PL := itr (fun j P => crossS H m P a (a + 1 + j)) P
def crossA (H : HH) (m : Nat) (P : PL) : Nat → PL := itr (fun a P => crossI H m a P (nT H - (a + 1))) P
def hearA (H : HH) (m : Nat) (P : PL) : Nat → PL := itr (fun t P => hearS H m P t) P
def minS (H : HH) (m : Nat) (P : PL) : PL := crossA H m (hearA H m P (nT H)) (nT H)
def P0 (H : HH) (sil : Nat) : PL := fun f i => if f = 3 then (if sil.testBit i then 0 else H 6 i) else 0
def runS (H : HH) (sil : Nat) : Nat → PL := itr (fun m P => minS H m P) (P0 H sil)
def playS (H : HH) (sil : Nat) : PL := runS H sil 160
def awayS (H : HH) (P : PL) : Nat := sumN (fun q => if P 1 (H 9 q) = 0 then 0 else 1) (nB H)
def costS (H : HH) (P : PL) : Nat := sumN (fun p => P 4 p * H 7 p) (nP H)
/-! what holds of a playing -/
theorem first_lt {p : Nat → Bool} {n : Nat} (h : fa_first p n < n) : p (fa_first p n) = true := fa_first_yes p n h
theorem first_le (p : Nat → Bool) : ∀ n, fa_first p n ≤ n := by
  intro n
  induction n with
  | zero => exact Nat.le_refl _
  | succ n ih =>
    simp only [fa_first]
    split
    · omega
    · split <;> omega
theorem first_is {p : Nat → Bool} {n k : Nat} (hk : k < n) (hp : p k = true) (hno : ∀ j, j < k → p j = false) : fa_first p n = k := by
  have h1 := first_le p n
  rcases Nat.lt_trichotomy (fa_first p n) k with h | h | h
  · have h2 := first_lt (p := p) (n := n) (by omega)
    rw [hno _ h] at h2; cases h2
  · exact h
  · have := fa_first_no p n k h
    rw [hp] at this; cases this
theorem first_none {p : Nat → Bool} {n : Nat} (hno : ∀ j, j < n → p j = false) : fa_first p n = n := by
  have h1 := first_le p n
  rcases Nat.lt_or_ge (fa_first p n) n with h | h
  · have h2 := first_lt h
    rw [hno _ h] at h2; cases h2
  · omega
theorem player_spec {H : HH} {P : PL} {t : Nat} (h : playerS H P t ≠ nP H) : playerS H P t < nP H ∧ H 8 (playerS H P t) = t ∧ 0 < P 3 (playerS H P t) := by
  have h1 := first_le (fun p => decide (H 8 p = t ∧ 0 < P 3 p)) (nP H)
  have hlt : playerS H P t < nP H := by unfold playerS at h ⊢; omega
  have := first_lt hlt
  simp only [decide_eq_true_eq] at this
  exact ⟨hlt, this.1, this.2⟩
/-- alive tunes have sounded for as long as they run; nothing is beyond its bounds -/
def Pinv (H : HH) (m : Nat) (P : PL) : Prop := (∀ t, t < nT H → P 0 t = 0 → P 2 t = m - H 3 t) ∧ (∀ t, t < nT H → P 2 t ≤ lenO H t) ∧ (∀ t, t < nT H → P 0 t ≤ m ∧ P 1 t ≤ 3) ∧ ∀ p, p < nP H → P 3 p + P 4 p ≤ H 6 p
/-- the same, within minute m, for the tunes from k on as before, for those below as behind it -/
def Pin2 (H : HH) (m k : Nat) (P : PL) : Prop := (∀ t, t < nT H → P 0 t = 0 → P 2 t = if t < k then (m + 1) - H 3 t else m - H 3 t) ∧ (∀ t, t < nT H → P 2 t ≤ lenO H t) ∧ (∀ t, t < nT H → P 0 t ≤ m + 1 ∧ P 1 t ≤ 3) ∧ (∀ p, p < nP H → P 3 p + P 4 p ≤ H 6 p) ∧ (∀ t, t < k → t < nT H → P 5 t ≤ 10) ∧ (∀ t, t < k → t < nT H → P 5 t ≠ 0 → P 0 t = 0)
theorem noteO_le {H : HH} {t m : Nat} (ot : OKt H t) : noteO H t m ≤ 9 := noteN_le ot (Nat.mod_lt _ (rowL_pos ot.2.1))
theorem hear_in2 {H : HH} {m k : Nat} {P : PL} (ok : OKH H) (hk : k < nT H) (h : Pin2 H m k P) : Pin2 H m (k + 1) (hearS H m P k) := by
  obtain ⟨h1, h2, h3, h4, h5, h6⟩ := h
  have ot := ok.tt hk
  have hn := noteO_le (m := m) ot
  have h1k := h1 k hk
  have h2k := h2 k hk
  have h3k := h3 k hk
  rw [if_neg (Nat.lt_irrefl k)] at h1k
  unfold hearS
  split
  · rename_i c
    refine ⟨fun t ht e => ?_, fun t ht => ?_, fun t ht => ?_, fun p hp => ?_, fun t ht hn' => ?_, fun t ht hn' e => ?_⟩
    · rw [pu_n (by omega)] at e ⊢
      rw [h1 t ht e]
      rcases Nat.lt_trichotomy t k with z | z | z
      · rw [if_pos z, if_pos (by omega)]
      · subst z
        rw [if_neg (by omega), if_pos (by omega)]
        rcases c with c | c
        · exact absurd e c
        · omega
      · rw [if_neg (by omega), if_neg (by omega)]
    · rw [pu_n (by omega)]; exact h2 t ht
    · rw [pu_n (by omega), pu_n (by omega)]; exact h3 t ht
    · rw [pu_n (by omega), pu_n (by omega)]; exact h4 p hp
    · rw [pu_rd]; split
      · omega
      · exact h5 t (by omega) hn'
    · rw [pu_rd] at e
      split at e
      · exact absurd rfl e
      · rw [pu_n (by omega)]; exact h6 t (by omega) hn' e
  · rename_i c
    have c0 : P 0 k = 0 := by omega
    have cm : H 3 k ≤ m := by omega
    have h1k := h1k c0
    split
    · refine ⟨fun t ht e => ?_, fun t ht => ?_, fun t ht => ?_, fun p hp => ?_, fun t ht hn' => ?_, fun t ht hn' e => ?_⟩
      · unfold finS at e ⊢
        rw [pu_n (by omega), pu_n (by omega), pu_n (by omega)]
        rw [pu_n (by omega), pu_n (by omega)] at e
        rw [pu_rd] at e
        split at e
        · cases e
        · rw [h1 t ht e]
          have : t ≠ k := by omega
          by_cases z : t < k
          · rw [if_pos z, if_pos (by omega)]
          · rw [if_neg z, if_neg (by omega)]
      · unfold finS; rw [pu_n (by omega), pu_n (by omega), pu_n (by omega)]; exact h2 t ht
      · unfold finS
        rw [pu_n (by omega), pu_n (by omega), pu_n (f := 5) (by omega)]
        have := h3 t ht
        refine ⟨?_, ?_⟩
        · rw [pu_rd]; split <;> omega
        · rw [pu_rd]; split
          · omega
          · rw [pu_n (by omega)]; omega
      · unfold finS; rw [pu_n (by omega), pu_n (by omega), pu_n (by omega), pu_n (by omega), pu_n (by omega), pu_n (by omega)]; exact h4 p hp
      · rw [pu_rd]; split
        · omega
        · unfold finS; rw [pu_n (by omega), pu_n (by omega)]; exact h5 t (by omega) hn'
      · rw [pu_rd] at e
        split at e
        · exact absurd rfl e
        · unfold finS at e ⊢
          rw [pu_n (by omega), pu_n (by omega)] at e
          rw [pu_n (by omega), pu_n (by omega), pu_n (by omega)]; exact h6 t (by omega) hn' e
    · split
      · refine ⟨fun t ht e => ?_, fun t ht => ?_, fun t ht => ?_, fun p hp => ?_, fun t ht hn' => ?_, fun t ht hn' e => ?_⟩
        · unfold finS at e ⊢
          rw [pu_n (by omega), pu_n (by omega), pu_n (by omega)]
          rw [pu_n (by omega), pu_n (by omega)] at e
          rw [pu_rd] at e
          split at e
          · cases e
          · rw [h1 t ht e]
            have : t ≠ k := by omega
            by_cases z : t < k
            · rw [if_pos z, if_pos (by omega)]
            · rw [if_neg z, if_neg (by omega)]
        · unfold finS; rw [pu_n (by omega), pu_n (by omega), pu_n (by omega)]; exact h2 t ht
        · unfold finS
          rw [pu_n (by omega), pu_n (by omega), pu_n (f := 5) (by omega)]
          have := h3 t ht
          refine ⟨?_, ?_⟩
          · rw [pu_rd]; split <;> omega
          · rw [pu_rd]; split
            · omega
            · rw [pu_n (by omega)]; omega
        · unfold finS; rw [pu_n (by omega), pu_n (by omega), pu_n (by omega), pu_n (by omega), pu_n (by omega), pu_n (by omega)]; exact h4 p hp
        · rw [pu_rd]; split
          · omega
          · unfold finS; rw [pu_n (by omega), pu_n (by omega)]; exact h5 t (by omega) hn'
        · rw [pu_rd] at e
          split at e
          · exact absurd rfl e
          · unfold finS at e ⊢
            rw [pu_n (by omega), pu_n (by omega)] at e
            rw [pu_n (by omega), pu_n (by omega), pu_n (by omega)]; exact h6 t (by omega) hn' e
      · rename_i c2 c3
        obtain ⟨hp1, hp2, hp3⟩ := player_spec c3
        have hb := h4 _ hp1
        generalize playerS H P k = p at *
        split
        · refine ⟨fun t ht e => ?_, fun t ht => ?_, fun t ht => ?_, fun p' hp' => ?_, fun t ht hn' => ?_, fun t ht hn' e => ?_⟩
          · unfold finS at e ⊢
            rw [pu_n (by omega), pu_n (by omega), pu_n (by omega), pu_n (by omega), pu_n (by omega)]
            rw [pu_n (by omega), pu_n (by omega)] at e
            rw [pu_rd] at e
            split at e
            · cases e
            · rw [pu_n (by omega), pu_n (by omega)] at e
              rw [h1 t ht e]
              have : t ≠ k := by omega
              by_cases z : t < k
              · rw [if_pos z, if_pos (by omega)]
              · rw [if_neg z, if_neg (by omega)]
          · unfold finS; rw [pu_n (by omega), pu_n (by omega), pu_n (by omega), pu_n (by omega), pu_n (by omega)]; exact h2 t ht
          · unfold finS
            rw [pu_n (by omega), pu_n (by omega), pu_n (f := 5) (by omega)]
            have := h3 t ht
            refine ⟨?_, ?_⟩
            · rw [pu_rd]; split
              · omega
              · rw [pu_n (by omega), pu_n (by omega)]; omega
            · rw [pu_rd]; split
              · omega
              · rw [pu_n (by omega), pu_n (by omega), pu_n (by omega)]; omega
          · have := h4 p' hp'
            by_cases z : p' = p
            · subst z; simp [finS, pu_rd]; omega
            · simp [finS, pu_rd, z]; exact this
          · rw [pu_rd]; split
            · omega
            · unfold finS; rw [pu_n (by omega), pu_n (by omega), pu_n (by omega), pu_n (by omega)]; exact h5 t (by omega) hn'
          · rw [pu_rd] at e
            split at e
            · exact absurd rfl e
            · unfold finS at e ⊢
              rw [pu_n (by omega), pu_n (by omega), pu_n (by omega), pu_n (by omega)] at e
              rw [pu_n (by omega), pu_n (by omega), pu_n (by omega), pu_n (by omega), pu_n (by omega)]; exact h6 t (by omega) hn' e
        · refine ⟨fun t ht e => ?_, fun t ht => ?_, fun t ht => ?_, fun p' hp' => ?_, fun t ht hn' => ?_, fun t ht hn' e => ?_⟩
          · rw [pu_n (by omega), pu_n (by omega), pu_n (by omega), pu_n (by omega)] at e
            rw [pu_n (by omega), pu_rd]
            split
            · rename_i z
              obtain ⟨-, rfl⟩ := z
              rw [if_pos (by omega), h1k]; omega
            · rw [pu_n (by omega), pu_n (by omega), h1 t ht e]
              have : t ≠ k := by omega
              by_cases z : t < k
              · rw [if_pos z, if_pos (by omega)]
              · rw [if_neg z, if_neg (by omega)]
          · rw [pu_n (by omega), pu_rd]
            split
            · rename_i z
              obtain ⟨-, rfl⟩ := z
              omega
            · rw [pu_n (by omega), pu_n (by omega)]; exact h2 t ht
          · rw [pu_n (by omega), pu_n (by omega), pu_n (by omega), pu_n (by omega), pu_n (by omega), pu_n (by omega), pu_n (by omega), pu_n (by omega)]; exact h3 t ht
          · have := h4 p' hp'
            by_cases z : p' = p
            · subst z; simp [finS, pu_rd]; omega
            · simp [finS, pu_rd, z]; exact this
          · rw [pu_rd]; split
            · omega
            · rw [pu_n (by omega), pu_n (by omega), pu_n (by omega)]; exact h5 t (by omega) hn'
          · rw [pu_rd] at e
            rw [pu_n (by omega), pu_n (by omega), pu_n (by omega), pu_n (by omega)]
            split at e
            · rename_i z; rw [z.2]; exact c0
            · rw [pu_n (by omega), pu_n (by omega), pu_n (by omega)] at e
              exact h6 t (by omega) hn' e
/-- within minute m, all have been heard -/
def Pin3 (H : HH) (m : Nat) (P : PL) : Prop := (∀ t, t < nT H → P 0 t = 0 → P 2 t = (m + 1) - H 3 t) ∧ (∀ t, t < nT H → P 2 t ≤ lenO H t) ∧ (∀ t, t < nT H → P 0 t ≤ m + 1 ∧ P 1 t ≤ 3) ∧ (∀ p, p < nP H → P 3 p + P 4 p ≤ H 6 p) ∧ ∀ t, t < nT H → P 5 t ≤ 10
theorem pinv_0 {H : HH} {m : Nat} {P : PL} (h : Pinv H m P) : Pin2 H m 0 P := by
  obtain ⟨h1, h2, h3, h4⟩ := h
  exact ⟨fun t ht e => by rw [if_neg (Nat.not_lt_zero t)]; exact h1 t ht e, h2, fun t ht => ⟨Nat.le_succ_of_le (h3 t ht).1, (h3 t ht).2⟩, h4, fun t h => absurd h (Nat.not_lt_zero t), fun t h => absurd h (Nat.not_lt_zero t)⟩
theorem pin3_of {H : HH} {m : Nat} {P : PL} (h : Pin2 H m (nT H) P) : Pin3 H m P := by
  obtain ⟨h1, h2, h3, h4, h5, h6⟩ := h
  exact ⟨fun t ht e => by have := h1 t ht e; rwa [if_pos ht] at this, h2, h3, h4, fun t ht => h5 t ht ht⟩
theorem pin3_inv {H : HH} {m : Nat} {P : PL} (h : Pin3 H m P) : Pinv H (m + 1) P := ⟨h.1, h.2.1, h.2.2.1, h.2.2.2.1⟩
theorem fin_pin3 {H : HH} {m c w : Nat} {P : PL} (h : Pin3 H m P) (hw : w ≤ 3) : Pin3 H m (finS P c m w) := by
  obtain ⟨h1, h2, h3, h4, h5⟩ := h
  refine ⟨fun t ht e => ?_, fun t ht => ?_, fun t ht => ⟨?_, ?_⟩, fun p hp => ?_, fun t ht => ?_⟩
  · unfold finS at e ⊢
    rw [pu_n (by omega), pu_n (by omega)]
    rw [pu_n (by omega), pu_rd] at e
    split at e
    · cases e
    · exact h1 t ht e
  · simpa [finS, pu_rd] using h2 t ht
  · have := (h3 t ht).1
    simp only [finS, pu_rd]
    split
    · omega
    · split <;> omega
  · have := (h3 t ht).2
    simp only [finS, pu_rd]
    split
    · omega
    · split <;> omega
  · simpa [finS, pu_rd] using h4 p hp
  · simpa [finS, pu_rd] using h5 t ht
theorem cross_pin3 {H : HH} {m a b : Nat} {P : PL} (h : Pin3 H m P) : Pin3 H m (crossS H m P a b) := by
  unfold crossS
  split
  · exact fin_pin3 h (by decide)
  · exact h
theorem itr_ind {σ : Type} {I : σ → Prop} {f : Nat → σ → σ} {s : σ} (h0 : I s) (hs : ∀ k s, I s → I (f k s)) : ∀ n, I (itr f s n) := by
  intro n
  induction n with
  | zero => exact h0
  | succ n ih => exact hs n _ ih
theorem itr_indb {σ : Type} {I : Nat → σ → Prop} {f : Nat → σ → σ} {s : σ} (N : Nat) (h0 : I 0 s) (hs : ∀ k s, k < N → I k s → I (k + 1) (f k s)) : ∀ n, n ≤ N → I n (itr f s n) := by
  intro n
  induction n with
  | zero => intro _; exact h0
  | succ n ih => intro hn; exact hs n _ (by omega) (ih (by omega))
theorem crossI_pin3 {H : HH} {m a n : Nat} {P : PL} (h : Pin3 H m P) : Pin3 H m (crossI H m a P n) := itr_ind h (fun _ _ h => cross_pin3 h) n
theorem crossA_pin3 {H : HH} {m n : Nat} {P : PL} (h : Pin3 H m P) : Pin3 H m (crossA H m P n) := itr_ind h (fun _ _ h => crossI_pin3 h) n
theorem hearA_pin2 {H : HH} {m : Nat} {P : PL} (ok : OKH H) (h : Pinv H m P) : ∀ k, k ≤ nT H → Pin2 H m k (hearA H m P k) := itr_indb (I := fun k P => Pin2 H m k P) (nT H) (pinv_0 h) (fun k s hk h => hear_in2 ok hk h)
theorem minS_inv {H : HH} {m : Nat} {P : PL} (ok : OKH H) (h : Pinv H m P) : Pinv H (m + 1) (minS H m P) := pin3_inv (crossA_pin3 (pin3_of (hearA_pin2 ok h (nT H) (Nat.le_refl _))))
theorem P0_inv {H : HH} {sil : Nat} : Pinv H 0 (P0 H sil) := by
  refine ⟨fun t ht e => ?_, fun t ht => ?_, fun t ht => ?_, fun p hp => ?_⟩
  · simp [P0]
  · simp [P0]
  · simp [P0]
  · simp only [P0]; simp; split <;> omega
theorem runS_inv {H : HH} {sil : Nat} (ok : OKH H) : ∀ k, Pinv H k (runS H sil k) := by
  intro k
  induction k with
  | zero => exact P0_inv
  | succ k ih => exact minS_inv ok ih
/-- behind minute 153 all are over -/
theorem pinv_over {H : HH} {m t : Nat} {P : PL} (ok : OKH H) (h : Pinv H m P) (hm : 154 ≤ m) (ht : t < nT H) : P 0 t ≠ 0 := by
  intro e
  have h1 := h.1 t ht e
  have h2 := h.2.1 t ht
  have ot := ok.tt ht
  have h3 := lenB_le (k := H 0 t) ot
  have h4 := ot.2.2.2.2.2.1
  have : lenO H t ≤ 144 := h3
  omega
/-- a playing in which all are over goes on without a change but of what is heard -/
def Pover (H : HH) (P : PL) : Prop := ∀ t, t < nT H → P 0 t ≠ 0
def Psame (P P' : PL) : Prop := ∀ f i, f ≠ 5 → P f i = P' f i
theorem hear_over {H : HH} {m k : Nat} {P : PL} (h : P 0 k ≠ 0) : hearS H m P k = pu P 5 k 0 := by
  unfold hearS; rw [if_pos (Or.inl h)]
theorem hearA_over {H : HH} {m : Nat} {P : PL} (h : Pover H P) : ∀ k, k ≤ nT H → Psame P (hearA H m P k) ∧ ∀ t, t < k → hearA H m P k 5 t = 0 := by
  intro k
  induction k with
  | zero => intro _; exact ⟨fun _ _ _ => rfl, fun t h => absurd h (Nat.not_lt_zero t)⟩
  | succ k ih =>
    intro hk
    obtain ⟨h1, h2⟩ := ih (by omega)
    have e : hearA H m P (k + 1) = hearS H m (hearA H m P k) k := rfl
    rw [e, hear_over (by rw [← h1 0 k (by decide)]; exact h k (by omega))]
    refine ⟨fun f i hf => ?_, fun t ht => ?_⟩
    · rw [pu_n (by omega)]; exact h1 f i hf
    · rw [pu_rd]; split
      · rfl
      · exact h2 t (by omega)
theorem cross_none {H : HH} {m a b : Nat} {P : PL} (h : P 5 a = 0) : crossS H m P a b = P := by
  unfold crossS; rw [if_neg (fun c => c.1 h)]
theorem crossI_none {H : HH} {m a : Nat} {P : PL} (h : P 5 a = 0) : ∀ n, crossI H m a P n = P := by
  intro n
  induction n with
  | zero => rfl
  | succ n ih => show crossS H m (crossI H m a P n) a (a + 1 + n) = P; rw [ih]; exact cross_none h
theorem crossA_none {H : HH} {m : Nat} {P : PL} (h : ∀ t, t < nT H → P 5 t = 0) : ∀ n, n ≤ nT H → crossA H m P n = P := by
  intro n
  induction n with
  | zero => intro _; rfl
  | succ n ih => intro hn; show crossI H m n (crossA H m P n) _ = P; rw [ih (by omega)]; exact crossI_none (h n (by omega)) _
theorem minS_over {H : HH} {m : Nat} {P : PL} (h : Pover H P) : Psame P (minS H m P) := by
  obtain ⟨h1, h2⟩ := hearA_over (m := m) h (nT H) (Nat.le_refl _)
  unfold minS
  rw [crossA_none h2 _ (Nat.le_refl _)]
  exact h1
theorem runS_over {H : HH} {sil m : Nat} (h : Pover H (runS H sil m)) : ∀ k, Psame (runS H sil m) (runS H sil (m + k)) := by
  intro k
  induction k with
  | zero => exact fun _ _ _ => rfl
  | succ k ih =>
    have h2 : Pover H (runS H sil (m + k)) := fun t ht => by rw [← ih 0 t (by decide)]; exact h t ht
    intro f i hf
    rw [ih f i hf]
    exact minS_over (m := m + k) h2 f i hf
end
section
/-! ===== the class's playing ===== -/
/-- cells 38 to 47 are the playing's -/
def XF (d d' : DD) : Prop := ∀ a, a < 38 ∨ 47 < a → d' a = d a
theorem XF.rf {d : DD} : XF d d := fun _ _ => rfl
theorem XF.tr {d d' d2 : DD} (h : XF d d') (h2 : XF d' d2) : XF d d2 := fun a ha => (h2 a ha).trans (h a ha)
theorem XF.up {d d' : DD} {c j : Nat} {v : Int32} (h : XF d d') (h1 : 38 ≤ c) (h2 : c ≤ 47) : XF d (up d' c j v) := fun a ha => (up_ne a (by omega)).trans (h a ha)
theorem isH_out {b : Nat} (h : isH b) : b + 10 < 38 ∨ 47 < b := by unfold isH at h; omega
theorem XH.xf {b : Nat} {d d' : DD} {H : HH} (h : XH b d H) (Hb : isH b) (e : XF d d') : XH b d' H := h.kept (fun a h1 h2 => e a (by have := isH_out Hb; omega))
def hv (n : Nat) : Int32 := if n = 0 then -1 else nI (n - 1)
theorem hv_0 : hv 0 = -1 := rfl
theorem hv_s (n : Nat) : hv (n + 1) = nI n := by unfold hv; rw [if_neg (by omega)]; rfl
theorem hv_m1 {n : Nat} (h : n < 2 ^ 30) : hv n = -1 ↔ n = 0 := by
  constructor
  · intro e
    cases n with
    | zero => rfl
    | succ n => rw [hv_s] at e; exact absurd e (ne_m1 (by omega))
  · intro e; rw [e]; rfl
theorem hv_inj {a b : Nat} (ha : a < 2 ^ 30) (hb : b < 2 ^ 30) (h : hv a = hv b) : a = b := by
  cases a with
  | zero => exact ((hv_m1 hb).mp h.symm).symm
  | succ a =>
    cases b with
    | zero => exact (hv_m1 ha).mp h
    | succ b => rw [hv_s, hv_s] at h; have := nI_inj (by omega) (by omega) h; omega
/-- how many tunes are not over -/
def aliveN (P : PL) (n : Nat) : Nat := sumN (fun t => if P 0 t = 0 then 1 else 0) n
/-- the rows written out -/
def XR (d : DD) (H : HH) : Prop := ∀ t, t < nT H → d 45 t = nI (rowL (H 0 t) (H 1 t)) ∧ d 46 t = nI (lenO H t) ∧ ∀ i, i < rowL (H 0 t) (H 1 t) → d 47 (16 * t + i) = nI (noteN H t (H 0 t) i)
/-- a playing's numbers, the first hn tunes heard in this minute -/
def XP (hn : Nat) (d : DD) (H : HH) (P : PL) : Prop := (∀ t, t < nT H → d 39 t = hv (P 0 t) ∧ (P 0 t ≠ 0 → d 40 t = nI (P 1 t)) ∧ d 41 t = nI (P 2 t)) ∧ (∀ p, p < nP H → d 42 p = nI (P 4 p) ∧ d 43 p = nI (P 3 p)) ∧ (∀ t, t < hn → t < nT H → d 44 t = hv (P 5 t)) ∧ d 38 9 = nI (aliveN P (nT H)) ∧ XR d H
theorem alive_fin {P : PL} {m w : Nat} : ∀ {n t : Nat}, t < n → P 0 t = 0 → aliveN (finS P t m w) n + 1 = aliveN P n := by
  intro n
  induction n with
  | zero => intro t h; exact absurd h (Nat.not_lt_zero t)
  | succ n ih =>
    intro t ht e
    show aliveN (finS P t m w) n + (if finS P t m w 0 n = 0 then 1 else 0) + 1 = aliveN P n + (if P 0 n = 0 then 1 else 0)
    by_cases h : t = n
    · subst h
      have h1 : finS P t m w 0 t = m + 1 := by simp [finS, pu_rd]
      have h2 : aliveN (finS P t m w) t = aliveN P t := sumN_cong (fun i hi => by
        have : finS P t m w 0 i = P 0 i := by simp [finS, pu_rd]; omega
        rw [this])
      rw [h1, h2, e]; simp
    · have h1 : finS P t m w 0 n = P 0 n := by simp [finS, pu_rd]; omega
      rw [h1]
      have := ih (t := t) (by omega) e
      omega
theorem alive_cong {P P' : PL} {n : Nat} (h : ∀ t, t < n → P 0 t = P' 0 t) : aliveN P n = aliveN P' n := sumN_cong (fun i hi => by rw [h i hi])
theorem alive_le (P : PL) (n : Nat) : aliveN P n ≤ n := by
  have := sumN_le (f := fun t => if P 0 t = 0 then 1 else 0) (c := 1) (n := n) (fun i _ => by split <;> omega)
  unfold aliveN
  omega
theorem alive_0 {P : PL} : ∀ {n : Nat}, aliveN P n = 0 → ∀ t, t < n → P 0 t ≠ 0 := by
  intro n
  induction n with
  | zero => intro _ t h; exact absurd h (Nat.not_lt_zero t)
  | succ n ih =>
    intro h t ht
    have h : aliveN P n + (if P 0 n = 0 then 1 else 0) = 0 := h
    by_cases e : t = n
    · subst e; intro z; rw [if_pos z] at h; omega
    · exact ih (by omega) t (by omega)
theorem X_finish {q : DD → Prop} {d : DD} {t m w hn : Nat} {H : HH} {P : PL} (ok : OKH H) (hP : XP hn d H P) (ht : t < nT H) (ha : P 0 t = 0) (hm : m < 2 ^ 30) (hw : w < 2 ^ 30) (h : ∀ d', XF d d' → XP hn d' H (finS P t m w) → (∀ j, d' 44 j = d 44 j) → q d') : Cn SX MX1_finish [.ref 38, .int (nI t), .int (nI m), .int (nI w)] d (rV q) := by
  have o4 := ok.t4
  refine cn_X1_finish ⟨vp_in_nI (by omega) (by omega), nm_e ⟨vp_in_nI (by omega) (by omega), nm_e (nm_e ?_)⟩⟩
  rw [nI_clamp (by omega)]
  obtain ⟨h1, h2, h3, h4, h5⟩ := hP
  have h38 : up (up d 39 t (nI m)) 40 t (nI w) 38 9 = nI (aliveN P (nT H)) := by rw [up_n (by omega), up_n (by omega)]; exact h4
  rw [h38]
  have hal := alive_fin (m := m) (w := w) ht ha
  refine h _ (((XF.rf.up (by omega) (by omega)).up (by omega) (by omega)).up (by omega) (by omega)) ⟨fun t' ht' => ?_, fun p hp => ?_, fun t' h6 ht' => ?_, ?_, fun t' ht' => ?_⟩ (fun j => ?_)
  · obtain ⟨a1, a2, a3⟩ := h1 t' ht'
    by_cases e : t' = t
    · subst e; simp [up_rd, finS, pu_rd, hv_s, a3]
    · simp [up_rd, finS, pu_rd, e, a1, a3]
      exact a2
  · obtain ⟨a1, a2⟩ := h2 p hp
    rw [up_n (by omega), up_n (by omega), up_n (by omega), up_n (by omega), up_n (by omega), up_n (by omega)]
    simp [finS, pu_rd, a1, a2]
  · rw [up_n (by omega), up_n (by omega), up_n (by omega), h3 t' h6 ht']
    simp [finS, pu_rd]
  · rw [up_s, li_1, pk_sub (by omega)]
    congr 1
    omega
  · obtain ⟨a1, a2, a3⟩ := h5 t' ht'
    refine ⟨?_, ?_, fun i hi => ?_⟩
    · rw [up_n (by omega), up_n (by omega), up_n (by omega)]; exact a1
    · rw [up_n (by omega), up_n (by omega), up_n (by omega)]; exact a2
    · rw [up_n (by omega), up_n (by omega), up_n (by omega)]; exact a3 i hi
  · rw [up_n (by omega), up_n (by omega), up_n (by omega)]
theorem X_playerOf {q : Int32 → DD → Prop} {d : DD} {b t hn : Nat} {H : HH} {P : PL} (Hb : isH b) (hX : XH b d H) (ok : OKH H) (hP : XP hn d H P) (hB : ∀ p, p < nP H → P 3 p < 2 ^ 30) (ht : t < nT H) (h1 : playerS H P t < nP H → q (nI (playerS H P t)) d) (h0 : playerS H P t = nP H → q (-1) d) : Cn SX MX1_playerOf [.ref 38, .ref b, .int (nI t)] d (rI q) := by
  have o4 := ok.p4
  have ot4 := ok.t4
  refine cn_X1_playerOf Hb ?_
  rw [li_0]
  have key := for_up (W := fun k d' => Ev SX MX1_playerOf 2 [.ref 38, .ref b, .int (nI t), .int (nI k)] [] d' (rI q)) (I := fun k d' => d' = d ∧ ∀ j, j < k → decide (H 8 j = t ∧ 0 < P 3 j) = false) (nP H) ?_ ?_ 0 d (Nat.zero_le _) ⟨rfl, fun j h => absurd h (Nat.not_lt_zero j)⟩
  · exact key
  · rintro d' ⟨rfl, hno⟩
    refine bk_X1_playerOf_2 Hb ⟨fun _ => h0 (first_none hno), fun c => absurd ?_ c⟩
    rw [hX.np]; exact nI_le (Nat.le_refl _) (by omega)
  · rintro k d' hk ⟨rfl, hno⟩ ih
    refine bk_X1_playerOf_2 Hb ⟨fun c => ?_, fun _ => ⟨vp_in_nI (by omega) (by omega), ?_⟩⟩
    · rw [hX.np] at c; exact absurd ((nI_leI (by omega) (by omega)).mp c) (by omega)
    · have hat := (ok.pp hk).2.2.2.2
      rw [nI_clamp (by omega), hX.at hk, (hP.2.1 k hk).2, nI_1]
      have hnext : decide (H 8 k = t ∧ 0 < P 3 k) = false → Ev SX MX1_playerOf 2 [.ref 38, .ref b, .int (nI t), .int (nI (k + 1))] [] d' (rI q) := fun hf => ih d' ⟨rfl, fun j hj => by
        rcases Nat.lt_or_ge j k with z | z
        · exact hno j z
        · have : j = k := by omega
          rw [this]; exact hf⟩
      refine ⟨fun c => hnext ?_, fun c => ⟨vp_in_nI (by omega) (by omega), fun c2 => hnext ?_, fun c2 => ?_⟩⟩
      · simp only [decide_eq_false_iff_not]
        exact fun z => c (by rw [z.1])
      · have c2 := (nI_leI (b := 0) (by have := hB k hk; omega) (by omega)).mp c2
        simp only [decide_eq_false_iff_not]; omega
      · have c2 := mt (nI_leI (b := 0) (by have := hB k hk; omega) (by omega)).mpr c2
        have c := nI_inj (by omega) (by omega) c
        have e : playerS H P t = k := first_is hk (by simp only [decide_eq_true_eq]; omega) hno
        rw [e] at h1
        exact h1 hk
theorem X_crossThird {q : DD → Prop} {d : DD} {b a c0 m : Nat} {H : HH} {P : PL} (Hb : isH b) (hX : XH b d H) (ok : OKH H) (hP : XP (nT H) d H P) (h5 : ∀ t, t < nT H → P 5 t ≤ 10) (hov : ∀ t, t < nT H → P 0 t < 2 ^ 30) (ha : a < nT H) (hc : c0 < nT H) (hm : m < 160) (h : ∀ d', XF d d' → XP (nT H) d' H (if thirdS H P a c0 < nT H then finS P (thirdS H P a c0) m 3 else P) → q d') : Cn SX MX1_crossThird [.ref 38, .ref b, .int (nI a), .int (nI c0), .int (nI m)] d (rV q) := by
  have ot4 := ok.t4
  refine cn_X1_crossThird Hb ?_
  rw [li_0]
  refine for_up (W := fun k d' => Ev SX MX1_crossThird 3 [.ref 38, .ref b, .int (nI a), .int (nI c0), .int (nI m), .int (nI k)] [] d' (rV q)) (I := fun k d' => d' = d ∧ ∀ j, j < k → decide (j ≠ a ∧ j ≠ c0 ∧ P 5 j ≠ 0 ∧ P 0 j = 0) = false) (nT H) ?_ ?_ 0 d (Nat.zero_le _) ⟨rfl, fun j h => absurd h (Nat.not_lt_zero j)⟩
  · rintro d' ⟨rfl, hno⟩
    refine bk_X1_crossThird_3 Hb ⟨fun _ => h d' XF.rf ?_, fun c => absurd ?_ c⟩
    · have e : thirdS H P a c0 = nT H := first_none hno
      rw [if_neg (by omega)]; exact hP
    · rw [hX.nt]; exact nI_le (Nat.le_refl _) (by omega)
  · rintro k d' hk ⟨rfl, hno⟩ ih
    refine bk_X1_crossThird_3 Hb ⟨fun c => ?_, fun _ => ?_⟩
    · rw [hX.nt] at c; exact absurd ((nI_leI (by omega) (by omega)).mp c) (by omega)
    · rw [nI_1, nI_clamp (by omega), hP.2.2.1 k hk hk, (hP.1 k hk).1]
      have hnext : decide (k ≠ a ∧ k ≠ c0 ∧ P 5 k ≠ 0 ∧ P 0 k = 0) = false → Ev SX MX1_crossThird 3 [.ref 38, .ref b, .int (nI a), .int (nI c0), .int (nI m), .int (nI (k + 1))] [] d' (rV q) := fun hf => ih d' ⟨rfl, fun j hj => by
        rcases Nat.lt_or_ge j k with z | z
        · exact hno j z
        · have : j = k := by omega
          rw [this]; exact hf⟩
      have hk5 := h5 k hk
      have hk0 := hov k hk
      refine ⟨fun c => hnext ?_, fun c => ⟨fun c2 => hnext ?_, fun c2 => ⟨vp_in_nI (by omega) (by omega), fun c3 => hnext ?_, fun c3 => ⟨vp_in_nI (by omega) (by omega), fun c4 => hnext ?_, fun c4 => ?_⟩⟩⟩⟩
      · have := nI_inj (by omega) (by omega) c
        simp only [decide_eq_false_iff_not]; omega
      · have := nI_inj (by omega) (by omega) c2
        simp only [decide_eq_false_iff_not]; omega
      · have := (hv_m1 (by omega)).mp c3
        simp only [decide_eq_false_iff_not]; omega
      · have := mt (hv_m1 (by omega)).mpr c4
        simp only [decide_eq_false_iff_not]; omega
      · have c3 := mt (hv_m1 (n := P 5 k) (by omega)).mpr c3
        have c4 := (hv_m1 (by omega)).mp c4
        have e : thirdS H P a c0 = k := first_is hk (by simp only [decide_eq_true_eq]; exact ⟨fun z => c (by rw [z]), fun z => c2 (by rw [z]), c3, c4⟩) hno
        rw [e, if_pos hk] at h
        exact X_finish ok hP hk c4 (by omega) (by decide) (fun d2 hf hp _ => h d2 hf hp)
end
section
theorem XP.h5 {hn t v : Nat} {d : DD} {H : HH} {P : PL} (h : XP hn d H P) (ht : hn ≤ t) : XP hn d H (pu P 5 t v) := by
  obtain ⟨h1, h2, h3, h4, h5⟩ := h
  refine ⟨fun t' ht' => ?_, fun p hp => ?_, fun t' h6 ht' => ?_, ?_, h5⟩
  · simpa [pu_rd] using h1 t' ht'
  · simpa [pu_rd] using h2 p hp
  · rw [pu_n (by omega)]; exact h3 t' h6 ht'
  · rw [h4]; congr 1
theorem XP.next {t : Nat} {d : DD} {H : HH} {P : PL} {r : Int32} (h : XP t d H P) (hr : r = hv (P 5 t)) : XP (t + 1) (up d 44 t r) H P := by
  obtain ⟨h1, h2, h3, h4, h5⟩ := h
  refine ⟨fun t' ht' => ?_, fun p hp => ?_, fun t' h6 ht' => ?_, ?_, fun t' ht' => ?_⟩
  · simpa [up_rd] using h1 t' ht'
  · simpa [up_rd] using h2 p hp
  · rw [up_rd]
    by_cases e : t' = t
    · subst e; simp [hr]
    · rw [if_neg (by omega)]; exact h3 t' (by omega) ht'
  · simpa [up_rd] using h4
  · simpa [up_rd] using h5 t' ht'
theorem XP.play {hn p : Nat} {d : DD} {H : HH} {P : PL} (h : XP hn d H P) (hp : p < nP H) (h0 : 0 < P 3 p) : XP hn (up (up d 43 p (nI (P 3 p) - 1)) 42 p (nI (P 4 p) + 1)) H (pu (pu P 3 p (P 3 p - 1)) 4 p (P 4 p + 1)) := by
  obtain ⟨h1, h2, h3, h4, h5⟩ := h
  refine ⟨fun t' ht' => ?_, fun p' hp' => ?_, fun t' h6 ht' => ?_, ?_, fun t' ht' => ?_⟩
  · simpa [pu_rd, up_rd] using h1 t' ht'
  · by_cases e : p' = p
    · subst e
      simp only [up_rd, pu_rd]
      simp only [and_self, if_true]
      refine ⟨nI_1 _, ?_⟩
      simp
      rw [li_1, pk_sub (by omega)]
    · simpa [pu_rd, up_rd, e] using h2 p' hp'
  · simpa [pu_rd, up_rd] using h3 t' h6 ht'
  · rw [up_n (by omega), up_n (by omega), h4]; congr 1
  · simpa [up_rd] using h5 t' ht'
theorem XP.snd {hn t : Nat} {d : DD} {H : HH} {P : PL} (h : XP hn d H P) (ht : t < nT H) : XP hn (up d 41 t (nI (P 2 t) + 1)) H (pu P 2 t (P 2 t + 1)) := by
  obtain ⟨h1, h2, h3, h4, h5⟩ := h
  refine ⟨fun t' ht' => ?_, fun p' hp' => ?_, fun t' h6 ht' => ?_, ?_, fun t' ht' => ?_⟩
  · by_cases e : t' = t
    · subst e
      obtain ⟨a1, a2, a3⟩ := h1 t' ht'
      simp only [up_rd, pu_rd]
      simp
      exact ⟨a1, a2, nI_1 _⟩
    · simpa [pu_rd, up_rd, e] using h1 t' ht'
  · simpa [pu_rd, up_rd] using h2 p' hp'
  · simpa [pu_rd, up_rd] using h3 t' h6 ht'
  · rw [up_n (by omega), h4]; congr 1
  · simpa [up_rd] using h5 t' ht'
theorem X_noteHeard {q : Int32 → DD → Prop} {d : DD} {b t m : Nat} {H : HH} {P : PL} (Hb : isH b) (hX : XH b d H) (ok : OKH H) (hP : XP t d H P) (hI : Pin2 H m t P) (ht : t < nT H) (hm : m < 160) (ha : P 0 t = 0) (hs : H 3 t ≤ m) (h : ∀ d', XF d d' → XP t d' H (hearS H m P t) → q (hv (hearS H m P t 5 t)) d') : Cn SX MX1_noteHeard [.ref 38, .ref b, .int (nI t), .int (nI m)] d (rI q) := by
  have ot4 := ok.t4
  have op4 := ok.p4
  have ot := ok.tt ht
  have hl := lenB_le (k := H 0 t) ot
  have hr := rowL_le (k := H 0 t) ot.2.2.1
  have hr0 := rowL_pos (k := H 0 t) ot.2.1
  have hlo : lenO H t ≤ 144 := hl
  obtain ⟨hr45, hr46, hr47⟩ := hP.2.2.2.2 t ht
  have hsd := (hP.1 t ht).2.2
  have hsl := hI.2.1 t ht
  have hsv := hI.1 t ht ha
  rw [if_neg (Nat.lt_irrefl t)] at hsv
  have hB : ∀ p, p < nP H → P 3 p < 2 ^ 30 := fun p hp => by
    have h1 := hI.2.2.2.1 p hp
    have h2 := (ok.pp hp).2.2.1
    omega
  refine cn_X1_noteHeard Hb ⟨vp_in_nI (by omega) (by omega), fun c => ?_, fun _ => ⟨vp_in_nI (by omega) (by omega), vp_in_nI (by omega) (by omega), fun c => ?_, fun c => ?_⟩⟩
  · rw [nI_clamp (by omega), hr45] at c
    exact absurd ((nI_ltI (b := 1) (by omega) (by omega)).mp c) (by omega)
  · rw [nI_clamp (by omega), hsd, hr46] at c
    have c := (nI_ltI (by omega) (by omega)).mp c
    refine X_playerOf Hb hX ok hP hB ht (fun hp => ⟨fun _ => ?_, fun c => absurd (nI_pos' (by omega)) c⟩) (fun hp => ⟨fun c => absurd c (by decide), fun _ => ?_⟩)
    · obtain ⟨hp1, hp2, hp3⟩ := player_spec (H := H) (P := P) (t := t) (by omega)
      have hb4 := hI.2.2.2.1 _ hp1
      have hpe : hearS H m P t = if H 5 (playerS H P t) < noteO H t m then pu (finS (pu (pu P 3 (playerS H P t) (P 3 (playerS H P t) - 1)) 4 (playerS H P t) (P 4 (playerS H P t) + 1)) t m 1) 5 t 0 else pu (pu (pu (pu P 3 (playerS H P t) (P 3 (playerS H P t) - 1)) 4 (playerS H P t) (P 4 (playerS H P t) + 1)) 2 t (P 2 t + 1)) 5 t (noteO H t m + 1) := by
        unfold hearS
        rw [if_neg (by omega), if_neg (by omega), if_neg (by omega)]
      generalize playerS H P t = p at *
      have hbp := (hP.2.1 p hp1)
      refine ⟨vp_in_nI (by omega) (by omega), vp_in_nI (by omega) (by omega), nm_e ⟨vp_in_nI (by omega) (by omega), vp_in_nI (by omega) (by omega), nm_e ?_⟩⟩
      rw [nI_clamp (by omega), nI_clamp (by omega), hbp.2, show up d 43 p (nI (P 3 p) - 1) 42 p = nI (P 4 p) from by rw [up_n (by omega)]; exact hbp.1]
      have hP1 := hP.play hp1 hp3
      have hF : XF d (up (up d 43 p (nI (P 3 p) - 1)) 42 p (nI (P 4 p) + 1)) := (XF.rf.up (by omega) (by omega)).up (by omega) (by omega)
      generalize up (up d 43 p (nI (P 3 p) - 1)) 42 p (nI (P 4 p) + 1) = d8 at hP1 hF ⊢
      obtain ⟨gr45, gr46, gr47⟩ := hP1.2.2.2.2 t ht
      have gsd : d8 41 t = nI (P 2 t) := by have := (hP1.1 t ht).2.2; simpa [pu_rd] using this
      have hmod := Nat.mod_lt (P 2 t) (show rowL (H 0 t) (H 1 t) > 0 by omega)
      rw [gr45, gsd]
      refine ⟨vp_in_nI (by omega) (by omega), vp_in_nI (by omega) (by omega), nI_ne0 (by omega) (by omega), ?_⟩
      rw [jrem_nI (by omega) (by omega) (by omega), show nI t * 16 + nI (P 2 t % rowL (H 0 t) (H 1 t)) = nI (16 * t + P 2 t % rowL (H 0 t) (H 1 t)) from by rw [li_16, pk_mul, nI_add, Nat.mul_comm]]
      have hno : noteN H t (H 0 t) (P 2 t % rowL (H 0 t) (H 1 t)) = noteO H t m := by unfold noteO; rw [hsv]
      have hn9 := noteO_le (m := m) ot
      refine ⟨vp_in_nI (by omega) (by omega), nm_e ?_⟩
      rw [nI_clamp (by omega), gr47 _ hmod, hno]
      have hsk := (hX.xf Hb hF).skill hp1
      have hs9 := (ok.pp hp1).1
      refine ⟨vp_in_nI (by omega) (by omega), ?_⟩
      rw [hsk]
      refine ⟨fun c3 => ⟨vp_in_nI (by omega) (by omega), vp_in_nI (by omega) (by omega), nm_e ?_⟩, fun c3 => ?_⟩
      · have c3 := (nI_leI (by omega) (by omega)).mp c3
        rw [if_neg (by omega)] at hpe
        rw [hpe] at h
        have hP2 := (hP1.snd ht).h5 (t := t) (v := noteO H t m + 1) (Nat.le_refl _)
        have hs2 : (pu (pu P 3 p (P 3 p - 1)) 4 p (P 4 p + 1)) 2 t = P 2 t := by simp [pu_rd]
        rw [hs2] at hP2
        have h := h _ (hF.up (c := 41) (j := t) (v := nI (P 2 t) + 1) (by omega) (by omega)) hP2
        rw [pu_s, hv_s] at h
        exact h
      · have c3 := mt (nI_leI (by omega) (by omega)).mpr c3
        rw [if_pos (by omega)] at hpe
        rw [hpe] at h
        refine X_finish ok hP1 ht (by simp [pu_rd, ha]) (by omega) (by decide) (fun d2 hf hp _ => ?_)
        have h := h d2 (hF.tr hf) (hp.h5 (Nat.le_refl _))
        rw [pu_s, hv_0] at h
        exact h
    · have hpe : hearS H m P t = pu (finS P t m 2) 5 t 0 := by
        unfold hearS
        rw [if_neg (by omega), if_neg (by omega), if_pos hp]
      rw [hpe] at h
      refine X_finish ok hP ht ha (by omega) (by decide) (fun d2 hf hp _ => ?_)
      have h := h d2 hf (hp.h5 (Nat.le_refl _))
      rw [pu_s, hv_0] at h
      exact h
  · rw [nI_clamp (by omega), hsd, hr46] at c
    have c := mt (nI_ltI (by omega) (by omega)).mpr c
    have hpe : hearS H m P t = pu (finS P t m 0) 5 t 0 := by
      unfold hearS
      rw [if_neg (by omega), if_pos (by omega)]
    rw [hpe] at h
    refine X_finish ok hP ht ha (by omega) (by decide) (fun d2 hf hp _ => ?_)
    have h := h d2 hf (hp.h5 (Nat.le_refl _))
    rw [pu_s, hv_0] at h
    exact h
theorem pin3_b {H : HH} {m : Nat} {P : PL} (h : Pin3 H m P) (hm : m < 160) : (∀ t, t < nT H → P 5 t ≤ 10) ∧ ∀ t, t < nT H → P 0 t < 2 ^ 30 := ⟨h.2.2.2.2, fun t ht => by have := (h.2.2.1 t ht).1; omega⟩
theorem X_crossAll {q : DD → Prop} {d : DD} {b m : Nat} {H : HH} {P : PL} (Hb : isH b) (hX : XH b d H) (ok : OKH H) (hP : XP (nT H) d H P) (hI : Pin3 H m P) (hm : m < 160) (h : ∀ d', XF d d' → XP (nT H) d' H (crossA H m P (nT H)) → q d') : Cn SX MX1_crossAll [.ref 38, .ref b, .int (nI m)] d (rV q) := by
  have o4 := ok.t4
  refine cn_X1_crossAll Hb ?_
  rw [li_0]
  refine for_up (W := fun k d' => Ev SX MX1_crossAll 2 [.ref 38, .ref b, .int (nI m), .int (nI k), uJ] [] d' (rV q)) (I := fun k d' => XF d d' ∧ XP (nT H) d' H (crossA H m P k)) (nT H) ?_ ?_ 0 d (Nat.zero_le _) ⟨XF.rf, hP⟩
  · rintro d' ⟨hF, hQ⟩
    refine bk_X1_crossAll_2 Hb ⟨fun _ => h d' hF hQ, fun c => absurd ?_ c⟩
    rw [(hX.xf Hb hF).nt]; exact nI_le (Nat.le_refl _) (by omega)
  · rintro a d' ha ⟨hF, hQ⟩ ih
    refine bk_X1_crossAll_2 Hb ⟨fun c => ?_, fun _ => ?_⟩
    · rw [(hX.xf Hb hF).nt] at c; exact absurd ((nI_leI (by omega) (by omega)).mp c) (by omega)
    · rw [nI_1]
      have hI2 : Pin3 H m (crossA H m P a) := crossA_pin3 hI
      generalize hPa : crossA H m P a = Pa at hQ hI2
      have key := for_up (W := fun k d2 => Ev SX MX1_crossAll 15 [.ref 38, .ref b, .int (nI m), .int (nI a), .int (nI (a + 1 + k))] [] d2 (rV q)) (I := fun k d2 => XF d d2 ∧ XP (nT H) d2 H (crossI H m a Pa k)) (nT H - (a + 1)) ?_ ?_ 0 d' (Nat.zero_le _) ⟨hF, hQ⟩
      · exact key
      · rintro d2 ⟨hF2, hQ2⟩
        refine bk_X1_crossAll_15 Hb ⟨fun _ => ?_, fun c => absurd ?_ c⟩
        · rw [nI_1]
          refine ih d2 ⟨hF2, ?_⟩
          have e : crossA H m P (a + 1) = crossI H m a (crossA H m P a) (nT H - (a + 1)) := rfl
          rw [e, hPa]; exact hQ2
        · rw [(hX.xf Hb hF2).nt]; exact nI_le (by omega) (by omega)
      · rintro k d2 hk ⟨hF2, hQ2⟩ ih2
        have hI3 : Pin3 H m (crossI H m a Pa k) := crossI_pin3 hI2
        obtain ⟨hb5, hb0⟩ := pin3_b hI3 hm
        generalize hPk : crossI H m a Pa k = Pk at hQ2 hI3 hb5 hb0
        have e : crossI H m a Pa (k + 1) = crossS H m Pk a (a + 1 + k) := by rw [← hPk]; rfl
        have hc : a + 1 + k < nT H := by omega
        rw [e] at ih2
        refine bk_X1_crossAll_15 Hb ⟨fun c => ?_, fun _ => ⟨vp_in_nI (by omega) (by omega), ?_⟩⟩
        · rw [(hX.xf Hb hF2).nt] at c; exact absurd ((nI_leI (by omega) (by omega)).mp c) (by omega)
        · rw [nI_clamp (by omega), nI_clamp (by omega), nI_1, hQ2.2.2.1 a ha ha, hQ2.2.2.1 _ hc hc]
          have h5a := hb5 a ha
          have h5c := hb5 _ hc
          have e2 : a + 1 + (k + 1) = a + 1 + k + 1 := by omega
          rw [e2] at ih2
          refine ⟨fun c => ih2 d2 ⟨hF2, ?_⟩, fun c => ⟨vp_in_nI (by omega) (by omega), vp_in_nI (by omega) (by omega), fun c2 => ih2 d2 ⟨hF2, ?_⟩, fun c2 => ?_⟩⟩
          · have c := (hv_m1 (by omega)).mp c
            rw [cross_none c]; exact hQ2
          · unfold crossS
            rw [if_neg (fun z => c2 (by rw [z.2.1]))]; exact hQ2
          · have c := mt (hv_m1 (n := Pk 5 a) (by omega)).mpr c
            have c2 := hv_inj (by omega) (by omega) c2
            refine X_crossThird Hb (hX.xf Hb hF2) ok hQ2 hb5 hb0 ha hc hm (fun d3 hf hp => ih2 d3 ⟨hF2.tr hf, ?_⟩)
            unfold crossS
            by_cases z : thirdS H Pk a (a + 1 + k) < nT H
            · rw [if_pos ⟨c, c2, z⟩]; rw [if_pos z] at hp; exact hp
            · rw [if_neg (fun w => z w.2.2)]; rw [if_neg z] at hp; exact hp
end
section
/-- the first k tunes are prepared -/
def XQ (k : Nat) (d : DD) (H : HH) : Prop := ∀ t, t < k → t < nT H → d 39 t = -1 ∧ d 41 t = nI 0 ∧ d 45 t = nI (rowL (H 0 t) (H 1 t)) ∧ d 46 t = nI (lenO H t) ∧ ∀ i, i < rowL (H 0 t) (H 1 t) → d 47 (16 * t + i) = nI (noteN H t (H 0 t) i)
theorem X_prepareTune {q : DD → Prop} {d : DD} {b t : Nat} {H : HH} (Hb : isH b) (hX : XH b d H) (ok : OKH H) (hQ : XQ t d H) (ht : t < nT H) (h : ∀ d', XF d d' → XQ (t + 1) d' H → q d') : Cn SX MX1_prepareTune [.ref 38, .ref b, .int (nI t)] d (rV q) := by
  have o4 := ok.t4
  have ot := ok.tt ht
  have ol : lenO H t ≤ 144 := lenB_le (k := H 0 t) ot
  have hr := rowL_le (k := H 0 t) ot.2.2.1
  refine cn_X1_prepareTune Hb ⟨vp_in_nI (by omega) (by omega), nm_e ⟨vp_in_nI (by omega) (by omega), nm_e ⟨vp_in_nI (by omega) (by omega), nm_e ?_⟩⟩⟩
  rw [nI_clamp (by omega), hX.kind ht]
  have F1 : XF d (up (up d 39 t (-1)) 41 t 0) := (XF.rf.up (by omega) (by omega)).up (by omega) (by omega)
  refine X_lengthAs Hb (hX.xf Hb F1) ok ht ot.1 ⟨vp_in_nI (by omega) (by omega), nm_e ⟨vp_in_nI (by omega) (by omega), ?_⟩⟩
  have F2 : XF d (up (up (up d 39 t (-1)) 41 t 0) 46 t (nI (lenB H t (H 0 t)))) := F1.up (by omega) (by omega)
  rw [(hX.xf Hb F2).notes ht]
  refine X_rowLength ot.1 ot.2.2.1 ⟨vp_in_nI (by omega) (by omega), nm_e ?_⟩
  have F3 := F2.up (c := 45) (j := t) (v := nI (rowL (H 0 t) (H 1 t))) (by omega) (by omega)
  have G : ∀ t', t' < t → t' < nT H → (up (up (up (up d 39 t (-1)) 41 t 0) 46 t (nI (lenB H t (H 0 t)))) 45 t (nI (rowL (H 0 t) (H 1 t)))) 39 t' = -1 ∧ (up (up (up (up d 39 t (-1)) 41 t 0) 46 t (nI (lenB H t (H 0 t)))) 45 t (nI (rowL (H 0 t) (H 1 t)))) 41 t' = nI 0 ∧ (up (up (up (up d 39 t (-1)) 41 t 0) 46 t (nI (lenB H t (H 0 t)))) 45 t (nI (rowL (H 0 t) (H 1 t)))) 45 t' = nI (rowL (H 0 t') (H 1 t')) ∧ (up (up (up (up d 39 t (-1)) 41 t 0) 46 t (nI (lenB H t (H 0 t)))) 45 t (nI (rowL (H 0 t) (H 1 t)))) 46 t' = nI (lenO H t') ∧ ∀ i, i < rowL (H 0 t') (H 1 t') → (up (up (up (up d 39 t (-1)) 41 t 0) 46 t (nI (lenB H t (H 0 t)))) 45 t (nI (rowL (H 0 t) (H 1 t)))) 47 (16 * t' + i) = nI (noteN H t' (H 0 t') i) := by
    intro t' h1 h2
    obtain ⟨a1, a2, a3, a4, a5⟩ := hQ t' h1 h2
    have : t' ≠ t := by omega
    refine ⟨?_, ?_, ?_, ?_, fun i hi => ?_⟩
    · simpa [up_rd, this] using a1
    · simpa [up_rd, this] using a2
    · simpa [up_rd, this] using a3
    · simpa [up_rd, this] using a4
    · simpa [up_rd, this] using a5 i hi
  have G2 : (up (up (up (up d 39 t (-1)) 41 t 0) 46 t (nI (lenB H t (H 0 t)))) 45 t (nI (rowL (H 0 t) (H 1 t)))) 39 t = -1 ∧ (up (up (up (up d 39 t (-1)) 41 t 0) 46 t (nI (lenB H t (H 0 t)))) 45 t (nI (rowL (H 0 t) (H 1 t)))) 41 t = nI 0 ∧ (up (up (up (up d 39 t (-1)) 41 t 0) 46 t (nI (lenB H t (H 0 t)))) 45 t (nI (rowL (H 0 t) (H 1 t)))) 45 t = nI (rowL (H 0 t) (H 1 t)) ∧ (up (up (up (up d 39 t (-1)) 41 t 0) 46 t (nI (lenB H t (H 0 t)))) 45 t (nI (rowL (H 0 t) (H 1 t)))) 46 t = nI (lenO H t) := by
    refine ⟨by simp [up_rd], by simp [up_rd]; rfl, by simp [up_rd], by simp [up_rd]; rfl⟩
  generalize (up (up (up (up d 39 t (-1)) 41 t 0) 46 t (nI (lenB H t (H 0 t)))) 45 t (nI (rowL (H 0 t) (H 1 t)))) = d3 at F3 G G2 ⊢
  rw [li_0]
  refine for_up (W := fun i d' => Ev SX MX1_prepareTune 52 [.ref 38, .ref b, .int (nI t), .int (nI (H 0 t)), .int (nI i)] [] d' (rV q)) (I := fun i d' => XF d d' ∧ (∀ c j, c ≠ 47 → d' c j = d3 c j) ∧ (∀ t', t' < t → ∀ i', i' < 16 → d' 47 (16 * t' + i') = d3 47 (16 * t' + i')) ∧ ∀ i', i' < i → d' 47 (16 * t + i') = nI (noteN H t (H 0 t) i')) (rowL (H 0 t) (H 1 t)) ?_ ?_ 0 d3 (Nat.zero_le _) ⟨F3, fun _ _ _ => rfl, fun _ _ _ _ => rfl, fun _ h => absurd h (Nat.not_lt_zero _)⟩
  · rintro d' ⟨hF, hc, h47, hi⟩
    refine bk_X1_prepareTune_52 Hb ⟨vp_in_nI (by omega) (by omega), fun _ => h d' hF (fun t' h1 h2 => ?_), fun c => absurd ?_ c⟩
    · by_cases e : t' = t
      · subst e
        exact ⟨(hc 39 _ (by decide)).trans G2.1, (hc 41 _ (by decide)).trans G2.2.1, (hc 45 _ (by decide)).trans G2.2.2.1, (hc 46 _ (by decide)).trans G2.2.2.2, hi⟩
      · obtain ⟨a1, a2, a3, a4, a5⟩ := G t' (by omega) h2
        have hr' := rowL_le (k := H 0 t') (ok.tt h2).2.2.1
        exact ⟨(hc 39 _ (by decide)).trans a1, (hc 41 _ (by decide)).trans a2, (hc 45 _ (by decide)).trans a3, (hc 46 _ (by decide)).trans a4, fun i hi => by rw [h47 t' (by omega) i (by omega)]; exact a5 i hi⟩
    · rw [nI_clamp (by omega), hc 45 _ (by decide), G2.2.2.1]; exact nI_le (Nat.le_refl _) (by omega)
  · rintro i d' hi ⟨hF, hc, h47, hno⟩ ih
    refine bk_X1_prepareTune_52 Hb ⟨vp_in_nI (by omega) (by omega), fun c => ?_, fun _ => ?_⟩
    · rw [nI_clamp (by omega), hc 45 _ (by decide), G2.2.2.1] at c
      exact absurd ((nI_leI (by omega) (by omega)).mp c) (by omega)
    · refine X_rowNote Hb (hX.xf Hb hF) ok ht ot.1 hi ?_
      rw [show nI t * 16 + nI i = nI (16 * t + i) from by rw [li_16, pk_mul, nI_add, Nat.mul_comm], nI_1]
      refine ⟨vp_in_nI (by omega) (by omega), nm_e ?_⟩
      rw [nI_clamp (by omega)]
      refine ih _ ⟨hF.up (by omega) (by omega), fun c j hne => ?_, fun t' h1 i' h2 => ?_, fun i' h2 => ?_⟩
      · rw [up_n (by omega)]; exact hc c j hne
      · rw [up_n (by omega)]; exact h47 t' h1 i' h2
      · rw [up_rd]
        by_cases e : i' = i
        · subst e; simp
        · rw [if_neg (by omega)]; exact hno i' (by omega)
/-- the numbers behind a playing -/
def XE (d : DD) (H : HH) (P : PL) : Prop := (∀ t, t < nT H → P 0 t ≠ 0 ∧ d 39 t = nI (P 0 t - 1) ∧ d 40 t = nI (P 1 t) ∧ d 41 t = nI (P 2 t)) ∧ ∀ p, p < nP H → d 42 p = nI (P 4 p)
theorem XE_of {hn : Nat} {d : DD} {H : HH} {P P' : PL} (h : XP hn d H P) (ho : Pover H P) (hs : Psame P P') : XE d H P' := by
  refine ⟨fun t ht => ?_, fun p hp => ?_⟩
  · obtain ⟨a1, a2, a3⟩ := h.1 t ht
    have o := ho t ht
    rw [← hs 0 t (by decide), ← hs 1 t (by decide), ← hs 2 t (by decide)]
    refine ⟨o, ?_, a2 o, a3⟩
    rw [a1]; unfold hv; rw [if_neg o]
  · rw [← hs 4 p (by decide)]; exact (h.2.1 p hp).1
theorem X_run {q : DD → Prop} {d : DD} {b sil : Nat} {H : HH} (Hb : isH b) (hX : XH b d H) (ok : OKH H) (hs : sil < 2 ^ 30) (h : ∀ d', XF d d' → XE d' H (playS H sil) → q d') : Cn SX MX1_run [.ref 38, .ref b, .int (nI sil)] d (rV q) := by
  have o4 := ok.t4
  have op := ok.p4
  refine cn_X1_run Hb ?_
  rw [li_0]
  refine for_up (W := fun k d' => Ev SX MX1_run 2 [.ref 38, .ref b, .int (nI sil), .int (nI k), uJ, uJ] [] d' (rV q)) (I := fun k d' => XF d d' ∧ XQ k d' H) (nT H) ?_ ?_ 0 d (Nat.zero_le _) ⟨XF.rf, fun t h => absurd h (Nat.not_lt_zero t)⟩
  · rintro d1 ⟨hF1, hQ1⟩
    refine bk_X1_run_2 Hb ⟨fun _ => ?_, fun c => absurd ?_ c⟩
    · rw [li_0]
      refine for_up (W := fun k d' => Ev SX MX1_run 24 [.ref 38, .ref b, .int (nI sil), .int (nI k), uJ, uJ] [] d' (rV q)) (I := fun k d' => XF d d' ∧ XQ (nT H) d' H ∧ ∀ p, p < k → p < nP H → d' 42 p = nI 0 ∧ d' 43 p = nI (if sil.testBit p then 0 else H 6 p)) (nP H) ?_ ?_ 0 d1 (Nat.zero_le _) ⟨hF1, hQ1, fun p h => absurd h (Nat.not_lt_zero p)⟩
      · rintro d2 ⟨hF2, hQ2, hB2⟩
        refine bk_X1_run_24 Hb ⟨fun _ => nm_e ?_, fun c => absurd ?_ c⟩
        · rw [(hX.xf Hb hF2).nt, li_0]
          have hF3 := hF2.up (c := 38) (j := 9) (v := nI (nT H)) (by omega) (by omega)
          have hP3 : XP 0 (up d2 38 9 (nI (nT H))) H (runS H sil 0) := by
            refine ⟨fun t ht => ?_, fun p hp => ?_, fun t h => absurd h (Nat.not_lt_zero t), ?_, fun t ht => ?_⟩
            · obtain ⟨a1, a2, a3, a4, a5⟩ := hQ2 t ht ht
              simp only [up_rd]
              simp
              exact ⟨a1, fun z => absurd rfl z, a2⟩
            · obtain ⟨a1, a2⟩ := hB2 p hp hp
              simp only [up_rd]
              simp
              exact ⟨a1, a2⟩
            · rw [up_s]
              congr 1
              have : ∀ n, aliveN (runS H sil 0) n = n := by
                intro n
                induction n with
                | zero => rfl
                | succ n ih => show aliveN (runS H sil 0) n + 1 = n + 1; rw [ih]
              rw [this]
            · obtain ⟨a1, a2, a3, a4, a5⟩ := hQ2 t ht ht
              simp only [up_rd]
              simp
              exact ⟨a3, a4, a5⟩
          refine for_up (W := fun m d' => Ev SX MX1_run 80 [.ref 38, .ref b, .int (nI sil), .int (nI m), uJ, uJ] [] d' (rV q)) (I := fun m d' => XF d d' ∧ XP 0 d' H (runS H sil m)) 160 ?_ ?_ 0 _ (Nat.zero_le _) ⟨hF3, hP3⟩
          · rintro d4 ⟨hF4, hP4⟩
            refine bk_X1_run_80 Hb ⟨fun _ => h d4 hF4 ?_, fun c => absurd (nI_le (Nat.le_refl 160) (by decide)) c⟩
            exact XE_of hP4 (fun t ht => pinv_over ok (runS_inv ok 160) (by decide) ht) (fun _ _ _ => rfl)
          · rintro m d4 hm ⟨hF4, hP4⟩ ih
            have hal := alive_le (runS H sil m) (nT H)
            refine bk_X1_run_80 Hb ⟨fun c => ?_, fun _ => ⟨fun c => ?_, fun c => ?_⟩⟩
            · exact absurd ((nI_leI (a := 160) (by omega) (by omega)).mp c) (by omega)
            · rw [hP4.2.2.2.1] at c
              have c := (nI_leI (b := 0) (by omega) (by omega)).mp c
              have ho : Pover H (runS H sil m) := alive_0 (by omega)
              refine h d4 hF4 (XE_of hP4 ho ?_)
              have := runS_over ho (160 - m)
              rw [show m + (160 - m) = 160 from by omega] at this
              exact this
            · rw [li_0]
              have hI := runS_inv (sil := sil) ok m
              generalize hPm : runS H sil m = P at hP4 hI
              have hA := hearA_pin2 ok hI
              refine for_up (W := fun t d' => Ev SX MX1_run 97 [.ref 38, .ref b, .int (nI sil), .int (nI m), .int (nI t), uJ] [] d' (rV q)) (I := fun t d' => XF d d' ∧ XP t d' H (hearA H m P t)) (nT H) ?_ ?_ 0 _ (Nat.zero_le _) ⟨hF4, hP4⟩
              · rintro d5 ⟨hF5, hP5⟩
                refine bk_X1_run_97 Hb ⟨fun _ => ?_, fun c => absurd ?_ c⟩
                · rw [nI_1]
                  refine X_crossAll Hb (hX.xf Hb hF5) ok hP5 (pin3_of (hA _ (Nat.le_refl _))) hm (fun d6 hF6 hP6 => ih d6 ⟨hF5.tr hF6, ?_⟩)
                  have e : runS H sil (m + 1) = minS H m (runS H sil m) := rfl
                  rw [e, hPm]
                  exact ⟨hP6.1, hP6.2.1, fun t h => absurd h (Nat.not_lt_zero t), hP6.2.2.2.1, hP6.2.2.2.2⟩
                · rw [(hX.xf Hb hF5).nt]; exact nI_le (Nat.le_refl _) (by omega)
              · rintro t d5 ht ⟨hF5, hP5⟩ ih5
                have hX5 := hX.xf Hb hF5
                have hIt := hA t (by omega)
                have he : hearA H m P (t + 1) = hearS H m (hearA H m P t) t := rfl
                rw [he] at ih5
                generalize hearA H m P t = Pt at hP5 hIt ih5
                have hst := (ok.tt ht).2.2.2.2.2.1
                have hov := (hIt.2.2.1 t ht).1
                have no : ∀ (c : Pt 0 t ≠ 0 ∨ m < H 3 t), Ev SX MX1_run 133 [.ref 38, .ref b, .int (nI sil), .int (nI m), .int (nI t), uJ] [.int 0] d5 (rV q) := by
                  intro c
                  refine bk_X1_run_133 Hb ⟨fun _ => ⟨vp_in_nI (by omega) (by omega), nm_e ?_⟩, fun c => absurd rfl c⟩
                  rw [nI_1, nI_clamp (by omega)]
                  refine ih5 _ ⟨hF5.up (by omega) (by omega), ?_⟩
                  have e : hearS H m Pt t = pu Pt 5 t 0 := by unfold hearS; rw [if_pos c]
                  rw [e]
                  exact (hP5.h5 (Nat.le_refl _)).next (by rw [pu_s]; rfl)
                refine bk_X1_run_97 Hb ⟨fun c => ?_, fun _ => ⟨vp_in_nI (by omega) (by omega), fun c => ?_, fun c => ⟨vp_in_nI (by omega) (by omega), fun c2 => ?_, fun c2 => ?_⟩⟩⟩
                · rw [hX5.nt] at c; exact absurd ((nI_leI (by omega) (by omega)).mp c) (by omega)
                · rw [nI_clamp (by omega), (hP5.1 t ht).1] at c
                  have c := mt (hv_m1 (n := Pt 0 t) (by omega)).mpr c
                  exact no (Or.inl c)
                · rw [nI_clamp (by omega), hX5.start ht] at c2
                  exact no (Or.inr ((nI_ltI (by omega) (by omega)).mp c2))
                · rw [nI_clamp (by omega), (hP5.1 t ht).1] at c
                  have c := (hv_m1 (n := Pt 0 t) (by omega)).mp c
                  rw [nI_clamp (by omega), hX5.start ht] at c2
                  have c2 := mt (nI_ltI (by omega) (by omega)).mpr c2
                  refine bk_X1_run_133 Hb ⟨fun c => absurd c (by decide), fun _ => ?_⟩
                  refine X_noteHeard Hb hX5 ok hP5 hIt ht hm c (by omega) (fun d6 hF6 hP6 => ⟨vp_in_nI (by omega) (by omega), nm_e ?_⟩)
                  rw [nI_1, nI_clamp (by omega)]
                  exact ih5 _ ⟨(hF5.tr hF6).up (by omega) (by omega), hP6.next rfl⟩
        · rw [(hX.xf Hb hF2).np]; exact nI_le (Nat.le_refl _) (by omega)
      · rintro p d2 hp ⟨hF2, hQ2, hB2⟩ ih
        refine bk_X1_run_24 Hb ⟨fun c => ?_, fun _ => ⟨vp_in_nI (by omega) (by omega), nm_e ?_⟩⟩
        · rw [(hX.xf Hb hF2).np] at c; exact absurd ((nI_leI (by omega) (by omega)).mp c) (by omega)
        · rw [nI_clamp (by omega), nI_1]
          have keepQ : ∀ v : Int32, XQ (nT H) (up (up d2 42 p 0) 43 p v) H := by
            intro v t h1 h2
            have := hQ2 t h1 h2
            simp only [up_rd]
            simpa using this
          have keepB : ∀ v : Int32, v = nI (if sil.testBit p then 0 else H 6 p) → ∀ p', p' < p + 1 → p' < nP H → (up (up d2 42 p 0) 43 p v) 42 p' = nI 0 ∧ (up (up d2 42 p 0) 43 p v) 43 p' = nI (if sil.testBit p' then 0 else H 6 p') := by
            intro v hv0 p' h1 h2
            by_cases e : p' = p
            · subst e; simp only [up_rd]; simp; exact ⟨rfl, hv0⟩
            · have := hB2 p' (by omega) h2
              simp only [up_rd]; simp [e]; exact this
          have hF3 := hF2.up (c := 42) (j := p) (v := 0) (by omega) (by omega)
          refine ⟨fun c => ⟨vp_in_nI (by omega) (by omega), vp_in_nI (by omega) (by omega), nm_e ?_⟩, fun c => ⟨vp_in_nI (by omega) (by omega), nm_e ?_⟩⟩
          · rw [(hX.xf Hb hF3).breath hp]
            refine ih _ ⟨hF3.up (by omega) (by omega), keepQ _, keepB _ ?_⟩
            have : sil.testBit p = false := by
              rcases hb : sil.testBit p with _ | _
              · rfl
              · exact absurd (bit_t (by omega) (by omega) hb) c
            rw [this]; rfl
          · refine ih _ ⟨hF3.up (by omega) (by omega), keepQ _, keepB _ ?_⟩
            have : sil.testBit p = true := by
              rcases hb : sil.testBit p with _ | _
              · have := bit_f (a := sil) (k := p) (by omega) (by omega) hb
                rw [this] at c; exact absurd c (by decide)
              · rfl
            rw [this]; rfl
    · rw [(hX.xf Hb hF1).nt]; exact nI_le (Nat.le_refl _) (by omega)
  · rintro t d1 ht ⟨hF1, hQ1⟩ ih
    refine bk_X1_run_2 Hb ⟨fun c => ?_, fun _ => ?_⟩
    · rw [(hX.xf Hb hF1).nt] at c; exact absurd ((nI_leI (by omega) (by omega)).mp c) (by omega)
    · rw [nI_1]
      exact X_prepareTune Hb (hX.xf Hb hF1) ok hQ1 ht (fun d2 hF hQ => ih d2 ⟨hF1.tr hF, hQ⟩)
end
section
/-! more of a playing's numbers: what is heard, what stays -/
theorem hear_5n {H : HH} {m k t : Nat} {P : PL} (h : t ≠ k) : hearS H m P k 5 t = P 5 t := by
  unfold hearS
  split
  · simp [pu_rd, h]
  · split
    · simp [pu_rd, finS, h]
    · split
      · simp [pu_rd, finS, h]
      · split <;> simp [pu_rd, finS, h]
theorem hear_hd {H : HH} {m k : Nat} {P : PL} (h : hearS H m P k 5 k ≠ 0) : P 0 k = 0 ∧ H 3 k ≤ m ∧ P 2 k ≠ lenO H k ∧ hearS H m P k 5 k = noteO H k m + 1 ∧ hearS H m P k 2 k = P 2 k + 1 ∧ hearS H m P k 0 k = 0 := by
  unfold hearS at h ⊢
  split at h
  · exact absurd (by simp [pu_rd]) h
  · rename_i c
    rw [if_neg c]
    split at h
    · exact absurd (by simp [pu_rd]) h
    · rename_i c2
      rw [if_neg c2]
      split at h
      · exact absurd (by simp [pu_rd]) h
      · rename_i c3
        rw [if_neg c3]
        split at h
        · exact absurd (by simp [pu_rd]) h
        · rename_i c4
          rw [if_neg c4]
          refine ⟨by omega, by omega, c2, by simp [pu_rd], by simp [pu_rd], ?_⟩
          simp [pu_rd]; omega
theorem hear_no {H : HH} {m k : Nat} {P : PL} (h : hearS H m P k 5 k = 0) : hearS H m P k 2 k = P 2 k ∧ (hearS H m P k 0 k = P 0 k ∨ (P 0 k = 0 ∧ H 3 k ≤ m ∧ hearS H m P k 0 k = m + 1)) ∧ (P 0 k ≠ 0 ∨ m < H 3 k → hearS H m P k 0 k = P 0 k) := by
  unfold hearS at h ⊢
  split at h
  · rename_i c
    rw [if_pos c]; exact ⟨by simp [pu_rd], Or.inl (by simp [pu_rd]), fun _ => by simp [pu_rd]⟩
  · rename_i c
    rw [if_neg c]
    split at h
    · rename_i c2
      rw [if_pos c2]; exact ⟨by simp [pu_rd, finS], Or.inr ⟨by omega, by omega, by simp [pu_rd, finS]⟩, fun z => absurd z c⟩
    · rename_i c2
      rw [if_neg c2]
      split at h
      · rename_i c3
        rw [if_pos c3]; exact ⟨by simp [pu_rd, finS], Or.inr ⟨by omega, by omega, by simp [pu_rd, finS]⟩, fun z => absurd z c⟩
      · rename_i c3
        rw [if_neg c3]
        split at h
        · rename_i c4
          rw [if_pos c4]; exact ⟨by simp [pu_rd, finS], Or.inr ⟨by omega, by omega, by simp [pu_rd, finS]⟩, fun z => absurd z c⟩
        · simp [pu_rd] at h
theorem hear_n {H : HH} {m k t f : Nat} {P : PL} (h : t ≠ k) (hf : f ≠ 3 ∧ f ≠ 4) : hearS H m P k f t = P f t := by
  unfold hearS
  split
  · simp [pu_rd, h]
  · split
    · simp [pu_rd, finS, h]
    · split
      · simp [pu_rd, finS, h]
      · split <;> simp [pu_rd, finS, h, hf.1, hf.2]
theorem cross_n {H : HH} {m a b f t : Nat} {P : PL} (h : f ≠ 0 ∧ f ≠ 1) : crossS H m P a b f t = P f t := by
  unfold crossS
  split
  · simp [finS, pu_rd, h.1, h.2]
  · rfl
theorem crossI_n {H : HH} {m a f t : Nat} {P : PL} (h : f ≠ 0 ∧ f ≠ 1) (n : Nat) : crossI H m a P n f t = P f t := by
  induction n with
  | zero => rfl
  | succ n ih => exact (cross_n h).trans ih
theorem crossA_n {H : HH} {m f t : Nat} {P : PL} (h : f ≠ 0 ∧ f ≠ 1) (n : Nat) : crossA H m P n f t = P f t := by
  induction n with
  | zero => rfl
  | succ n ih => exact (crossI_n h _).trans ih
/-- an over is laid by a crossing only where a tune sounds -/
theorem cross_0 {H : HH} {m a b t : Nat} {P : PL} : crossS H m P a b 0 t = P 0 t ∨ (P 0 t = 0 ∧ P 5 t ≠ 0 ∧ crossS H m P a b 0 t = m + 1) := by
  unfold crossS
  split
  · rename_i c
    have h := first_lt c.2.2
    simp only [decide_eq_true_eq] at h
    by_cases e : t = thirdS H P a b
    · right
      have h' : t ≠ a ∧ t ≠ b ∧ P 5 t ≠ 0 ∧ P 0 t = 0 := by rw [e]; exact h
      refine ⟨h'.2.2.2, h'.2.2.1, ?_⟩
      rw [e]; simp [finS, pu_rd]
    · left; simp [finS, pu_rd, e]
  · exact Or.inl rfl
theorem crossI_0 {H : HH} {m a t : Nat} {P : PL} (n : Nat) : crossI H m a P n 0 t = P 0 t ∨ (P 0 t = 0 ∧ P 5 t ≠ 0 ∧ crossI H m a P n 0 t = m + 1) := by
  induction n with
  | zero => exact Or.inl rfl
  | succ n ih =>
    have h := cross_0 (H := H) (m := m) (a := a) (b := a + 1 + n) (t := t) (P := crossI H m a P n)
    have h5 : crossI H m a P n 5 t = P 5 t := crossI_n (by decide) n
    have e : crossI H m a P (n + 1) = crossS H m (crossI H m a P n) a (a + 1 + n) := rfl
    rw [e]
    rcases h with h | ⟨h1, h2, h3⟩
    · rw [h]; exact ih
    · rw [h5] at h2
      rcases ih with ih | ih
      · exact Or.inr ⟨by rw [← ih]; exact h1, h2, h3⟩
      · omega
theorem crossA_0 {H : HH} {m t : Nat} {P : PL} (n : Nat) : crossA H m P n 0 t = P 0 t ∨ (P 0 t = 0 ∧ P 5 t ≠ 0 ∧ crossA H m P n 0 t = m + 1) := by
  induction n with
  | zero => exact Or.inl rfl
  | succ n ih =>
    have h := crossI_0 (H := H) (m := m) (a := n) (t := t) (P := crossA H m P n) (nT H - (n + 1))
    have h5 : crossA H m P n 5 t = P 5 t := crossA_n (by decide) n
    have e : crossA H m P (n + 1) = crossI H m n (crossA H m P n) (nT H - (n + 1)) := rfl
    rw [e]
    rcases h with h | ⟨h1, h2, h3⟩
    · rw [h]; exact ih
    · rw [h5] at h2
      rcases ih with ih | ih
      · exact Or.inr ⟨by rw [← ih]; exact h1, h2, h3⟩
      · omega
/-- behind the hearing of k tunes: those from k on as before, those below by one hearing -/
theorem hearA_ge {H : HH} {m : Nat} {P : PL} : ∀ k t f, k ≤ t → f ≠ 3 ∧ f ≠ 4 → hearA H m P k f t = P f t := by
  intro k
  induction k with
  | zero => intro t f _ _; rfl
  | succ k ih =>
    intro t f h hf
    exact (hear_n (H := H) (m := m) (P := hearA H m P k) (by omega) hf).trans (ih t f (by omega) hf)
theorem hearA_lt {H : HH} {m : Nat} {P : PL} : ∀ k t f, t < k → f ≠ 3 ∧ f ≠ 4 → hearA H m P k f t = hearS H m (hearA H m P t) t f t := by
  intro k
  induction k with
  | zero => intro t f h; exact absurd h (Nat.not_lt_zero t)
  | succ k ih =>
    intro t f h hf
    have e : hearA H m P (k + 1) = hearS H m (hearA H m P k) k := rfl
    rw [e]
    by_cases ht : t = k
    · subst ht; rfl
    · rw [hear_n ht hf]; exact ih t f (by omega) hf
/-- the heard ones of a minute -/
theorem hearA_hd {H : HH} {m k t : Nat} {P : PL} (h : t < k) (h5 : hearA H m P k 5 t ≠ 0) : P 0 t = 0 ∧ H 3 t ≤ m ∧ P 2 t ≠ lenO H t ∧ hearA H m P k 5 t = noteO H t m + 1 ∧ hearA H m P k 2 t = P 2 t + 1 ∧ hearA H m P k 0 t = 0 := by
  rw [hearA_lt k t 5 h (by decide)] at h5 ⊢
  rw [hearA_lt k t 2 h (by decide), hearA_lt k t 0 h (by decide)]
  have := hear_hd h5
  rw [hearA_ge t t 0 (Nat.le_refl t) (by decide), hearA_ge t t 2 (Nat.le_refl t) (by decide)] at this
  exact this
theorem hearA_no {H : HH} {m k t : Nat} {P : PL} (h : t < k) (h5 : hearA H m P k 5 t = 0) : hearA H m P k 2 t = P 2 t ∧ (hearA H m P k 0 t = P 0 t ∨ (P 0 t = 0 ∧ H 3 t ≤ m ∧ hearA H m P k 0 t = m + 1)) := by
  rw [hearA_lt k t 5 h (by decide)] at h5
  rw [hearA_lt k t 2 h (by decide), hearA_lt k t 0 h (by decide)]
  have := hear_no h5
  rw [hearA_ge t t 0 (Nat.le_refl t) (by decide), hearA_ge t t 2 (Nat.le_refl t) (by decide)] at this
  exact ⟨this.1, this.2.1⟩
/-- what is over, sounded before -/
def Pov (H : HH) (P : PL) : Prop := ∀ t, t < nT H → P 0 t ≠ 0 → H 3 t + P 2 t ≤ P 0 t
theorem minS_ov {H : HH} {m : Nat} {P : PL} (hI : Pinv H m P) (h : Pov H P) : Pov H (minS H m P) := by
  intro t ht e
  have e2 : minS H m P 2 t = hearA H m P (nT H) 2 t := crossA_n (by decide) _
  have e0 := crossA_0 (H := H) (m := m) (t := t) (P := hearA H m P (nT H)) (nT H)
  have hm : minS H m P 0 t = crossA H m (hearA H m P (nT H)) (nT H) 0 t := rfl
  rw [hm] at e ⊢
  rw [e2]
  by_cases h5 : hearA H m P (nT H) 5 t = 0
  · obtain ⟨h1, h2⟩ := hearA_no ht h5
    rw [h1]
    rcases e0 with e0 | e0
    · rw [e0] at e ⊢
      rcases h2 with h2 | ⟨h2, h3, h4⟩
      · rw [h2] at e ⊢; exact h t ht e
      · rw [h4]
        have := hI.1 t ht h2
        omega
    · exact absurd h5 e0.2.1
  · obtain ⟨h1, h2, h3, h4, h6, h7⟩ := hearA_hd ht h5
    rw [h6]
    have := hI.1 t ht h1
    rcases e0 with e0 | e0
    · rw [e0] at e; exact absurd h7 e
    · rw [e0.2.2]; omega
theorem runS_ov {H : HH} {sil : Nat} (ok : OKH H) : ∀ k, Pov H (runS H sil k) := by
  intro k
  induction k with
  | zero => intro t _ e; exact absurd rfl e
  | succ k ih => exact minS_ov (runS_inv ok k) ih
/-- which tunes sound in minute m -/
def sndB (H : HH) (P : PL) (m t : Nat) : Bool := decide (H 3 t ≤ m ∧ m < H 3 t + P 2 t)
theorem min_snd {H : HH} {m t : Nat} {P : PL} (hI : Pinv H m P) (ho : Pov H P) (ht : t < nT H) : decide (hearA H m P (nT H) 5 t ≠ 0) = sndB H (minS H m P) m t := by
  unfold sndB
  have e2 : minS H m P 2 t = hearA H m P (nT H) 2 t := crossA_n (by decide) _
  rw [e2]
  by_cases h5 : hearA H m P (nT H) 5 t = 0
  · obtain ⟨h1, h2⟩ := hearA_no ht h5
    rw [h1]
    have h6 : ¬ (H 3 t ≤ m ∧ m < H 3 t + P 2 t) := by
      rintro ⟨a, b⟩
      by_cases z : P 0 t = 0
      · have := hI.1 t ht z; omega
      · have := ho t ht z
        have := (hI.2.2.1 t ht).1
        omega
    rw [decide_eq_false h6, h5]; rfl
  · obtain ⟨h1, h2, h3, h4, h6, h7⟩ := hearA_hd ht h5
    have := hI.1 t ht h1
    rw [h6, decide_eq_true h5]
    exact (decide_eq_true ⟨h2, by omega⟩).symm
theorem min_snd_old {H : HH} {m m' t : Nat} {P : PL} (hI : Pinv H m P) (ht : t < nT H) (hm : m' < m) : sndB H (minS H m P) m' t = sndB H P m' t := by
  unfold sndB
  have e2 : minS H m P 2 t = hearA H m P (nT H) 2 t := crossA_n (by decide) _
  rw [e2]
  by_cases h5 : hearA H m P (nT H) 5 t = 0
  · rw [(hearA_no ht h5).1]
  · obtain ⟨h1, h2, h3, h4, h6, h7⟩ := hearA_hd ht h5
    have := hI.1 t ht h1
    rw [h6]
    congr 1
    apply propext
    omega
end
section
/-! ===== the reference's playing ===== -/
/-- rows 6 to 11 are the playing's -/
def MF (d d' : DD) : Prop := ∀ a, a < 6 ∨ 11 < a → d' a = d a
theorem MF.rf {d : DD} : MF d d := fun _ _ => rfl
theorem MF.tr {d d' d2 : DD} (h : MF d d') (h2 : MF d' d2) : MF d d2 := fun a ha => (h2 a ha).trans (h a ha)
theorem MF.up {d d' : DD} {c j : Nat} {v : Int32} (h : MF d d') (h1 : 6 ≤ c) (h2 : c ≤ 11) : MF d (up d' c j v) := fun a ha => (up_ne a (by omega)).trans (h a ha)
theorem MH.mf {o : Nat} {d d' : DD} {H : HH} (h : MH o d H) (ok : OKH H) (e : MF d d') : MH o d' H := h.kept (fun j _ _ => by rw [e 0 (by omega)]) (fun j _ _ => by rw [e 1 (by omega)]) ok
def mv (n : Nat) : Int32 := if n = 0 then -4 else nI (n - 1)
theorem mv_s (n : Nat) : mv (n + 1) = nI n := by unfold mv; rw [if_neg (by omega)]; rfl
theorem mv_m4 {n : Nat} (h : n < 2 ^ 30) : mv n = -4 ↔ n = 0 := by
  constructor
  · intro e
    cases n with
    | zero => rfl
    | succ n => rw [mv_s] at e; exact absurd e (ne_m4 (by omega))
  · intro e; rw [e]; rfl
def MP (d : DD) (H : HH) (sil : Nat) (P : PL) : Prop := (∀ t, t < nT H → d 8 t = mv (P 0 t) ∧ d 9 t = nI (P 1 t) ∧ d 10 t = nI (P 2 t)) ∧ (∀ p, p < nP H → d 7 p = nI (P 4 p) ∧ (sil.testBit p = false → d 6 p = nI (P 3 p)) ∧ (sil.testBit p = true → P 3 p = 0)) ∧ d 0 26 = nI sil
theorem MP.h5 {t v sil : Nat} {d : DD} {H : HH} {P : PL} (h : MP d H sil P) : MP d H sil (pu P 5 t v) := by
  obtain ⟨h1, h2, h3⟩ := h
  refine ⟨fun t' ht' => ?_, fun p hp => ?_, h3⟩
  · simpa [pu_rd] using h1 t' ht'
  · simpa [pu_rd] using h2 p hp
theorem MP.play {p sil : Nat} {d : DD} {H : HH} {P : PL} (h : MP d H sil P) (hp : p < nP H) (h0 : 0 < P 3 p) : MP (up (up d 6 p (nI (P 3 p) - 1)) 7 p (nI (P 4 p) + 1)) H sil (pu (pu P 3 p (P 3 p - 1)) 4 p (P 4 p + 1)) := by
  obtain ⟨h1, h2, h3⟩ := h
  refine ⟨fun t' ht' => ?_, fun p' hp' => ?_, ?_⟩
  · simpa [pu_rd, up_rd] using h1 t' ht'
  · by_cases e : p' = p
    · subst e
      obtain ⟨a1, a2, a3⟩ := h2 p' hp'
      simp only [up_rd, pu_rd]
      simp only [and_self, if_true]
      refine ⟨nI_1 _, fun z => ?_, fun z => ?_⟩
      · simp
        rw [li_1, pk_sub (by omega)]
      · have := a3 z; omega
    · simpa [pu_rd, up_rd, e] using h2 p' hp'
  · simpa [up_rd] using h3
theorem MP.snd {t sil : Nat} {d : DD} {H : HH} {P : PL} (h : MP d H sil P) : MP (up d 10 t (nI (P 2 t) + 1)) H sil (pu P 2 t (P 2 t + 1)) := by
  obtain ⟨h1, h2, h3⟩ := h
  refine ⟨fun t' ht' => ?_, fun p' hp' => ?_, ?_⟩
  · by_cases e : t' = t
    · subst e
      obtain ⟨a1, a2, a3⟩ := h1 t' ht'
      simp only [up_rd, pu_rd]
      simp
      exact ⟨a1, a2, nI_1 _⟩
    · simpa [pu_rd, up_rd, e] using h1 t' ht'
  · simpa [pu_rd, up_rd] using h2 p' hp'
  · simpa [up_rd] using h3
theorem MP.row11 {i sil : Nat} {d : DD} {H : HH} {P : PL} {v : Int32} (h : MP d H sil P) : MP (up d 11 i v) H sil P := by
  obtain ⟨h1, h2, h3⟩ := h
  exact ⟨fun t' ht' => by simpa [up_rd] using h1 t' ht', fun p' hp' => by simpa [up_rd] using h2 p' hp', by simpa [up_rd] using h3⟩
theorem M_ends {q : DD → Prop} {d : DD} {t m w sil : Nat} {H : HH} {P : PL} (ok : OKH H) (hP : MP d H sil P) (ht : t < nT H) (h : ∀ d', MF d d' → MP d' H sil (finS P t m w) → (∀ j, d' 11 j = d 11 j) → q d') : Cn SM MX5_ends [.ref 0, .int (nI t), .int (nI m), .int (nI w)] d (rV q) := by
  have o4 := ok.t4
  refine cn_X5_ends ⟨vp_in_nI (by omega) (by omega), nm_e ⟨vp_in_nI (by omega) (by omega), nm_e ?_⟩⟩
  rw [nI_clamp (by omega)]
  obtain ⟨h1, h2, h3⟩ := hP
  refine h _ ((MF.rf.up (by omega) (by omega)).up (by omega) (by omega)) ⟨fun t' ht' => ?_, fun p hp => ?_, ?_⟩ (fun j => ?_)
  · have := h1 t' ht'
    by_cases e : t' = t
    · subst e; simp [up_rd, finS, pu_rd, mv_s, this.2.2]
    · simp [up_rd, finS, pu_rd, e]; exact this
  · have := h2 p hp
    simp [up_rd, finS, pu_rd]; simpa using this
  · simpa [up_rd] using h3
  · simp [up_rd]
theorem M_playerAt {q : Int32 → DD → Prop} {d : DD} {t sil : Nat} {H : HH} {P : PL} (hM : MH 0 d H) (ok : OKH H) (hP : MP d H sil P) (hsl : sil < 2 ^ 30) (hB : ∀ p, p < nP H → P 3 p < 2 ^ 30) (ht : t < nT H) (h1 : playerS H P t < nP H → q (nI (playerS H P t)) d) (h0 : playerS H P t = nP H → q (-4) d) : Cn SM MX5_playerAt [.ref 0, .int (nI t)] d (rI q) := by
  have o4 := ok.p4
  have ot4 := ok.t4
  refine cn_X5_playerAt ?_
  rw [li_0]
  refine for_up (W := fun k d' => Ev SM MX5_playerAt 2 [.ref 0, .int (nI t), .int (nI k)] [] d' (rI q)) (I := fun k d' => d' = d ∧ ∀ j, j < k → decide (H 8 j = t ∧ 0 < P 3 j) = false) (nP H) ?_ ?_ 0 d (Nat.zero_le _) ⟨rfl, fun j h => absurd h (Nat.not_lt_zero j)⟩
  · rintro d' ⟨rfl, hno⟩
    refine bk_X5_playerAt_2 ⟨fun _ => h0 (first_none hno), fun c => absurd ?_ c⟩
    rw [hM.np]; exact nI_le (Nat.le_refl _) (by omega)
  · rintro k d' hk ⟨rfl, hno⟩ ih
    refine bk_X5_playerAt_2 ⟨fun c => ?_, fun _ => ?_⟩
    · rw [hM.np] at c; exact absurd ((nI_leI (by omega) (by omega)).mp c) (by omega)
    · have hat := (ok.pp hk).2.2.2.2
      obtain ⟨b1, b2, b3⟩ := hP.2.1 k hk
      rw [show (60 : Int32) + nI k = nI (60 + k) from nI_add 60 k]
      refine ⟨vp_in_nI (by omega) (by omega), ?_⟩
      rw [nI_clamp (by omega), hM.at hk, nI_1, nI_clamp (by omega), hP.2.2]
      have hnext : decide (H 8 k = t ∧ 0 < P 3 k) = false → Ev SM MX5_playerAt 2 [.ref 0, .int (nI t), .int (nI (k + 1))] [] d' (rI q) := fun hf => ih d' ⟨rfl, fun j hj => by
        rcases Nat.lt_or_ge j k with z | z
        · exact hno j z
        · have : j = k := by omega
          rw [this]; exact hf⟩
      have hBk := hB k hk
      refine ⟨fun c => hnext ?_, fun c => ⟨vp_in_nI (by omega) (by omega), fun c2 => ?_, fun c2 => ⟨fun c3 => hnext ?_, fun c3 => ?_⟩⟩⟩
      · simp only [decide_eq_false_iff_not]
        exact fun z => c (by rw [z.1])
      · apply hnext
        simp only [decide_eq_false_iff_not]
        rcases hb : sil.testBit k with _ | _
        · rw [b2 hb] at c2
          have c2 := (nI_leI (b := 0) (by omega) (by omega)).mp c2
          omega
        · have := b3 hb; omega
      · simp only [decide_eq_false_iff_not]
        rcases hb : sil.testBit k with _ | _
        · exact absurd (bit_f (by omega) (by omega) hb) c3
        · have := b3 hb; omega
      · rcases hb : sil.testBit k with _ | _
        · rw [b2 hb] at c2
          have c2 := mt (nI_leI (b := 0) (by omega) (by omega)).mpr c2
          have c := nI_inj (by omega) (by omega) c
          have e : playerS H P t = k := first_is hk (by simp only [decide_eq_true_eq]; omega) hno
          rw [e] at h1
          exact h1 hk
        · have := bit_t (a := sil) (k := k) (by omega) (by omega) hb
          rw [this] at c3; exact absurd c3 (by decide)
theorem noteB_in {H : HH} {t m : Nat} (h1 : H 3 t ≤ m) (h2 : m - H 3 t < lenO H t) : noteB H t (H 0 t) m = nI (noteO H t m) := by
  unfold noteB noteO
  unfold lenO at h2
  rw [if_neg (by omega)]
theorem M_doesSound {q : Int32 → DD → Prop} {d : DD} {t m sil : Nat} {H : HH} {P : PL} (hM : MH 0 d H) (ok : OKH H) (hP : MP d H sil P) (hsl : sil < 2 ^ 30) (hI : Pin2 H m t P) (ht : t < nT H) (hm : m < 160) (h : ∀ d', MF d d' → MP d' H sil (hearS H m P t) → (∀ j, d' 11 j = d 11 j) → q (if hearS H m P t 5 t = 0 then 0 else 1) d') : Cn SM MX5_doesSound [.ref 0, .int (nI t), .int (nI m)] d (rI q) := by
  have ot4 := ok.t4
  have op4 := ok.p4
  have ot := ok.tt ht
  have hl := lenB_le (k := H 0 t) ot
  have hlo : lenO H t ≤ 144 := hl
  have hst := ot.2.2.2.2.2.1
  obtain ⟨m1, m2, m3⟩ := hP.1 t ht
  have hov := (hI.2.2.1 t ht).1
  have hsl2 := hI.2.1 t ht
  have hB : ∀ p, p < nP H → P 3 p < 2 ^ 30 := fun p hp => by
    have h1 := hI.2.2.2.1 p hp
    have h2 := (ok.pp hp).2.2.1
    omega
  have out : (P 0 t ≠ 0 ∨ m < H 3 t) → q 0 d := fun c => by
    have e : hearS H m P t = pu P 5 t 0 := by unfold hearS; rw [if_pos c]
    rw [e] at h
    have h := h d MF.rf hP.h5 (fun _ => rfl)
    rw [pu_s, if_pos rfl] at h
    exact h
  refine cn_X5_doesSound ⟨vp_in_nI (by omega) (by omega), fun c => ?_, fun c => ?_⟩
  · rw [nI_clamp (by omega), m1] at c
    exact out (Or.inl (mt (mv_m4 (n := P 0 t) (by omega)).mpr c))
  · rw [nI_clamp (by omega), m1] at c
    have c := (mv_m4 (n := P 0 t) (by omega)).mp c
    have hsv := hI.1 t ht c
    rw [if_neg (Nat.lt_irrefl t)] at hsv
    rw [show (12 : Int32) + nI t = nI (12 + t) from nI_add 12 t]
    refine ⟨vp_in_nI (by omega) (by omega), fun c2 => ⟨vp_in_nI (by omega) (by omega), ?_⟩, fun c2 => ?_⟩
    · rw [nI_clamp (by omega), hM.start ht] at c2
      have c2 := (nI_leI (by omega) (by omega)).mp c2
      refine M_lengthOf hM ok ht ?_
      rw [nI_clamp (by omega), m3]
      refine ⟨fun c3 => ?_, fun c3 => ?_⟩
      · have c3 : ¬ P 2 t = lenO H t := fun e => c3 (by rw [e])
        refine M_playerAt hM ok hP hsl hB ht (fun hp => ⟨fun _ => ?_, fun e => absurd e (ne_m4 (by omega))⟩) (fun hp => ⟨fun e => absurd rfl e, fun _ => ?_⟩)
        · obtain ⟨hp1, hp2, hp3⟩ := player_spec (H := H) (P := P) (t := t) (by omega)
          have hpe : hearS H m P t = if H 5 (playerS H P t) < noteO H t m then pu (finS (pu (pu P 3 (playerS H P t) (P 3 (playerS H P t) - 1)) 4 (playerS H P t) (P 4 (playerS H P t) + 1)) t m 1) 5 t 0 else pu (pu (pu (pu P 3 (playerS H P t) (P 3 (playerS H P t) - 1)) 4 (playerS H P t) (P 4 (playerS H P t) + 1)) 2 t (P 2 t + 1)) 5 t (noteO H t m + 1) := by
            unfold hearS
            rw [if_neg (by omega), if_neg (by omega), if_neg (by omega)]
          generalize playerS H P t = p at *
          obtain ⟨b1, b2, b3⟩ := hP.2.1 p hp1
          have hbf : sil.testBit p = false := by
            rcases hb : sil.testBit p with _ | _
            · rfl
            · have := b3 hb; omega
          have b2 := b2 hbf
          refine ⟨vp_in_nI (by omega) (by omega), vp_in_nI (by omega) (by omega), nm_e ⟨vp_in_nI (by omega) (by omega), vp_in_nI (by omega) (by omega), nm_e ⟨vp_in_nI (by omega) (by omega), ?_⟩⟩⟩
          rw [nI_clamp (n := p) (by omega), b2, show up d 6 p (nI (P 3 p) - 1) 7 p = nI (P 4 p) from by rw [up_n (by omega)]; exact b1]
          have hP1 := hP.play hp1 hp3
          have hF : MF d (up (up d 6 p (nI (P 3 p) - 1)) 7 p (nI (P 4 p) + 1)) := (MF.rf.up (by omega) (by omega)).up (by omega) (by omega)
          have h11 : ∀ j, (up (up d 6 p (nI (P 3 p) - 1)) 7 p (nI (P 4 p) + 1)) 11 j = d 11 j := fun j => by simp [up_rd]
          generalize up (up d 6 p (nI (P 3 p) - 1)) 7 p (nI (P 4 p) + 1) = d8 at hP1 hF h11 ⊢
          have hM8 := hM.mf ok hF
          rw [hM8.kind ht]
          refine M_noteBy hM8 ok ht ot.1 hm ?_
          have hin : m - H 3 t < lenO H t := by omega
          rw [noteB_in c2 hin]
          have hn9 := noteO_le (m := m) ot
          have hs9 := (ok.pp hp1).1
          have gsd : d8 10 t = nI (P 2 t) := by have := (hP1.1 t ht).2.2; simpa [pu_rd] using this
          rw [show (48 : Int32) + nI p = nI (48 + p) from nI_add 48 p]
          refine ⟨vp_in_nI (by omega) (by omega), ?_⟩
          rw [nI_clamp (by omega), hM8.skill hp1]
          refine ⟨fun c4 => ⟨vp_in_nI (by omega) (by omega), vp_in_nI (by omega) (by omega), nm_e ?_⟩, fun c4 => ?_⟩
          · have c4 := (nI_leI (by omega) (by omega)).mp c4
            rw [if_neg (by omega)] at hpe
            rw [hpe] at h
            have hP2 := (hP1.snd (t := t)).h5 (t := t) (v := noteO H t m + 1)
            have hs2 : (pu (pu P 3 p (P 3 p - 1)) 4 p (P 4 p + 1)) 2 t = P 2 t := by simp [pu_rd]
            rw [hs2] at hP2
            have h := h _ (hF.up (c := 10) (j := t) (v := nI (P 2 t) + 1) (by omega) (by omega)) hP2 (fun j => by rw [up_n (by omega)]; exact h11 j)
            rw [pu_s, if_neg (by omega)] at h
            rw [gsd]
            exact h
          · have c4 := mt (nI_leI (by omega) (by omega)).mpr c4
            rw [if_pos (by omega)] at hpe
            rw [hpe] at h
            refine M_ends (w := 1) ok hP1 ht (fun d2 hf hp2 h11' => ?_)
            have h := h d2 (hF.tr hf) hp2.h5 (fun j => (h11' j).trans (h11 j))
            rw [pu_s, if_pos rfl] at h
            exact h
        · have hpe : hearS H m P t = pu (finS P t m 2) 5 t 0 := by
            unfold hearS
            rw [if_neg (by omega), if_neg (by omega), if_pos hp]
          rw [hpe] at h
          refine M_ends (w := 2) ok hP ht (fun d2 hf hp2 h11' => ?_)
          have h := h d2 hf hp2.h5 h11'
          rw [pu_s, if_pos rfl] at h
          exact h
      · have c3 := nI_inj (by omega) (by omega) c3
        have hpe : hearS H m P t = pu (finS P t m 0) 5 t 0 := by
          unfold hearS
          rw [if_neg (by omega), if_pos c3]
        rw [hpe] at h
        refine M_ends (w := 0) ok hP ht (fun d2 hf hp2 h11' => ?_)
        have h := h d2 hf hp2.h5 h11'
        rw [pu_s, if_pos rfl] at h
        exact h
    · rw [nI_clamp (by omega), hM.start ht] at c2
      have c2 := mt (nI_leI (by omega) (by omega)).mpr c2
      exact out (Or.inr (by omega))
end
section
/-- the mask of what is heard in this minute -/
def hdB (P : PL) (t : Nat) : Bool := decide (P 5 t ≠ 0)
/-- what M_crosses needs of the heard ones -/
def Phd (H : HH) (m : Nat) (P : PL) : Prop := ∀ t, t < nT H → P 5 t ≠ 0 → P 5 t = noteO H t m + 1 ∧ H 3 t ≤ m ∧ m - H 3 t < lenO H t
theorem phd_cong {H : HH} {m : Nat} {P P' : PL} (h : Phd H m P) (e : ∀ t, P' 5 t = P 5 t) : Phd H m P' := fun t ht => by rw [e]; exact h t ht
theorem mask_cong {p q : Nat → Bool} {n : Nat} (h : ∀ i, i < n → p i = q i) : maskN p n = maskN q n := sumN_cong (fun i hi => by rw [h i hi])
theorem mask16 {p : Nat → Bool} {n : Nat} (h : n ≤ 4) : maskN p n < 16 := Nat.lt_of_lt_of_le (maskN_lt p n) (Nat.pow_le_pow_right (by decide) h)
theorem M_crosses {q : DD → Prop} {d : DD} {m sil : Nat} {H : HH} {P : PL} (hM : MH 0 d H) (ok : OKH H) (hP : MP d H sil P) (hI : Pin3 H m P) (hh : Phd H m P) (h11 : d 11 m = nI (maskN (hdB P) (nT H))) (hm : m < 160) (h : ∀ d', MF d d' → MP d' H sil (crossA H m P (nT H)) → (∀ j, d' 11 j = d 11 j) → q d') : Cn SM MX5_crosses [.ref 0, .int (nI m)] d (rV q) := by
  have o4 := ok.t4
  have m16 := mask16 (p := hdB P) o4
  refine cn_X5_crosses ?_
  rw [li_0]
  refine for_up (W := fun k d' => Ev SM MX5_crosses 2 [.ref 0, .int (nI m), .int (nI k), uJ, uJ, uJ] [] d' (rV q)) (I := fun k d' => MF d d' ∧ MP d' H sil (crossA H m P k) ∧ ∀ j, d' 11 j = d 11 j) (nT H) ?_ ?_ 0 d (Nat.zero_le _) ⟨MF.rf, hP, fun _ => rfl⟩
  · rintro d' ⟨hF, hQ, h11'⟩
    refine bk_X5_crosses_2 ⟨fun _ => h d' hF hQ h11', fun c => absurd ?_ c⟩
    rw [(hM.mf ok hF).nt]; exact nI_le (Nat.le_refl _) (by omega)
  · rintro a d' ha ⟨hF, hQ, h11'⟩ ih
    refine bk_X5_crosses_2 ⟨fun c => ?_, fun _ => ?_⟩
    · rw [(hM.mf ok hF).nt] at c; exact absurd ((nI_leI (by omega) (by omega)).mp c) (by omega)
    · rw [nI_1]
      have hI2 : Pin3 H m (crossA H m P a) := crossA_pin3 hI
      have hA5 : ∀ t, crossA H m P a 5 t = P 5 t := fun t => crossA_n (by decide) a
      generalize hPa : crossA H m P a = Pa at hQ hI2 hA5
      refine for_up (W := fun k d2 => Ev SM MX5_crosses 14 [.ref 0, .int (nI m), .int (nI a), .int (nI (a + 1 + k)), uJ, uJ] [] d2 (rV q)) (I := fun k d2 => MF d d2 ∧ MP d2 H sil (crossI H m a Pa k) ∧ ∀ j, d2 11 j = d 11 j) (nT H - (a + 1)) ?_ ?_ 0 d' (Nat.zero_le _) ⟨hF, hQ, h11'⟩
      · rintro d2 ⟨hF2, hQ2, h112⟩
        refine bk_X5_crosses_14 ⟨fun _ => ?_, fun c => absurd ?_ c⟩
        · rw [nI_1]
          refine ih d2 ⟨hF2, ?_, h112⟩
          have e : crossA H m P (a + 1) = crossI H m a (crossA H m P a) (nT H - (a + 1)) := rfl
          rw [e, hPa]; exact hQ2
        · rw [(hM.mf ok hF2).nt]; exact nI_le (by omega) (by omega)
      · rintro k d2 hk ⟨hF2, hQ2, h112⟩ ih2
        have hI3 : Pin3 H m (crossI H m a Pa k) := crossI_pin3 hI2
        have hI5 : ∀ t, crossI H m a Pa k 5 t = P 5 t := fun t => (crossI_n (by decide) k).trans (hA5 t)
        obtain ⟨hb5, hb0⟩ := pin3_b hI3 hm
        generalize hPk : crossI H m a Pa k = Pk at hQ2 hI3 hb5 hb0 hI5
        have e : crossI H m a Pa (k + 1) = crossS H m Pk a (a + 1 + k) := by rw [← hPk]; rfl
        have hc : a + 1 + k < nT H := by omega
        rw [e, show a + 1 + (k + 1) = a + 1 + k + 1 from by omega] at ih2
        have hM2 := hM.mf ok hF2
        have hhk : Phd H m Pk := phd_cong hh hI5
        have hmk : d2 11 m = nI (maskN (hdB Pk) (nT H)) := by rw [h112, h11]; congr 1; exact mask_cong (fun i _ => by unfold hdB; rw [hI5])
        have m16k := mask16 (p := hdB Pk) o4
        have hbit : ∀ t, t < nT H → (maskN (hdB Pk) (nT H)).testBit t = hdB Pk t := fun t ht => by rw [maskN_bit]; simp [ht]
        generalize a + 1 + k = c at hc ih2 ⊢
        have skip : (Pk 5 a = 0 ∨ Pk 5 c = 0 ∨ Pk 5 a ≠ Pk 5 c) → Ev SM MX5_crosses 14 [.ref 0, .int (nI m), .int (nI a), .int (nI (c + 1)), uJ, uJ] [] d2 (rV q) := fun z => by
          refine ih2 d2 ⟨hF2, ?_, h112⟩
          unfold crossS
          rw [if_neg (fun w => by omega)]; exact hQ2
        have no55 : (Pk 5 a = 0 ∨ Pk 5 c = 0) → Ev SM MX5_crosses 55 [.ref 0, .int (nI m), .int (nI a), .int (nI c), uJ, uJ] [.int 0] d2 (rV q) := fun z => by
          refine bk_X5_crosses_55 ⟨fun _ => ?_, fun c => absurd rfl c⟩
          rw [nI_1]; exact skip (by omega)
        have bitz : ∀ t, t < nT H → ¬ ((nI (maskN (hdB Pk) (nT H)) >>> (nI t &&& 31)) &&& 1) = 1 → Pk 5 t = 0 := fun t ht z => by
          rcases hb : hdB Pk t with _ | _
          · unfold hdB at hb; simpa using hb
          · exact absurd (bit_t (by omega) (by omega) ((hbit t ht).trans hb)) z
        have bito : ∀ t, t < nT H → ((nI (maskN (hdB Pk) (nT H)) >>> (nI t &&& 31)) &&& 1) = 1 → Pk 5 t ≠ 0 := fun t ht z => by
          rcases hb : hdB Pk t with _ | _
          · have := bit_f (a := maskN (hdB Pk) (nT H)) (k := t) (by omega) (by omega) ((hbit t ht).trans hb)
            rw [this] at z; exact absurd z (by decide)
          · unfold hdB at hb; simpa using hb
        refine bk_X5_crosses_14 ⟨fun z => ?_, fun _ => ⟨vp_in_nI (by omega) (by omega), ?_⟩⟩
        · rw [hM2.nt] at z; exact absurd ((nI_leI (by omega) (by omega)).mp z) (by omega)
        · rw [nI_clamp (by omega), hmk]
          refine ⟨fun z => no55 (Or.inl (bitz a ha z)), fun z => ⟨vp_in_nI (by omega) (by omega), fun z2 => no55 (Or.inr (bitz c hc z2)), fun z2 => ?_⟩⟩
          have a5 := bito a ha z
          have c5 := bito c hc z2
          obtain ⟨na1, na2, na3⟩ := hhk a ha a5
          obtain ⟨nc1, nc2, nc3⟩ := hhk c hc c5
          have na9 := noteO_le (m := m) (ok.tt ha)
          have nc9 := noteO_le (m := m) (ok.tt hc)
          refine bk_X5_crosses_55 ⟨fun w => absurd w (by decide), fun _ => ⟨vp_in_nI (by omega) (by omega), ?_⟩⟩
          rw [nI_clamp (by omega), hM2.kind ha]
          refine M_noteBy hM2 ok ha (ok.tt ha).1 hm ⟨vp_in_nI (by omega) (by omega), ?_⟩
          rw [nI_clamp (by omega), hM2.kind hc, noteB_in na2 na3]
          refine M_noteBy hM2 ok hc (ok.tt hc).1 hm ?_
          rw [noteB_in nc2 nc3]
          refine ⟨fun w => ?_, fun w => ?_⟩
          · rw [nI_1]
            refine skip (Or.inr (Or.inr (fun e => w ?_)))
            rw [na1, nc1] at e
            congr 1; omega
          · have w := nI_inj (by omega) (by omega) w
            rw [li_0]
            have done : ∀ c2, c2 = thirdS H Pk a c → Ev SM MX5_crosses 145 [.ref 0, .int (nI m), .int (nI a), .int (nI c), .int 1, .int (nI c2)] [] d2 (rV q) := by
              intro c2 hc2
              have hle : c2 ≤ nT H := by rw [hc2]; exact first_le _ _
              refine bk_X5_crosses_145 ⟨fun z => ?_, fun z => ?_⟩
              · rw [hM2.nt] at z
                have z := (nI_leI (by omega) (by omega)).mp z
                rw [nI_1]
                refine ih2 d2 ⟨hF2, ?_, h112⟩
                unfold crossS
                rw [if_neg (fun w => by omega)]; exact hQ2
              · rw [hM2.nt] at z
                have z := mt (nI_leI (by omega) (by omega)).mpr z
                refine M_ends (w := 3) ok hQ2 (by omega) (fun d3 hf hp h113 => ?_)
                rw [nI_1]
                refine ih2 d3 ⟨hF2.tr hf, ?_, fun j => (h113 j).trans (h112 j)⟩
                unfold crossS
                rw [if_pos ⟨a5, by omega, by omega⟩, ← hc2]; exact hp
            refine for_up (W := fun j d3 => Ev SM MX5_crosses 92 [.ref 0, .int (nI m), .int (nI a), .int (nI c), .int 1, .int (nI j)] [] d3 (rV q)) (I := fun j d3 => d3 = d2 ∧ ∀ i, i < j → decide (i ≠ a ∧ i ≠ c ∧ Pk 5 i ≠ 0 ∧ Pk 0 i = 0) = false) (nT H) ?_ ?_ 0 d2 (Nat.zero_le _) ⟨rfl, fun j h => absurd h (Nat.not_lt_zero j)⟩
            · rintro d3 ⟨rfl, hno⟩
              refine bk_X5_crosses_92 ⟨fun _ => done _ (first_none hno).symm, fun z => absurd ?_ z⟩
              rw [hM2.nt]; exact nI_le (Nat.le_refl _) (by omega)
            · rintro j d3 hj ⟨rfl, hno⟩ ih3
              have hnext : decide (j ≠ a ∧ j ≠ c ∧ Pk 5 j ≠ 0 ∧ Pk 0 j = 0) = false → Ev SM MX5_crosses 92 [.ref 0, .int (nI m), .int (nI a), .int (nI c), .int 1, .int (nI (j + 1))] [] d3 (rV q) := fun hf => ih3 d3 ⟨rfl, fun i hi => by
                rcases Nat.lt_or_ge i j with z | z
                · exact hno i z
                · have : i = j := by omega
                  rw [this]; exact hf⟩
              have hj0 := hb0 j hj
              refine bk_X5_crosses_92 ⟨fun z => ?_, fun _ => ?_⟩
              · rw [hM2.nt] at z; exact absurd ((nI_leI (by omega) (by omega)).mp z) (by omega)
              · rw [nI_1, nI_clamp (by omega), hmk, nI_clamp (by omega), (hQ2.1 j hj).1]
                refine ⟨fun z => hnext ?_, fun z => ⟨fun z2 => hnext ?_, fun z2 => ⟨vp_in_nI (by omega) (by omega), fun z3 => hnext ?_, fun z3 => ⟨vp_in_nI (by omega) (by omega), fun z4 => done _ ?_, fun z4 => hnext ?_⟩⟩⟩⟩
                · have := nI_inj (by omega) (by omega) z
                  simp only [decide_eq_false_iff_not]; omega
                · have := nI_inj (by omega) (by omega) z2
                  simp only [decide_eq_false_iff_not]; omega
                · have := bitz j hj (by rw [z3]; decide)
                  simp only [decide_eq_false_iff_not]; omega
                · have z4 := (mv_m4 (n := Pk 0 j) (by omega)).mp z4
                  have j5 : Pk 5 j ≠ 0 := by
                    rcases hb : hdB Pk j with _ | _
                    · exact absurd (bit_f (by omega) (by omega) ((hbit j hj).trans hb)) z3
                    · unfold hdB at hb; simpa using hb
                  exact (first_is hj (by simp only [decide_eq_true_eq]; exact ⟨fun w => z (by rw [w]), fun w => z2 (by rw [w]), j5, z4⟩) hno).symm
                · have z4 := mt (mv_m4 (n := Pk 0 j) (by omega)).mpr z4
                  simp only [decide_eq_false_iff_not]; omega
theorem phd_of {H : HH} {m : Nat} {P : PL} (hI : Pinv H m P) : Phd H m (hearA H m P (nT H)) := by
  intro t ht h5
  obtain ⟨h1, h2, h3, h4, h6, h7⟩ := hearA_hd ht h5
  have := hI.1 t ht h1
  have := hI.2.1 t ht
  exact ⟨h4, h2, by omega⟩
/-- the numbers behind a playing -/
def ME (d : DD) (H : HH) (P : PL) : Prop := (∀ t, t < nT H → P 0 t ≠ 0 ∧ d 8 t = nI (P 0 t - 1) ∧ d 9 t = nI (P 1 t) ∧ d 10 t = nI (P 2 t)) ∧ (∀ p, p < nP H → d 7 p = nI (P 4 p)) ∧ ∀ m, m < 160 → d 11 m = nI (maskN (sndB H P m) (nT H))
theorem M_playing {q : DD → Prop} {d : DD} {sil : Nat} {H : HH} (hM : MH 0 d H) (ok : OKH H) (hs : d 0 26 = nI sil) (hsl : sil < 2 ^ 30) (h : ∀ d', MF d d' → ME d' H (playS H sil) → q d') : Cn SM MX5_playing [.ref 0] d (rV q) := by
  have o4 := ok.t4
  have op := ok.p4
  refine cn_X5_playing ?_
  rw [li_0]
  refine for_up (W := fun k d' => Ev SM MX5_playing 2 [.ref 0, .int (nI k), uJ] [] d' (rV q)) (I := fun k d' => MF d d' ∧ ∀ i, i < k → d' 8 i = -4 ∧ d' 9 i = nI 0 ∧ d' 10 i = nI 0 ∧ d' 7 i = nI 0 ∧ d' 6 i = d 1 (52 + i)) 4 ?_ ?_ 0 d (Nat.zero_le _) ⟨MF.rf, fun i h => absurd h (Nat.not_lt_zero i)⟩
  · rintro d1 ⟨hF1, h1⟩
    refine bk_X5_playing_2 ⟨fun _ => ?_, fun c => absurd (nI_le (Nat.le_refl 4) (by decide)) c⟩
    rw [li_0]
    have hP1 : MP d1 H sil (runS H sil 0) := by
      refine ⟨fun t ht => ?_, fun p hp => ?_, ?_⟩
      · obtain ⟨a1, a2, a3, a4, a5⟩ := h1 t (by omega)
        exact ⟨a1, a2, a3⟩
      · obtain ⟨a1, a2, a3, a4, a5⟩ := h1 p (by omega)
        refine ⟨a4, fun z => ?_, fun z => ?_⟩
        · rw [a5, hM.breath hp]
          show nI (H 6 p) = nI (if sil.testBit p = true then 0 else H 6 p)
          rw [z]; rfl
        · show (if sil.testBit p = true then 0 else H 6 p) = 0
          rw [z]; rfl
      · rw [hF1 0 (by omega)]; exact hs
    have key := for_up (W := fun m d' => Ev SM MX5_playing 59 [.ref 0, .int (nI m), uJ] [] d' (rV q)) (I := fun m d' => MF d d' ∧ MP d' H sil (runS H sil m) ∧ ∀ m', m' < m → d' 11 m' = nI (maskN (sndB H (runS H sil m) m') (nT H))) 160 ?_ ?_ 0 d1 (Nat.zero_le _) ⟨hF1, hP1, fun i h => absurd h (Nat.not_lt_zero i)⟩
    · exact key
    · rintro d4 ⟨hF4, hP4, hS4⟩
      refine bk_X5_playing_59 ⟨fun _ => h d4 hF4 ⟨fun t ht => ?_, fun p hp => (hP4.2.1 p hp).1, hS4⟩, fun c => absurd (nI_lt (a := 159) (b := 160) (by decide) (by decide)) c⟩
      obtain ⟨a1, a2, a3⟩ := hP4.1 t ht
      have ho := pinv_over ok (runS_inv (sil := sil) ok 160) (by decide) ht
      refine ⟨ho, ?_, a2, a3⟩
      rw [a1]; unfold mv; exact if_neg ho
    · rintro m d4 hm ⟨hF4, hP4, hS4⟩ ih
      refine bk_X5_playing_59 ⟨fun c => absurd ((nI_ltI (a := 159) (by omega) (by omega)).mp c) (by omega), fun _ => ⟨vp_in_nI (by omega) (by omega), nm_e ?_⟩⟩
      rw [nI_clamp (by omega)]
      have hI := runS_inv (sil := sil) ok m
      have hO := runS_ov (sil := sil) ok m
      have e : runS H sil (m + 1) = minS H m (runS H sil m) := rfl
      rw [e] at ih
      generalize runS H sil m = P at hP4 hI hO hS4 ih
      have hA := hearA_pin2 ok hI
      rw [li_0]
      refine for_up (W := fun t d' => Ev SM MX5_playing 75 [.ref 0, .int (nI m), .int (nI t)] [] d' (rV q)) (I := fun t d' => MF d d' ∧ MP d' H sil (hearA H m P t) ∧ d' 11 m = nI (maskN (hdB (hearA H m P t)) t) ∧ ∀ m', m' < m → d' 11 m' = d4 11 m') (nT H) ?_ ?_ 0 _ (Nat.zero_le _) ⟨hF4.up (by omega) (by omega), hP4.row11, by rw [up_s]; rfl, fun m' h' => by rw [up_n (by omega)]⟩
      · rintro d5 ⟨hF5, hP5, h5, h5'⟩
        have hM5 := hM.mf ok hF5
        refine bk_X5_playing_75 ⟨fun _ => ?_, fun c => absurd ?_ c⟩
        · rw [nI_1]
          refine M_crosses hM5 ok hP5 (pin3_of (hA _ (Nat.le_refl _))) (phd_of hI) h5 hm (fun d6 hF6 hP6 h6 => ih d6 ⟨hF5.tr hF6, hP6, fun m' hm' => ?_⟩)
          rw [h6]
          by_cases z : m' = m
          · subst z
            rw [h5]
            congr 1
            exact mask_cong (fun i hi => min_snd hI hO hi)
          · rw [h5' m' (by omega), hS4 m' (by omega)]
            congr 1
            exact mask_cong (fun i hi => (min_snd_old hI hi (by omega)).symm)
        · rw [hM5.nt]; exact nI_le (Nat.le_refl _) (by omega)
      · rintro t d5 ht ⟨hF5, hP5, h5, h5'⟩ ih5
        have hM5 := hM.mf ok hF5
        have hIt := hA t (by omega)
        have he : hearA H m P (t + 1) = hearS H m (hearA H m P t) t := rfl
        rw [he] at ih5
        generalize hearA H m P t = Pt at hP5 hIt ih5 h5
        have hcong : maskN (hdB (hearS H m Pt t)) t = maskN (hdB Pt) t := mask_cong (fun i hi => by unfold hdB; rw [hear_5n (by omega)])
        have m16 := mask16 (p := hdB Pt) (n := t) (by omega)
        refine bk_X5_playing_75 ⟨fun c => ?_, fun _ => ⟨vp_in_nI (by omega) (by omega), ?_⟩⟩
        · rw [hM5.nt] at c; exact absurd ((nI_leI (by omega) (by omega)).mp c) (by omega)
        · refine M_doesSound hM5 ok hP5 hsl hIt ht hm (fun d6 hF6 hP6 h6 => ?_)
          rw [nI_clamp (by omega), nI_1, h5]
          have hms : maskN (hdB (hearS H m Pt t)) (t + 1) = maskN (hdB Pt) t + (if hdB (hearS H m Pt t) t then 2 ^ t else 0) := by rw [← hcong]; rfl
          by_cases z : hearS H m Pt t 5 t = 0
          · have zb : hdB (hearS H m Pt t) t = false := by unfold hdB; simpa using z
            rw [if_pos z]
            refine ⟨fun _ => ⟨vp_in_nI (by omega) (by omega), nm_e ?_⟩, fun c => absurd rfl c⟩
            refine ih5 _ ⟨(hF5.tr hF6).up (by omega) (by omega), hP6.row11, ?_, fun m' h' => ?_⟩
            · rw [up_s, hms, zb]
              show nI (maskN (hdB Pt) t) ||| nI 0 = _
              rw [fa_or]; simp
            · rw [up_n (by omega), h6]; exact h5' m' h'
          · have zb : hdB (hearS H m Pt t) t = true := by unfold hdB; simpa using z
            rw [if_neg z]
            refine ⟨fun c => absurd c (by decide), fun _ => ⟨vp_in_nI (by omega) (by omega), nm_e ?_⟩⟩
            refine ih5 _ ⟨(hF5.tr hF6).up (by omega) (by omega), hP6.row11, ?_, fun m' h' => ?_⟩
            · rw [up_s, hms, zb, shl1 (by omega), mask_or (by omega)]; rfl
            · rw [up_n (by omega), h6]; exact h5' m' h'
  · rintro k d1 hk ⟨hF1, h1⟩ ih
    refine bk_X5_playing_2 ⟨fun c => absurd ((nI_leI (a := 4) (by omega) (by omega)).mp c) (by omega), fun _ => ?_⟩
    rw [show (52 : Int32) + nI k = nI (52 + k) from nI_add 52 k]
    refine ⟨vp_in_nI (by omega) (by omega), vp_in_nI (by omega) (by omega), nm_e ⟨vp_in_nI (by omega) (by omega), nm_e ⟨vp_in_nI (by omega) (by omega), nm_e ⟨vp_in_nI (by omega) (by omega), nm_e ⟨vp_in_nI (by omega) (by omega), nm_e ?_⟩⟩⟩⟩⟩
    rw [nI_1, nI_clamp (by omega), nI_clamp (by omega), hF1 1 (by omega)]
    refine ih _ ⟨((((hF1.up (by omega) (by omega)).up (by omega) (by omega)).up (by omega) (by omega)).up (by omega) (by omega)).up (by omega) (by omega), fun i hi => ?_⟩
    by_cases e : i = k
    · subst e; simp [up_rd]; first | done | rfl | exact ⟨rfl, rfl⟩
    · have := h1 i (by omega)
      simp [up_rd, e]; exact this
end
section
/-! ===== the two systems side by side ===== -/
def RT (x m : DD) : Prop := ∃ n, n ≤ 160 ∧ x 36 1 = nI n ∧ m 0 10 = nI n ∧ ∀ i, i < n → x 37 i = m 3 i ∧ ∃ c, c ≤ 127 ∧ x 37 i = nI c
def RSe (x m : DD) : Prop := ∃ n, n ≤ 6 ∧ x 0 11 = nI n ∧ m 0 28 = nI n ∧ ∀ i, i < n → x 49 i = m 12 (3 * i) ∧ x 50 i = m 12 (3 * i + 1) ∧ x 51 i = m 12 (3 * i + 2) ∧ ∃ c, c < 160 ∧ x 50 i = nI c
def RIm (H : HH) (x m : DD) (k : Nat) : Prop := (x 35 k = nI 0 ∧ m 13 k = nI 0) ∨ (x 35 k = nI 1 ∧ m 13 k = nI 1 ∧ ∃ Hk, OKH Hk ∧ (∀ j, Hk 10 j = H 10 j) ∧ XH (52 + 11 * k) x Hk ∧ MH (70 * (k + 1)) m Hk)
def RSh (x m : DD) (k : Nat) : Prop := (x (74 + 2 * k) 0 = nI 0 ∧ m 14 k = -4) ∨ (x (74 + 2 * k) 0 = nI 1 ∧ ∃ l n, l ≤ 2 ∧ n ≤ 40 ∧ x (74 + 2 * k) 1 = nI l ∧ m 14 k = nI l ∧ x (74 + 2 * k) 2 = nI n ∧ m 15 k = nI n ∧ ∀ i, i < n → x (75 + 2 * k) i = m 16 (40 * k + i))
def cutsC : List Int32 := [0, 5, 10, 15, 22, 28, 33]
def lettC : List Int32 := [112, 108, 97, 105, 110, 114, 111, 110, 100, 111, 102, 117, 103, 117, 101, 108, 117, 108, 108, 97, 98, 121, 112, 108, 97, 121, 101, 114, 98, 111, 117, 110, 100]
def RC (m : DD) : Prop := (∀ i, i < 7 → m 4 i = cutsC.getD i 0) ∧ ∀ i, i < 33 → m 5 i = lettC.getD i 0
/-- the FAULTs of the latest text, side by side -/
def RF (a b : Int32) : Prop := a = b ∨ (a = nI 3 ∧ b = nI 5)
/-- all but the houses -/
def RelO (H : HH) (x m : DD) : Prop := RT x m ∧ RSe x m ∧ (∀ k, k < 2 → RIm H x m k) ∧ (∀ k, k < 4 → RSh x m k) ∧ RC m ∧ m 0 26 = nI 0 ∧ RF (x 36 2) (m 0 11) ∧ x 0 12 = m 0 34
def RelH (H : HH) (x m : DD) : Prop := OKH H ∧ XH 1 x H ∧ MH 0 m H ∧ RelO H x m
def Rel (x m : DD) : Prop := ∃ H, RelH H x m
/-- what is left of the class's cells by calls that ask: not the told one's, the trial's, the playing's -/
def XK (x x' : DD) : Prop := ∀ a, a < 12 ∨ (33 < a ∧ a < 38) ∨ 47 < a → x' a = x a
def MK (m m' : DD) : Prop := (∀ j, j ≠ 29 → m' 0 j = m 0 j) ∧ (∀ j, j < 210 → m' 1 j = m 1 j) ∧ ∀ a, a = 3 ∨ a = 4 ∨ a = 5 ∨ 11 < a → m' a = m a
theorem XK.rf {x : DD} : XK x x := fun _ _ => rfl
theorem MK.rf {m : DD} : MK m m := ⟨fun _ _ => rfl, fun _ _ => rfl, fun _ _ => rfl⟩
theorem XK.tr {x y z : DD} (h : XK x y) (h2 : XK y z) : XK x z := fun a ha => (h2 a ha).trans (h a ha)
theorem MK.tr {x y z : DD} (h : MK x y) (h2 : MK y z) : MK x z := ⟨fun j hj => (h2.1 j hj).trans (h.1 j hj), fun j hj => (h2.2.1 j hj).trans (h.2.1 j hj), fun a ha => (h2.2.2 a ha).trans (h.2.2 a ha)⟩
theorem XF.k {x y : DD} (h : XF x y) : XK x y := fun a ha => h a (by omega)
theorem MF.k {x y : DD} (h : MF x y) : MK x y := ⟨fun j _ => by rw [h 0 (by omega)], fun j _ => by rw [h 1 (by omega)], fun a ha => h a (by omega)⟩
theorem RelO.keep {H : HH} {x m x' m' : DD} (h : RelO H x m) (hx : XK x x') (hm : MK m m') : RelO H x' m' := by
  obtain ⟨h1, h2, h3, h4, h5, h6, h7, h8⟩ := h
  obtain ⟨k0, k1, k2⟩ := hm
  refine ⟨?_, ?_, fun k hk => ?_, fun k hk => ?_, ?_, ?_, ?_, ?_⟩
  · obtain ⟨n, a1, a2, a3, a4⟩ := h1
    exact ⟨n, a1, by rw [hx 36 (by omega)]; exact a2, by rw [k0 10 (by omega)]; exact a3, fun i hi => by rw [hx 37 (by omega), k2 3 (by omega)]; exact a4 i hi⟩
  · obtain ⟨n, a1, a2, a3, a4⟩ := h2
    exact ⟨n, a1, by rw [hx 0 (by omega)]; exact a2, by rw [k0 28 (by omega)]; exact a3, fun i hi => by rw [hx 49 (by omega), hx 50 (by omega), hx 51 (by omega), k2 12 (by omega)]; exact a4 i hi⟩
  · rcases h3 k hk with ⟨a1, a2⟩ | ⟨a1, a2, Hk, a3, a4, a5, a6⟩
    · exact Or.inl ⟨by rw [hx 35 (by omega)]; exact a1, by rw [k2 13 (by omega)]; exact a2⟩
    · exact Or.inr ⟨by rw [hx 35 (by omega)]; exact a1, by rw [k2 13 (by omega)]; exact a2, Hk, a3, a4, a5.kept (fun a b1 b2 => hx a (by omega)), a6.kept (fun j b1 b2 => k0 j (by omega)) (fun j b1 b2 => k1 j (by omega)) a3⟩
  · rcases h4 k hk with ⟨a1, a2⟩ | ⟨a1, l, n, a2, a3, a4, a5, a6, a7, a8⟩
    · exact Or.inl ⟨by rw [hx _ (by omega)]; exact a1, by rw [k2 14 (by omega)]; exact a2⟩
    · exact Or.inr ⟨by rw [hx _ (by omega)]; exact a1, l, n, a2, a3, by rw [hx _ (by omega)]; exact a4, by rw [k2 14 (by omega)]; exact a5, by rw [hx _ (by omega)]; exact a6, by rw [k2 15 (by omega)]; exact a7, fun i hi => by rw [hx _ (by omega), k2 16 (by omega)]; exact a8 i hi⟩
  · exact ⟨fun i hi => by rw [k2 4 (by omega)]; exact h5.1 i hi, fun i hi => by rw [k2 5 (by omega)]; exact h5.2 i hi⟩
  · rw [k0 26 (by omega)]; exact h6
  · rw [hx 36 (by omega), k0 11 (by omega)]; exact h7
  · rw [hx 0 (by omega), k0 34 (by omega)]; exact h8
theorem XH.xk {x x' : DD} {H : HH} (h : XH 1 x H) (hx : XK x x') : XH 1 x' H := h.kept (fun a b1 b2 => hx a (by omega))
theorem MH.mk {m m' : DD} {H : HH} (h : MH 0 m H) (ok : OKH H) (hm : MK m m') : MH 0 m' H := h.kept (fun j b1 b2 => hm.1 j (by omega)) (fun j b1 b2 => hm.2.1 j (by omega)) ok
theorem RelH.keep {H : HH} {x m x' m' : DD} (h : RelH H x m) (hx : XK x x') (hm : MK m m') : RelH H x' m' := ⟨h.1, h.2.1.xk hx, h.2.2.1.mk h.1 hm, h.2.2.2.keep hx hm⟩
theorem RelH.rel {H : HH} {x m : DD} (h : RelH H x m) : Rel x m := ⟨H, h⟩
/-- one call on both: the same answer, and side by side behind it -/
def Two (M1 M2 : MM) (As : List Value) (x m : DD) : Prop := ∃ (r : Int32) (PX PM : DD → Prop), Cn SX M1 As x (rI fun r' d => r' = r ∧ PX d) ∧ Cn SM M2 As m (rI fun r' d => r' = r ∧ PM d) ∧ ∀ d d', PX d → PM d' → Rel d d'
/-- a call that asks -/
theorem two_ask {M1 M2 : MM} {As : List Value} {x m : DD} {H : HH} (hR : RelH H x m) (r : Int32) (h1 : Cn SX M1 As x (rI fun r' d => r' = r ∧ XK x d)) (h2 : Cn SM M2 As m (rI fun r' d => r' = r ∧ MK m d)) : Two M1 M2 As x m := ⟨r, _, _, h1, h2, fun _ _ a b => (hR.keep a b).rel⟩
/-! guards, by what they find -/
theorem ge_of {n : Nat} {v : Int32} (hn : n ≤ 2 ^ 31) : (∃ j, j < n ∧ v = nI j) ∨ ∀ j, j < n → v ≠ nI j := by
  by_cases h : ∃ j, j < n ∧ v = nI j
  · exact Or.inl h
  · exact Or.inr (fun j hj e => h ⟨j, hj, e⟩)
theorem X_win_y {q : Int32 → DD → Prop} {d : DD} {j n : Nat} (hn : n < 2 ^ 31) (hj : j ≤ n) (h : q 1 d) : Cn SX MX4_within [.int (nI j), .int (nI 0), .int (nI n)] d (rI q) := X_win hn (fun _ _ _ => h) (fun z => absurd rfl (z j hj))
theorem X_win_n {q : Int32 → DD → Prop} {d : DD} {v : Int32} {n : Nat} (hn : n < 2 ^ 31) (hz : ∀ j, j < n + 1 → v ≠ nI j) (h : q 0 d) : Cn SX MX4_within [.int v, .int (nI 0), .int (nI n)] d (rI q) := X_win hn (fun j hj e => absurd e (hz j (by omega))) (fun _ => h)
theorem M_win_y {q : Int32 → DD → Prop} {d : DD} {j n : Nat} (hn : n < 2 ^ 31) (hj : j ≤ n) (h : q 1 d) : Cn SM MX5_in [.long (nI j).toInt64, .long 0, .long (lN n)] d (rI q) := M_win hn (fun _ _ _ => h) (fun z => absurd rfl (z j hj))
theorem M_win_n {q : Int32 → DD → Prop} {d : DD} {v : Int32} {n : Nat} (hn : n < 2 ^ 31) (hz : ∀ j, j < n + 1 → v ≠ nI j) (h : q 0 d) : Cn SM MX5_in [.long v.toInt64, .long 0, .long (lN n)] d (rI q) := M_win hn (fun j hj e => absurd e (hz j (by omega))) (fun _ => h)
theorem X_hasTune_y {q : Int32 → DD → Prop} {d : DD} {b j : Nat} {H : HH} (Hb : isH b) (hX : XH b d H) (ok : OKH H) (hj : j < nT H) (h : q 1 d) : Cn SX MX0_hasTune [.ref b, .int (nI j)] d (rI q) := X_hasTune Hb hX ok (fun _ _ _ => h) (fun z => absurd rfl (z j hj))
theorem X_hasTune_n {q : Int32 → DD → Prop} {d : DD} {b : Nat} {v : Int32} {H : HH} (Hb : isH b) (hX : XH b d H) (ok : OKH H) (hz : ∀ j, j < nT H → v ≠ nI j) (h : q 0 d) : Cn SX MX0_hasTune [.ref b, .int v] d (rI q) := X_hasTune Hb hX ok (fun j hj e => absurd e (hz j hj)) (fun _ => h)
theorem X_hasPlayer_y {q : Int32 → DD → Prop} {d : DD} {b j : Nat} {H : HH} (Hb : isH b) (hX : XH b d H) (ok : OKH H) (hj : j < nP H) (h : q 1 d) : Cn SX MX0_hasPlayer [.ref b, .int (nI j)] d (rI q) := X_hasPlayer Hb hX ok (fun _ _ _ => h) (fun z => absurd rfl (z j hj))
theorem X_hasPlayer_n {q : Int32 → DD → Prop} {d : DD} {b : Nat} {v : Int32} {H : HH} (Hb : isH b) (hX : XH b d H) (ok : OKH H) (hz : ∀ j, j < nP H → v ≠ nI j) (h : q 0 d) : Cn SX MX0_hasPlayer [.ref b, .int v] d (rI q) := X_hasPlayer Hb hX ok (fun j hj e => absurd e (hz j hj)) (fun _ => h)
theorem X_hasPrisoner_y {q : Int32 → DD → Prop} {d : DD} {b j : Nat} {H : HH} (Hb : isH b) (hX : XH b d H) (ok : OKH H) (hj : j < nB H) (h : q 1 d) : Cn SX MX0_hasPrisoner [.ref b, .int (nI j)] d (rI q) := X_hasPrisoner Hb hX ok (fun _ _ _ => h) (fun z => absurd rfl (z j hj))
theorem X_hasPrisoner_n {q : Int32 → DD → Prop} {d : DD} {b : Nat} {v : Int32} {H : HH} (Hb : isH b) (hX : XH b d H) (ok : OKH H) (hz : ∀ j, j < nB H → v ≠ nI j) (h : q 0 d) : Cn SX MX0_hasPrisoner [.ref b, .int v] d (rI q) := X_hasPrisoner Hb hX ok (fun j hj e => absurd e (hz j hj)) (fun _ => h)
theorem M_isTune_y {q : Int32 → DD → Prop} {d : DD} {j : Nat} {H : HH} (hM : MH 0 d H) (ok : OKH H) (hj : j < nT H) (h : q 1 d) : Cn SM MX5_isTune [.ref 0, .int (nI j)] d (rI q) := M_isTune hM ok (fun _ _ _ => h) (fun z => absurd rfl (z j hj))
theorem M_isTune_n {q : Int32 → DD → Prop} {d : DD} {v : Int32} {H : HH} (hM : MH 0 d H) (ok : OKH H) (hz : ∀ j, j < nT H → v ≠ nI j) (h : q 0 d) : Cn SM MX5_isTune [.ref 0, .int v] d (rI q) := M_isTune hM ok (fun j hj e => absurd e (hz j hj)) (fun _ => h)
theorem M_isPlayer_y {q : Int32 → DD → Prop} {d : DD} {j : Nat} {H : HH} (hM : MH 0 d H) (ok : OKH H) (hj : j < nP H) (h : q 1 d) : Cn SM MX5_isPlayer [.ref 0, .int (nI j)] d (rI q) := M_isPlayer hM ok (fun _ _ _ => h) (fun z => absurd rfl (z j hj))
theorem M_isPlayer_n {q : Int32 → DD → Prop} {d : DD} {v : Int32} {H : HH} (hM : MH 0 d H) (ok : OKH H) (hz : ∀ j, j < nP H → v ≠ nI j) (h : q 0 d) : Cn SM MX5_isPlayer [.ref 0, .int v] d (rI q) := M_isPlayer hM ok (fun j hj e => absurd e (hz j hj)) (fun _ => h)
theorem M_isBound_y {q : Int32 → DD → Prop} {d : DD} {j : Nat} {H : HH} (hM : MH 0 d H) (ok : OKH H) (hj : j < nB H) (h : q 1 d) : Cn SM MX5_isBound [.ref 0, .int (nI j)] d (rI q) := M_isBound hM ok (fun _ _ _ => h) (fun z => absurd rfl (z j hj))
theorem M_isBound_n {q : Int32 → DD → Prop} {d : DD} {v : Int32} {H : HH} (hM : MH 0 d H) (ok : OKH H) (hz : ∀ j, j < nB H → v ≠ nI j) (h : q 0 d) : Cn SM MX5_isBound [.ref 0, .int v] d (rI q) := M_isBound hM ok (fun j hj e => absurd e (hz j hj)) (fun _ => h)
theorem M_isMinute_y {q : Int32 → DD → Prop} {d : DD} {j : Nat} (hj : j < 160) (h : q 1 d) : Cn SM MX5_isMinute [.int (nI j)] d (rI q) := M_isMinute (fun _ _ _ => h) (fun z => absurd rfl (z j hj))
theorem M_isMinute_n {q : Int32 → DD → Prop} {d : DD} {v : Int32} (hz : ∀ j, j < 160 → v ≠ nI j) (h : q 0 d) : Cn SM MX5_isMinute [.int v] d (rI q) := M_isMinute (fun j hj e => absurd e (hz j hj)) (fun _ => h)
theorem isH1 : isH 1 := Or.inl rfl
/-- branches on what a guard answered -/
theorem y1 {A B : Prop} (a : A) : (¬ (1 : Int32) = 0 → A) ∧ ((1 : Int32) = 0 → B) := ⟨fun _ => a, fun c => absurd c (by decide)⟩
theorem y1' {A B : Prop} (b : B) : ((1 : Int32) = 0 → A) ∧ (¬ (1 : Int32) = 0 → B) := ⟨fun c => absurd c (by decide), fun _ => b⟩
theorem y0 {A B : Prop} (b : B) : (¬ (0 : Int32) = 0 → A) ∧ ((0 : Int32) = 0 → B) := ⟨fun c => absurd rfl c, fun _ => b⟩
theorem y0' {A B : Prop} (a : A) : ((0 : Int32) = 0 → A) ∧ (¬ (0 : Int32) = 0 → B) := ⟨fun _ => a, fun c => absurd rfl c⟩
end
section
theorem rr_t {c A B : Prop} (h : c) (b : B) : (¬ c → A) ∧ (c → B) := ⟨fun z => absurd h z, fun _ => b⟩
theorem rr_f {c A B : Prop} (h : ¬ c) (a : A) : (¬ c → A) ∧ (c → B) := ⟨fun _ => a, fun z => absurd z h⟩
theorem lit_ne {a b : Nat} (ha : a < 2 ^ 31) (hb : b < 2 ^ 31) (h : a ≠ b) : ¬ nI a = nI b := fun e => h (nI_inj ha hb e)
/-- rule -/
theorem two_rule {x m : DD} {H : HH} {p0 : Int32} (hR : RelH H x m) : Two MX4_rule MX5_rule [.ref 0, .int p0] x m := by
  obtain ⟨ok, hX, hM, hO⟩ := id hR
  by_cases c0 : p0 = 0
  · exact two_ask hR (nI (nT H)) (cn_X4_rule (br_t c0 ⟨hX.nt, XK.rf⟩)) (cn_X5_rule (rr_t c0 ⟨hM.nt, MK.rf⟩))
  · by_cases c1 : p0 = 1
    · exact two_ask hR (nI (nP H)) (cn_X4_rule (br_f c0 (br_t c1 ⟨hX.np, XK.rf⟩))) (cn_X5_rule (rr_f c0 (rr_t c1 ⟨hM.np, MK.rf⟩)))
    · by_cases c2 : p0 = 2
      · exact two_ask hR (nI (nB H)) (cn_X4_rule (br_f c0 (br_f c1 (br_t c2 ⟨hX.nb, XK.rf⟩)))) (cn_X5_rule (rr_f c0 (rr_f c1 (rr_t c2 ⟨hM.nb, MK.rf⟩))))
      · exact two_ask hR (-1) (cn_X4_rule (br_f c0 (br_f c1 (br_f c2 ⟨rfl, XK.rf⟩)))) (cn_X5_rule (rr_f c0 (rr_f c1 (rr_f c2 ⟨rfl, MK.rf⟩))))
theorem two_fault {x m : DD} {H : HH} (hR : RelH H x m) (hf : x 36 2 = m 0 11) : Two MX4_fault MX5_fault [.ref 0] x m := two_ask hR (x 36 2) (cn_X4_fault ⟨rfl, XK.rf⟩) (cn_X5_fault ⟨hf.symm, MK.rf⟩)
/-- one call on both, whatever they answer -/
def TwoA (M1 M2 : MM) (As : List Value) (x m : DD) : Prop := ∃ (PX PM : DD → Prop), Cn SX M1 As x (rI fun _ d => PX d) ∧ Cn SM M2 As m (rI fun _ d => PM d) ∧ ∀ d d', PX d → PM d' → Rel d d'
theorem any_fault {x m : DD} {H : HH} (hR : RelH H x m) : TwoA MX4_fault MX5_fault [.ref 0] x m := ⟨XK x, MK m, cn_X4_fault XK.rf, cn_X5_fault MK.rf, fun _ _ a b => (hR.keep a b).rel⟩
theorem two_torn {x m : DD} {H : HH} (hR : RelH H x m) : Two MX4_torn MX5_torn [.ref 0] x m := two_ask hR (x 0 12) (cn_X4_torn ⟨rfl, XK.rf⟩) (cn_X5_torn ⟨hR.2.2.2.2.2.2.2.2.2.2.symm, MK.rf⟩)
/-! loops that add up -/
theorem X_boundTo {q : Int32 → DD → Prop} {d : DD} {b t : Nat} {H : HH} (Hb : isH b) (hX : XH b d H) (ok : OKH H) (ht : t < nT H) (h : q (nI (maskN (fun q => decide (H 9 q = t)) (nB H))) d) : Cn SX MX0_boundTo [.ref b, .int (nI t)] d (rI q) := by
  have o4 := ok.t4
  have o6 := ok.b6
  refine cn_X0_boundTo Hb ?_
  rw [li_0]
  refine for_up (W := fun k d' => Ev SX MX0_boundTo 4 [.ref b, .int (nI t), .int (nI (maskN (fun q => decide (H 9 q = t)) k)), .int (nI k)] [] d' (rI q)) (I := fun k d' => d' = d) (nB H) ?_ ?_ 0 d (Nat.zero_le _) rfl
  · rintro d' rfl
    refine bk_X0_boundTo_4 Hb ⟨fun _ => h, fun c => absurd ?_ c⟩
    rw [hX.nb]; exact nI_le (Nat.le_refl _) (by omega)
  · rintro k d' hk rfl ih
    have hq := ok.bb hk
    have e : maskN (fun q => decide (H 9 q = t)) (k + 1) = maskN (fun q => decide (H 9 q = t)) k + (if decide (H 9 k = t) = true then 2 ^ k else 0) := rfl
    refine bk_X0_boundTo_4 Hb ⟨fun c => ?_, fun _ => ⟨vp_in_nI (by omega) (by omega), ?_⟩⟩
    · rw [hX.nb] at c; exact absurd ((nI_leI (by omega) (by omega)).mp c) (by omega)
    · rw [nI_clamp (by omega), hX.bond hk, nI_1, shl1 (by omega), mask_or (by omega)]
      refine ⟨fun c => ?_, fun c => nm_e ?_⟩
      · have := ih d' rfl
        rw [e, if_neg (by simp only [decide_eq_true_eq]; exact fun z => c (by rw [z])), Nat.add_zero] at this
        exact this
      · have := ih d' rfl
        rw [e, if_pos (by simp only [decide_eq_true_eq]; exact nI_inj (by omega) (by omega) c)] at this
        exact this
theorem M_boundTo {q : Int32 → DD → Prop} {d : DD} {t : Nat} {H : HH} (hM : MH 0 d H) (ok : OKH H) (ht : t < nT H) (h : q (nI (maskN (fun q => decide (H 9 q = t)) (nB H))) d) : Cn SM MX5_boundTo [.ref 0, .int (nI t)] d (rI q) := by
  have o4 := ok.t4
  have o6 := ok.b6
  refine cn_X5_boundTo ?_
  rw [li_0]
  refine for_up (W := fun k d' => Ev SM MX5_boundTo 4 [.ref 0, .int (nI t), .int (nI (maskN (fun q => decide (H 9 q = t)) k)), .int (nI k)] [] d' (rI q)) (I := fun k d' => d' = d) (nB H) ?_ ?_ 0 d (Nat.zero_le _) rfl
  · rintro d' rfl
    refine bk_X5_boundTo_4 ⟨fun _ => h, fun c => absurd ?_ c⟩
    rw [hM.nb]; exact nI_le (Nat.le_refl _) (by omega)
  · rintro k d' hk rfl ih
    have hq := ok.bb hk
    have e : maskN (fun q => decide (H 9 q = t)) (k + 1) = maskN (fun q => decide (H 9 q = t)) k + (if decide (H 9 k = t) = true then 2 ^ k else 0) := rfl
    refine bk_X5_boundTo_4 ⟨fun c => ?_, fun _ => ?_⟩
    · rw [hM.nb] at c; exact absurd ((nI_leI (by omega) (by omega)).mp c) (by omega)
    · rw [show (64 : Int32) + nI k = nI (64 + k) from nI_add 64 k]
      refine ⟨vp_in_nI (by omega) (by omega), ?_⟩
      rw [nI_clamp (by omega), hM.bond hk, nI_1, shl1 (by omega), mask_or (by omega), show nI (maskN (fun q => decide (H 9 q = t)) k) ||| 0 = nI (maskN (fun q => decide (H 9 q = t)) k) from by rw [li_0, fa_or]; simp]
      refine ⟨fun c => ?_, fun c => nm_e ?_⟩
      · have := ih d' rfl
        rw [e, if_neg (by simp only [decide_eq_true_eq]; exact fun z => c (by rw [z])), Nat.add_zero] at this
        exact this
      · have := ih d' rfl
        rw [e, if_pos (by simp only [decide_eq_true_eq]; exact nI_inj (by omega) (by omega) c)] at this
        exact this
theorem X_allNotes {q : Int32 → DD → Prop} {d : DD} {b : Nat} {H : HH} (Hb : isH b) (hX : XH b d H) (ok : OKH H) (h : q (nI (sumN (fun t => H 1 t) (nT H))) d) : Cn SX MX0_allNotes [.ref b] d (rI q) := by
  have o4 := ok.t4
  refine cn_X0_allNotes Hb ?_
  rw [li_0]
  refine for_up (W := fun k d' => Ev SX MX0_allNotes 4 [.ref b, .int (nI (sumN (fun t => H 1 t) k)), .int (nI k)] [] d' (rI q)) (I := fun k d' => d' = d) (nT H) ?_ ?_ 0 d (Nat.zero_le _) rfl
  · rintro d' rfl
    refine bk_X0_allNotes_4 Hb ⟨fun _ => h, fun c => absurd ?_ c⟩
    rw [hX.nt]; exact nI_le (Nat.le_refl _) (by omega)
  · rintro k d' hk rfl ih
    refine bk_X0_allNotes_4 Hb ⟨fun c => ?_, fun _ => ⟨vp_in_nI (by omega) (by omega), nm_e ?_⟩⟩
    · rw [hX.nt] at c; exact absurd ((nI_leI (by omega) (by omega)).mp c) (by omega)
    · rw [nI_clamp (by omega), hX.notes hk, nI_1, nI_add]
      exact ih d' rfl
theorem M_noteMany {q : Int32 → DD → Prop} {d : DD} {H : HH} (hM : MH 0 d H) (ok : OKH H) (h : q (nI (sumN (fun t => H 1 t) (nT H))) d) : Cn SM MX5_noteMany [.ref 0] d (rI q) := by
  have o4 := ok.t4
  refine cn_X5_noteMany ?_
  rw [li_0]
  refine for_up (W := fun k d' => Ev SM MX5_noteMany 4 [.ref 0, .int (nI (sumN (fun t => H 1 t) k)), .int (nI k)] [] d' (rI q)) (I := fun k d' => d' = d) (nT H) ?_ ?_ 0 d (Nat.zero_le _) rfl
  · rintro d' rfl
    refine bk_X5_noteMany_4 ⟨fun _ => h, fun c => absurd ?_ c⟩
    rw [hM.nt]; exact nI_le (Nat.le_refl _) (by omega)
  · rintro k d' hk rfl ih
    refine bk_X5_noteMany_4 ⟨fun c => ?_, fun _ => ?_⟩
    · rw [hM.nt] at c; exact absurd ((nI_leI (by omega) (by omega)).mp c) (by omega)
    · rw [show (4 : Int32) + nI k = nI (4 + k) from nI_add 4 k]
      refine ⟨vp_in_nI (by omega) (by omega), nm_e ?_⟩
      rw [nI_clamp (by omega), hM.notes hk, nI_1, nI_add]
      exact ih d' rfl
theorem X_allLengths {q : Int32 → DD → Prop} {d : DD} {b : Nat} {H : HH} (Hb : isH b) (hX : XH b d H) (ok : OKH H) (h : q (nI (sumN (lenO H) (nT H))) d) : Cn SX MX0_allLengths [.ref b] d (rI q) := by
  have o4 := ok.t4
  refine cn_X0_allLengths Hb ?_
  rw [li_0]
  refine for_up (W := fun k d' => Ev SX MX0_allLengths 4 [.ref b, .int (nI (sumN (lenO H) k)), .int (nI k)] [] d' (rI q)) (I := fun k d' => d' = d) (nT H) ?_ ?_ 0 d (Nat.zero_le _) rfl
  · rintro d' rfl
    refine bk_X0_allLengths_4 Hb ⟨fun _ => h, fun c => absurd ?_ c⟩
    rw [hX.nt]; exact nI_le (Nat.le_refl _) (by omega)
  · rintro k d' hk rfl ih
    refine bk_X0_allLengths_4 Hb ⟨fun c => ?_, fun _ => ⟨vp_in_nI (by omega) (by omega), ?_⟩⟩
    · rw [hX.nt] at c; exact absurd ((nI_leI (by omega) (by omega)).mp c) (by omega)
    · rw [nI_clamp (by omega), hX.kind hk]
      refine X_lengthAs Hb hX ok hk (ok.tt hk).1 ?_
      rw [nI_1, nI_add]
      exact ih d' rfl
/-! tune, note, has, player, bound -/
theorem two_tune {x m : DD} {H : HH} {p0 p1 : Int32} (hR : RelH H x m) : Two MX4_tune MX5_tune [.ref 0, .int p0, .int p1] x m := by
  obtain ⟨ok, hX, hM, hO⟩ := id hR
  have o4 := ok.t4
  rcases ge_of (n := nT H) (v := p0) (by omega) with ⟨t, ht, rfl⟩ | hz
  · have i4 : vp_in (nI t) 4 := vp_in_nI (by omega) (by omega)
    by_cases c0 : p1 = 0
    · refine two_ask hR (nI (H 0 t)) (cn_X4_tune (X_hasTune_y isH1 hX ok ht (y1 (br_t c0 ⟨i4, ?_, XK.rf⟩)))) (cn_X5_tune (M_isTune_y hM ok ht (y1 (br_t c0 ?_))))
      · rw [nI_clamp (by omega)]; exact hX.kind ht
      · subst c0
        rw [show (4 : Int32) * 0 + nI t = nI (0 + t) from by rw [li_4, li_0, pk_mul, nI_add]]
        refine ⟨vp_in_nI (by omega) (by omega), ?_, MK.rf⟩
        rw [nI_clamp (by omega), Nat.zero_add]; exact hM.kind ht
    · by_cases c1 : p1 = 1
      · refine two_ask hR (nI (H 1 t)) (cn_X4_tune (X_hasTune_y isH1 hX ok ht (y1 (br_f c0 (br_t c1 ⟨i4, ?_, XK.rf⟩))))) (cn_X5_tune (M_isTune_y hM ok ht (y1 (br_f c0 (br_t c1 ?_)))))
        · rw [nI_clamp (by omega)]; exact hX.notes ht
        · subst c1
          rw [show (4 : Int32) * 1 + nI t = nI (4 + t) from by rw [li_4, li_1, pk_mul, nI_add]]
          refine ⟨vp_in_nI (by omega) (by omega), ?_, MK.rf⟩
          rw [nI_clamp (by omega)]; exact hM.notes ht
      · by_cases c2 : p1 = 2
        · refine two_ask hR (nI (H 2 t)) (cn_X4_tune (X_hasTune_y isH1 hX ok ht (y1 (br_f c0 (br_f c1 (br_t c2 ⟨i4, ?_, XK.rf⟩)))))) (cn_X5_tune (M_isTune_y hM ok ht (y1 (br_f c0 (br_f c1 (br_t c2 ?_))))))
          · rw [nI_clamp (by omega)]; exact hX.times ht
          · subst c2
            rw [show (4 : Int32) * 2 + nI t = nI (8 + t) from by rw [li_4, li_2, pk_mul, nI_add]]
            refine ⟨vp_in_nI (by omega) (by omega), ?_, MK.rf⟩
            rw [nI_clamp (by omega)]; exact hM.times ht
        · by_cases c3 : p1 = 3
          · refine two_ask hR (nI (H 3 t)) (cn_X4_tune (X_hasTune_y isH1 hX ok ht (y1 (br_f c0 (br_f c1 (br_f c2 (br_t c3 ⟨i4, ?_, XK.rf⟩))))))) (cn_X5_tune (M_isTune_y hM ok ht (y1 (br_f c0 (br_f c1 (br_f c2 (br_t c3 ?_)))))))
            · rw [nI_clamp (by omega)]; exact hX.start ht
            · subst c3
              rw [show (4 : Int32) * 3 + nI t = nI (12 + t) from by rw [li_4, li_3, pk_mul, nI_add]]
              refine ⟨vp_in_nI (by omega) (by omega), ?_, MK.rf⟩
              rw [nI_clamp (by omega)]; exact hM.start ht
          · by_cases c4 : p1 = 4
            · refine two_ask hR (nI (lenO H t)) (cn_X4_tune (X_hasTune_y isH1 hX ok ht (y1 (br_f c0 (br_f c1 (br_f c2 (br_f c3 (br_t c4 ⟨i4, ?_⟩)))))))) (cn_X5_tune (M_isTune_y hM ok ht (y1 (br_f c0 (br_f c1 (br_f c2 (br_f c3 (br_t c4 ?_))))))))
              · rw [nI_clamp (by omega), hX.kind ht]
                exact X_lengthAs isH1 hX ok ht (ok.tt ht).1 ⟨rfl, XK.rf⟩
              · exact M_lengthOf hM ok ht ⟨rfl, MK.rf⟩
            · by_cases c5 : p1 = 5
              · refine two_ask hR (nI (maskN (fun q => decide (H 9 q = t)) (nB H))) (cn_X4_tune (X_hasTune_y isH1 hX ok ht (y1 (br_f c0 (br_f c1 (br_f c2 (br_f c3 (br_f c4 (br_t c5 ?_))))))))) (cn_X5_tune (M_isTune_y hM ok ht (y1 (br_f c0 (br_f c1 (br_f c2 (br_f c3 (br_f c4 (br_t c5 ?_)))))))))
                · exact X_boundTo isH1 hX ok ht ⟨rfl, XK.rf⟩
                · exact M_boundTo hM ok ht ⟨rfl, MK.rf⟩
              · exact two_ask hR (-1) (cn_X4_tune (X_hasTune_y isH1 hX ok ht (y1 (br_f c0 (br_f c1 (br_f c2 (br_f c3 (br_f c4 (br_f c5 ⟨rfl, XK.rf⟩))))))))) (cn_X5_tune (M_isTune_y hM ok ht (y1 (br_f c0 (br_f c1 (br_f c2 (br_f c3 (br_f c4 (br_f c5 ⟨rfl, MK.rf⟩)))))))))
  · exact two_ask hR (-1) (cn_X4_tune (X_hasTune_n isH1 hX ok hz (y0 ⟨rfl, XK.rf⟩))) (cn_X5_tune (M_isTune_n hM ok hz (y0 ⟨rfl, MK.rf⟩)))
theorem two_note {x m : DD} {H : HH} {p0 p1 : Int32} (hR : RelH H x m) : Two MX4_note MX5_note [.ref 0, .int p0, .int p1] x m := by
  obtain ⟨ok, hX, hM, hO⟩ := id hR
  have o4 := ok.t4
  by_cases c : ∃ t i, t < nT H ∧ i < H 1 t ∧ p0 = nI t ∧ p1 = nI i
  · obtain ⟨t, i, ht, hi, rfl, rfl⟩ := c
    have o8 := (ok.tt ht).2.2.1
    refine two_ask hR (nI (H 4 (8 * t + i))) (cn_X4_note (X_hasNote isH1 hX ok (fun t' i' _ _ _ _ => y1 ?_) (fun z => (z t i ht hi rfl rfl).elim))) (cn_X5_note (M_isNote hM ok (fun t' i' _ _ _ _ => y1' ?_) (fun z => (z t i ht hi rfl rfl).elim)))
    · rw [show nI t * 8 + nI i = nI (8 * t + i) from by rw [li_8, pk_mul, nI_add, Nat.mul_comm]]
      refine ⟨vp_in_nI (by omega) (by omega), ?_, XK.rf⟩
      rw [nI_clamp (by omega)]; exact hX.score ht hi
    · rw [show 16 + (8 * nI t) + nI i = nI (16 + (8 * t + i)) from by rw [li_8, li_16, pk_mul, nI_add, nI_add, Nat.add_assoc]]
      refine ⟨vp_in_nI (by omega) (by omega), ?_, MK.rf⟩
      rw [nI_clamp (by omega)]; exact hM.score ht hi
  · exact two_ask hR (-1) (cn_X4_note (X_hasNote isH1 hX ok (fun t i h1 h2 h3 h4 => absurd ⟨t, i, h1, h2, h3, h4⟩ c) (fun _ => y0 ⟨rfl, XK.rf⟩))) (cn_X5_note (M_isNote hM ok (fun t i h1 h2 h3 h4 => absurd ⟨t, i, h1, h2, h3, h4⟩ c) (fun _ => y0' ⟨rfl, MK.rf⟩)))
theorem two_has {x m : DD} {H : HH} {p0 p1 : Int32} (hR : RelH H x m) : Two MX4_has MX5_has [.ref 0, .int p0, .int p1] x m := by
  obtain ⟨ok, hX, hM, hO⟩ := id hR
  have o4 := ok.t4
  rcases ge_of (n := nT H) (v := p0) (by omega) with ⟨t, ht, rfl⟩ | hz
  · rcases ge_of (n := 160) (v := p1) (by omega) with ⟨w, hw, rfl⟩ | hz2
    · refine two_ask hR (noteB H t (H 0 t) w) (cn_X4_has (X_hasTune_y isH1 hX ok ht (y1' (X_win_y (n := 159) (by omega) (by omega) (y1 ⟨vp_in_nI (by omega) (by omega), ?_⟩))))) (cn_X5_has (M_isTune_y hM ok ht (y1' (M_isMinute_y hw (y1' ⟨vp_in_nI (by omega) (by omega), ?_⟩)))))
      · rw [nI_clamp (by omega), hX.kind ht]
        exact X_noteAs isH1 hX ok ht (ok.tt ht).1 hw ⟨rfl, XK.rf⟩
      · rw [nI_clamp (by omega), hM.kind ht]
        exact M_noteBy hM ok ht (ok.tt ht).1 hw ⟨rfl, MK.rf⟩
    · exact two_ask hR (-1) (cn_X4_has (X_hasTune_y isH1 hX ok ht (y1' (X_win_n (n := 159) (by omega) hz2 (y0 ⟨rfl, XK.rf⟩))))) (cn_X5_has (M_isTune_y hM ok ht (y1' (M_isMinute_n hz2 (y0' ⟨rfl, MK.rf⟩)))))
  · exact two_ask hR (-1) (cn_X4_has (X_hasTune_n isH1 hX ok hz (y0' ⟨rfl, XK.rf⟩))) (cn_X5_has (M_isTune_n hM ok hz (y0' ⟨rfl, MK.rf⟩)))
theorem two_bound {x m : DD} {H : HH} {p0 : Int32} (hR : RelH H x m) : Two MX4_bound MX5_bound [.ref 0, .int p0] x m := by
  obtain ⟨ok, hX, hM, hO⟩ := id hR
  have o6 := ok.b6
  rcases ge_of (n := nB H) (v := p0) (by omega) with ⟨p, hp, rfl⟩ | hz
  · refine two_ask hR (nI (H 9 p)) (cn_X4_bound (X_hasPrisoner_y isH1 hX ok hp (y1' ⟨vp_in_nI (by omega) (by omega), ?_, XK.rf⟩))) (cn_X5_bound (M_isBound_y hM ok hp (y1' ?_)))
    · rw [nI_clamp (by omega)]; exact hX.bond hp
    · rw [show (64 : Int32) + nI p = nI (64 + p) from nI_add 64 p]
      refine ⟨vp_in_nI (by omega) (by omega), ?_, MK.rf⟩
      rw [nI_clamp (by omega)]; exact hM.bond hp
  · exact two_ask hR (-1) (cn_X4_bound (X_hasPrisoner_n isH1 hX ok hz (y0' ⟨rfl, XK.rf⟩))) (cn_X5_bound (M_isBound_n hM ok hz (y0' ⟨rfl, MK.rf⟩)))
theorem two_player {x m : DD} {H : HH} {p0 p1 : Int32} (hR : RelH H x m) : Two MX4_player MX5_player [.ref 0, .int p0, .int p1] x m := by
  obtain ⟨ok, hX, hM, hO⟩ := id hR
  have o4 := ok.p4
  rcases ge_of (n := nP H) (v := p0) (by omega) with ⟨p, hp, rfl⟩ | hz
  · rcases ge_of (n := 4) (v := p1) (by omega) with ⟨w, hw, rfl⟩ | hz2
    · have i4 : vp_in (nI p) 4 := vp_in_nI (by omega) (by omega)
      have mm : ∀ v : Int32, m 1 (48 + 4 * w + p) = v → Cn SM MX5_player [.ref 0, .int (nI p), .int (nI w)] m (rI fun r' d => r' = v ∧ MK m d) := fun v e => by
        refine cn_X5_player (M_isPlayer_y hM ok hp (y1' (M_win_y (n := 3) (by omega) (by omega) (y1' ?_))))
        rw [show 48 + (4 * nI w) + nI p = nI (48 + 4 * w + p) from by rw [li_4, li_48, pk_mul, nI_add, nI_add]]
        refine ⟨vp_in_nI (by omega) (by omega), ?_, MK.rf⟩
        rw [nI_clamp (by omega)]; exact e
      match w, hw, mm with
      | 0, _, mm =>
        refine two_ask hR (nI (H 5 p)) (cn_X4_player (X_hasPlayer_y isH1 hX ok hp (y1 (br_t rfl ⟨i4, ?_, XK.rf⟩)))) (mm _ (hM.skill hp))
        rw [nI_clamp (by omega)]; exact hX.skill hp
      | 1, _, mm =>
        refine two_ask hR (nI (H 6 p)) (cn_X4_player (X_hasPlayer_y isH1 hX ok hp (y1 (br_f (by decide) (br_t rfl ⟨i4, ?_, XK.rf⟩))))) (mm _ (hM.breath hp))
        rw [nI_clamp (by omega)]; exact hX.breath hp
      | 2, _, mm =>
        refine two_ask hR (nI (H 7 p)) (cn_X4_player (X_hasPlayer_y isH1 hX ok hp (y1 (br_f (by decide) (br_f (by decide) (br_t rfl ⟨i4, ?_, XK.rf⟩)))))) (mm _ (hM.pay hp))
        rw [nI_clamp (by omega)]; exact hX.pay hp
      | 3, _, mm =>
        refine two_ask hR (nI (H 8 p)) (cn_X4_player (X_hasPlayer_y isH1 hX ok hp (y1 (br_f (by decide) (br_f (by decide) (br_f (by decide) (br_t rfl ⟨i4, ?_, XK.rf⟩))))))) (mm _ (hM.at hp))
        rw [nI_clamp (by omega)]; exact hX.at hp
    · exact two_ask hR (-1) (cn_X4_player (X_hasPlayer_y isH1 hX ok hp (y1 (br_f (hz2 0 (by omega)) (br_f (hz2 1 (by omega)) (br_f (hz2 2 (by omega)) (br_f (hz2 3 (by omega)) ⟨rfl, XK.rf⟩))))))) (cn_X5_player (M_isPlayer_y hM ok hp (y1' (M_win_n (n := 3) (by omega) hz2 (y0' ⟨rfl, MK.rf⟩)))))
  · exact two_ask hR (-1) (cn_X4_player (X_hasPlayer_n isH1 hX ok hz (y0 ⟨rfl, XK.rf⟩))) (cn_X5_player (M_isPlayer_n hM ok hz (y0' ⟨rfl, MK.rf⟩)))
end
section
/-! ===== what is asked of a playing ===== -/
theorem play_inv {H : HH} {sil : Nat} (ok : OKH H) : Pinv H 160 (playS H sil) := runS_inv ok 160
theorem X_getsAway {q : Int32 → DD → Prop} {d : DD} {b j : Nat} {H : HH} {P : PL} (Hb : isH b) (hX : XH b d H) (ok : OKH H) (hI : Pinv H 160 P) (hE : XE d H P) (hj : j < nB H) (h : q (if P 1 (H 9 j) = 0 then 0 else 1) d) : Cn SX MX1_getsAway [.ref 38, .ref b, .int (nI j)] d (rI q) := by
  have o4 := ok.t4
  have o6 := ok.b6
  have hb := ok.bb hj
  have b1 := (hI.2.2.1 _ hb).2
  refine cn_X1_getsAway Hb ⟨vp_in_nI (by omega) (by omega), ?_⟩
  rw [nI_clamp (by omega), hX.bond hj]
  refine ⟨vp_in_nI (by omega) (by omega), ?_⟩
  rw [nI_clamp (by omega), (hE.1 _ hb).2.2.1]
  refine ⟨fun c => ?_, fun c => ?_⟩
  · rw [li_0] at c; rw [if_pos (nI_inj (by omega) (by omega) c)] at h; exact h
  · rw [if_neg (fun z => c (by rw [z]; rfl))] at h; exact h
theorem X_outAt {q : Int32 → DD → Prop} {d : DD} {b j : Nat} {H : HH} {P : PL} (Hb : isH b) (hX : XH b d H) (ok : OKH H) (hE : XE d H P) (hj : j < nB H) (h : q (nI (P 0 (H 9 j) - 1)) d) : Cn SX MX1_outAt [.ref 38, .ref b, .int (nI j)] d (rI q) := by
  have o4 := ok.t4
  have o6 := ok.b6
  have hb := ok.bb hj
  refine cn_X1_outAt Hb ⟨vp_in_nI (by omega) (by omega), ?_⟩
  rw [nI_clamp (by omega), hX.bond hj]
  refine ⟨vp_in_nI (by omega) (by omega), ?_⟩
  rw [nI_clamp (by omega), (hE.1 _ hb).2.1]
  exact h
theorem awayS_le {H : HH} {P : PL} (ok : OKH H) : awayS H P ≤ 6 := by
  have o6 := ok.b6
  have : awayS H P ≤ nB H * 1 := sumN_le (fun i _ => by split <;> omega)
  omega
theorem X_away {q : Int32 → DD → Prop} {d : DD} {b : Nat} {H : HH} {P : PL} (Hb : isH b) (hX : XH b d H) (ok : OKH H) (hI : Pinv H 160 P) (hE : XE d H P) (h : q (nI (awayS H P)) d) : Cn SX MX1_away [.ref 38, .ref b] d (rI q) := by
  have o6 := ok.b6
  refine cn_X1_away Hb ?_
  rw [li_0]
  refine for_up (W := fun k d' => Ev SX MX1_away 4 [.ref 38, .ref b, .int (nI (sumN (fun q => if P 1 (H 9 q) = 0 then 0 else 1) k)), .int (nI k)] [] d' (rI q)) (I := fun k d' => d' = d) (nB H) ?_ ?_ 0 d (Nat.zero_le _) rfl
  · rintro d' rfl
    refine bk_X1_away_4 Hb ⟨fun _ => h, fun c => absurd ?_ c⟩
    rw [hX.nb]; exact nI_le (Nat.le_refl _) (by omega)
  · rintro k d' hk rfl ih
    have e : sumN (fun q => if P 1 (H 9 q) = 0 then 0 else 1) (k + 1) = sumN (fun q => if P 1 (H 9 q) = 0 then 0 else 1) k + (if P 1 (H 9 k) = 0 then 0 else 1) := rfl
    have := ih d' rfl
    rw [e] at this
    refine bk_X1_away_4 Hb ⟨fun c => ?_, fun _ => X_getsAway Hb hX ok hI hE hk ?_⟩
    · rw [hX.nb] at c; exact absurd ((nI_leI (by omega) (by omega)).mp c) (by omega)
    · rw [nI_1, nI_1]
      split
      · rename_i z; rw [if_pos z] at this; exact ⟨fun _ => this, fun c => absurd rfl c⟩
      · rename_i z; rw [if_neg z] at this; exact ⟨fun c => absurd c (by decide), fun _ => this⟩
theorem X_cost {q : Int32 → DD → Prop} {d : DD} {b : Nat} {H : HH} {P : PL} (Hb : isH b) (hX : XH b d H) (ok : OKH H) (hE : XE d H P) (h : q (nI (costS H P)) d) : Cn SX MX1_cost [.ref 38, .ref b] d (rI q) := by
  have o4 := ok.p4
  refine cn_X1_cost Hb ?_
  rw [li_0]
  refine for_up (W := fun k d' => Ev SX MX1_cost 4 [.ref 38, .ref b, .int (nI (sumN (fun p => P 4 p * H 7 p) k)), .int (nI k)] [] d' (rI q)) (I := fun k d' => d' = d) (nP H) ?_ ?_ 0 d (Nat.zero_le _) rfl
  · rintro d' rfl
    refine bk_X1_cost_4 Hb ⟨fun _ => h, fun c => absurd ?_ c⟩
    rw [hX.np]; exact nI_le (Nat.le_refl _) (by omega)
  · rintro k d' hk rfl ih
    refine bk_X1_cost_4 Hb ⟨fun c => ?_, fun _ => ⟨vp_in_nI (by omega) (by omega), vp_in_nI (by omega) (by omega), nm_e ?_⟩⟩
    · rw [hX.np] at c; exact absurd ((nI_leI (by omega) (by omega)).mp c) (by omega)
    · rw [nI_clamp (by omega), hE.2 k hk, hX.pay hk, pk_mul, nI_add, nI_1]
      exact ih d' rfl
theorem M_away {q : Int32 → DD → Prop} {d : DD} {H : HH} {P : PL} (hM : MH 0 d H) (ok : OKH H) (hI : Pinv H 160 P) (hE : ME d H P) (h : q (nI (maskN (fun q => decide (P 1 (H 9 q) ≠ 0)) (nB H))) d) : Cn SM MX5_away [.ref 0] d (rI q) := by
  have o4 := ok.t4
  have o6 := ok.b6
  refine cn_X5_away ?_
  rw [li_0]
  refine for_up (W := fun k d' => Ev SM MX5_away 4 [.ref 0, .int (nI (maskN (fun q => decide (P 1 (H 9 q) ≠ 0)) k)), .int (nI k)] [] d' (rI q)) (I := fun k d' => d' = d) (nB H) ?_ ?_ 0 d (Nat.zero_le _) rfl
  · rintro d' rfl
    refine bk_X5_away_4 ⟨fun _ => h, fun c => absurd ?_ c⟩
    rw [hM.nb]; exact nI_le (Nat.le_refl _) (by omega)
  · rintro k d' hk rfl ih
    have hb := ok.bb hk
    have b1 := (hI.2.2.1 _ hb).2
    have e : maskN (fun q => decide (P 1 (H 9 q) ≠ 0)) (k + 1) = maskN (fun q => decide (P 1 (H 9 q) ≠ 0)) k + (if decide (P 1 (H 9 k) ≠ 0) = true then 2 ^ k else 0) := rfl
    have := ih d' rfl
    rw [e] at this
    refine bk_X5_away_4 ⟨fun c => ?_, fun _ => ?_⟩
    · rw [hM.nb] at c; exact absurd ((nI_leI (by omega) (by omega)).mp c) (by omega)
    · rw [show (64 : Int32) + nI k = nI (64 + k) from nI_add 64 k]
      refine ⟨vp_in_nI (by omega) (by omega), ?_⟩
      rw [nI_clamp (by omega), hM.bond hk]
      refine ⟨vp_in_nI (by omega) (by omega), ?_⟩
      rw [nI_clamp (by omega), (hE.1 _ hb).2.2.1, nI_1, shl1 (by omega), mask_or (by omega), show nI (maskN (fun q => decide (P 1 (H 9 q) ≠ 0)) k) ||| 0 = nI (maskN (fun q => decide (P 1 (H 9 q) ≠ 0)) k) from by rw [li_0, fa_or]; simp]
      refine ⟨fun c => ?_, fun c => nm_e ?_⟩
      · rw [li_0] at c
        have c := nI_inj (by omega) (by omega) c
        rw [if_neg (by simp [c]), Nat.add_zero] at this
        exact this
      · rw [if_pos (by simp only [decide_eq_true_eq]; exact fun z => c (by rw [z]; rfl))] at this
        exact this
def bitsN (a : Nat) : Nat → Nat := sumN (fun k => if a.testBit k then 1 else 0)
theorem M_bitsOf {q : Int32 → DD → Prop} {d : DD} {a : Nat} (ha : a < 2 ^ 31) (h : q (nI (bitsN a 6)) d) : Cn SM MX5_bitsOf [.int (nI a)] d (rI q) := by
  refine cn_X5_bitsOf ?_
  rw [li_0]
  refine for_up (W := fun k d' => Ev SM MX5_bitsOf 4 [.int (nI a), .int (nI (bitsN a k)), .int (nI k)] [] d' (rI q)) (I := fun k d' => d' = d) 6 ?_ ?_ 0 d (Nat.zero_le _) rfl
  · rintro d' rfl
    exact bk_X5_bitsOf_4 ⟨fun _ => h, fun c => absurd (show (6 : Int32) ≤ nI 6 from by decide) c⟩
  · rintro k d' hk rfl ih
    have e : bitsN a (k + 1) = bitsN a k + (if a.testBit k then 1 else 0) := rfl
    have := ih d' rfl
    rw [e] at this
    refine bk_X5_bitsOf_4 ⟨fun c => ?_, fun _ => nm_e ?_⟩
    · rw [li_6] at c; exact absurd ((nI_leI (by omega) (by omega)).mp c) (by omega)
    · rw [bit_of ha (by omega), show (if a.testBit k = true then (1 : Int32) else 0) = nI (if a.testBit k = true then 1 else 0) from by split <;> rfl, nI_add, nI_1]
      exact this
theorem bitsN_mask {p : Nat → Bool} {n : Nat} : ∀ k, n ≤ k → bitsN (maskN p n) k = sumN (fun q => if p q then 1 else 0) n := by
  have low : ∀ k, k ≤ n → bitsN (maskN p n) k = sumN (fun q => if p q then 1 else 0) k := by
    intro k hk
    unfold bitsN
    refine sumN_cong (fun i hi => ?_)
    rw [maskN_bit, decide_eq_true (show i < n by omega), Bool.true_and]
  intro k
  induction k with
  | zero => intro h; exact (low 0 (by omega)).trans (by rw [show n = 0 by omega])
  | succ k ih =>
    intro h
    by_cases z : n = k + 1
    · rw [← z]; exact low n (Nat.le_refl _)
    · show bitsN (maskN p n) k + (if (maskN p n).testBit k = true then 1 else 0) = _
      rw [ih (by omega), maskN_bit, decide_eq_false (show ¬ k < n by omega)]
      rfl
theorem away_bits {H : HH} {P : PL} (ok : OKH H) : bitsN (maskN (fun q => decide (P 1 (H 9 q) ≠ 0)) (nB H)) 6 = awayS H P := by
  rw [bitsN_mask 6 ok.b6]
  unfold awayS
  refine sumN_cong (fun i _ => ?_)
  by_cases c : P 1 (H 9 i) = 0
  · rw [if_neg (by simp [c]), if_pos c]
  · rw [if_pos (by simp [c]), if_neg c]
theorem mask64 {p : Nat → Bool} {n : Nat} (h : n ≤ 6) : maskN p n < 64 := Nat.lt_of_lt_of_le (maskN_lt p n) (Nat.pow_le_pow_right (by decide) h)
theorem M_awayBits {q : Int32 → DD → Prop} {d : DD} {H : HH} {P : PL} (ok : OKH H) (h : q (nI (awayS H P)) d) : Cn SM MX5_bitsOf [.int (nI (maskN (fun q => decide (P 1 (H 9 q) ≠ 0)) (nB H)))] d (rI q) := by
  have := mask64 (p := fun q => decide (P 1 (H 9 q) ≠ 0)) ok.b6
  exact M_bitsOf (by omega) (by rw [away_bits ok]; exact h)
theorem M_awayMany {q : Int32 → DD → Prop} {d : DD} {sil : Nat} {H : HH} (hM : MH 0 d H) (ok : OKH H) (hs : d 0 26 = nI sil) (hsl : sil < 2 ^ 30) (h : ∀ d', MF d d' → ME d' H (playS H sil) → q (nI (awayS H (playS H sil))) d') : Cn SM MX5_awayMany [.ref 0] d (rI q) := by
  refine cn_X5_awayMany (M_playing hM ok hs hsl fun d' f e => ?_)
  exact M_away (hM.mf ok f) ok (play_inv ok) e (M_awayBits ok (h d' f e))
theorem M_cost {q : Int32 → DD → Prop} {d : DD} {H : HH} {P : PL} (hM : MH 0 d H) (ok : OKH H) (hE : ME d H P) (h : q (nI (costS H P)) d) : Cn SM MX5_cost [.ref 0] d (rI q) := by
  have o4 := ok.p4
  refine cn_X5_cost ?_
  rw [li_0]
  refine for_up (W := fun k d' => Ev SM MX5_cost 4 [.ref 0, .int (nI (sumN (fun p => P 4 p * H 7 p) k)), .int (nI k)] [] d' (rI q)) (I := fun k d' => d' = d) (nP H) ?_ ?_ 0 d (Nat.zero_le _) rfl
  · rintro d' rfl
    refine bk_X5_cost_4 ⟨fun _ => h, fun c => absurd ?_ c⟩
    rw [hM.np]; exact nI_le (Nat.le_refl _) (by omega)
  · rintro k d' hk rfl ih
    refine bk_X5_cost_4 ⟨fun c => ?_, fun _ => ⟨vp_in_nI (by omega) (by omega), ?_⟩⟩
    · rw [hM.np] at c; exact absurd ((nI_leI (by omega) (by omega)).mp c) (by omega)
    · rw [show (56 : Int32) + nI k = nI (56 + k) from nI_add 56 k]
      refine ⟨vp_in_nI (by omega) (by omega), nm_e ?_⟩
      rw [nI_clamp (by omega), nI_clamp (by omega), hE.2.1 k hk, hM.pay hk, pk_mul, nI_add, nI_1]
      exact ih d' rfl
end
section
/-! ===== over, out, plays, sounds, sum, first ===== -/
theorem RelO.sil {H : HH} {x m : DD} (h : RelO H x m) : m 0 26 = nI 0 := h.2.2.2.2.2.1
def overV (P : PL) (t w : Nat) : Int32 := if w = 0 then nI (P 0 t - 1) else if w = 1 then nI (P 1 t) else nI (P 2 t)
theorem lt3 {w : Nat} (h : w < 3) : w = 0 ∨ w = 1 ∨ w = 2 := by omega
theorem X_over {q : Int32 → DD → Prop} {d : DD} {H : HH} {t w : Nat} (hX : XH 1 d H) (ok : OKH H) (ht : t < nT H) (hw : w < 3) (h : ∀ d', XF d d' → q (overV (playS H 0) t w) d') : Cn SX MX4_over [.ref 0, .int (nI t), .int (nI w)] d (rI q) := by
  have o4 := ok.t4
  refine cn_X4_over (X_hasTune_y isH1 hX ok ht (y1' (X_win_y (n := 2) (by omega) (by omega) (y1 (X_run (sil := 0) isH1 hX ok (by omega) fun d' f e => ?_)))))
  have hh := h d' f
  have e1 := e.1 t ht
  rcases lt3 hw with rfl | rfl | rfl
  · refine br_t rfl ⟨vp_in_nI (by omega) (by omega), ?_⟩
    rw [nI_clamp (by omega), e1.2.1]; exact hh
  · refine br_f (by decide) (br_t rfl ⟨vp_in_nI (by omega) (by omega), ?_⟩)
    rw [nI_clamp (by omega), e1.2.2.1]; exact hh
  · refine br_f (by decide) (br_f (by decide) ⟨vp_in_nI (by omega) (by omega), ?_⟩)
    rw [nI_clamp (by omega), e1.2.2.2]; exact hh
theorem two_over {x m : DD} {H : HH} {p0 p1 : Int32} (hR : RelH H x m) : Two MX4_over MX5_over [.ref 0, .int p0, .int p1] x m := by
  obtain ⟨ok, hX, hM, hO⟩ := id hR
  have o4 := ok.t4
  rcases ge_of (n := nT H) (v := p0) (by omega) with ⟨t, ht, rfl⟩ | hz
  · rcases ge_of (n := 3) (v := p1) (by omega) with ⟨w, hw, rfl⟩ | hz2
    · refine two_ask hR (overV (playS H 0) t w) (X_over hX ok ht hw fun d' f => ⟨rfl, f.k⟩) (cn_X5_over (M_isTune_y hM ok ht (y1' (M_win_y (n := 2) (by omega) (by omega) (y1 (M_playing hM ok hO.sil (by omega) fun d' f e => ?_))))))
      have e1 := e.1 t ht
      rcases lt3 hw with rfl | rfl | rfl
      · refine rr_t rfl ⟨vp_in_nI (by omega) (by omega), ?_, f.k⟩
        rw [nI_clamp (by omega), e1.2.1]; rfl
      · refine rr_f (by decide) (rr_t rfl ⟨vp_in_nI (by omega) (by omega), ?_, f.k⟩)
        rw [nI_clamp (by omega), e1.2.2.1]; rfl
      · refine rr_f (by decide) (rr_f (by decide) ⟨vp_in_nI (by omega) (by omega), ?_, f.k⟩)
        rw [nI_clamp (by omega), e1.2.2.2]; rfl
    · exact two_ask hR (-1) (cn_X4_over (X_hasTune_y isH1 hX ok ht (y1' (X_win_n (n := 2) (by omega) hz2 (y0 ⟨rfl, XK.rf⟩))))) (cn_X5_over (M_isTune_y hM ok ht (y1' (M_win_n (n := 2) (by omega) hz2 (y0 ⟨rfl, MK.rf⟩)))))
  · exact two_ask hR (-1) (cn_X4_over (X_hasTune_n isH1 hX ok hz (y0' ⟨rfl, XK.rf⟩))) (cn_X5_over (M_isTune_n hM ok hz (y0' ⟨rfl, MK.rf⟩)))
theorem two_out {x m : DD} {H : HH} {p0 p1 : Int32} (hR : RelH H x m) : Two MX4_out MX5_out [.ref 0, .int p0, .int p1] x m := by
  obtain ⟨ok, hX, hM, hO⟩ := id hR
  have o4 := ok.t4
  have o6 := ok.b6
  rcases ge_of (n := nB H) (v := p0) (by omega) with ⟨p, hp, rfl⟩ | hz
  · rcases ge_of (n := 2) (v := p1) (by omega) with ⟨w, hw, rfl⟩ | hz2
    · have hb := ok.bb hp
      refine two_ask hR (overV (playS H 0) (H 9 p) w) (cn_X4_out (X_hasPrisoner_y isH1 hX ok hp (y1' (X_win_y (n := 1) (by omega) (by omega) (y1 ⟨vp_in_nI (by omega) (by omega), ?_⟩))))) (cn_X5_out (M_isBound_y hM ok hp (y1' (M_win_y (n := 1) (by omega) (by omega) (y1 (M_playing hM ok hO.sil (by omega) fun d' f e => ?_))))))
      · rw [nI_clamp (by omega), hX.bond hp]
        exact X_over hX ok hb (by omega) fun d' f => ⟨rfl, f.k⟩
      · have e1 := e.1 _ hb
        rw [show (64 : Int32) + nI p = nI (64 + p) from nI_add 64 p]
        refine ⟨vp_in_nI (by omega) (by omega), nm_e ?_⟩
        rw [nI_clamp (by omega), (hM.mf ok f).bond hp]
        rcases (show w = 0 ∨ w = 1 by omega) with rfl | rfl
        · refine rr_t rfl ⟨vp_in_nI (by omega) (by omega), ?_, f.k⟩
          rw [nI_clamp (by omega), e1.2.1]; rfl
        · refine rr_f (by decide) ⟨vp_in_nI (by omega) (by omega), ?_, f.k⟩
          rw [nI_clamp (by omega), e1.2.2.1]; rfl
    · exact two_ask hR (-1) (cn_X4_out (X_hasPrisoner_y isH1 hX ok hp (y1' (X_win_n (n := 1) (by omega) hz2 (y0 ⟨rfl, XK.rf⟩))))) (cn_X5_out (M_isBound_y hM ok hp (y1' (M_win_n (n := 1) (by omega) hz2 (y0 ⟨rfl, MK.rf⟩)))))
  · exact two_ask hR (-1) (cn_X4_out (X_hasPrisoner_n isH1 hX ok hz (y0' ⟨rfl, XK.rf⟩))) (cn_X5_out (M_isBound_n hM ok hz (y0' ⟨rfl, MK.rf⟩)))
theorem two_plays {x m : DD} {H : HH} {p0 : Int32} (hR : RelH H x m) : Two MX4_plays MX5_plays [.ref 0, .int p0] x m := by
  obtain ⟨ok, hX, hM, hO⟩ := id hR
  have o4 := ok.p4
  rcases ge_of (n := nP H) (v := p0) (by omega) with ⟨p, hp, rfl⟩ | hz
  · refine two_ask hR (nI (playS H 0 4 p)) (cn_X4_plays (X_hasPlayer_y isH1 hX ok hp (y1 (X_run (sil := 0) isH1 hX ok (by omega) fun d' f e => ⟨vp_in_nI (by omega) (by omega), ?_, f.k⟩)))) (cn_X5_plays (M_isPlayer_y hM ok hp (y1 (M_playing hM ok hO.sil (by omega) fun d' f e => ⟨vp_in_nI (by omega) (by omega), ?_, f.k⟩))))
    · rw [nI_clamp (by omega)]; exact e.2 p hp
    · rw [nI_clamp (by omega)]; exact e.2.1 p hp
  · exact two_ask hR (-1) (cn_X4_plays (X_hasPlayer_n isH1 hX ok hz (y0 ⟨rfl, XK.rf⟩))) (cn_X5_plays (M_isPlayer_n hM ok hz (y0 ⟨rfl, MK.rf⟩)))
theorem X_sounds_4 {q : Int32 → DD → Prop} {d : DD} {H : HH} {P : PL} {w : Nat} (hX : XH 1 d H) (ok : OKH H) (hI : Pinv H 160 P) (hE : XE d H P) (hw : w < 160) (h : q (nI (maskN (sndB H P w) (nT H))) d) : Ev SX MX4_sounds 29 [.ref 0, .int (nI w), .int (nI 0), .int (nI 0)] [] d (rI q) := by
  have o4 := ok.t4
  refine for_up (W := fun k d' => Ev SX MX4_sounds 29 [.ref 0, .int (nI w), .int (nI (maskN (sndB H P w) k)), .int (nI k)] [] d' (rI q)) (I := fun k d' => d' = d) (nT H) ?_ ?_ 0 d (Nat.zero_le _) rfl
  · rintro d' rfl
    refine bk_X4_sounds_29 ⟨fun _ => h, fun c => absurd ?_ c⟩
    rw [hX.nt]; exact nI_le (Nat.le_refl _) (by omega)
  · rintro k d' hk rfl ih
    have ot := ok.tt hk
    have h3 := ot.2.2.2.2.2.1
    have b2 := hI.2.1 k hk
    have bl : lenO H k ≤ 144 := lenB_le ot
    have e : maskN (sndB H P w) (k + 1) = maskN (sndB H P w) k + (if sndB H P w k = true then 2 ^ k else 0) := rfl
    have := ih d' rfl
    rw [e] at this
    refine bk_X4_sounds_29 ⟨fun c => ?_, fun _ => ⟨vp_in_nI (by omega) (by omega), ?_⟩⟩
    · rw [hX.nt] at c; exact absurd ((nI_leI (by omega) (by omega)).mp c) (by omega)
    · rw [nI_clamp (by omega), hX.start hk, (hE.1 k hk).2.2.2, nI_1]
      refine ⟨fun c => ?_, fun c => ?_⟩
      · have c := (nI_ltI (by omega) (by omega)).mp c
        rw [if_neg (by simp only [sndB, decide_eq_true_eq]; omega), Nat.add_zero] at this
        exact this
      · have c : H 3 k ≤ w := by
          rcases Nat.lt_or_ge w (H 3 k) with z | z
          · exact absurd ((nI_ltI (by omega) (by omega)).mpr z) c
          · exact z
        rw [pk_sub c]
        refine ⟨vp_in_nI (by omega) (by omega), vp_in_nI (by omega) (by omega), fun c2 => ?_, fun c2 => nm_e ?_⟩
        · have c2 := (nI_leI (by omega) (by omega)).mp c2
          rw [if_neg (by simp only [sndB, decide_eq_true_eq]; omega), Nat.add_zero] at this
          exact this
        · have c2 : w - H 3 k < P 2 k := by
            rcases Nat.lt_or_ge (w - H 3 k) (P 2 k) with z | z
            · exact z
            · exact absurd ((nI_leI (by omega) (by omega)).mpr z) c2
          rw [if_pos (by simp only [sndB, decide_eq_true_eq]; omega)] at this
          rw [shl1 (by omega), mask_or (by omega)]
          exact this
theorem two_sounds {x m : DD} {H : HH} {p0 : Int32} (hR : RelH H x m) : Two MX4_sounds MX5_sounds [.ref 0, .int p0] x m := by
  obtain ⟨ok, hX, hM, hO⟩ := id hR
  rcases ge_of (n := 160) (v := p0) (by omega) with ⟨w, hw, rfl⟩ | hz
  · refine two_ask hR (nI (maskN (sndB H (playS H 0) w) (nT H))) (cn_X4_sounds (X_win_y (n := 159) (by omega) (by omega) (y1 (X_run (sil := 0) isH1 hX ok (by omega) fun d' f e => X_sounds_4 (hX.xk f.k) ok (play_inv ok) e hw ⟨rfl, f.k⟩)))) (cn_X5_sounds (M_isMinute_y hw (y1 (M_playing hM ok hO.sil (by omega) fun d' f e => ⟨vp_in_nI (by omega) (by omega), ?_, f.k⟩))))
    rw [nI_clamp (by omega)]; exact e.2.2 w hw
  · exact two_ask hR (-1) (cn_X4_sounds (X_win_n (n := 159) (by omega) hz (y0 ⟨rfl, XK.rf⟩))) (cn_X5_sounds (M_isMinute_n hz (y0 ⟨rfl, MK.rf⟩)))
end
