/-! ===== fits ===== -/
def bc1 (x : Int32) : Int32 := x - ((x.toUInt32 >>> (Int32.toUInt32 1 &&& Int32.toUInt32 31)).toInt32 &&& 1431655765)
def bc2 (x : Int32) : Int32 := (x &&& 858993459) + ((x.toUInt32 >>> (Int32.toUInt32 2 &&& Int32.toUInt32 31)).toInt32 &&& 858993459)
def bc3 (x : Int32) : Int32 := (x + (x.toUInt32 >>> (Int32.toUInt32 4 &&& Int32.toUInt32 31)).toInt32) &&& 252645135
def bc4 (x : Int32) : Int32 := x + (x.toUInt32 >>> (Int32.toUInt32 8 &&& Int32.toUInt32 31)).toInt32
def bc5 (x : Int32) : Int32 := x + (x.toUInt32 >>> (Int32.toUInt32 16 &&& Int32.toUInt32 31)).toInt32
theorem bc_all : ∀ a, a < 64 → bc5 (bc4 (bc3 (bc2 (bc1 (nI a))))) &&& 63 = nI (bitsN a 6) := by decide +kernel
theorem X_bitCount {q : Int32 → DD → Prop} {d : DD} {a : Nat} (ha : a < 64) (h : q (nI (bitsN a 6)) d) : Cn SX MJ6_bitCount_0f7a4 [.int (nI a)] d (rI q) := by
  refine cn_J6_bitCount_0f7a4 (nm_e (nm_e (nm_e (nm_e (nm_e ?_)))))
  show q (bc5 (bc4 (bc3 (bc2 (bc1 (nI a))))) &&& 63) d
  rw [bc_all a ha]; exact h
/-- a kind fits what was seen below i -/
def fitF (H : HH) (x : DD) (t k : Nat) : Nat → Bool
  | 0 => true
  | i + 1 => fitF H x t k i && !(decide (x 49 i = nI t) && decide (noteB H t k (x 50 i).toNatClampNeg ≠ x 51 i))
theorem fitF_s {H : HH} {x : DD} {t k i : Nat} : fitF H x t k (i + 1) = (fitF H x t k i && !(decide (x 49 i = nI t) && decide (noteB H t k (x 50 i).toNatClampNeg ≠ x 51 i))) := rfl
def b2 (b : Bool) : Int32 := if b then 1 else 0
theorem X_fk_15 {q : Int32 → DD → Prop} {x m : DD} {H : HH} {t k n : Nat} {l2 : Int32} (hX : XH 1 x H) (ok : OKH H) (ht : t < nT H) (hk : k < 4) (hn : n ≤ 6) (e : x 0 11 = nI n) (a4 : ∀ i, i < n → x 49 i = m 12 (3 * i) ∧ x 50 i = m 12 (3 * i + 1) ∧ x 51 i = m 12 (3 * i + 2) ∧ ∃ c, c < 160 ∧ x 50 i = nI c) (h : ((b2 (fitF H x t k n) = 0 → Ev SX MX4_fittingKinds 4 [.ref 0, .int (nI t), .int l2, .int (nI k + 1), uJ, uJ] [] x (rI q)) ∧ (¬ b2 (fitF H x t k n) = 0 → (∀ x3 : Int32, x3 = (l2 ||| (1 <<< (nI k &&& 31))) → Ev SX MX4_fittingKinds 4 [.ref 0, .int (nI t), .int x3, .int (nI k + 1), uJ, uJ] [] x (rI q))))) : Ev SX MX4_fittingKinds 15 [.ref 0, .int (nI t), .int l2, .int (nI k), .int (nI 1), .int (nI 0)] [] x (rI q) := by
  refine for_up (W := fun i d' => Ev SX MX4_fittingKinds 15 [.ref 0, .int (nI t), .int l2, .int (nI k), .int (b2 (fitF H x t k i)), .int (nI i)] [] d' (rI q)) (I := fun _ d' => d' = x) n ?_ ?_ 0 x (Nat.zero_le _) rfl
  · rintro d' rfl
    refine bk_X4_fittingKinds_15 (br_t ?_ h)
    rw [e]; exact nI_le (Nat.le_refl _) (by omega)
  · rintro i d' hi rfl ih
    obtain ⟨_, _, _, c, hc, ec⟩ := a4 i hi
    have i6 : vp_in (nI i) 6 := vp_in_nI (by omega) (by omega)
    have := ih d' rfl
    rw [fitF_s] at this
    refine bk_X4_fittingKinds_15 (br_f ?_ ⟨i6, ?_⟩)
    · rw [e]; exact fun c => absurd ((nI_leI (by omega) (by omega)).mp c) (by omega)
    · rw [nI_clamp (by omega), nI_1]
      by_cases z : d' 49 i = nI t
      · refine rr_t z ⟨i6, ?_⟩
        rw [ec]
        refine X_noteAs isH1 hX ok ht (by omega) hc ⟨i6, ?_⟩
        rw [decide_eq_true z, Bool.true_and, ec, nI_clamp (by omega)] at this
        by_cases y : noteB H t k c = d' 51 i
        · rw [decide_eq_false (fun w => w y), Bool.not_false, Bool.and_true] at this
          exact br_t y this
        · rw [decide_eq_true y, Bool.not_true, Bool.and_false] at this
          exact br_f y this
      · rw [decide_eq_false z, Bool.false_and, Bool.not_false, Bool.and_true] at this
        exact rr_f z this
theorem M_fk_15 {q : Int32 → DD → Prop} {x m : DD} {H : HH} {t k n : Nat} {l2 : Int32} (hM : MH 0 m H) (ok : OKH H) (ht : t < nT H) (hk : k < 4) (hn : n ≤ 6) (e : m 0 28 = nI n) (a4 : ∀ i, i < n → x 49 i = m 12 (3 * i) ∧ x 50 i = m 12 (3 * i + 1) ∧ x 51 i = m 12 (3 * i + 2) ∧ ∃ c, c < 160 ∧ x 50 i = nI c) (h : ((b2 (fitF H x t k n) = 0 → Ev SM MX5_kindsOf 4 [.ref 0, .int (nI t), .int (l2 ||| 0), .int (nI k + 1), uJ, uJ] [] m (rI q)) ∧ (¬ b2 (fitF H x t k n) = 0 → (∀ x3 : Int32, x3 = (l2 ||| (1 <<< (nI k &&& 31))) → Ev SM MX5_kindsOf 4 [.ref 0, .int (nI t), .int x3, .int (nI k + 1), uJ, uJ] [] m (rI q))))) : Ev SM MX5_kindsOf 15 [.ref 0, .int (nI t), .int l2, .int (nI k), .int (nI 1), .int (nI 0)] [] m (rI q) := by
  refine for_up (W := fun i d' => Ev SM MX5_kindsOf 15 [.ref 0, .int (nI t), .int l2, .int (nI k), .int (b2 (fitF H x t k i)), .int (nI i)] [] d' (rI q)) (I := fun _ d' => d' = m) n ?_ ?_ 0 m (Nat.zero_le _) rfl
  · rintro d' rfl
    refine bk_X5_kindsOf_15 (br_t ?_ h)
    rw [e]; exact nI_le (Nat.le_refl _) (by omega)
  · rintro i d' hi rfl ih
    obtain ⟨a1, a2, a3, c, hc, ec⟩ := a4 i hi
    have := ih d' rfl
    rw [fitF_s] at this
    refine bk_X5_kindsOf_15 (br_f ?_ ?_)
    · rw [e]; exact fun c => absurd ((nI_leI (by omega) (by omega)).mp c) (by omega)
    · rw [nI_1, show (3 : Int32) * nI i = nI (3 * i) from by rw [li_3, pk_mul], nI_1, show nI (3 * i) + 2 = nI (3 * i + 2) from nI_add _ 2, nI_clamp (by omega), nI_clamp (by omega), nI_clamp (by omega)]
      by_cases f : fitF H x t k i = true
      · rw [f] at this ⊢
        refine br_f (by decide) ⟨vp_in_nI (by omega) (by omega), ?_⟩
        by_cases z : x 49 i = nI t
        · refine rr_t (a1.symm.trans z) ⟨vp_in_nI (by omega) (by omega), ?_⟩
          rw [← a2, ec]
          refine M_noteBy hM ok ht (by omega) hc ⟨vp_in_nI (by omega) (by omega), ?_⟩
          rw [decide_eq_true z, Bool.true_and, ec, nI_clamp (by omega), Bool.true_and] at this
          by_cases y : noteB H t k c = x 51 i
          · rw [decide_eq_false (fun w => w y)] at this
            exact rr_t (y.trans a3) this
          · rw [decide_eq_true y] at this
            exact rr_f (fun w => y (w.trans a3.symm)) this
        · rw [decide_eq_false z] at this
          exact rr_f (fun w => z (a1.trans w)) this
      · have f' : fitF H x t k i = false := by revert f; cases fitF H x t k i <;> simp
        rw [f', Bool.false_and] at this
        rw [f']
        exact br_t rfl this
def fitM (H : HH) (x : DD) (t n : Nat) : Nat := maskN (fun k => fitF H x t k n) 4
theorem fitM_lt {H : HH} {x : DD} {t n : Nat} : fitM H x t n < 16 := maskN_lt _ 4
theorem X_fittingKinds {q : Int32 → DD → Prop} {x m : DD} {H : HH} {t n : Nat} (hX : XH 1 x H) (ok : OKH H) (ht : t < nT H) (hn : n ≤ 6) (e : x 0 11 = nI n) (a4 : ∀ i, i < n → x 49 i = m 12 (3 * i) ∧ x 50 i = m 12 (3 * i + 1) ∧ x 51 i = m 12 (3 * i + 2) ∧ ∃ c, c < 160 ∧ x 50 i = nI c) (h : q (nI (fitM H x t n)) x) : Cn SX MX4_fittingKinds [.ref 0, .int (nI t)] x (rI q) := by
  refine cn_X4_fittingKinds ?_
  rw [li_0]
  refine for_up (W := fun k d' => Ev SX MX4_fittingKinds 4 [.ref 0, .int (nI t), .int (nI (maskN (fun k => fitF H x t k n) k)), .int (nI k), uJ, uJ] [] d' (rI q)) (I := fun _ d' => d' = x) 4 ?_ ?_ 0 x (Nat.zero_le _) rfl
  · rintro d' rfl
    exact bk_X4_fittingKinds_4 (br_t (by decide) h)
  · rintro k d' hk rfl ih
    have ee : maskN (fun k => fitF H d' t k n) (k + 1) = maskN (fun k => fitF H d' t k n) k + (if fitF H d' t k n = true then 2 ^ k else 0) := rfl
    have := ih d' rfl
    rw [ee] at this
    refine bk_X4_fittingKinds_4 (br_f ?_ (X_fk_15 hX ok ht hk hn e a4 ?_))
    · rw [li_4]; exact fun c => absurd ((nI_leI (by omega) (by omega)).mp c) (by omega)
    · rw [nI_1, shl1 (by omega), mask_or (p := fun k => fitF H d' t k n) (by omega)]
      cases hf : fitF H d' t k n
      · rw [hf] at this; exact br_t rfl this
      · rw [hf] at this; exact br_f (by decide) (nm_e this)
theorem M_kindsOf {q : Int32 → DD → Prop} {x m : DD} {H : HH} {t n : Nat} (hM : MH 0 m H) (ok : OKH H) (ht : t < nT H) (hn : n ≤ 6) (e : m 0 28 = nI n) (a4 : ∀ i, i < n → x 49 i = m 12 (3 * i) ∧ x 50 i = m 12 (3 * i + 1) ∧ x 51 i = m 12 (3 * i + 2) ∧ ∃ c, c < 160 ∧ x 50 i = nI c) (h : q (nI (fitM H x t n)) m) : Cn SM MX5_kindsOf [.ref 0, .int (nI t)] m (rI q) := by
  refine cn_X5_kindsOf ?_
  rw [li_0]
  refine for_up (W := fun k d' => Ev SM MX5_kindsOf 4 [.ref 0, .int (nI t), .int (nI (maskN (fun k => fitF H x t k n) k)), .int (nI k), uJ, uJ] [] d' (rI q)) (I := fun _ d' => d' = m) 4 ?_ ?_ 0 m (Nat.zero_le _) rfl
  · rintro d' rfl
    exact bk_X5_kindsOf_4 (br_t (by decide) h)
  · rintro k d' hk rfl ih
    have ee : maskN (fun k => fitF H x t k n) (k + 1) = maskN (fun k => fitF H x t k n) k + (if fitF H x t k n = true then 2 ^ k else 0) := rfl
    have := ih d' rfl
    rw [ee] at this
    refine bk_X5_kindsOf_4 (br_f ?_ (M_fk_15 (x := x) hM ok ht hk hn e a4 ?_))
    · rw [li_4]; exact fun c => absurd ((nI_leI (by omega) (by omega)).mp c) (by omega)
    · rw [nI_1, shl1 (by omega), mask_or (p := fun k => fitF H x t k n) (by omega), show nI (maskN (fun k => fitF H x t k n) k) ||| 0 = nI (maskN (fun k => fitF H x t k n) k) from by rw [li_0, fa_or]; simp]
      cases hf : fitF H x t k n
      · rw [hf] at this; exact br_t rfl this
      · rw [hf] at this; exact br_f (by decide) (nm_e this)
theorem two_fits {x m : DD} {H : HH} {p0 : Int32} (hR : RelH H x m) : Two MX4_fits MX5_fits [.ref 0, .int p0] x m := by
  obtain ⟨ok, hX, hM, hO⟩ := id hR
  have o4 := ok.t4
  obtain ⟨n, a1, a2, a3, a4⟩ := hO.2.1
  rcases ge_of (n := nT H) (v := p0) (by omega) with ⟨t, ht, rfl⟩ | hz
  · exact two_ask hR (nI (fitM H x t n)) (cn_X4_fits (X_hasTune_y isH1 hX ok ht (y1' (X_fittingKinds hX ok ht a1 a2 a4 ⟨rfl, XK.rf⟩)))) (cn_X5_fits (M_isTune_y hM ok ht (y1' (M_kindsOf hM ok ht a1 a3 a4 ⟨rfl, MK.rf⟩))))
  · exact two_ask hR (-1) (cn_X4_fits (X_hasTune_n isH1 hX ok hz (y0' ⟨rfl, XK.rf⟩))) (cn_X5_fits (M_isTune_n hM ok hz (y0' ⟨rfl, MK.rf⟩)))
