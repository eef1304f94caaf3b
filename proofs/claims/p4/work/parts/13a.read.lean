/-! ===== read ===== -/
theorem c64_add {f : Int32} {c : Nat} (hc : c < 2 ^ 30) : (f.toInt64 + (nI c).toInt64).toInt = f.toInt + (c : Int) := by
  rw [Int64.toInt_add, Int32.toInt_toInt64, Int32.toInt_toInt64, nI_toInt (by omega)]
  have := f.le_toInt
  have := f.toInt_lt
  exact Int.bmod_eq_of_le (by omega) (by omega)
theorem c32_add {f : Int32} {c j : Nat} (h : f.toInt + (c : Int) = (j : Int)) (hc : c < 2 ^ 30) (hj : j < 2 ^ 30) : f + nI c = nI j := Int32.toInt_inj.mp (by
  rw [Int32.toInt_add, nI_toInt (by omega), nI_toInt (by omega), h]
  exact Int.bmod_eq_of_le (by omega) (by omega))
theorem c64_N {v : Int64} {j : Nat} (h : v.toInt = (j : Int)) (hj : j < 2 ^ 31) : v = lN j := Int64.toInt_inj.mp (by rw [lN_toInt hj]; exact h)
theorem lN_32 {j : Nat} : (lN j).toInt32 = nI j := Int64.toInt32_ofNat'
theorem a_nI {a : Int32} (h : 0 ≤ a.toInt) : a = nI a.toInt.toNat := by
  have := a.toInt_lt
  exact Int32.toInt_inj.mp (by rw [nI_toInt (by omega)]; omega)
/-- a prisoner is bound anew; none: it is refused -/
def rbH (H : HH) (a b : Int32) : Option HH := if 0 ≤ a.toInt ∧ a.toInt < nB H ∧ 0 ≤ b.toInt ∧ b.toInt < nT H ∧ H 9 a.toInt.toNat ≠ b.toInt.toNat then some (pu H 9 a.toInt.toNat b.toInt.toNat) else none
theorem rbH_n1 {H : HH} {a b : Int32} (h : ∀ j, j < nB H → a ≠ nI j) : rbH H a b = none := if_neg (fun z => h a.toInt.toNat (by omega) (a_nI z.1))
theorem rbH_n2 {H : HH} {a b : Int32} (h : ∀ j, j < nT H → b ≠ nI j) : rbH H a b = none := if_neg (fun z => h b.toInt.toNat (by omega) (a_nI z.2.2.1))
theorem rbH_n3 {H : HH} {p t : Nat} (hp : p < 2 ^ 31) (ht : t < 2 ^ 31) (h : H 9 p = t) : rbH H (nI p) (nI t) = none := if_neg (fun z => by
  rw [nI_toInt hp, nI_toInt ht] at z
  exact z.2.2.2.2 (by rw [Int.toNat_natCast, Int.toNat_natCast]; exact h))
theorem rbH_y {H : HH} {p t : Nat} (hp : p < nB H) (ht : t < nT H) (hp2 : p < 2 ^ 31) (ht2 : t < 2 ^ 31) (h : H 9 p ≠ t) : rbH H (nI p) (nI t) = some (pu H 9 p t) := by
  unfold rbH
  rw [nI_toInt hp2, nI_toInt ht2, Int.toNat_natCast, Int.toNat_natCast]
  exact if_pos ⟨(by omega), (by omega), (by omega), (by omega), h⟩
theorem lt0_m1 : ¬ (0 : Int32) ≤ -1 := by decide
theorem lt0_m2 : ¬ (0 : Int32) ≤ -2 := by decide
theorem X_rebindH {q : Int32 → DD → Prop} {d : DD} {H : HH} {a c : Int32} (hX : XH 23 d H) (ok : OKH H) (h0 : ∀ r, rbH H a c = none → ¬ 0 ≤ r → q r d) (h1 : ∀ p t, p < nB H → t < nT H → rbH H a c = some (pu H 9 p t) → q (nI (H 9 p)) (up d 33 p (nI t))) : Cn SX MX0_rebind [.ref 23, .int a, .int c] d (rI q) := by
  have Hb : isH 23 := Or.inr (Or.inr (Or.inl rfl))
  have o4 := ok.t4
  have o6 := ok.b6
  rcases ge_of (n := nB H) (v := a) (by omega) with ⟨p, hp, rfl⟩ | hz
  · rcases ge_of (n := nT H) (v := c) (by omega) with ⟨t, ht, rfl⟩ | hz2
    · have hb := ok.bb hp
      by_cases z : H 9 p = t
      · refine cn_X0_rebind Hb (X_hasPrisoner_y Hb hX ok hp (y1' (X_hasTune_y Hb hX ok ht (y1 ⟨vp_in_nI (by omega) (by omega), rr_t ?_ (h0 _ (rbH_n3 (by omega) (by omega) z) lt0_m2)⟩))))
        rw [nI_clamp (by omega), hX.bond hp, z]
      · have c' : ¬ nI (H 9 p) = nI t := fun y => z (nI_inj (by omega) (by omega) y)
        refine cn_X0_rebind Hb (X_hasPrisoner_y Hb hX ok hp (y1' (X_hasTune_y Hb hX ok ht (y1 ⟨vp_in_nI (by omega) (by omega), rr_f ?_ (X_exch rfl (by omega) (by omega) ?_)⟩))))
        · rw [nI_clamp (by omega), hX.bond hp]; exact c'
        · rw [hX.bond hp]
          exact h1 p t hp ht (rbH_y hp ht (by omega) (by omega) z)
    · exact cn_X0_rebind Hb (X_hasPrisoner_y Hb hX ok hp (y1' (X_hasTune_n Hb hX ok hz2 (y0 (h0 _ (rbH_n2 hz2) lt0_m1)))))
  · exact cn_X0_rebind Hb (X_hasPrisoner_n Hb hX ok hz (y0' (h0 _ (rbH_n1 hz) lt0_m1)))
theorem M_bindsH {q : Int32 → DD → Prop} {d : DD} {H : HH} {a c : Int32} (hM : MH 0 d H) (ok : OKH H) (h0 : ∀ r, rbH H a c = none → ¬ 0 ≤ r → q r d) (h1 : ∀ p t, p < nB H → t < nT H → rbH H a c = some (pu H 9 p t) → q (nI (H 9 p)) (up d 1 (64 + p) (nI t))) : Cn SM MX5_binds [.ref 0, .int a, .int c] d (rI q) := by
  have o4 := ok.t4
  have o6 := ok.b6
  rcases ge_of (n := nB H) (v := a) (by omega) with ⟨p, hp, rfl⟩ | hz
  · rcases ge_of (n := nT H) (v := c) (by omega) with ⟨t, ht, rfl⟩ | hz2
    · have hb := ok.bb hp
      refine cn_X5_binds (M_isBound_y hM ok hp (y1' (M_isTune_y hM ok ht (y1 ?_))))
      rw [show (64 : Int32) + nI p = nI (64 + p) from nI_add 64 p]
      refine ⟨vp_in_nI (by omega) (by omega), ?_⟩
      rw [nI_clamp (by omega), hM.bond hp]
      by_cases z : H 9 p = t
      · exact rr_t (by rw [z]) (h0 _ (rbH_n3 (by omega) (by omega) z) lt0_m2)
      · refine rr_f (fun y => z (nI_inj (by omega) (by omega) y)) (M_puts_y (by omega) ?_)
        rw [hM.bond hp]
        exact h1 p t hp ht (rbH_y hp ht (by omega) (by omega) z)
    · exact cn_X5_binds (M_isBound_y hM ok hp (y1' (M_isTune_n hM ok hz2 (y0 (h0 _ (rbH_n2 hz2) lt0_m1)))))
  · exact cn_X5_binds (M_isBound_n hM ok hz (y0' (h0 _ (rbH_n1 hz) lt0_m1)))
/-- what is read of n cells c from the place f on: answer, what is torn, the house -/
def rdR (c : Nat → Int32) (f : Int) (n : Nat) : Nat → Nat → HH → Int32 × Option Nat × HH
  | 0, i, H => (nI i, some 0, H)
  | r + 1, i, H => if 0 ≤ f + ((2 * i : Nat) : Int) ∧ f + ((2 * i : Nat) : Int) + 1 < n then
      match rbH H (c (f + ((2 * i : Nat) : Int)).toNat) (c ((f + ((2 * i : Nat) : Int)).toNat + 1)) with
      | none => ((-20) - nI i, none, H)
      | some H' => rdR c f n r (i + 1) H'
    else (nI i, some 2, H)
theorem rdR_out {c : Nat → Int32} {f : Int} {n r i : Nat} {H : HH} (h : ¬ (0 ≤ f + ((2 * i : Nat) : Int) ∧ f + ((2 * i : Nat) : Int) + 1 < n)) : rdR c f n (r + 1) i H = (nI i, some 2, H) := if_neg h
theorem rdR_no {c : Nat → Int32} {f : Int} {n r i j : Nat} {H : HH} (h : f + ((2 * i : Nat) : Int) = (j : Int)) (hj : j + 1 < n) (hr : rbH H (c j) (c (j + 1)) = none) : rdR c f n (r + 1) i H = ((-20) - nI i, none, H) := by
  unfold rdR
  rw [if_pos (by omega), h, Int.toNat_natCast, hr]
theorem rdR_go {c : Nat → Int32} {f : Int} {n r i j : Nat} {H H' : HH} (h : f + ((2 * i : Nat) : Int) = (j : Int)) (hj : j + 1 < n) (hr : rbH H (c j) (c (j + 1)) = some H') : rdR c f n (r + 1) i H = rdR c f n r (i + 1) H' := by
  rw [rdR, if_pos (by omega), h, Int.toNat_natCast, hr]
theorem bond_put {H : HH} {p t : Nat} (ok : OKH H) (hp : p < nB H) (ht : t < nT H) : OKH (pu H 9 p t) := ok.put (f := 9) (i := p) (v := t) (by omega) ⟨by simp, by simp, by simp, by simp, by simp, by simp, by simp, by simp, by simp, fun _ => ht⟩
def XRd (x d : DD) : Prop := ∀ a, a < 23 ∨ 33 < a → d a = x a
theorem X_read_73 {q : Int32 → DD → Prop} {x : DD} {H : HH} {c : Nat → Int32} {k n N : Nat} {l1 l2 f : Int32} (hk : k < 4) (hs : x (74 + 2 * k) 2 = nI n) (hn : n ≤ 40) (hc : ∀ i, i < n → x (75 + 2 * k) i = c i) (hN : N ≤ 20)
    (h0 : ∀ a H' d', rdR c f.toInt n N 0 H = (a, none, H') → XRd x d' → q a d')
    (h1 : ∀ a t H' d' l8, rdR c f.toInt n N 0 H = (a, some t, H') → XRd x d' → XH 23 d' H' → OKH H' → (∀ j, H' 10 j = H 10 j) → Ev SX MX4_read 168 [.ref 0, .int l1, .int l2, .int f, .int (nI N), .ref (74 + 2 * k), .int (nI t), .int a, .int l8, uJ, uJ] [] d' (rI q)) :
    ∀ r i H1 d, i + r = N → rdR c f.toInt n r i H1 = rdR c f.toInt n N 0 H → XRd x d → XH 23 d H1 → OKH H1 → (∀ j, H1 10 j = H 10 j) → Ev SX MX4_read 73 [.ref 0, .int l1, .int l2, .int f, .int (nI N), .ref (74 + 2 * k), .int 0, .int (nI i), .int (nI i), uJ, uJ] [] d (rI q) := by
  have Hs : isSh (74 + 2 * k) := by unfold isSh; omega
  intro r
  induction r with
  | zero =>
    intro i H1 d hi hr g hX ok h10
    refine bk_X4_read_73 Hs (br_t ?_ ?_)
    · exact nI_le (by omega) (by omega)
    · exact h1 (nI i) 0 H1 d _ hr.symm g hX ok h10
  | succ r ih =>
    intro i H1 d hi hr g hX ok h10
    have o4 := ok.t4
    have o6 := ok.b6
    have es : d (74 + 2 * k) 2 = nI n := by rw [g _ (by omega)]; exact hs
    refine bk_X4_read_73 Hs (br_f ?_ (rr_t rfl (nm_e ?_)))
    · exact fun z => absurd ((nI_leI (by omega) (by omega)).mp z) (by omega)
    rw [li_2, pk_mul, nI_1]
    have e3 := c64_add (f := f) (c := 2 * i) (by omega)
    by_cases z : 0 ≤ f.toInt + ((2 * i : Nat) : Int) ∧ f.toInt + ((2 * i : Nat) : Int) + 1 < n
    · obtain ⟨j, ej⟩ : ∃ j : Nat, f.toInt + ((2 * i : Nat) : Int) = (j : Int) := ⟨(f.toInt + ((2 * i : Nat) : Int)).toNat, (by omega)⟩
      have hj : j + 1 < n := by omega
      rw [ej] at e3
      rw [c64_N e3 (by omega), show lN j + 1 = lN (j + 1) from lN_add j 1, lN_32, show nI j + 1 = nI (j + 1) from nI_1 j]
      refine X_hasCell Hs es (by omega) (fun _ _ _ => y1' (X_hasCell Hs es (by omega) (fun _ _ _ => y1 ⟨vp_in_nI (by omega) (by omega), vp_in_nI (by omega) (by omega), ?_⟩) (fun y => absurd (lN_toInt (by omega)) (y (j + 1) (by omega))))) (fun y => absurd (lN_toInt (by omega)) (y j (by omega)))
      rw [nI_clamp (by omega), nI_clamp (by omega), show 74 + 2 * k + 1 = 75 + 2 * k by omega, g (75 + 2 * k) (by omega), hc j (by omega), hc (j + 1) (by omega)]
      refine X_rebindH hX ok (fun rr hn0 hlt => br_f hlt (h0 _ H1 d (by rw [← hr]; exact rdR_no ej hj hn0) g)) (fun p t hp ht hsm => br_t ?_ (ih (i + 1) _ _ (by omega) (by rw [← hr]; exact (rdR_go ej hj hsm).symm) (fun a ha => by rw [up_ne a (by omega)]; exact g a ha) (hX.put (f := 9) (i := p) (v := t) (by omega) (fun c => absurd c (by decide))) (bond_put ok hp ht) (fun j => by rw [pu_n (by omega)]; exact h10 j)))
      have := ok.bb hp
      rw [li_0]; exact (nI_leI (by omega) (by omega)).mpr (by omega)
    · have fail : Ev SX MX4_read 73 [.ref 0, .int l1, .int l2, .int f, .int (nI N), .ref (74 + 2 * k), .int (nI 2), .int (nI i), .int (nI (i + 1)), uJ, uJ] [] d (rI q) := by
        have e := h1 (nI i) 2 H1 d (nI (i + 1)) (by rw [← hr]; exact rdR_out z) g hX ok h10
        exact bk_X4_read_73 Hs ⟨fun _ => e, fun _ => rr_f (by decide) e⟩
      refine X_hasCell Hs es (by omega) (fun j hj ej => y1' ?_) (fun _ => y0' fail)
      rw [e3] at ej
      rw [c64_N (e3.trans ej) (by omega), show lN j + 1 = lN (j + 1) from lN_add j 1]
      refine X_hasCell Hs es (by omega) (fun j2 hj2 ej2 => absurd ?_ z) (fun _ => y0 fail)
      rw [lN_toInt (by omega)] at ej2
      exact ⟨(by omega), (by omega)⟩
/-- the page is kept at 210 -/
def MRd (m d : DD) : Prop := (∀ a, a ≠ 1 → d a = m a) ∧ (∀ j, 70 ≤ j → j < 210 → d 1 j = m 1 j) ∧ ∀ i, i < 70 → d 1 (210 + i) = m 1 i
theorem MRd.fin {m d d' : DD} (h : MRd m d) (f : ∀ a, a ≠ 1 → d' a = d a) (f1 : ∀ j, j < 0 ∨ 0 + 70 ≤ j → d' 1 j = d 1 j) (f2 : ∀ i, i < 70 → d' 1 (0 + i) = d 1 (210 + i)) : MK m d' := by
  obtain ⟨a1, a2, a3⟩ := h
  refine ⟨fun j _ => by rw [f 0 (by omega), a1 0 (by omega)], fun j hj => ?_, fun a ha => by rw [f a (by omega), a1 a (by omega)]⟩
  rcases Nat.lt_or_ge j 70 with z | z
  · have := f2 j z
    rw [Nat.zero_add] at this
    rw [this]; exact a3 j z
  · rw [f1 j (by omega)]; exact a2 j z hj
theorem M_cellIn {q : Int32 → DD → Prop} {d : DD} {f : Int32} {i n : Nat} (hi : i < 100) (hn : n ≤ 40) (h1 : ∀ j : Nat, j < n → f.toInt + (i : Int) = (j : Int) → q 1 d) (h0 : (∀ j : Nat, j < n → f.toInt + (i : Int) ≠ (j : Int)) → q 0 d) : Cn SM MX5_in [.long (f.toInt64 + (nI i).toInt64), .long 0, .long (nI n - 1).toInt64] d (rI q) := by
  have e := c64_add (f := f) (c := i) (by omega)
  have e2 : (nI n - 1).toInt64.toInt = (n : Int) - 1 := by
    cases n with
    | zero => decide
    | succ n => rw [nI_pred, nI_l (by omega), lN_toInt (by omega)]; omega
  refine M_inL (fun a b => ?_) (fun z => h0 (fun j hj ej => z ?_))
  · rw [e] at a b
    rw [e2] at b
    rw [show ((0 : Int64)).toInt = 0 from rfl] at a
    exact h1 (f.toInt + (i : Int)).toNat (by omega) (by omega)
  · rw [e, e2, show ((0 : Int64)).toInt = 0 from rfl]
    omega
theorem M_read_56 {q : Int32 → DD → Prop} {m : DD} {H : HH} {c : Nat → Int32} {k n N la : Nat} {f : Int32} (hk : k < 4) (hla : la ≤ 2) (hl : m 14 k = nI la) (hs : m 15 k = nI n) (hn : n ≤ 40) (hc : ∀ i, i < n → m 16 (40 * k + i) = c i) (hN : N ≤ 20)
    (h0 : ∀ a H' d', rdR c f.toInt n N 0 H = (a, none, H') → MK m d' → q a d')
    (h1 : ∀ a t H' d', rdR c f.toInt n N 0 H = (a, some t, H') → MRd m d' → MH 0 d' H' → OKH H' → (∀ j, H' 10 j = H 10 j) → q a (up d' 0 34 (nI t))) :
    ∀ r i H1 d, i + r = N → rdR c f.toInt n r i H1 = rdR c f.toInt n N 0 H → MRd m d → MH 0 d H1 → OKH H1 → (∀ j, H1 10 j = H 10 j) → Ev SM MX5_read 56 [.ref 0, .int (nI k), .int (nI la), .int f, .int (nI N), .int 0, .int (nI i), .int (nI (2 * i)), uJ] [] d (rI q) := by
  have i4 : vp_in (nI k) 4 := vp_in_nI (by omega) (by omega)
  intro r
  induction r with
  | zero =>
    intro i H1 d hi hr g hM ok h10
    refine bk_X5_read_56 (br_t ?_ (nm_e ?_))
    · rw [li_2, pk_mul]; exact nI_le (by omega) (by omega)
    · exact h1 (nI i) 0 H1 d hr.symm g hM ok h10
  | succ r ih =>
    intro i H1 d hi hr g hM ok h10
    have o4 := ok.t4
    have o6 := ok.b6
    have e14 : d 14 (nI k).toNatClampNeg = nI la := by rw [nI_clamp (by omega), g.1 14 (by omega)]; exact hl
    have e15 : d 15 (nI k).toNatClampNeg = nI n := by rw [nI_clamp (by omega), g.1 15 (by omega)]; exact hs
    have n4 : ¬ nI la = -4 := ne_m4 (by omega)
    have fail : ∀ w, ¬ (0 ≤ f.toInt + ((2 * i : Nat) : Int) ∧ f.toInt + ((2 * i : Nat) : Int) + 1 < n) → w < 100 → Ev SM MX5_read 126 [.ref 0, .int (nI k), .int (nI la), .int f, .int (nI N), .int 0, .int (nI i), .int (nI w), uJ] [.int 2] d (rI q) := by
      intro w z hw
      have e := h1 (nI i) 2 H1 d (by rw [← hr]; exact rdR_out z) g hM ok h10
      exact bk_X5_read_126 (rr_f (by decide) (bk_X5_read_56 ⟨fun _ => nm_e e, fun _ => rr_f (by decide) (nm_e e)⟩))
    refine bk_X5_read_56 (br_f ?_ (rr_t rfl ⟨i4, ?_⟩))
    · rw [li_2, pk_mul]; exact fun z => absurd ((nI_leI (by omega) (by omega)).mp z) (by omega)
    rw [e14, e15]
    refine rr_f n4 ⟨i4, br_t rfl ⟨i4, M_cellIn (by omega) hn (fun j hj ej => y1 ?_) (fun y => y0 (fail _ (fun z => y (f.toInt + ((2 * i : Nat) : Int)).toNat (by omega) (by omega)) (by omega)))⟩⟩
    refine bk_X5_read_126 (rr_t rfl (rr_f ?_ ?_))
    · rw [li_2, jrem_nI (by omega) (by omega) (by omega), Nat.mul_mod_right]; decide
    rw [nI_1]
    refine bk_X5_read_56 (br_f ?_ (rr_t rfl ⟨i4, ?_⟩))
    · rw [li_2, pk_mul]; exact fun z => absurd ((nI_leI (by omega) (by omega)).mp z) (by omega)
    rw [e14, e15]
    refine rr_f n4 ⟨i4, br_t rfl ⟨i4, M_cellIn (by omega) hn (fun j2 hj2 ej2 => y1 ?_) (fun y => y0 (fail _ (fun z => y (j + 1) (by omega) (by omega)) (by omega)))⟩⟩
    refine bk_X5_read_126 (rr_t rfl (rr_t ?_ (nm_e ?_)))
    · rw [li_2, jrem_nI (by omega) (by omega) (by omega), show (2 * i + 1) % 2 = 1 by omega]; rfl
    have hx : (40 : Int32) * nI k + f + nI (2 * i + 1) = nI (40 * k + (j + 1)) := by
      rw [li_40, pk_mul, Int32.add_assoc, c32_add (j := j + 1) (by omega) (by omega) (by omega), nI_add]
    rw [hx, show nI (40 * k + (j + 1)) - 1 = nI (40 * k + j) from nI_pred (40 * k + j)]
    refine ⟨vp_in_nI (by omega) (by omega), vp_in_nI (by omega) (by omega), ?_⟩
    rw [nI_clamp (by omega), nI_clamp (by omega), g.1 16 (by omega), hc j (by omega), hc (j + 1) (by omega)]
    refine M_bindsH hM ok (fun rr hn0 hlt => br_f hlt (M_copies (f := 210) (t := 0) (by omega) (by omega) (by omega) fun d' g1 g2 g3 => h0 _ H1 d' (by rw [← hr]; exact rdR_no ej (by omega) hn0) (g.fin g1 g2 g3))) (fun p t hp ht hsm => br_t ?_ ?_)
    · have := ok.bb hp
      rw [li_0]; exact (nI_leI (by omega) (by omega)).mpr (by omega)
    · rw [nI_1, nI_1, show 2 * i + 1 + 1 = 2 * (i + 1) by omega]
      refine ih (i + 1) _ _ (by omega) (by rw [← hr]; exact (rdR_go ej (by omega) hsm).symm) ⟨fun a ha => by rw [up_ne a ha]; exact g.1 a ha, fun j h1 h2 => by rw [up_n (by omega)]; exact g.2.1 j h1 h2, fun i hi => by rw [up_n (by omega)]; exact g.2.2 i hi⟩ ?_ (bond_put ok hp ht) (fun j => by rw [pu_n (by omega)]; exact h10 j)
      have := hM.put (f := 9) (i := p) (v := t) ok (by omega) (show p < 6 by omega) (fun c => absurd c (by decide)) (fun c => absurd c (by decide))
      rw [show (0 : Nat) + (po 9 + p) = 64 + p from Nat.zero_add _] at this
      exact this
