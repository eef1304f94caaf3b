/-! ===== drift ===== -/
theorem mid_eq (s : Int32) : (s.toUInt32 >>> (Int32.toUInt32 16 &&& Int32.toUInt32 31)).toInt32 &&& 32767 = (s >>> ((16 : Int32) &&& 31)) &&& 32767 := by
  have e15 : ∀ i, i < 32 → bt 32767 i = decide (i < 15) := by decide +kernel
  refine b_ext fun i hi => ?_
  rw [b_and, b_and, e15 i hi]
  by_cases z : i < 15
  · rw [show (s >>> ((16 : Int32) &&& 31)) = s >>> (nI 16 &&& 31) from rfl, b_sshr 16 (by omega) s hi, if_pos (by omega), show (s.toUInt32 >>> (Int32.toUInt32 16 &&& Int32.toUInt32 31)).toInt32 = (s.toUInt32 >>> ((nI 16).toUInt32 &&& Int32.toUInt32 31)).toInt32 from rfl, b_ushr 16 (by omega)]
  · rw [decide_eq_false z, Bool.and_false, Bool.and_false]
theorem and15 (x : Int32) : ∃ n, n < 32768 ∧ x &&& 32767 = nI n := by
  refine ⟨(x &&& 32767).toBitVec.toNat, ?_, ?_⟩
  · rw [Int32.toBitVec_and, BitVec.toNat_and]
    exact Nat.lt_of_le_of_lt Nat.and_le_right (by decide)
  · refine Int32.toBitVec_inj.mp (BitVec.eq_of_toNat_eq ?_)
    show _ = (BitVec.ofNat 32 _).toNat
    rw [BitVec.toNat_ofNat, Nat.mod_eq_of_lt (BitVec.isLt _)]
def sd (s : Int32) : Int32 := s * 1103515245 + 12345
def mid (s : Int32) : Nat := ((s >>> ((16 : Int32) &&& 31)) &&& 32767).toNatClampNeg
theorem mid_n (s : Int32) : (s >>> ((16 : Int32) &&& 31)) &&& 32767 = nI (mid s) ∧ mid s < 32768 := by
  obtain ⟨n, hn, e⟩ := and15 (s >>> ((16 : Int32) &&& 31))
  have : mid s = n := by unfold mid; rw [e, nI_clamp (by omega)]
  rw [this]; exact ⟨e, hn⟩
/-- the house behind one change -/
def dri1 (H : HH) (s : Int32) : HH := pu H 4 (8 * (mid (sd s) % nT H) + mid (sd (sd s)) % H 1 (mid (sd s) % nT H)) (mid (sd (sd s)) / 10 % 10)
def driZ (s : Int32) : Nat → Int32
  | 0 => s
  | k + 1 => sd (sd (driZ s k))
def driH (H : HH) (s : Int32) : Nat → HH
  | 0 => H
  | k + 1 => dri1 (driH H s k) (driZ s k)
def driA (H : HH) (s : Int32) (k : Nat) : Nat := awayS (driH H s (k + 1)) (playS (driH H s (k + 1)) 0)
def driB (H : HH) (s : Int32) (k : Nat) : Nat := costS (driH H s (k + 1)) (playS (driH H s (k + 1)) 0)
def driM (H : HH) (s : Int32) : Nat → Nat
  | 0 => 0
  | k + 1 => if driM H s k < driA H s k then driA H s k else driM H s k
theorem driM_s {H : HH} {s : Int32} {k : Nat} : driM H s (k + 1) = if driM H s k < driA H s k then driA H s k else driM H s k := rfl
def driC (H : HH) (s : Int32) : Nat → Nat := sumN (driB H s)
theorem dri1_10 {H : HH} {s : Int32} {j : Nat} : dri1 H s 10 j = H 10 j := pu_n (by omega)
theorem dri1_ok {H : HH} (ok : OKH H) (s : Int32) : OKH (dri1 H s) := ok.put (by omega) ⟨by simp, by simp, by simp, by simp, fun _ => by have := Nat.mod_lt (mid (sd (sd s)) / 10) (show 0 < 10 by decide); omega, by simp, by simp, by simp, by simp, by simp⟩
theorem driH_ok {H : HH} {s : Int32} (ok : OKH H) : ∀ k, OKH (driH H s k) ∧ ∀ j, driH H s k 10 j = H 10 j := by
  intro k
  induction k with
  | zero => exact ⟨ok, fun _ => rfl⟩
  | succ k ih => exact ⟨dri1_ok ih.1 _, fun j => dri1_10.trans (ih.2 j)⟩
theorem driM_le {H : HH} {s : Int32} (ok : OKH H) : ∀ k, driM H s k ≤ 6 := by
  intro k
  induction k with
  | zero => exact Nat.zero_le _
  | succ k ih =>
    have : driA H s k ≤ 6 := awayS_le (driH_ok ok (k + 1)).1
    rw [driM_s]; split <;> assumption
def driV (H : HH) (s : Int32) (n w : Nat) : Int32 := if w = 0 then nI (driM H s n) else nI (driC H s n)
theorem X_spoil {q : DD → Prop} {d : DD} {b t v : Nat} {H : HH} (Hb : isH b) (hX : XH b d H) (ok : OKH H) (ht : t < nT H) (hv : v < 32768) (h : q (up d (b + 5) (8 * t + v % H 1 t) (nI (v / 10 % 10)))) : Cn SX MX0_spoil [.ref b, .int (nI t), .int (nI v)] d (rV q) := by
  have o4 := ok.t4
  have ot := ok.tt ht
  have h1 := ot.2.1
  have h8 := ot.2.2.1
  have hm := Nat.mod_lt v (show 0 < H 1 t by omega)
  refine cn_X0_spoil Hb ⟨vp_in_nI (by omega) (by omega), nm_e (br_f ?_ ⟨?_, ?_⟩)⟩
  · rw [nI_clamp (by omega), hX.notes ht, li_0]; exact fun c => absurd ((nI_leI (by omega) (by omega)).mp c) (by omega)
  · rw [nI_clamp (by omega), hX.notes ht]; exact fun c => absurd (nI_inj (b := 0) (by omega) (by omega) c) (by omega)
  · rw [nI_clamp (by omega), hX.notes ht, jrem_nI (by omega) (by omega) (by omega), li_8, pk_mul, nI_add, Nat.mul_comm t 8, li_10, pk_div (by omega) (by omega) (by omega), jrem_nI (Nat.lt_of_le_of_lt (Nat.div_le_self _ _) (by omega)) (by omega) (by omega)]
    refine ⟨vp_in_nI (by omega) (by omega), nm_e ?_⟩
    rw [nI_clamp (by omega)]; exact h
theorem X_drift_58 {q : Int32 → DD → Prop} {x d : DD} {H : HH} {n w : Nat} {s : Int32} (ok : OKH H) (hT : 0 < nT H) (hn : n ≤ 20) (hw : w < 2) (hk0 : XK x d) (h23 : XH 23 d H) (h : ∀ d', XK x d' → q (driV H s n w) d') : Ev SX MX4_drift 58 [.ref 0, .int s, .int (nI n), .int (nI w), .int s, .int (nI 0), .int (nI 0), .int (nI 0), uJ] [] d (rI q) := by
  have iH : isH 23 := by unfold isH; omega
  refine for_up (W := fun k d' => Ev SX MX4_drift 58 [.ref 0, .int s, .int (nI n), .int (nI w), .int (driZ s k), .int (nI (driM H s k)), .int (nI (driC H s k)), .int (nI k), uJ] [] d' (rI q)) (I := fun k d' => XK x d' ∧ XH 23 d' (driH H s k)) n ?_ ?_ 0 d (Nat.zero_le _) ⟨hk0, h23⟩
  · rintro d' ⟨g1, g2⟩
    have h := h d' g1
    unfold driV at h
    refine bk_X4_drift_58 (br_t (nI_le (Nat.le_refl _) (by omega)) ?_)
    rcases (show w = 0 ∨ w = 1 by omega) with rfl | rfl
    · exact rr_t rfl h
    · exact rr_f (by decide) h
  · rintro k d' hk ⟨g1, g2⟩ ih
    obtain ⟨okc, h10⟩ := driH_ok (s := s) ok k
    have hTc : nT (driH H s k) = nT H := h10 0
    have hmo := driM_le (s := s) ok k
    have hal : driA H s k ≤ 6 := awayS_le (driH_ok ok (k + 1)).1
    have o4 := okc.t4
    obtain ⟨m1, m1b⟩ := mid_n (sd (driZ s k))
    obtain ⟨m2, m2b⟩ := mid_n (sd (sd (driZ s k)))
    have ht := Nat.mod_lt (mid (sd (driZ s k))) (show 0 < nT (driH H s k) by omega)
    have ih := fun d2 a b => ih d2 ⟨a, b⟩
    have okd : OKH (driH H s (k + 1)) := (driH_ok ok (k + 1)).1
    have ez : driZ s (k + 1) = sd (sd (driZ s k)) := rfl
    have ec : driC H s (k + 1) = driC H s k + driB H s k := rfl
    refine bk_X4_drift_58 (br_f (fun c => absurd ((nI_leI (by omega) (by omega)).mp c) (by omega)) (cn_X4_nextSeed (cn_X4_middleBits ⟨?_, nm_e (cn_X4_nextSeed (cn_X4_middleBits ?_))⟩)))
    · rw [g2.nt]; exact fun c => absurd (nI_inj (b := 0) (by omega) (by omega) c) (by omega)
    · rw [mid_eq, mid_eq, g2.nt, show driZ s k * 1103515245 + 12345 = sd (driZ s k) from rfl, show sd (driZ s k) * 1103515245 + 12345 = sd (sd (driZ s k)) from rfl, m1, m2, jrem_nI (by omega) (by omega) (by omega)]
      refine X_spoil iH g2 okc ht m2b ?_
      have hd := g2.put (f := 4) (i := 8 * (mid (sd (driZ s k)) % nT (driH H s k)) + mid (sd (sd (driZ s k))) % driH H s k 1 (mid (sd (driZ s k)) % nT (driH H s k))) (v := mid (sd (sd (driZ s k))) / 10 % 10) (by omega) (fun z => absurd z (by decide))
      generalize he : up d' (23 + 5) (8 * (mid (sd (driZ s k)) % nT (driH H s k)) + mid (sd (sd (driZ s k))) % driH H s k 1 (mid (sd (driZ s k)) % nT (driH H s k))) (nI (mid (sd (sd (driZ s k))) / 10 % 10)) = dn
      have hd : XH 23 dn (driH H s (k + 1)) := by rw [← he]; exact hd
      have kn : XK x dn := fun a ha => by rw [← he, up_ne a (by omega)]; exact g1 a ha
      clear he
      refine X_run (sil := 0) iH hd okd (by omega) fun d2 f e => ?_
      have hd2 := hd.kept (d' := d2) (fun a _ _ => f a (by omega))
      refine X_away iH hd2 okd (play_inv okd) e (nm_e (X_cost iH hd2 okd e ?_))
      have := ih d2 (kn.tr f.k) hd2
      rw [driM_s, ez, ec] at this
      rw [nI_add, nI_1]
      show Ev SX MX4_drift 58 [.ref 0, .int s, .int (nI n), .int (nI w), .int (sd (sd (driZ s k))), .int (if nI (driM H s k) < nI (driA H s k) then nI (driA H s k) else nI (driM H s k)), .int (nI (driC H s k + driB H s k)), .int (nI (k + 1)), uJ] [] d2 (rI q)
      by_cases z : driM H s k < driA H s k
      · rw [if_pos z] at this; rw [if_pos ((nI_ltI (by omega) (by omega)).mpr z)]; exact this
      · rw [if_neg z] at this; rw [if_neg (mt (nI_ltI (by omega) (by omega)).mp z)]; exact this
