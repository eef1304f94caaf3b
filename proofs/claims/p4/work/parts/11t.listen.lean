/-! ===== listen ===== -/
theorem both_b : ∀ K, K < 16 → ∀ k, k < 4 → ∀ o, o < 4 → (((nI K >>> (nI k &&& 31)) &&& (nI K >>> (nI o &&& 31))) &&& 1) = if (K.testBit k && K.testBit o) = true then 1 else 0 := by decide +kernel
def alkB (H : HH) (t K m k o : Nat) : Bool := (K.testBit k && K.testBit o) && decide (noteB H t k m = noteB H t o m)
def alk (H : HH) (t K m k : Nat) : Nat → Nat := sumN (fun o => if alkB H t K m k o then 1 else 0)
theorem alk_s {H : HH} {t K m k o : Nat} : alk H t K m k (o + 1) = alk H t K m k o + (if alkB H t K m k o = true then 1 else 0) := rfl
theorem alk_le {H : HH} {t K m k o : Nat} : alk H t K m k o ≤ o := by
  have : alk H t K m k o ≤ o * 1 := sumN_le (fun i _ => by split <;> omega)
  omega
def wst (H : HH) (t K m : Nat) : Nat → Nat := itr (fun k s => if s < alk H t K m k 4 then alk H t K m k 4 else s) 0
theorem wst_s {H : HH} {t K m k : Nat} : wst H t K m (k + 1) = if wst H t K m k < alk H t K m k 4 then alk H t K m k 4 else wst H t K m k := rfl
theorem wst_le {H : HH} {t K m : Nat} : ∀ k, wst H t K m k ≤ 4 := by
  intro k
  induction k with
  | zero => exact Nat.zero_le _
  | succ k ih =>
    have := alk_le (H := H) (t := t) (K := K) (m := m) (k := k) (o := 4)
    rw [wst_s]; split <;> omega
def lisS (H : HH) (t K : Nat) : Nat → Nat × Nat := itr (fun m s => if wst H t K m 4 < s.1 then (wst H t K m 4, m + 1) else s) (bitsN K 6, 0)
theorem lisS_s {H : HH} {t K m : Nat} : lisS H t K (m + 1) = if wst H t K m 4 < (lisS H t K m).1 then (wst H t K m 4, m + 1) else lisS H t K m := rfl
theorem bits6 {K : Nat} : bitsN K 6 ≤ 6 := by
  have : bitsN K 6 ≤ 6 * 1 := sumN_le (fun i _ => by split <;> omega)
  omega
theorem lisS_le {H : HH} {t K : Nat} : ∀ m, (lisS H t K m).1 ≤ 6 ∧ (lisS H t K m).2 ≤ m := by
  intro m
  induction m with
  | zero => exact ⟨bits6, Nat.le_refl _⟩
  | succ m ih =>
    have := wst_le (H := H) (t := t) (K := K) (m := m) 4
    rw [lisS_s]
    split
    · exact ⟨Nat.le_trans this (by omega), Nat.le_refl _⟩
    · exact ⟨ih.1, by omega⟩
def lisV (s : Nat × Nat) (w : Nat) : Int32 := if s.2 = 0 then -4 else if w = 0 then nI (s.2 - 1) else nI s.1
theorem X_left {q : Int32 → DD → Prop} {d : DD} {H : HH} {t K mi : Nat} (hX : XH 1 d H) (ok : OKH H) (ht : t < nT H) (hK : K < 16) (hm : mi < 160) (h : q (nI (wst H t K mi 4)) d) : Cn SX MX4_leftAtWorst [.ref 0, .int (nI t), .int (nI K), .int (nI mi)] d (rI q) := by
  refine cn_X4_leftAtWorst ?_
  rw [li_0]
  refine for_up (W := fun k d' => Ev SX MX4_leftAtWorst 6 [.ref 0, .int (nI t), .int (nI K), .int (nI mi), .int (nI (wst H t K mi k)), .int (nI k), uJ, uJ, uJ] [] d' (rI q)) (I := fun _ d' => d' = d) 4 ?_ ?_ 0 d (Nat.zero_le _) rfl
  · rintro d' rfl
    exact bk_X4_leftAtWorst_6 (br_t (by decide) h)
  · rintro k d' hk rfl ih
    have hw := wst_le (H := H) (t := t) (K := K) (m := mi) k
    refine bk_X4_leftAtWorst_6 (br_f ?_ ?_)
    · rw [li_4]; exact fun c => absurd ((nI_leI (by omega) (by omega)).mp c) (by omega)
    · rw [li_0]
      refine for_up (W := fun o d2 => Ev SX MX4_leftAtWorst 18 [.ref 0, .int (nI t), .int (nI K), .int (nI mi), .int (nI (wst H t K mi k)), .int (nI k), .int (nI (alk H t K mi k o)), .int (nI o), uJ] [] d2 (rI q)) (I := fun _ d2 => d2 = d') 4 ?_ ?_ 0 d' (Nat.zero_le _) rfl
      · rintro d2 rfl
        have ha := alk_le (H := H) (t := t) (K := K) (m := mi) (k := k) (o := 4)
        have := ih d2 rfl
        rw [wst_s] at this
        refine bk_X4_leftAtWorst_18 (br_t (by decide) (nm_e ?_))
        rw [nI_1]
        by_cases z : wst H t K mi k < alk H t K mi k 4
        · rw [if_pos z] at this; rw [if_pos ((nI_ltI (by omega) (by omega)).mpr z)]; exact this
        · rw [if_neg z] at this; rw [if_neg (mt (nI_ltI (by omega) (by omega)).mp z)]; exact this
      · rintro o d2 ho rfl ih2
        have := ih2 d2 rfl
        rw [alk_s] at this
        refine bk_X4_leftAtWorst_18 (br_f ?_ ?_)
        · rw [li_4]; exact fun c => absurd ((nI_leI (by omega) (by omega)).mp c) (by omega)
        · rw [both_b K hK k hk o ho]
          by_cases z : (K.testBit k && K.testBit o) = true
          · rw [if_pos z]
            refine rr_t rfl (bk_X4_leftAtWorst_44 (br_f (by decide) (X_noteAs isH1 hX ok ht (by omega) hm (X_noteAs isH1 hX ok ht (by omega) hm ?_))))
            rw [nI_1, nI_1]
            unfold alkB at this
            rw [z, Bool.true_and] at this
            by_cases y : noteB H t k mi = noteB H t o mi
            · rw [decide_eq_true y] at this; exact rr_t y this
            · rw [decide_eq_false y] at this; exact rr_f y this
          · rw [if_neg z]
            refine rr_f (by decide) (bk_X4_leftAtWorst_44 (br_t rfl ?_))
            rw [nI_1]
            have z' : (K.testBit k && K.testBit o) = false := by revert z; cases (K.testBit k && K.testBit o) <;> simp
            unfold alkB at this
            rw [z', Bool.false_and] at this
            exact this
theorem X_listen_40 {q : Int32 → DD → Prop} {d : DD} {H : HH} {t w K : Nat} (hX : XH 1 d H) (ok : OKH H) (ht : t < nT H) (hK : K < 16) (hw : w < 2) (h : q (lisV (lisS H t K 160) w) d) : Ev SX MX4_listen 40 [.ref 0, .int (nI t), .int (nI w), .int (nI K), .int (nI (bitsN K 6)), .int (-1), .int (nI 0), uJ] [] d (rI q) := by
  refine for_up (W := fun i d' => Ev SX MX4_listen 40 [.ref 0, .int (nI t), .int (nI w), .int (nI K), .int (nI (lisS H t K i).1), .int (mo1 (lisS H t K i).2), .int (nI i), uJ] [] d' (rI q)) (I := fun _ d' => d' = d) 160 ?_ ?_ 0 d (Nat.zero_le _) rfl
  · rintro d' rfl
    have hl := lisS_le (H := H) (t := t) (K := K) 160
    refine bk_X4_listen_40 (br_t (by decide) ?_)
    unfold lisV at h
    unfold mo1
    by_cases z : (lisS H t K 160).2 = 0
    · rw [if_pos z] at h; rw [if_pos z]
      exact br_f (by decide) h
    · rw [if_neg z] at h; rw [if_neg z]
      refine br_t (by rw [li_0]; exact nI_le (Nat.zero_le _) (by omega)) ?_
      rcases (show w = 0 ∨ w = 1 by omega) with rfl | rfl
      · exact rr_t rfl h
      · exact rr_f (by decide) h
  · rintro i d' hi rfl ih
    have hl := lisS_le (H := H) (t := t) (K := K) i
    have hw4 := wst_le (H := H) (t := t) (K := K) (m := i) 4
    have := ih d' rfl
    rw [lisS_s] at this
    refine bk_X4_listen_40 (br_f ?_ (X_left hX ok ht hK hi ?_))
    · rw [li_160]; exact fun c => absurd ((nI_leI (by omega) (by omega)).mp c) (by omega)
    · rw [nI_1]
      have c2 : nI (lisS H t K i).1 ≤ nI (wst H t K i 4) ↔ (lisS H t K i).1 ≤ wst H t K i 4 := nI_leI (by omega) (by omega)
      by_cases z : wst H t K i 4 < (lisS H t K i).1
      · rw [if_pos z] at this
        exact br_f (fun c => absurd (c2.mp c) (by omega)) this
      · rw [if_neg z] at this
        exact br_t (c2.mpr (by omega)) this
