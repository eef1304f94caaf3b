/-! ===== bounds ===== -/
theorem X_within {q : Int32 → DD → Prop} {d : DD} {v lo hi : Int32} (h1 : lo ≤ v → v ≤ hi → q 1 d) (h0 : ¬ (lo ≤ v ∧ v ≤ hi) → q 0 d) : Cn SX MX4_within [.int v, .int lo, .int hi] d (rI q) := by
  refine cn_X4_within ⟨fun c => h0 (fun z => ?_), fun c => ⟨fun c2 => h0 (fun z => ?_), fun c2 => h1 ?_ ?_⟩⟩
  · have := i_lt.mp c; have := i_le.mp z.1; omega
  · have := i_lt.mp c2; have := i_le.mp z.2; omega
  · have := mt i_lt.mpr c; exact i_le.mpr (by omega)
  · have := mt i_lt.mpr c2; exact i_le.mpr (by omega)
/-- 0 .. n, by numbers -/
theorem X_win {q : Int32 → DD → Prop} {d : DD} {v : Int32} {n : Nat} (hn : n < 2 ^ 31) (h1 : ∀ j, j ≤ n → v = nI j → q 1 d) (h0 : (∀ j, j ≤ n → v ≠ nI j) → q 0 d) : Cn SX MX4_within [.int v, .int (nI 0), .int (nI n)] d (rI q) := by
  refine X_within (fun a b => ?_) (fun z => h0 (fun j hj e => z ?_))
  · obtain ⟨j, hj, rfl⟩ := nI_of (x := v) (fun c => by have := i_lt.mp c; have := i_le.mp a; rw [nI_toInt (by decide)] at this; rw [show ((0 : Int32)).toInt = 0 from rfl] at *; omega)
    exact h1 j ((nI_leI hj hn).mp b) rfl
  · subst e
    exact ⟨(nI_leI (by decide) (by omega)).mpr (Nat.zero_le _), (nI_leI (by omega) hn).mpr hj⟩
/-- 0 .. n - 1, by numbers; n may be 0 -/
theorem X_wil {q : Int32 → DD → Prop} {d : DD} {v : Int32} {n : Nat} (hn : n < 2 ^ 31) (h1 : ∀ j, j < n → v = nI j → q 1 d) (h0 : (∀ j, j < n → v ≠ nI j) → q 0 d) : Cn SX MX4_within [.int v, .int 0, .int (nI n - 1)] d (rI q) := by
  cases n with
  | zero =>
    refine X_within (fun a b => ?_) (fun _ => h0 (fun j hj => absurd hj (Nat.not_lt_zero j)))
    have := i_le.mp a; have := i_le.mp b
    rw [show (nI 0 - 1 : Int32).toInt = -1 from by decide] at this
    rw [show ((0 : Int32)).toInt = 0 from rfl] at *
    omega
  | succ n =>
    rw [nI_pred]
    exact X_win (by omega) (fun j hj e => h1 j (by omega) e) (fun z => h0 (fun j hj => z j (by omega)))
theorem X_hasTune {q : Int32 → DD → Prop} {d : DD} {b : Nat} {H : HH} {v : Int32} (Hb : isH b) (hX : XH b d H) (ok : OKH H) (h1 : ∀ j, j < nT H → v = nI j → q 1 d) (h0 : (∀ j, j < nT H → v ≠ nI j) → q 0 d) : Cn SX MX0_hasTune [.ref b, .int v] d (rI q) := by
  have := ok.t4
  refine cn_X0_hasTune Hb ?_
  rw [hX.nt]
  exact X_wil (by omega) (fun j hj e => ⟨nb_1, h1 j hj e⟩) (fun z => ⟨nb_0, h0 z⟩)
theorem X_hasPlayer {q : Int32 → DD → Prop} {d : DD} {b : Nat} {H : HH} {v : Int32} (Hb : isH b) (hX : XH b d H) (ok : OKH H) (h1 : ∀ j, j < nP H → v = nI j → q 1 d) (h0 : (∀ j, j < nP H → v ≠ nI j) → q 0 d) : Cn SX MX0_hasPlayer [.ref b, .int v] d (rI q) := by
  have := ok.p4
  refine cn_X0_hasPlayer Hb ?_
  rw [hX.np]
  exact X_wil (by omega) (fun j hj e => ⟨nb_1, h1 j hj e⟩) (fun z => ⟨nb_0, h0 z⟩)
theorem X_hasPrisoner {q : Int32 → DD → Prop} {d : DD} {b : Nat} {H : HH} {v : Int32} (Hb : isH b) (hX : XH b d H) (ok : OKH H) (h1 : ∀ j, j < nB H → v = nI j → q 1 d) (h0 : (∀ j, j < nB H → v ≠ nI j) → q 0 d) : Cn SX MX0_hasPrisoner [.ref b, .int v] d (rI q) := by
  have := ok.b6
  refine cn_X0_hasPrisoner Hb ?_
  rw [hX.nb]
  exact X_wil (by omega) (fun j hj e => ⟨nb_1, h1 j hj e⟩) (fun z => ⟨nb_0, h0 z⟩)
theorem X_hasNote {q : Int32 → DD → Prop} {d : DD} {b : Nat} {H : HH} {v w : Int32} (Hb : isH b) (hX : XH b d H) (ok : OKH H) (h1 : ∀ t i, t < nT H → i < H 1 t → v = nI t → w = nI i → q 1 d) (h0 : (∀ t i, t < nT H → i < H 1 t → v = nI t → w = nI i → False) → q 0 d) : Cn SX MX0_hasNote [.ref b, .int v, .int w] d (rI q) := by
  have o4 := ok.t4
  refine cn_X0_hasNote Hb ?_
  refine X_hasTune Hb hX ok (fun t ht e => ⟨fun c => absurd c (by decide), fun _ => ?_⟩) (fun z => ⟨fun _ => h0 (fun t i ht hi e1 _ => z t ht e1), fun c => absurd rfl c⟩)
  subst e
  have hn := (ok.tt ht).2.2.1
  refine ⟨vp_in_nI (by omega) (by omega), ?_⟩
  rw [nI_clamp (by omega), hX.notes ht]
  exact X_wil (by omega) (fun i hi e => ⟨fun c => absurd c (by decide), fun _ => h1 t i ht hi rfl e⟩) (fun z => ⟨fun _ => h0 (fun t' i ht' hi e1 e2 => by
    have := nI_inj (by omega) (by omega) e1
    subst this
    exact z i hi e2), fun c => absurd rfl c⟩)
/-! ===== the reference's bounds ===== -/
theorem lcmp_lt {x y : Int64} : lg_cmp x y < 0 ↔ x.toInt < y.toInt := by rw [lg_cmp_lt]; exact fa_lt64 x y
theorem lcmp_gt {x y : Int64} : 0 < lg_cmp x y ↔ y.toInt < x.toInt := by rw [lg_cmp_gt]; exact fa_lt64 y x
theorem M_inL {q : Int32 → DD → Prop} {d : DD} {v lo hi : Int64} (h1 : lo.toInt ≤ v.toInt → v.toInt ≤ hi.toInt → q 1 d) (h0 : ¬ (lo.toInt ≤ v.toInt ∧ v.toInt ≤ hi.toInt) → q 0 d) : Cn SM MX5_in [.long v, .long lo, .long hi] d (rI q) := by
  refine cn_X5_in ⟨fun c => h0 (fun z => ?_), fun c => ⟨fun c2 => h0 (fun z => ?_), fun c2 => h1 ?_ ?_⟩⟩
  · have := lcmp_lt.mp c; omega
  · have := lcmp_gt.mp c2; omega
  · have := mt lcmp_lt.mpr c; omega
  · have := mt lcmp_gt.mpr c2; omega
/-- 0 .. n, by numbers -/
theorem M_win {q : Int32 → DD → Prop} {d : DD} {v : Int32} {n : Nat} (hn : n < 2 ^ 31) (h1 : ∀ j, j ≤ n → v = nI j → q 1 d) (h0 : (∀ j, j ≤ n → v ≠ nI j) → q 0 d) : Cn SM MX5_in [.long v.toInt64, .long 0, .long (lN n)] d (rI q) := by
  refine M_inL (fun a b => ?_) (fun z => h0 (fun j hj e => z ?_))
  · rw [Int32.toInt_toInt64] at a b
    rw [lN_toInt hn] at b
    rw [show ((0 : Int64)).toInt = 0 from rfl] at a
    obtain ⟨j, hj, rfl⟩ := nI_of (x := v) (fun c => by have := i_lt.mp c; rw [show ((0 : Int32)).toInt = 0 from rfl] at this; omega)
    rw [nI_toInt hj] at b
    exact h1 j (by omega) rfl
  · subst e
    rw [Int32.toInt_toInt64, lN_toInt hn, nI_toInt (by omega), show ((0 : Int64)).toInt = 0 from rfl]
    omega
/-- 0 .. n - 1, by numbers; n may be 0 -/
theorem M_wil {q : Int32 → DD → Prop} {d : DD} {v : Int32} {n : Nat} (hn : n < 2 ^ 31) (h1 : ∀ j, j < n → v = nI j → q 1 d) (h0 : (∀ j, j < n → v ≠ nI j) → q 0 d) : Cn SM MX5_in [.long v.toInt64, .long 0, .long (nI n - 1).toInt64] d (rI q) := by
  cases n with
  | zero =>
    refine M_inL (fun a b => ?_) (fun _ => h0 (fun j hj => absurd hj (Nat.not_lt_zero j)))
    rw [show (nI 0 - 1 : Int32).toInt64.toInt = -1 from by decide] at b
    rw [show ((0 : Int64)).toInt = 0 from rfl] at a
    omega
  | succ n =>
    rw [nI_pred, nI_l (by omega)]
    exact M_win (by omega) (fun j hj e => h1 j (by omega) e) (fun z => h0 (fun j hj => z j (by omega)))
theorem M_isTune {q : Int32 → DD → Prop} {d : DD} {H : HH} {v : Int32} (hM : MH 0 d H) (ok : OKH H) (h1 : ∀ j, j < nT H → v = nI j → q 1 d) (h0 : (∀ j, j < nT H → v ≠ nI j) → q 0 d) : Cn SM MX5_isTune [.ref 0, .int v] d (rI q) := by
  have := ok.t4
  refine cn_X5_isTune ?_
  rw [hM.nt]
  exact M_wil (by omega) (fun j hj e => ⟨nb_1, h1 j hj e⟩) (fun z => ⟨nb_0, h0 z⟩)
theorem M_isPlayer {q : Int32 → DD → Prop} {d : DD} {H : HH} {v : Int32} (hM : MH 0 d H) (ok : OKH H) (h1 : ∀ j, j < nP H → v = nI j → q 1 d) (h0 : (∀ j, j < nP H → v ≠ nI j) → q 0 d) : Cn SM MX5_isPlayer [.ref 0, .int v] d (rI q) := by
  have := ok.p4
  refine cn_X5_isPlayer ?_
  rw [hM.np]
  exact M_wil (by omega) (fun j hj e => ⟨nb_1, h1 j hj e⟩) (fun z => ⟨nb_0, h0 z⟩)
theorem M_isBound {q : Int32 → DD → Prop} {d : DD} {H : HH} {v : Int32} (hM : MH 0 d H) (ok : OKH H) (h1 : ∀ j, j < nB H → v = nI j → q 1 d) (h0 : (∀ j, j < nB H → v ≠ nI j) → q 0 d) : Cn SM MX5_isBound [.ref 0, .int v] d (rI q) := by
  have := ok.b6
  refine cn_X5_isBound ?_
  rw [hM.nb]
  exact M_wil (by omega) (fun j hj e => ⟨nb_1, h1 j hj e⟩) (fun z => ⟨nb_0, h0 z⟩)
theorem M_isMinute {q : Int32 → DD → Prop} {d : DD} {v : Int32} (h1 : ∀ j, j < 160 → v = nI j → q 1 d) (h0 : (∀ j, j < 160 → v ≠ nI j) → q 0 d) : Cn SM MX5_isMinute [.int v] d (rI q) := by
  refine cn_X5_isMinute ?_
  exact M_win (n := 159) (by omega) (fun j hj e => ⟨nb_1, h1 j (by omega) e⟩) (fun z => ⟨nb_0, h0 (fun j hj => z j (by omega))⟩)
theorem M_isNote {q : Int32 → DD → Prop} {d : DD} {H : HH} {v w : Int32} (hM : MH 0 d H) (ok : OKH H) (h1 : ∀ t i, t < nT H → i < H 1 t → v = nI t → w = nI i → q 1 d) (h0 : (∀ t i, t < nT H → i < H 1 t → v = nI t → w = nI i → False) → q 0 d) : Cn SM MX5_isNote [.ref 0, .int v, .int w] d (rI q) := by
  have o4 := ok.t4
  refine cn_X5_isNote ?_
  refine M_isTune hM ok (fun t ht e => ⟨fun c => absurd c (by decide), fun _ => ?_⟩) (fun z => ⟨fun _ => h0 (fun t i ht hi e1 _ => z t ht e1), fun c => absurd rfl c⟩)
  subst e
  have hn := (ok.tt ht).2.2.1
  rw [show (4 : Int32) + nI t = nI (4 + t) from nI_add 4 t]
  refine ⟨vp_in_nI (by omega) (by omega), ?_⟩
  rw [nI_clamp (by omega), hM.notes ht]
  exact M_wil (by omega) (fun i hi e => ⟨fun c => absurd c (by decide), fun _ => h1 t i ht hi rfl e⟩) (fun z => ⟨fun _ => h0 (fun t' i ht' hi e1 e2 => by
    have := nI_inj (by omega) (by omega) e1
    subst this
    exact z i hi e2), fun c => absurd rfl c⟩)
/-! ===== rows, lengths, notes: the class ===== -/
theorem rowL_32 {k n : Nat} (hk : k ≤ 3) (hn : n ≤ 8) : (if nI k = 1 then nI n + (nI n + 1) / 2 else if nI k = 2 then 2 * nI n else nI n) = nI (rowL k n) := by
  unfold rowL
  by_cases h1 : k = 1
  · subst h1
    rw [if_pos (show nI 1 = (1 : Int32) from rfl), if_pos rfl, show nI n + 1 = nI (n + 1) from nI_1 n, li_2, pk_div (by omega) (by omega) (by omega), nI_add]
  · rw [if_neg (show ¬ nI k = (1 : Int32) from fun e => h1 (nI_inj (b := 1) (by omega) (by omega) e)), if_neg h1]
    by_cases h2 : k = 2
    · subst h2
      rw [if_pos (show nI 2 = (2 : Int32) from rfl), if_pos rfl, li_2, pk_mul]
    · rw [if_neg (show ¬ nI k = (2 : Int32) from fun e => h2 (nI_inj (b := 2) (by omega) (by omega) e)), if_neg h2]
theorem X_rowLength {q : Int32 → DD → Prop} {d : DD} {k n : Nat} (hk : k ≤ 3) (hn : n ≤ 8) (h : q (nI (rowL k n)) d) : Cn SX MX0_rowLength [.int (nI k), .int (nI n)] d (rI q) := by
  rw [← rowL_32 hk hn] at h
  refine cn_X0_rowLength ⟨fun c => by rwa [if_pos c] at h, fun c => ⟨fun c2 => by rwa [if_neg c, if_pos c2] at h, fun c2 => by rwa [if_neg c, if_neg c2] at h⟩⟩
theorem M_rowOf {q : Int32 → DD → Prop} {d : DD} {k n : Nat} (hk : k ≤ 3) (hn : n ≤ 8) (h : q (nI (rowL k n)) d) : Cn SM MX5_rowOf [.int (nI k), .int (nI n)] d (rI q) := by
  rw [← rowL_32 hk hn] at h
  refine cn_X5_rowOf ⟨fun c => ⟨fun c2 => by rwa [if_neg c, if_neg c2] at h, fun c2 => by rwa [if_neg c, if_pos c2] at h⟩, fun c => by rwa [if_pos c] at h⟩
theorem X_lengthAs {q : Int32 → DD → Prop} {d : DD} {b t k : Nat} {H : HH} (Hb : isH b) (hX : XH b d H) (ok : OKH H) (ht : t < nT H) (hk : k ≤ 3) (h : q (nI (lenB H t k)) d) : Cn SX MX0_lengthAs [.ref b, .int (nI t), .int (nI k)] d (rI q) := by
  have o4 := ok.t4
  have ot := ok.tt ht
  refine cn_X0_lengthAs Hb ⟨vp_in_nI (by omega) (by omega), vp_in_nI (by omega) (by omega), ?_⟩
  rw [nI_clamp (by omega), hX.notes ht]
  refine X_rowLength hk ot.2.2.1 ?_
  rw [hX.times ht, pk_mul]
  exact h
theorem M_lengthBy {q : Int32 → DD → Prop} {d : DD} {t k : Nat} {H : HH} (hM : MH 0 d H) (ok : OKH H) (ht : t < nT H) (hk : k ≤ 3) (h : q (nI (lenB H t k)) d) : Cn SM MX5_lengthBy [.ref 0, .int (nI t), .int (nI k)] d (rI q) := by
  have o4 := ok.t4
  have ot := ok.tt ht
  refine cn_X5_lengthBy ?_
  rw [show (8 : Int32) + nI t = nI (8 + t) from nI_add 8 t, show (4 : Int32) + nI t = nI (4 + t) from nI_add 4 t]
  refine ⟨vp_in_nI (by omega) (by omega), vp_in_nI (by omega) (by omega), ?_⟩
  rw [nI_clamp (by omega), hM.notes ht]
  refine M_rowOf hk ot.2.2.1 ?_
  rw [nI_clamp (by omega), hM.times ht, pk_mul]
  exact h
theorem M_lengthOf {q : Int32 → DD → Prop} {d : DD} {t : Nat} {H : HH} (hM : MH 0 d H) (ok : OKH H) (ht : t < nT H) (h : q (nI (lenO H t)) d) : Cn SM MX5_lengthOf [.ref 0, .int (nI t)] d (rI q) := by
  have o4 := ok.t4
  refine cn_X5_lengthOf ⟨vp_in_nI (by omega) (by omega), ?_⟩
  rw [nI_clamp (by omega), hM.kind ht]
  exact M_lengthBy hM ok ht (ok.tt ht).1 h
theorem noteN_p {H : HH} {t k i : Nat} (hk : k ≤ 3) : (if nI k = nI 3 then nI (H 4 (8 * t + (if i < H 1 t then i else if k = 2 then 2 * H 1 t - 1 - i else i - H 1 t)) - 1) else nI (H 4 (8 * t + (if i < H 1 t then i else if k = 2 then 2 * H 1 t - 1 - i else i - H 1 t)))) = nI (noteN H t k i) := by
  unfold noteN
  simp only
  by_cases h : k = 3
  · subst h; simp
  · rw [if_neg (fun e => h (nI_inj (by omega) (by omega) e)), if_neg h]
/-- the common end of rowNote: a place, a base -/
theorem X_rowNote_50 {q : Int32 → DD → Prop} {d : DD} {b t k i j : Nat} {H : HH} {l4 l5 : Int32} (Hb : isH b) (hX : XH b d H) (ok : OKH H) (ht : t < nT H) (hk : k ≤ 3) (hj : j < H 1 t) (e : j = (if i < H 1 t then i else if k = 2 then 2 * H 1 t - 1 - i else i - H 1 t)) (h : q (nI (noteN H t k i)) d) : Ev SX MX0_rowNote 50 [.ref b, .int (nI t), .int (nI k), .int (nI i), .int l4, .int l5, uJ] [.int (nI j), .int (nI t * 8), .ref (b + 5)] d (rI q) := by
  have o4 := ok.t4
  have ot := ok.tt ht
  have oj := ot.2.2.1
  refine bk_X0_rowNote_50 Hb ?_
  rw [show nI t * 8 + nI j = nI (8 * t + j) from by rw [li_8, pk_mul, nI_add, Nat.mul_comm]]
  refine ⟨vp_in_nI (by omega) (by omega), nm_e ?_⟩
  rw [nI_clamp (by omega), hX.score ht hj]
  have hn := noteN_p (H := H) (t := t) (i := i) hk
  rw [← e] at hn
  rw [← hn] at h
  refine ⟨fun c => by rwa [if_neg (show ¬ nI k = nI 3 from c)] at h, fun c => ?_⟩
  rw [if_pos (show nI k = nI 3 from c)] at h
  have hw := ot.2.2.2.2.2.2 j hj
  by_cases h0 : H 4 (8 * t + j) = 0
  · rw [h0] at h ⊢
    exact h
  · rw [li_1, pk_sub (by omega), if_neg]
    · exact h
    · exact nI_pos (by omega)
theorem X_rowNote {q : Int32 → DD → Prop} {d : DD} {b t k i : Nat} {H : HH} (Hb : isH b) (hX : XH b d H) (ok : OKH H) (ht : t < nT H) (hk : k ≤ 3) (hi : i < rowL k (H 1 t)) (h : q (nI (noteN H t k i)) d) : Cn SX MX0_rowNote [.ref b, .int (nI t), .int (nI k), .int (nI i)] d (rI q) := by
  have o4 := ok.t4
  have ot := ok.tt ht
  have hix := noteN_ix ot hi
  have o8 := ot.2.2.1
  have hr := rowL_le (k := k) o8
  refine cn_X0_rowNote Hb ⟨vp_in_nI (by omega) (by omega), nm_e ?_⟩
  rw [nI_clamp (by omega), hX.notes ht]
  refine ⟨fun c => ⟨fun c2 => ?_, fun c2 => ?_⟩, fun c => nm_e ⟨fun c2 => ?_, fun c2 => ?_⟩⟩
  · have c2 := (nI_leI (by omega) (by omega)).mp c2
    rw [if_neg (by omega), if_neg (fun e => c (by rw [e]; rfl))] at hix
    rw [pk_sub c2]
    exact X_rowNote_50 Hb hX ok ht hk hix (by rw [if_neg (by omega), if_neg (fun e => c (by rw [e]; rfl))]) h
  · have c2 := mt (nI_leI (by omega) (by omega)).mpr c2
    rw [if_pos (by omega)] at hix
    exact X_rowNote_50 Hb hX ok ht hk hix (by rw [if_pos (by omega)]) h
  · have c2 := (nI_leI (by omega) (by omega)).mp c2
    have hk2 : k = 2 := nI_inj (by omega) (by omega) c
    rw [if_neg (by omega), if_pos hk2] at hix
    have hr2 : rowL k (H 1 t) = 2 * H 1 t := by rw [hk2]; rfl
    rw [show (2 : Int32) * nI (H 1 t) - 1 - nI i = nI (2 * H 1 t - 1 - i) from by rw [li_2, li_1, pk_mul, pk_sub (by omega), pk_sub (by omega)]]
    exact X_rowNote_50 Hb hX ok ht hk hix (by rw [if_neg (by omega), if_pos hk2]) h
  · have c2 := mt (nI_leI (by omega) (by omega)).mpr c2
    rw [if_pos (by omega)] at hix
    exact X_rowNote_50 Hb hX ok ht hk hix (by rw [if_pos (by omega)]) h
/-- a minute of a tune, any int below 2 ^ 30 -/
theorem X_noteAs {q : Int32 → DD → Prop} {d : DD} {b t k m : Nat} {H : HH} (Hb : isH b) (hX : XH b d H) (ok : OKH H) (ht : t < nT H) (hk : k ≤ 3) (hm : m < 160) (h : q (noteB H t k m) d) : Cn SX MX0_noteAs [.ref b, .int (nI t), .int (nI k), .int (nI m)] d (rI q) := by
  have o4 := ok.t4
  have ot := ok.tt ht
  have hr := rowL_le (k := k) ot.2.2.1
  have hp := rowL_pos (k := k) ot.2.1
  have hl := lenB_le (k := k) ot
  have hs := ot.2.2.2.2.2.1
  refine cn_X0_noteAs Hb ⟨vp_in_nI (by omega) (by omega), ?_⟩
  rw [nI_clamp (by omega), hX.notes ht]
  refine X_rowLength hk ot.2.2.1 ⟨vp_in_nI (by omega) (by omega), nm_e ?_⟩
  rw [hX.start ht, hX.times ht, pk_mul, show H 2 t * rowL k (H 1 t) = lenB H t k from rfl]
  refine ⟨fun c => absurd ((nI_ltI (b := 1) (by omega) (by omega)).mp c) (by omega), fun _ => ?_⟩
  unfold noteB at h
  by_cases hms : m < H 3 t
  · rw [if_pos (Or.inl hms)] at h
    exact ⟨fun _ => h, fun c => absurd (pk_sneg (by omega) hms) c⟩
  · rw [pk_sub (by omega)]
    refine ⟨fun c => absurd c (nI_pos (by omega)), fun _ => ⟨vp_in_nI (by omega) (by omega), fun c => ?_, fun c => ?_⟩⟩
    · have c := (nI_ltI (by omega) (by omega)).mp c
      rw [if_neg (by omega)] at h
      refine ⟨nI_ne0 (by omega) (by omega), ?_⟩
      rw [jrem_nI (by omega) (by omega) (by omega)]
      exact X_rowNote Hb hX ok ht hk (Nat.mod_lt _ (by omega)) h
    · have c := mt (nI_ltI (by omega) (by omega)).mpr c
      rw [if_pos (by omega)] at h
      exact h
theorem M_noteBy_101 {q : Int32 → DD → Prop} {d : DD} {t k i j : Nat} {H : HH} {l3 l4 l5 l6 : Int32} (hM : MH 0 d H) (ok : OKH H) (ht : t < nT H) (hk : k ≤ 3) (hj : j < H 1 t) (e : j = (if i < H 1 t then i else if k = 2 then 2 * H 1 t - 1 - i else i - H 1 t)) (h : q (nI (noteN H t k i)) d) : Ev SM MX5_noteBy 101 [.ref 0, .int (nI t), .int (nI k), .int l3, .int l4, .int l5, .int l6, uJ] [.int (nI j), .int (16 + (8 * nI t)), .ref 1] d (rI q) := by
  have o4 := ok.t4
  have ot := ok.tt ht
  have oj := ot.2.2.1
  refine bk_X5_noteBy_101 ?_
  rw [show 16 + (8 * nI t) + nI j = nI (16 + (8 * t + j)) from by rw [li_8, li_16, pk_mul, nI_add, nI_add, Nat.add_assoc]]
  refine ⟨vp_in_nI (by omega) (by omega), nm_e ?_⟩
  rw [nI_clamp (by omega), hM.score ht hj]
  have hn := noteN_p (H := H) (t := t) (i := i) hk
  rw [← e] at hn
  rw [← hn] at h
  refine ⟨fun c => by rwa [if_neg (show ¬ nI k = nI 3 from c)] at h, fun c => ?_⟩
  rw [if_pos (show nI k = nI 3 from c)] at h
  have hw := ot.2.2.2.2.2.2 j hj
  refine ⟨fun c => ?_, fun c => ?_⟩
  · have c := (nI_leI (b := 0) (by omega) (by omega)).mp c
    rw [show H 4 (8 * t + j) - 1 = H 4 (8 * t + j) from by omega] at h
    exact h
  · have c := mt (nI_leI (b := 0) (by omega) (by omega)).mpr c
    rw [li_1, pk_sub (by omega)]
    exact h
theorem M_noteBy {q : Int32 → DD → Prop} {d : DD} {t k m : Nat} {H : HH} (hM : MH 0 d H) (ok : OKH H) (ht : t < nT H) (hk : k ≤ 3) (hm : m < 160) (h : q (noteB H t k m) d) : Cn SM MX5_noteBy [.ref 0, .int (nI t), .int (nI k), .int (nI m)] d (rI q) := by
  have o4 := ok.t4
  have ot := ok.tt ht
  have hr := rowL_le (k := k) ot.2.2.1
  have hp := rowL_pos (k := k) ot.2.1
  have hl := lenB_le (k := k) ot
  have hl0 := lenB_pos (k := k) ot
  have o8 := ot.2.2.1
  have hs := ot.2.2.2.2.2.1
  refine cn_X5_noteBy ?_
  rw [show (12 : Int32) + nI t = nI (12 + t) from nI_add 12 t, show (4 : Int32) + nI t = nI (4 + t) from nI_add 4 t]
  refine ⟨vp_in_nI (by omega) (by omega), nm_e ?_⟩
  rw [nI_clamp (by omega), hM.start ht]
  refine M_lengthBy hM ok ht hk ?_
  unfold noteB at h
  refine M_wil (by omega) (fun j hj e => ⟨fun _ => ?_, fun c => absurd c (by decide)⟩) (fun z => ⟨fun c => absurd rfl c, fun _ => ?_⟩)
  · have hge : H 3 t ≤ m := by
      rcases Nat.lt_or_ge m (H 3 t) with c | c
      · have h1 := congrArg Int32.toInt e
        rw [pk_sub_toInt (by omega) (by omega), nI_toInt (by omega)] at h1
        omega
      · exact c
    rw [pk_sub hge] at e
    have e := nI_inj (by omega) (by omega) e
    rw [if_neg (by omega)] at h
    refine ⟨vp_in_nI (by omega) (by omega), nm_e ?_⟩
    rw [nI_clamp (by omega), hM.notes ht]
    refine M_rowOf hk ot.2.2.1 ⟨nI_ne0 (by omega) (by omega), ?_⟩
    rw [pk_sub hge, jrem_nI (by omega) (by omega) (by omega)]
    have hi := Nat.mod_lt (m - H 3 t) (show rowL k (H 1 t) > 0 by omega)
    have hix := noteN_ix ot hi
    refine ⟨fun c2 => ⟨fun c => ?_, fun c => ?_⟩, fun c2 => ?_⟩
    · have c2 := (nI_leI (by omega) (by omega)).mp c2
      have hk2 : rowL k (H 1 t) ≤ 2 * H 1 t := by unfold rowL; split
                                                  · omega
                                                  · split <;> omega
      by_cases k2 : k = 2
      · rw [if_neg (by omega), if_pos k2] at hix
        rw [show (2 : Int32) * nI (H 1 t) - 1 - nI ((m - H 3 t) % rowL k (H 1 t)) = nI (2 * H 1 t - 1 - (m - H 3 t) % rowL k (H 1 t)) from by rw [li_2, li_1, pk_mul, pk_sub (by omega), pk_sub (by omega)]]
        exact M_noteBy_101 hM ok ht hk hix (by rw [if_neg (by omega), if_pos k2]) h
      · exfalso
        unfold rowL at hi c2
        have k1 : ¬ k = 1 := fun e => c (by rw [e]; rfl)
        rw [if_neg k1, if_neg k2] at hi c2
        omega
    · have c2 := (nI_leI (by omega) (by omega)).mp c2
      have k1 : k = 1 := nI_inj (by omega) (by omega) c
      rw [if_neg (by omega), if_neg (by omega)] at hix
      rw [pk_sub c2]
      exact M_noteBy_101 hM ok ht hk hix (by rw [if_neg (by omega), if_neg (by omega)]) h
    · have c2 := mt (nI_leI (by omega) (by omega)).mpr c2
      rw [if_pos (by omega)] at hix
      exact M_noteBy_101 hM ok ht hk hix (by rw [if_pos (by omega)]) h
  · rw [if_pos] at h
    · exact h
    · rcases Nat.lt_or_ge m (H 3 t) with c | c
      · exact Or.inl c
      · right
        rcases Nat.lt_or_ge (m - H 3 t) (lenB H t k) with c2 | c2
        · exact absurd (pk_sub c) (z _ c2)
        · exact c2
