/-! ===== the two systems side by side ===== -/
def RT (x m : DD) : Prop := ∃ n, n ≤ 160 ∧ x 36 1 = nI n ∧ m 0 10 = nI n ∧ ∀ i, i < n → x 37 i = m 3 i ∧ ∃ c, c ≤ 127 ∧ x 37 i = nI c
def RSe (x m : DD) : Prop := ∃ n, n ≤ 6 ∧ x 0 11 = nI n ∧ m 0 28 = nI n ∧ ∀ i, i < n → x 49 i = m 12 (3 * i) ∧ x 50 i = m 12 (3 * i + 1) ∧ x 51 i = m 12 (3 * i + 2) ∧ ∃ c, c < 160 ∧ x 50 i = nI c
def RIm (H : HH) (x m : DD) (k : Nat) : Prop := (x 35 k = nI 0 ∧ m 13 k = nI 0) ∨ (x 35 k = nI 1 ∧ m 13 k = nI 1 ∧ ∃ Hk, OKH Hk ∧ (∀ j, Hk 10 j = H 10 j) ∧ XH (52 + 11 * k) x Hk ∧ MH (70 * (k + 1)) m Hk)
def RSh (x m : DD) (k : Nat) : Prop := (x (74 + 2 * k) 0 = nI 0 ∧ m 14 k = -4) ∨ (x (74 + 2 * k) 0 = nI 1 ∧ ∃ l n, l ≤ 2 ∧ n ≤ 40 ∧ x (74 + 2 * k) 1 = nI l ∧ m 14 k = nI l ∧ x (74 + 2 * k) 2 = nI n ∧ m 15 k = nI n ∧ ∀ i, i < n → x (75 + 2 * k) i = m 16 (40 * k + i))
def cutsC : List Int32 := [0, 5, 10, 15, 22, 28, 33]
def lettC : List Int32 := [112, 108, 97, 105, 110, 114, 111, 110, 100, 111, 102, 117, 103, 117, 101, 108, 117, 108, 108, 97, 98, 121, 112, 108, 97, 121, 101, 114, 98, 111, 117, 110, 100]
def RC (m : DD) : Prop := (∀ i, i < 7 → m 4 i = cutsC.getD i 0) ∧ ∀ i, i < 33 → m 5 i = lettC.getD i 0
/-- the FAULTs of the latest text, side by side -/
def RF (a b : Int32) : Prop := a = b ∨ (a = nI 3 ∧ b = nI 5)
/-- all but the houses -/
def RelO (H : HH) (x m : DD) : Prop := RT x m ∧ RSe x m ∧ (∀ k, k < 2 → RIm H x m k) ∧ (∀ k, k < 4 → RSh x m k) ∧ RC m ∧ m 0 26 = nI 0 ∧ RF (x 36 2) (m 0 11) ∧ x 0 12 = m 0 34
def RelH (H : HH) (x m : DD) : Prop := OKH H ∧ XH 1 x H ∧ MH 0 m H ∧ RelO H x m
def Rel (x m : DD) : Prop := ∃ H, RelH H x m
/-- what is left of the class's cells by calls that ask: not the told one's, the trial's, the playing's -/
def XK (x x' : DD) : Prop := ∀ a, a < 12 ∨ (33 < a ∧ a < 38) ∨ 47 < a → x' a = x a
def MK (m m' : DD) : Prop := (∀ j, j ≠ 29 → m' 0 j = m 0 j) ∧ (∀ j, j < 210 → m' 1 j = m 1 j) ∧ ∀ a, a = 3 ∨ a = 4 ∨ a = 5 ∨ 11 < a → m' a = m a
theorem XK.rf {x : DD} : XK x x := fun _ _ => rfl
theorem MK.rf {m : DD} : MK m m := ⟨fun _ _ => rfl, fun _ _ => rfl, fun _ _ => rfl⟩
theorem XK.tr {x y z : DD} (h : XK x y) (h2 : XK y z) : XK x z := fun a ha => (h2 a ha).trans (h a ha)
theorem MK.tr {x y z : DD} (h : MK x y) (h2 : MK y z) : MK x z := ⟨fun j hj => (h2.1 j hj).trans (h.1 j hj), fun j hj => (h2.2.1 j hj).trans (h.2.1 j hj), fun a ha => (h2.2.2 a ha).trans (h.2.2 a ha)⟩
theorem XF.k {x y : DD} (h : XF x y) : XK x y := fun a ha => h a (by omega)
theorem MF.k {x y : DD} (h : MF x y) : MK x y := ⟨fun j _ => by rw [h 0 (by omega)], fun j _ => by rw [h 1 (by omega)], fun a ha => h a (by omega)⟩
theorem RelO.keep {H : HH} {x m x' m' : DD} (h : RelO H x m) (hx : XK x x') (hm : MK m m') : RelO H x' m' := by
  obtain ⟨h1, h2, h3, h4, h5, h6, h7, h8⟩ := h
  obtain ⟨k0, k1, k2⟩ := hm
  refine ⟨?_, ?_, fun k hk => ?_, fun k hk => ?_, ?_, ?_, ?_, ?_⟩
  · obtain ⟨n, a1, a2, a3, a4⟩ := h1
    exact ⟨n, a1, by rw [hx 36 (by omega)]; exact a2, by rw [k0 10 (by omega)]; exact a3, fun i hi => by rw [hx 37 (by omega), k2 3 (by omega)]; exact a4 i hi⟩
  · obtain ⟨n, a1, a2, a3, a4⟩ := h2
    exact ⟨n, a1, by rw [hx 0 (by omega)]; exact a2, by rw [k0 28 (by omega)]; exact a3, fun i hi => by rw [hx 49 (by omega), hx 50 (by omega), hx 51 (by omega), k2 12 (by omega)]; exact a4 i hi⟩
  · rcases h3 k hk with ⟨a1, a2⟩ | ⟨a1, a2, Hk, a3, a4, a5, a6⟩
    · exact Or.inl ⟨by rw [hx 35 (by omega)]; exact a1, by rw [k2 13 (by omega)]; exact a2⟩
    · exact Or.inr ⟨by rw [hx 35 (by omega)]; exact a1, by rw [k2 13 (by omega)]; exact a2, Hk, a3, a4, a5.kept (fun a b1 b2 => hx a (by omega)), a6.kept (fun j b1 b2 => k0 j (by omega)) (fun j b1 b2 => k1 j (by omega)) a3⟩
  · rcases h4 k hk with ⟨a1, a2⟩ | ⟨a1, l, n, a2, a3, a4, a5, a6, a7, a8⟩
    · exact Or.inl ⟨by rw [hx _ (by omega)]; exact a1, by rw [k2 14 (by omega)]; exact a2⟩
    · exact Or.inr ⟨by rw [hx _ (by omega)]; exact a1, l, n, a2, a3, by rw [hx _ (by omega)]; exact a4, by rw [k2 14 (by omega)]; exact a5, by rw [hx _ (by omega)]; exact a6, by rw [k2 15 (by omega)]; exact a7, fun i hi => by rw [hx _ (by omega), k2 16 (by omega)]; exact a8 i hi⟩
  · exact ⟨fun i hi => by rw [k2 4 (by omega)]; exact h5.1 i hi, fun i hi => by rw [k2 5 (by omega)]; exact h5.2 i hi⟩
  · rw [k0 26 (by omega)]; exact h6
  · rw [hx 36 (by omega), k0 11 (by omega)]; exact h7
  · rw [hx 0 (by omega), k0 34 (by omega)]; exact h8
theorem XH.xk {x x' : DD} {H : HH} (h : XH 1 x H) (hx : XK x x') : XH 1 x' H := h.kept (fun a b1 b2 => hx a (by omega))
theorem MH.mk {m m' : DD} {H : HH} (h : MH 0 m H) (ok : OKH H) (hm : MK m m') : MH 0 m' H := h.kept (fun j b1 b2 => hm.1 j (by omega)) (fun j b1 b2 => hm.2.1 j (by omega)) ok
theorem RelH.keep {H : HH} {x m x' m' : DD} (h : RelH H x m) (hx : XK x x') (hm : MK m m') : RelH H x' m' := ⟨h.1, h.2.1.xk hx, h.2.2.1.mk h.1 hm, h.2.2.2.keep hx hm⟩
theorem RelH.rel {H : HH} {x m : DD} (h : RelH H x m) : Rel x m := ⟨H, h⟩
/-- one call on both: the same answer, and side by side behind it -/
def Two (M1 M2 : MM) (As : List Value) (x m : DD) : Prop := ∃ (r : Int32) (PX PM : DD → Prop), Cn SX M1 As x (rI fun r' d => r' = r ∧ PX d) ∧ Cn SM M2 As m (rI fun r' d => r' = r ∧ PM d) ∧ ∀ d d', PX d → PM d' → Rel d d'
/-- a call that asks -/
theorem two_ask {M1 M2 : MM} {As : List Value} {x m : DD} {H : HH} (hR : RelH H x m) (r : Int32) (h1 : Cn SX M1 As x (rI fun r' d => r' = r ∧ XK x d)) (h2 : Cn SM M2 As m (rI fun r' d => r' = r ∧ MK m d)) : Two M1 M2 As x m := ⟨r, _, _, h1, h2, fun _ _ a b => (hR.keep a b).rel⟩
/-! guards, by what they find -/
theorem ge_of {n : Nat} {v : Int32} (hn : n ≤ 2 ^ 31) : (∃ j, j < n ∧ v = nI j) ∨ ∀ j, j < n → v ≠ nI j := by
  by_cases h : ∃ j, j < n ∧ v = nI j
  · exact Or.inl h
  · exact Or.inr (fun j hj e => h ⟨j, hj, e⟩)
theorem X_win_y {q : Int32 → DD → Prop} {d : DD} {j n : Nat} (hn : n < 2 ^ 31) (hj : j ≤ n) (h : q 1 d) : Cn SX MX4_within [.int (nI j), .int (nI 0), .int (nI n)] d (rI q) := X_win hn (fun _ _ _ => h) (fun z => absurd rfl (z j hj))
theorem X_win_n {q : Int32 → DD → Prop} {d : DD} {v : Int32} {n : Nat} (hn : n < 2 ^ 31) (hz : ∀ j, j < n + 1 → v ≠ nI j) (h : q 0 d) : Cn SX MX4_within [.int v, .int (nI 0), .int (nI n)] d (rI q) := X_win hn (fun j hj e => absurd e (hz j (by omega))) (fun _ => h)
theorem M_win_y {q : Int32 → DD → Prop} {d : DD} {j n : Nat} (hn : n < 2 ^ 31) (hj : j ≤ n) (h : q 1 d) : Cn SM MX5_in [.long (nI j).toInt64, .long 0, .long (lN n)] d (rI q) := M_win hn (fun _ _ _ => h) (fun z => absurd rfl (z j hj))
theorem M_win_n {q : Int32 → DD → Prop} {d : DD} {v : Int32} {n : Nat} (hn : n < 2 ^ 31) (hz : ∀ j, j < n + 1 → v ≠ nI j) (h : q 0 d) : Cn SM MX5_in [.long v.toInt64, .long 0, .long (lN n)] d (rI q) := M_win hn (fun j hj e => absurd e (hz j (by omega))) (fun _ => h)
theorem X_hasTune_y {q : Int32 → DD → Prop} {d : DD} {b j : Nat} {H : HH} (Hb : isH b) (hX : XH b d H) (ok : OKH H) (hj : j < nT H) (h : q 1 d) : Cn SX MX0_hasTune [.ref b, .int (nI j)] d (rI q) := X_hasTune Hb hX ok (fun _ _ _ => h) (fun z => absurd rfl (z j hj))
theorem X_hasTune_n {q : Int32 → DD → Prop} {d : DD} {b : Nat} {v : Int32} {H : HH} (Hb : isH b) (hX : XH b d H) (ok : OKH H) (hz : ∀ j, j < nT H → v ≠ nI j) (h : q 0 d) : Cn SX MX0_hasTune [.ref b, .int v] d (rI q) := X_hasTune Hb hX ok (fun j hj e => absurd e (hz j hj)) (fun _ => h)
theorem X_hasPlayer_y {q : Int32 → DD → Prop} {d : DD} {b j : Nat} {H : HH} (Hb : isH b) (hX : XH b d H) (ok : OKH H) (hj : j < nP H) (h : q 1 d) : Cn SX MX0_hasPlayer [.ref b, .int (nI j)] d (rI q) := X_hasPlayer Hb hX ok (fun _ _ _ => h) (fun z => absurd rfl (z j hj))
theorem X_hasPlayer_n {q : Int32 → DD → Prop} {d : DD} {b : Nat} {v : Int32} {H : HH} (Hb : isH b) (hX : XH b d H) (ok : OKH H) (hz : ∀ j, j < nP H → v ≠ nI j) (h : q 0 d) : Cn SX MX0_hasPlayer [.ref b, .int v] d (rI q) := X_hasPlayer Hb hX ok (fun j hj e => absurd e (hz j hj)) (fun _ => h)
theorem X_hasPrisoner_y {q : Int32 → DD → Prop} {d : DD} {b j : Nat} {H : HH} (Hb : isH b) (hX : XH b d H) (ok : OKH H) (hj : j < nB H) (h : q 1 d) : Cn SX MX0_hasPrisoner [.ref b, .int (nI j)] d (rI q) := X_hasPrisoner Hb hX ok (fun _ _ _ => h) (fun z => absurd rfl (z j hj))
theorem X_hasPrisoner_n {q : Int32 → DD → Prop} {d : DD} {b : Nat} {v : Int32} {H : HH} (Hb : isH b) (hX : XH b d H) (ok : OKH H) (hz : ∀ j, j < nB H → v ≠ nI j) (h : q 0 d) : Cn SX MX0_hasPrisoner [.ref b, .int v] d (rI q) := X_hasPrisoner Hb hX ok (fun j hj e => absurd e (hz j hj)) (fun _ => h)
theorem M_isTune_y {q : Int32 → DD → Prop} {d : DD} {j : Nat} {H : HH} (hM : MH 0 d H) (ok : OKH H) (hj : j < nT H) (h : q 1 d) : Cn SM MX5_isTune [.ref 0, .int (nI j)] d (rI q) := M_isTune hM ok (fun _ _ _ => h) (fun z => absurd rfl (z j hj))
theorem M_isTune_n {q : Int32 → DD → Prop} {d : DD} {v : Int32} {H : HH} (hM : MH 0 d H) (ok : OKH H) (hz : ∀ j, j < nT H → v ≠ nI j) (h : q 0 d) : Cn SM MX5_isTune [.ref 0, .int v] d (rI q) := M_isTune hM ok (fun j hj e => absurd e (hz j hj)) (fun _ => h)
theorem M_isPlayer_y {q : Int32 → DD → Prop} {d : DD} {j : Nat} {H : HH} (hM : MH 0 d H) (ok : OKH H) (hj : j < nP H) (h : q 1 d) : Cn SM MX5_isPlayer [.ref 0, .int (nI j)] d (rI q) := M_isPlayer hM ok (fun _ _ _ => h) (fun z => absurd rfl (z j hj))
theorem M_isPlayer_n {q : Int32 → DD → Prop} {d : DD} {v : Int32} {H : HH} (hM : MH 0 d H) (ok : OKH H) (hz : ∀ j, j < nP H → v ≠ nI j) (h : q 0 d) : Cn SM MX5_isPlayer [.ref 0, .int v] d (rI q) := M_isPlayer hM ok (fun j hj e => absurd e (hz j hj)) (fun _ => h)
theorem M_isBound_y {q : Int32 → DD → Prop} {d : DD} {j : Nat} {H : HH} (hM : MH 0 d H) (ok : OKH H) (hj : j < nB H) (h : q 1 d) : Cn SM MX5_isBound [.ref 0, .int (nI j)] d (rI q) := M_isBound hM ok (fun _ _ _ => h) (fun z => absurd rfl (z j hj))
theorem M_isBound_n {q : Int32 → DD → Prop} {d : DD} {v : Int32} {H : HH} (hM : MH 0 d H) (ok : OKH H) (hz : ∀ j, j < nB H → v ≠ nI j) (h : q 0 d) : Cn SM MX5_isBound [.ref 0, .int v] d (rI q) := M_isBound hM ok (fun j hj e => absurd e (hz j hj)) (fun _ => h)
theorem M_isMinute_y {q : Int32 → DD → Prop} {d : DD} {j : Nat} (hj : j < 160) (h : q 1 d) : Cn SM MX5_isMinute [.int (nI j)] d (rI q) := M_isMinute (fun _ _ _ => h) (fun z => absurd rfl (z j hj))
theorem M_isMinute_n {q : Int32 → DD → Prop} {d : DD} {v : Int32} (hz : ∀ j, j < 160 → v ≠ nI j) (h : q 0 d) : Cn SM MX5_isMinute [.int v] d (rI q) := M_isMinute (fun j hj e => absurd e (hz j hj)) (fun _ => h)
theorem isH1 : isH 1 := Or.inl rfl
/-- branches on what a guard answered -/
theorem y1 {A B : Prop} (a : A) : (¬ (1 : Int32) = 0 → A) ∧ ((1 : Int32) = 0 → B) := ⟨fun _ => a, fun c => absurd c (by decide)⟩
theorem y1' {A B : Prop} (b : B) : ((1 : Int32) = 0 → A) ∧ (¬ (1 : Int32) = 0 → B) := ⟨fun c => absurd c (by decide), fun _ => b⟩
theorem y0 {A B : Prop} (b : B) : (¬ (0 : Int32) = 0 → A) ∧ ((0 : Int32) = 0 → B) := ⟨fun c => absurd rfl c, fun _ => b⟩
theorem y0' {A B : Prop} (a : A) : ((0 : Int32) = 0 → A) ∧ (¬ (0 : Int32) = 0 → B) := ⟨fun _ => a, fun c => absurd rfl c⟩
