/-! ===== a number of the house is changed ===== -/
theorem XH.put {b f i v : Nat} {d : DD} {H : HH} (h : XH b d H) (hf : f ≤ 9) (hs : f = 1 → i < nT H → ∀ j, j < v → d (b + 5) (8 * i + j) = nI (H 4 (8 * i + j))) : XH b (up d (b + 1 + f) i (nI v)) (pu H f i v) := by
  obtain ⟨a1, a2, a3, a4, a5, a6⟩ := h
  have e10 : ∀ j, pu H f i v 10 j = H 10 j := fun j => pu_n (by omega)
  have n10 : nT (pu H f i v) = nT H ∧ nP (pu H f i v) = nP H ∧ nB (pu H f i v) = nB H := ⟨e10 0, e10 1, e10 2⟩
  have one : ∀ g j, d (b + 1 + g) j = nI (H g j) → up d (b + 1 + f) i (nI v) (b + 1 + g) j = nI (pu H f i v g j) := by
    intro g j e
    rw [up_rd, pu_rd]
    by_cases c : g = f ∧ j = i
    · rw [if_pos c, if_pos ⟨by rw [c.1], c.2⟩]
    · rw [if_neg c, if_neg (fun z => c ⟨by omega, z.2⟩)]; exact e
  refine ⟨?_, ?_, ?_, ?_, ?_, ?_⟩
  · rw [up_n (by omega), n10.1]; exact a1
  · rw [up_n (by omega), n10.2.1]; exact a2
  · rw [up_n (by omega), n10.2.2]; exact a3
  · rw [n10.1]
    intro t ht
    obtain ⟨b1, b2, b3, b4, b5⟩ := a4 t ht
    refine ⟨one 0 t b1, one 1 t b2, one 2 t b3, one 3 t b4, fun j hj => one 4 _ ?_⟩
    by_cases c : 1 = f ∧ t = i
    · obtain ⟨c1, rfl⟩ := c
      rw [pu_rd, if_pos ⟨c1, rfl⟩] at hj
      exact hs c1.symm ht j hj
    · rw [pu_n c] at hj
      exact b5 j hj
  · rw [n10.2.1]
    intro p hp
    obtain ⟨b1, b2, b3, b4⟩ := a5 p hp
    exact ⟨one 5 p b1, one 6 p b2, one 7 p b3, one 8 p b4⟩
  · rw [n10.2.2]
    intro q hq
    exact one 9 q (a6 q hq)
/-- the place of a number on the page -/
def po (f : Nat) : Nat := if f ≤ 4 then 4 * f else if f = 5 then 48 else if f = 6 then 52 else if f = 7 then 56 else if f = 8 then 60 else 64
def wo (f : Nat) : Nat := if f = 4 then 32 else if f = 9 then 6 else 4
theorem f10 {f : Nat} (h : f ≤ 9) : f = 0 ∨ f = 1 ∨ f = 2 ∨ f = 3 ∨ f = 4 ∨ f = 5 ∨ f = 6 ∨ f = 7 ∨ f = 8 ∨ f = 9 := by omega
theorem f10t {f : Nat} (h : f ≤ 9) : (f = 0 ∧ po f = 0 ∧ wo f = 4) ∨ (f = 1 ∧ po f = 4 ∧ wo f = 4) ∨ (f = 2 ∧ po f = 8 ∧ wo f = 4) ∨ (f = 3 ∧ po f = 12 ∧ wo f = 4) ∨ (f = 4 ∧ po f = 16 ∧ wo f = 32) ∨ (f = 5 ∧ po f = 48 ∧ wo f = 4) ∨ (f = 6 ∧ po f = 52 ∧ wo f = 4) ∨ (f = 7 ∧ po f = 56 ∧ wo f = 4) ∨ (f = 8 ∧ po f = 60 ∧ wo f = 4) ∨ (f = 9 ∧ po f = 64 ∧ wo f = 6) := by
  rcases f10 h with rfl | rfl | rfl | rfl | rfl | rfl | rfl | rfl | rfl | rfl <;> decide
theorem po_sep {f g i j : Nat} (hf : f ≤ 9) (hg : g ≤ 9) (hi : i < wo f) (hj : j < wo g) (h : ¬ (g = f ∧ j = i)) : po g + j ≠ po f + i := by
  rcases f10t hf with ⟨e, p, w⟩ | ⟨e, p, w⟩ | ⟨e, p, w⟩ | ⟨e, p, w⟩ | ⟨e, p, w⟩ | ⟨e, p, w⟩ | ⟨e, p, w⟩ | ⟨e, p, w⟩ | ⟨e, p, w⟩ | ⟨e, p, w⟩ <;> rcases f10t hg with ⟨e2, p2, w2⟩ | ⟨e2, p2, w2⟩ | ⟨e2, p2, w2⟩ | ⟨e2, p2, w2⟩ | ⟨e2, p2, w2⟩ | ⟨e2, p2, w2⟩ | ⟨e2, p2, w2⟩ | ⟨e2, p2, w2⟩ | ⟨e2, p2, w2⟩ | ⟨e2, p2, w2⟩ <;> rw [p, p2] <;> rw [w] at hi <;> rw [w2] at hj <;> omega
theorem MH.put {o f i v : Nat} {d : DD} {H : HH} (h : MH o d H) (ok : OKH H) (hf : f ≤ 9) (hi : i < wo f) (hv : f = 1 → v ≤ 8) (hs : f = 1 → i < nT H → ∀ j, j < v → d 1 (o + (16 + (8 * i + j))) = nI (H 4 (8 * i + j))) : MH o (up d 1 (o + (po f + i)) (nI v)) (pu H f i v) := by
  obtain ⟨a1, a2, a3, a4, a5, a6⟩ := h
  have o1 := ok.t4; have o2 := ok.p4; have o3 := ok.b6
  have e10 : ∀ j, pu H f i v 10 j = H 10 j := fun j => pu_n (by omega)
  have n10 : nT (pu H f i v) = nT H ∧ nP (pu H f i v) = nP H ∧ nB (pu H f i v) = nB H := ⟨e10 0, e10 1, e10 2⟩
  have one : ∀ g j, g ≤ 9 → j < wo g → d 1 (o + (po g + j)) = nI (H g j) → up d 1 (o + (po f + i)) (nI v) 1 (o + (po g + j)) = nI (pu H f i v g j) := by
    intro g j hg hj e
    rw [up_rd, pu_rd]
    by_cases c : g = f ∧ j = i
    · rw [if_pos c, if_pos ⟨rfl, by rw [c.1, c.2]⟩]
    · have := po_sep hf hg hi hj c
      rw [if_neg c, if_neg (by omega)]; exact e
  refine ⟨?_, ?_, ?_, ?_, ?_, ?_⟩
  · rw [up_n (by omega), n10.1]; exact a1
  · rw [up_n (by omega), n10.2.1]; exact a2
  · rw [up_n (by omega), n10.2.2]; exact a3
  · rw [n10.1]
    intro t ht
    have hn := (ok.tt ht).2.2.1
    obtain ⟨b1, b2, b3, b4, b5⟩ := a4 t ht
    refine ⟨?_, one 1 t (by omega) (show t < 4 by omega) b2, one 2 t (by omega) (show t < 4 by omega) b3, one 3 t (by omega) (show t < 4 by omega) b4, fun j hj => ?_⟩
    · have := one 0 t (by omega) (show t < 4 by omega) (by rw [show po 0 = 0 from rfl, Nat.zero_add]; exact b1)
      rw [show po 0 = 0 from rfl, Nat.zero_add] at this; exact this
    · by_cases c : 1 = f ∧ t = i
      · obtain ⟨c1, rfl⟩ := c
        rw [pu_rd, if_pos ⟨c1, rfl⟩] at hj
        have := hv c1.symm
        exact one 4 _ (by omega) (show 8 * t + j < 32 by omega) (hs c1.symm ht j hj)
      · rw [pu_n c] at hj
        exact one 4 _ (by omega) (show 8 * t + j < 32 by omega) (b5 j hj)
  · rw [n10.2.1]
    intro p hp
    obtain ⟨b1, b2, b3, b4⟩ := a5 p hp
    exact ⟨one 5 p (by omega) (show p < 4 by omega) b1, one 6 p (by omega) (show p < 4 by omega) b2, one 7 p (by omega) (show p < 4 by omega) b3, one 8 p (by omega) (show p < 4 by omega) b4⟩
  · rw [n10.2.2]
    intro q hq
    exact one 9 q (by omega) (show q < 6 by omega) (a6 q hq)
def okV (H : HH) (f i v : Nat) : Prop := (f = 0 → v ≤ 3) ∧ (f = 1 → 1 ≤ v ∧ v ≤ 8 ∧ ∀ j, j < v → H 4 (8 * i + j) ≤ 9) ∧ (f = 2 → 1 ≤ v ∧ v ≤ 9) ∧ (f = 3 → v ≤ 9) ∧ (f = 4 → v ≤ 9) ∧ (f = 5 → v ≤ 9) ∧ (f = 6 → 1 ≤ v ∧ v ≤ 99) ∧ (f = 7 → v ≤ 9) ∧ (f = 8 → v < nT H) ∧ (f = 9 → v < nT H)
theorem pu_or (H : HH) (f i v g j : Nat) : (pu H f i v g j = v ∧ g = f ∧ j = i) ∨ pu H f i v g j = H g j := by
  by_cases c : g = f ∧ j = i
  · exact Or.inl ⟨by rw [pu_rd, if_pos c], c⟩
  · exact Or.inr (pu_n c)
theorem OKH.put {H : HH} {f i v : Nat} (ok : OKH H) (hf : f ≤ 9) (h : okV H f i v) : OKH (pu H f i v) := by
  obtain ⟨k0, k1, k2, k3, k4, k5, k6, k7, k8, k9⟩ := h
  have e10 : ∀ j, pu H f i v 10 j = H 10 j := fun j => pu_n (by omega)
  have n10 : nT (pu H f i v) = nT H ∧ nP (pu H f i v) = nP H ∧ nB (pu H f i v) = nB H := ⟨e10 0, e10 1, e10 2⟩
  obtain ⟨a1, a2, a3, a4, a5, a6⟩ := ok
  refine ⟨?_, ?_, ?_, ?_, ?_, ?_⟩
  · rw [n10.1]; exact a1
  · rw [n10.2.1]; exact a2
  · rw [n10.2.2]; exact a3
  · rw [n10.1]
    intro t ht
    obtain ⟨b0, b1, b2, b3, b4, b5, b6⟩ := a4 t ht
    refine ⟨?_, ?_, ?_, ?_, ?_, ?_, fun j hj => ?_⟩
    · rcases pu_or H f i v 0 t with ⟨e, z, _⟩ | e <;> rw [e]
      · exact k0 z.symm
      · exact b0
    · rcases pu_or H f i v 1 t with ⟨e, z, _⟩ | e <;> rw [e]
      · exact (k1 z.symm).1
      · exact b1
    · rcases pu_or H f i v 1 t with ⟨e, z, _⟩ | e <;> rw [e]
      · exact (k1 z.symm).2.1
      · exact b2
    · rcases pu_or H f i v 2 t with ⟨e, z, _⟩ | e <;> rw [e]
      · exact (k2 z.symm).1
      · exact b3
    · rcases pu_or H f i v 2 t with ⟨e, z, _⟩ | e <;> rw [e]
      · exact (k2 z.symm).2
      · exact b4
    · rcases pu_or H f i v 3 t with ⟨e, z, _⟩ | e <;> rw [e]
      · exact k3 z.symm
      · exact b5
    · rcases pu_or H f i v 4 (8 * t + j) with ⟨e, z, _⟩ | e <;> rw [e]
      · exact k4 z.symm
      · rcases pu_or H f i v 1 t with ⟨e2, z, rfl⟩ | e2 <;> rw [e2] at hj
        · exact (k1 z.symm).2.2 j hj
        · exact b6 j hj
  · rw [n10.2.1]
    intro p hp
    obtain ⟨b0, b1, b2, b3, b4⟩ := a5 p hp
    refine ⟨?_, ?_, ?_, ?_, ?_⟩
    · rcases pu_or H f i v 5 p with ⟨e, z, _⟩ | e <;> rw [e]
      · exact k5 z.symm
      · exact b0
    · rcases pu_or H f i v 6 p with ⟨e, z, _⟩ | e <;> rw [e]
      · exact (k6 z.symm).1
      · exact b1
    · rcases pu_or H f i v 6 p with ⟨e, z, _⟩ | e <;> rw [e]
      · exact (k6 z.symm).2
      · exact b2
    · rcases pu_or H f i v 7 p with ⟨e, z, _⟩ | e <;> rw [e]
      · exact k7 z.symm
      · exact b3
    · rw [n10.1]
      rcases pu_or H f i v 8 p with ⟨e, z, _⟩ | e <;> rw [e]
      · exact k8 z.symm
      · exact b4
  · rw [n10.2.2, n10.1]
    intro q hq
    rcases pu_or H f i v 9 q with ⟨e, z, _⟩ | e <;> rw [e]
    · exact k9 z.symm
    · exact a6 q hq
/-! what a change of the house leaves -/
def XK2 (x x' : DD) : Prop := ∀ a, a = 0 ∨ (33 < a ∧ a < 38) ∨ 47 < a → x' a = x a
def MK2 (m m' : DD) : Prop := (∀ j, j ≠ 29 → m' 0 j = m 0 j) ∧ (∀ j, 70 ≤ j → j < 210 → m' 1 j = m 1 j) ∧ ∀ a, a = 3 ∨ a = 4 ∨ a = 5 ∨ 11 < a → m' a = m a
theorem RelO.keep2 {H H' : HH} {x m x' m' : DD} (h : RelO H x m) (hx : XK2 x x') (hm : MK2 m m') (hH : ∀ j, H' 10 j = H 10 j) : RelO H' x' m' := by
  obtain ⟨h1, h2, h3, h4, h5, h6, h7, h8⟩ := h
  obtain ⟨k0, k1, k2⟩ := hm
  refine ⟨?_, ?_, fun k hk => ?_, fun k hk => ?_, ?_, ?_, ?_, ?_⟩
  · obtain ⟨n, a1, a2, a3, a4⟩ := h1
    exact ⟨n, a1, by rw [hx 36 (by omega)]; exact a2, by rw [k0 10 (by omega)]; exact a3, fun i hi => by rw [hx 37 (by omega), k2 3 (by omega)]; exact a4 i hi⟩
  · obtain ⟨n, a1, a2, a3, a4⟩ := h2
    exact ⟨n, a1, by rw [hx 0 (by omega)]; exact a2, by rw [k0 28 (by omega)]; exact a3, fun i hi => by rw [hx 49 (by omega), hx 50 (by omega), hx 51 (by omega), k2 12 (by omega)]; exact a4 i hi⟩
  · rcases h3 k hk with ⟨a1, a2⟩ | ⟨a1, a2, Hk, a3, a4, a5, a6⟩
    · exact Or.inl ⟨by rw [hx 35 (by omega)]; exact a1, by rw [k2 13 (by omega)]; exact a2⟩
    · exact Or.inr ⟨by rw [hx 35 (by omega)]; exact a1, by rw [k2 13 (by omega)]; exact a2, Hk, a3, fun j => (a4 j).trans (hH j).symm, a5.kept (fun a b1 b2 => hx a (by omega)), a6.kept (fun j b1 b2 => k0 j (by omega)) (fun j b1 b2 => k1 j (by omega) (by omega)) a3⟩
  · rcases h4 k hk with ⟨a1, a2⟩ | ⟨a1, l, n, a2, a3, a4, a5, a6, a7, a8⟩
    · exact Or.inl ⟨by rw [hx _ (by omega)]; exact a1, by rw [k2 14 (by omega)]; exact a2⟩
    · exact Or.inr ⟨by rw [hx _ (by omega)]; exact a1, l, n, a2, a3, by rw [hx _ (by omega)]; exact a4, by rw [k2 14 (by omega)]; exact a5, by rw [hx _ (by omega)]; exact a6, by rw [k2 15 (by omega)]; exact a7, fun i hi => by rw [hx _ (by omega), k2 16 (by omega)]; exact a8 i hi⟩
  · exact ⟨fun i hi => by rw [k2 4 (by omega)]; exact h5.1 i hi, fun i hi => by rw [k2 5 (by omega)]; exact h5.2 i hi⟩
  · rw [k0 26 (by omega)]; exact h6
  · rw [hx 36 (by omega), k0 11 (by omega)]; exact h7
  · rw [hx 0 (by omega), k0 34 (by omega)]; exact h8
/-- one number of the house is changed on both sides -/
theorem RelH.put {H : HH} {x m x' m' : DD} {f i v : Nat} (hR : RelH H x m) (hf : f ≤ 9) (hi : i < wo f) (hv : okV H f i v) (hs : f = 1 → i < nT H → ∀ j, j < v → x 6 (8 * i + j) = nI (H 4 (8 * i + j)) ∧ m 1 (16 + (8 * i + j)) = nI (H 4 (8 * i + j))) (ex : x' = up x (2 + f) i (nI v)) (em : m' = up m 1 (po f + i) (nI v)) : RelH (pu H f i v) x' m' := by
  obtain ⟨ok, hX, hM, hO⟩ := hR
  subst ex em
  have hpo : po f + i < 70 := by
    rcases f10t hf with ⟨e, p, w⟩ | ⟨e, p, w⟩ | ⟨e, p, w⟩ | ⟨e, p, w⟩ | ⟨e, p, w⟩ | ⟨e, p, w⟩ | ⟨e, p, w⟩ | ⟨e, p, w⟩ | ⟨e, p, w⟩ | ⟨e, p, w⟩ <;> rw [p] <;> rw [w] at hi <;> omega
  refine ⟨ok.put hf hv, ?_, ?_, hO.keep2 (fun a ha => up_ne a (by omega)) ⟨fun j hj => up_n (by omega), fun j h1 h2 => up_n (by omega), fun a ha => up_ne a (by omega)⟩ (fun j => pu_n (by omega))⟩
  · exact hX.put hf (fun e ht j hj => (hs e ht j hj).1)
  · have := hM.put (o := 0) ok hf hi (fun e => (hv.2.1 e).2.1) (fun e ht j hj => by rw [Nat.zero_add]; exact (hs e ht j hj).2)
    rw [Nat.zero_add] at this
    exact this
theorem two_chg {M1 M2 : MM} {As : List Value} {x m : DD} {H' : HH} (r : Int32) (x' m' : DD) (h : RelH H' x' m') (h1 : Cn SX M1 As x (rI fun r' d => r' = r ∧ d = x')) (h2 : Cn SM M2 As m (rI fun r' d => r' = r ∧ d = m')) : Two M1 M2 As x m := ⟨r, fun d => d = x', fun d => d = m', h1, h2, fun _ _ a b => by subst a b; exact h.rel⟩
