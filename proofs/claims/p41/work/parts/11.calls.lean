section
/-! ===== a number of the house is changed ===== -/
theorem XH.put {b f i v : Nat} {d : DD} {H : HH} (h : XH b d H) (hf : f ≤ 9) (hs : f = 1 → i < nT H → ∀ j, j < v → d (b + 5) (8 * i + j) = nI (H 4 (8 * i + j))) : XH b (up d (b + 1 + f) i (nI v)) (pu H f i v) := by
  obtain ⟨a1, a2, a3, a4, a5, a6⟩ := h
  have e10 : ∀ j, pu H f i v 10 j = H 10 j := fun j => pu_n (by omega)
  have n10 : nT (pu H f i v) = nT H ∧ nP (pu H f i v) = nP H ∧ nB (pu H f i v) = nB H := ⟨e10 0, e10 1, e10 2⟩
  have one : ∀ g j, d (b + 1 + g) j = nI (H g j) → up d (b + 1 + f) i (nI v) (b + 1 + g) j = nI (pu H f i v g j) := by
    intro g j e
    rw [up_rd, pu_rd]
    by_cases c : g = f ∧ j = i
    · rw [if_pos c, if_pos ⟨by rw [c.1], c.2⟩]
    · rw [if_neg c, if_neg (fun z => c ⟨by omega, z.2⟩)]; exact e
  refine ⟨?_, ?_, ?_, ?_, ?_, ?_⟩
  · rw [up_n (by omega), n10.1]; exact a1
  · rw [up_n (by omega), n10.2.1]; exact a2
  · rw [up_n (by omega), n10.2.2]; exact a3
  · rw [n10.1]
    intro t ht
    obtain ⟨b1, b2, b3, b4, b5⟩ := a4 t ht
    refine ⟨one 0 t b1, one 1 t b2, one 2 t b3, one 3 t b4, fun j hj => one 4 _ ?_⟩
    by_cases c : 1 = f ∧ t = i
    · obtain ⟨c1, rfl⟩ := c
      rw [pu_rd, if_pos ⟨c1, rfl⟩] at hj
      exact hs c1.symm ht j hj
    · rw [pu_n c] at hj
      exact b5 j hj
  · rw [n10.2.1]
    intro p hp
    obtain ⟨b1, b2, b3, b4⟩ := a5 p hp
    exact ⟨one 5 p b1, one 6 p b2, one 7 p b3, one 8 p b4⟩
  · rw [n10.2.2]
    intro q hq
    exact one 9 q (a6 q hq)
/-- the place of a number on the page -/
def po (f : Nat) : Nat := if f ≤ 4 then 4 * f else if f = 5 then 48 else if f = 6 then 52 else if f = 7 then 56 else if f = 8 then 60 else 64
def wo (f : Nat) : Nat := if f = 4 then 32 else if f = 9 then 6 else 4
theorem f10 {f : Nat} (h : f ≤ 9) : f = 0 ∨ f = 1 ∨ f = 2 ∨ f = 3 ∨ f = 4 ∨ f = 5 ∨ f = 6 ∨ f = 7 ∨ f = 8 ∨ f = 9 := by omega
theorem f10t {f : Nat} (h : f ≤ 9) : (f = 0 ∧ po f = 0 ∧ wo f = 4) ∨ (f = 1 ∧ po f = 4 ∧ wo f = 4) ∨ (f = 2 ∧ po f = 8 ∧ wo f = 4) ∨ (f = 3 ∧ po f = 12 ∧ wo f = 4) ∨ (f = 4 ∧ po f = 16 ∧ wo f = 32) ∨ (f = 5 ∧ po f = 48 ∧ wo f = 4) ∨ (f = 6 ∧ po f = 52 ∧ wo f = 4) ∨ (f = 7 ∧ po f = 56 ∧ wo f = 4) ∨ (f = 8 ∧ po f = 60 ∧ wo f = 4) ∨ (f = 9 ∧ po f = 64 ∧ wo f = 6) := by
  rcases f10 h with rfl | rfl | rfl | rfl | rfl | rfl | rfl | rfl | rfl | rfl <;> decide
theorem po_sep {f g i j : Nat} (hf : f ≤ 9) (hg : g ≤ 9) (hi : i < wo f) (hj : j < wo g) (h : ¬ (g = f ∧ j = i)) : po g + j ≠ po f + i := by
  rcases f10t hf with ⟨e, p, w⟩ | ⟨e, p, w⟩ | ⟨e, p, w⟩ | ⟨e, p, w⟩ | ⟨e, p, w⟩ | ⟨e, p, w⟩ | ⟨e, p, w⟩ | ⟨e, p, w⟩ | ⟨e, p, w⟩ | ⟨e, p, w⟩ <;> rcases f10t hg with ⟨e2, p2, w2⟩ | ⟨e2, p2, w2⟩ | ⟨e2, p2, w2⟩ | ⟨e2, p2, w2⟩ | ⟨e2, p2, w2⟩ | ⟨e2, p2, w2⟩ | ⟨e2, p2, w2⟩ | ⟨e2, p2, w2⟩ | ⟨e2, p2, w2⟩ | ⟨e2, p2, w2⟩ <;> rw [p, p2] <;> rw [w] at hi <;> rw [w2] at hj <;> omega
theorem MH.put {o f i v : Nat} {d : DD} {H : HH} (h : MH o d H) (ok : OKH H) (hf : f ≤ 9) (hi : i < wo f) (hv : f = 1 → v ≤ 8) (hs : f = 1 → i < nT H → ∀ j, j < v → d 1 (o + (16 + (8 * i + j))) = nI (H 4 (8 * i + j))) : MH o (up d 1 (o + (po f + i)) (nI v)) (pu H f i v) := by
  obtain ⟨a1, a2, a3, a4, a5, a6⟩ := h
  have o1 := ok.t4; have o2 := ok.p4; have o3 := ok.b6
  have e10 : ∀ j, pu H f i v 10 j = H 10 j := fun j => pu_n (by omega)
  have n10 : nT (pu H f i v) = nT H ∧ nP (pu H f i v) = nP H ∧ nB (pu H f i v) = nB H := ⟨e10 0, e10 1, e10 2⟩
  have one : ∀ g j, g ≤ 9 → j < wo g → d 1 (o + (po g + j)) = nI (H g j) → up d 1 (o + (po f + i)) (nI v) 1 (o + (po g + j)) = nI (pu H f i v g j) := by
    intro g j hg hj e
    rw [up_rd, pu_rd]
    by_cases c : g = f ∧ j = i
    · rw [if_pos c, if_pos ⟨rfl, by rw [c.1, c.2]⟩]
    · have := po_sep hf hg hi hj c
      rw [if_neg c, if_neg (by omega)]; exact e
  refine ⟨?_, ?_, ?_, ?_, ?_, ?_⟩
  · rw [up_n (by omega), n10.1]; exact a1
  · rw [up_n (by omega), n10.2.1]; exact a2
  · rw [up_n (by omega), n10.2.2]; exact a3
  · rw [n10.1]
    intro t ht
    have hn := (ok.tt ht).2.2.1
    obtain ⟨b1, b2, b3, b4, b5⟩ := a4 t ht
    refine ⟨?_, one 1 t (by omega) (show t < 4 by omega) b2, one 2 t (by omega) (show t < 4 by omega) b3, one 3 t (by omega) (show t < 4 by omega) b4, fun j hj => ?_⟩
    · have := one 0 t (by omega) (show t < 4 by omega) (by rw [show po 0 = 0 from rfl, Nat.zero_add]; exact b1)
      rw [show po 0 = 0 from rfl, Nat.zero_add] at this; exact this
    · by_cases c : 1 = f ∧ t = i
      · obtain ⟨c1, rfl⟩ := c
        rw [pu_rd, if_pos ⟨c1, rfl⟩] at hj
        have := hv c1.symm
        exact one 4 _ (by omega) (show 8 * t + j < 32 by omega) (hs c1.symm ht j hj)
      · rw [pu_n c] at hj
        exact one 4 _ (by omega) (show 8 * t + j < 32 by omega) (b5 j hj)
  · rw [n10.2.1]
    intro p hp
    obtain ⟨b1, b2, b3, b4⟩ := a5 p hp
    exact ⟨one 5 p (by omega) (show p < 4 by omega) b1, one 6 p (by omega) (show p < 4 by omega) b2, one 7 p (by omega) (show p < 4 by omega) b3, one 8 p (by omega) (show p < 4 by omega) b4⟩
  · rw [n10.2.2]
    intro q hq
    exact one 9 q (by omega) (show q < 6 by omega) (a6 q hq)
def okV (H : HH) (f i v : Nat) : Prop := (f = 0 → v ≤ 3) ∧ (f = 1 → 1 ≤ v ∧ v ≤ 8 ∧ ∀ j, j < v → H 4 (8 * i + j) ≤ 9) ∧ (f = 2 → 1 ≤ v ∧ v ≤ 9) ∧ (f = 3 → v ≤ 9) ∧ (f = 4 → v ≤ 9) ∧ (f = 5 → v ≤ 9) ∧ (f = 6 → 1 ≤ v ∧ v ≤ 99) ∧ (f = 7 → v ≤ 9) ∧ (f = 8 → v < nT H) ∧ (f = 9 → v < nT H)
theorem pu_or (H : HH) (f i v g j : Nat) : (pu H f i v g j = v ∧ g = f ∧ j = i) ∨ pu H f i v g j = H g j := by
  by_cases c : g = f ∧ j = i
  · exact Or.inl ⟨by rw [pu_rd, if_pos c], c⟩
  · exact Or.inr (pu_n c)
theorem OKH.put {H : HH} {f i v : Nat} (ok : OKH H) (hf : f ≤ 9) (h : okV H f i v) : OKH (pu H f i v) := by
  obtain ⟨k0, k1, k2, k3, k4, k5, k6, k7, k8, k9⟩ := h
  have e10 : ∀ j, pu H f i v 10 j = H 10 j := fun j => pu_n (by omega)
  have n10 : nT (pu H f i v) = nT H ∧ nP (pu H f i v) = nP H ∧ nB (pu H f i v) = nB H := ⟨e10 0, e10 1, e10 2⟩
  obtain ⟨a1, a2, a3, a4, a5, a6⟩ := ok
  refine ⟨?_, ?_, ?_, ?_, ?_, ?_⟩
  · rw [n10.1]; exact a1
  · rw [n10.2.1]; exact a2
  · rw [n10.2.2]; exact a3
  · rw [n10.1]
    intro t ht
    obtain ⟨b0, b1, b2, b3, b4, b5, b6⟩ := a4 t ht
    refine ⟨?_, ?_, ?_, ?_, ?_, ?_, fun j hj => ?_⟩
    · rcases pu_or H f i v 0 t with ⟨e, z, _⟩ | e <;> rw [e]
      · exact k0 z.symm
      · exact b0
    · rcases pu_or H f i v 1 t with ⟨e, z, _⟩ | e <;> rw [e]
      · exact (k1 z.symm).1
      · exact b1
    · rcases pu_or H f i v 1 t with ⟨e, z, _⟩ | e <;> rw [e]
      · exact (k1 z.symm).2.1
      · exact b2
    · rcases pu_or H f i v 2 t with ⟨e, z, _⟩ | e <;> rw [e]
      · exact (k2 z.symm).1
      · exact b3
    · rcases pu_or H f i v 2 t with ⟨e, z, _⟩ | e <;> rw [e]
      · exact (k2 z.symm).2
      · exact b4
    · rcases pu_or H f i v 3 t with ⟨e, z, _⟩ | e <;> rw [e]
      · exact k3 z.symm
      · exact b5
    · rcases pu_or H f i v 4 (8 * t + j) with ⟨e, z, _⟩ | e <;> rw [e]
      · exact k4 z.symm
      · rcases pu_or H f i v 1 t with ⟨e2, z, rfl⟩ | e2 <;> rw [e2] at hj
        · exact (k1 z.symm).2.2 j hj
        · exact b6 j hj
  · rw [n10.2.1]
    intro p hp
    obtain ⟨b0, b1, b2, b3, b4⟩ := a5 p hp
    refine ⟨?_, ?_, ?_, ?_, ?_⟩
    · rcases pu_or H f i v 5 p with ⟨e, z, _⟩ | e <;> rw [e]
      · exact k5 z.symm
      · exact b0
    · rcases pu_or H f i v 6 p with ⟨e, z, _⟩ | e <;> rw [e]
      · exact (k6 z.symm).1
      · exact b1
    · rcases pu_or H f i v 6 p with ⟨e, z, _⟩ | e <;> rw [e]
      · exact (k6 z.symm).2
      · exact b2
    · rcases pu_or H f i v 7 p with ⟨e, z, _⟩ | e <;> rw [e]
      · exact k7 z.symm
      · exact b3
    · rw [n10.1]
      rcases pu_or H f i v 8 p with ⟨e, z, _⟩ | e <;> rw [e]
      · exact k8 z.symm
      · exact b4
  · rw [n10.2.2, n10.1]
    intro q hq
    rcases pu_or H f i v 9 q with ⟨e, z, _⟩ | e <;> rw [e]
    · exact k9 z.symm
    · exact a6 q hq
/-! what a change of the house leaves -/
def XK2 (x x' : DD) : Prop := ∀ a, a = 0 ∨ (33 < a ∧ a < 38) ∨ 47 < a → x' a = x a
def MK2 (m m' : DD) : Prop := (∀ j, j ≠ 29 → m' 0 j = m 0 j) ∧ (∀ j, 70 ≤ j → j < 210 → m' 1 j = m 1 j) ∧ ∀ a, a = 3 ∨ a = 4 ∨ a = 5 ∨ 11 < a → m' a = m a
theorem RelO.keep2 {H H' : HH} {x m x' m' : DD} (h : RelO H x m) (hx : XK2 x x') (hm : MK2 m m') (hH : ∀ j, H' 10 j = H 10 j) : RelO H' x' m' := by
  obtain ⟨h1, h2, h3, h4, h5, h6, h7, h8⟩ := h
  obtain ⟨k0, k1, k2⟩ := hm
  refine ⟨?_, ?_, fun k hk => ?_, fun k hk => ?_, ?_, ?_, ?_, ?_⟩
  · obtain ⟨n, a1, a2, a3, a4⟩ := h1
    exact ⟨n, a1, by rw [hx 36 (by omega)]; exact a2, by rw [k0 10 (by omega)]; exact a3, fun i hi => by rw [hx 37 (by omega), k2 3 (by omega)]; exact a4 i hi⟩
  · obtain ⟨n, a1, a2, a3, a4⟩ := h2
    exact ⟨n, a1, by rw [hx 0 (by omega)]; exact a2, by rw [k0 28 (by omega)]; exact a3, fun i hi => by rw [hx 49 (by omega), hx 50 (by omega), hx 51 (by omega), k2 12 (by omega)]; exact a4 i hi⟩
  · rcases h3 k hk with ⟨a1, a2⟩ | ⟨a1, a2, Hk, a3, a4, a5, a6⟩
    · exact Or.inl ⟨by rw [hx 35 (by omega)]; exact a1, by rw [k2 13 (by omega)]; exact a2⟩
    · exact Or.inr ⟨by rw [hx 35 (by omega)]; exact a1, by rw [k2 13 (by omega)]; exact a2, Hk, a3, fun j => (a4 j).trans (hH j).symm, a5.kept (fun a b1 b2 => hx a (by omega)), a6.kept (fun j b1 b2 => k0 j (by omega)) (fun j b1 b2 => k1 j (by omega) (by omega)) a3⟩
  · rcases h4 k hk with ⟨a1, a2⟩ | ⟨a1, l, n, a2, a3, a4, a5, a6, a7, a8⟩
    · exact Or.inl ⟨by rw [hx _ (by omega)]; exact a1, by rw [k2 14 (by omega)]; exact a2⟩
    · exact Or.inr ⟨by rw [hx _ (by omega)]; exact a1, l, n, a2, a3, by rw [hx _ (by omega)]; exact a4, by rw [k2 14 (by omega)]; exact a5, by rw [hx _ (by omega)]; exact a6, by rw [k2 15 (by omega)]; exact a7, fun i hi => by rw [hx _ (by omega), k2 16 (by omega)]; exact a8 i hi⟩
  · exact ⟨fun i hi => by rw [k2 4 (by omega)]; exact h5.1 i hi, fun i hi => by rw [k2 5 (by omega)]; exact h5.2 i hi⟩
  · rw [k0 26 (by omega)]; exact h6
  · rw [hx 36 (by omega), k0 11 (by omega)]; exact h7
  · rw [hx 0 (by omega), k0 34 (by omega)]; exact h8
/-- one number of the house is changed on both sides -/
theorem RelH.put {H : HH} {x m x' m' : DD} {f i v : Nat} (hR : RelH H x m) (hf : f ≤ 9) (hi : i < wo f) (hv : okV H f i v) (hs : f = 1 → i < nT H → ∀ j, j < v → x 6 (8 * i + j) = nI (H 4 (8 * i + j)) ∧ m 1 (16 + (8 * i + j)) = nI (H 4 (8 * i + j))) (ex : x' = up x (2 + f) i (nI v)) (em : m' = up m 1 (po f + i) (nI v)) : RelH (pu H f i v) x' m' := by
  obtain ⟨ok, hX, hM, hO⟩ := hR
  subst ex em
  have hpo : po f + i < 70 := by
    rcases f10t hf with ⟨e, p, w⟩ | ⟨e, p, w⟩ | ⟨e, p, w⟩ | ⟨e, p, w⟩ | ⟨e, p, w⟩ | ⟨e, p, w⟩ | ⟨e, p, w⟩ | ⟨e, p, w⟩ | ⟨e, p, w⟩ | ⟨e, p, w⟩ <;> rw [p] <;> rw [w] at hi <;> omega
  refine ⟨ok.put hf hv, ?_, ?_, hO.keep2 (fun a ha => up_ne a (by omega)) ⟨fun j hj => up_n (by omega), fun j h1 h2 => up_n (by omega), fun a ha => up_ne a (by omega)⟩ (fun j => pu_n (by omega))⟩
  · exact hX.put hf (fun e ht j hj => (hs e ht j hj).1)
  · have := hM.put (o := 0) ok hf hi (fun e => (hv.2.1 e).2.1) (fun e ht j hj => by rw [Nat.zero_add]; exact (hs e ht j hj).2)
    rw [Nat.zero_add] at this
    exact this
theorem two_chg {M1 M2 : MM} {As : List Value} {x m : DD} {H' : HH} (r : Int32) (x' m' : DD) (h : RelH H' x' m') (h1 : Cn SX M1 As x (rI fun r' d => r' = r ∧ d = x')) (h2 : Cn SM M2 As m (rI fun r' d => r' = r ∧ d = m')) : Two M1 M2 As x m := ⟨r, fun d => d = x', fun d => d = m', h1, h2, fun _ _ a b => by subst a b; exact h.rel⟩
end
section
/-! ===== write, add, set, hire, bind ===== -/
theorem X_exch {q : Int32 → DD → Prop} {d : DD} {c n i : Nat} {v : Int32} (hc : SX[c]? = some (0, n, [])) (hi : i < n) (hn : n ≤ 1000) (h : q (d c i) (up d c i v)) : Cn SX MX4_exchange [.ref c, .int (nI i), .int v] d (rI q) := by
  refine cn_X4_exchange hc ⟨vp_in_nI hi (by omega), nm_e ⟨vp_in_nI hi (by omega), nm_e ?_⟩⟩
  rw [nI_clamp (by omega)]
  exact h
theorem M_puts_y {q : Int32 → DD → Prop} {d : DD} {i : Nat} {v : Int32} (hi : i < 350) (h : q (d 1 i) (up d 1 i v)) : Cn SM MX5_puts [.ref 0, .int 1, .int (nI i), .int v] d (rI q) := by
  refine cn_X5_puts (rr_f (by decide) ⟨vp_in_nI (by omega) (by omega), nm_e ⟨vp_in_nI (by omega) (by omega), nm_e ?_⟩⟩)
  rw [nI_clamp (by omega)]
  exact h
theorem M_puts_n {q : Int32 → DD → Prop} {d : DD} {i v : Int32} (h : q (-1) d) : Cn SM MX5_puts [.ref 0, .int 0, .int i, .int v] d (rI q) := cn_X5_puts (rr_t rfl h)
theorem M_any {q : Int32 → DD → Prop} {d : DD} {v lo hi : Int64} (h1 : q 1 d) (h0 : q 0 d) : Cn SM MX5_in [.long v, .long lo, .long hi] d (rI q) := M_inL (fun _ _ => h1) (fun _ => h0)
theorem ge1_of {n : Nat} {v : Int32} : (∃ j, 1 ≤ j ∧ j ≤ n ∧ v = nI j) ∨ ∀ j, 1 ≤ j → j ≤ n → v ≠ nI j := by
  by_cases h : ∃ j, 1 ≤ j ∧ j ≤ n ∧ v = nI j
  · exact Or.inl h
  · exact Or.inr (fun j h1 hj e => h ⟨j, h1, hj, e⟩)
theorem X_w1_y {q : Int32 → DD → Prop} {d : DD} {j n : Nat} (hn : n < 2 ^ 31) (h1 : 1 ≤ j) (hj : j ≤ n) (h : q 1 d) : Cn SX MX4_within [.int (nI j), .int 1, .int (nI n)] d (rI q) := by
  refine X_within (fun _ _ => h) (fun z => absurd ⟨?_, (nI_leI (by omega) hn).mpr hj⟩ z)
  rw [li_1]; exact (nI_leI (by omega) (by omega)).mpr h1
theorem X_w1_n {q : Int32 → DD → Prop} {d : DD} {v : Int32} {n : Nat} (hn : n < 2 ^ 31) (hz : ∀ j, 1 ≤ j → j ≤ n → v ≠ nI j) (h : q 0 d) : Cn SX MX4_within [.int v, .int 1, .int (nI n)] d (rI q) := by
  refine X_within (fun a b => ?_) (fun _ => h)
  obtain ⟨j, hj, rfl⟩ := nI_of (x := v) (fun c => by have := i_lt.mp c; have := i_le.mp a; rw [show ((1 : Int32)).toInt = 1 from rfl, show ((0 : Int32)).toInt = 0 from rfl] at *; omega)
  rw [li_1] at a
  exact absurd rfl (hz j ((nI_leI (by omega) (by omega)).mp a) ((nI_leI (by omega) hn).mp b))
theorem M_w1_y {q : Int32 → DD → Prop} {d : DD} {j n : Nat} (hn : n < 2 ^ 31) (h1 : 1 ≤ j) (hj : j ≤ n) (h : q 1 d) : Cn SM MX5_in [.long (nI j).toInt64, .long 1, .long (lN n)] d (rI q) := by
  refine M_inL (fun _ _ => h) (fun z => absurd ?_ z)
  rw [Int32.toInt_toInt64, lN_toInt hn, nI_toInt (by omega), show ((1 : Int64)).toInt = 1 from rfl]
  omega
theorem M_w1_n {q : Int32 → DD → Prop} {d : DD} {v : Int32} {n : Nat} (hn : n < 2 ^ 31) (hz : ∀ j, 1 ≤ j → j ≤ n → v ≠ nI j) (h : q 0 d) : Cn SM MX5_in [.long v.toInt64, .long 1, .long (lN n)] d (rI q) := by
  refine M_inL (fun a b => ?_) (fun _ => h)
  rw [Int32.toInt_toInt64] at a b
  rw [lN_toInt hn] at b
  rw [show ((1 : Int64)).toInt = 1 from rfl] at a
  obtain ⟨j, hj, rfl⟩ := nI_of (x := v) (fun c => by have := i_lt.mp c; rw [show ((0 : Int32)).toInt = 0 from rfl] at this; omega)
  rw [nI_toInt hj] at a b
  exact absurd rfl (hz j (by omega) (by omega))
theorem two_write {x m : DD} {H : HH} {p0 p1 p2 : Int32} (hR : RelH H x m) : Two MX4_write MX5_write [.ref 0, .int p0, .int p1, .int p2] x m := by
  obtain ⟨ok, hX, hM, hO⟩ := id hR
  have o4 := ok.t4
  by_cases c : ∃ t i, t < nT H ∧ i < H 1 t ∧ p0 = nI t ∧ p1 = nI i
  · obtain ⟨t, i, ht, hi, rfl, rfl⟩ := c
    have o8 := (ok.tt ht).2.2.1
    rcases ge_of (n := 10) (v := p2) (by omega) with ⟨v, hv, rfl⟩ | hz2
    · refine two_chg (nI (H 4 (8 * t + i))) _ _ (hR.put (f := 4) (i := 8 * t + i) (v := v) (by omega) (show 8 * t + i < 32 by omega) ⟨by simp, by simp, by simp, by simp, fun _ => (by omega), by simp, by simp, by simp, by simp, by simp⟩ (fun c => absurd c (by decide)) rfl rfl) (cn_X4_write (X_hasNote isH1 hX ok (fun t' i' _ _ _ _ => y1' (X_win_y (n := 9) (by omega) (by omega) (y1 ?_))) (fun z => (z t i ht hi rfl rfl).elim))) (cn_X5_write (M_isNote hM ok (fun t' i' _ _ _ _ => y1' (M_win_y (n := 9) (by omega) (by omega) (y1' (bk_X5_write_27 ?_)))) (fun z => (z t i ht hi rfl rfl).elim)))
      · rw [show nI t * 8 + nI i = nI (8 * t + i) from by rw [li_8, pk_mul, nI_add, Nat.mul_comm]]
        exact X_exch rfl (by omega) (by omega) ⟨hX.score ht hi, rfl⟩
      · rw [show 16 + (8 * nI t) + nI i = nI (16 + (8 * t + i)) from by rw [li_8, li_16, pk_mul, nI_add, nI_add, Nat.add_assoc]]
        exact M_puts_y (by omega) ⟨hM.score ht hi, rfl⟩
    · exact two_ask hR (-1) (cn_X4_write (X_hasNote isH1 hX ok (fun t' i' _ _ _ _ => y1' (X_win_n (n := 9) (by omega) hz2 (y0 ⟨rfl, XK.rf⟩))) (fun z => (z t i ht hi rfl rfl).elim))) (cn_X5_write (M_isNote hM ok (fun t' i' _ _ _ _ => y1' (M_win_n (n := 9) (by omega) hz2 (y0' (bk_X5_write_27 (M_puts_n ⟨rfl, MK.rf⟩))))) (fun z => (z t i ht hi rfl rfl).elim)))
  · exact two_ask hR (-1) (cn_X4_write (X_hasNote isH1 hX ok (fun t i h1 h2 h3 h4 => absurd ⟨t, i, h1, h2, h3, h4⟩ c) (fun _ => y0' ⟨rfl, XK.rf⟩))) (cn_X5_write (M_isNote hM ok (fun t i h1 h2 h3 h4 => absurd ⟨t, i, h1, h2, h3, h4⟩ c) (fun _ => y0' (bk_X5_write_27 (M_puts_n ⟨rfl, MK.rf⟩)))))
theorem two_bind {x m : DD} {H : HH} {p0 p1 : Int32} (hR : RelH H x m) : Two MX4_bind MX5_bind [.ref 0, .int p0, .int p1] x m := by
  obtain ⟨ok, hX, hM, hO⟩ := id hR
  have o4 := ok.t4
  have o6 := ok.b6
  rcases ge_of (n := nB H) (v := p0) (by omega) with ⟨p, hp, rfl⟩ | hz
  · rcases ge_of (n := nT H) (v := p1) (by omega) with ⟨t, ht, rfl⟩ | hz2
    · have hb := ok.bb hp
      by_cases c : H 9 p = t
      · refine two_ask hR (-2) (cn_X4_bind (cn_X0_rebind isH1 (X_hasPrisoner_y isH1 hX ok hp (y1' (X_hasTune_y isH1 hX ok ht (y1 ⟨vp_in_nI (by omega) (by omega), rr_t ?_ ⟨rfl, XK.rf⟩⟩)))))) (cn_X5_bind (cn_X5_binds (M_isBound_y hM ok hp (y1' (M_isTune_y hM ok ht (y1 ?_))))))
        · rw [nI_clamp (by omega), hX.bond hp, c]
        · rw [show (64 : Int32) + nI p = nI (64 + p) from nI_add 64 p]
          refine ⟨vp_in_nI (by omega) (by omega), rr_t ?_ ⟨rfl, MK.rf⟩⟩
          rw [nI_clamp (by omega), hM.bond hp, c]
      · have c' : ¬ nI (H 9 p) = nI t := fun z => c (nI_inj (by omega) (by omega) z)
        refine two_chg (nI (H 9 p)) _ _ (hR.put (f := 9) (i := p) (v := t) (by omega) (show p < 6 by omega) ⟨by simp, by simp, by simp, by simp, by simp, by simp, by simp, by simp, by simp, fun _ => ht⟩ (fun c => absurd c (by decide)) rfl rfl) (cn_X4_bind (cn_X0_rebind isH1 (X_hasPrisoner_y isH1 hX ok hp (y1' (X_hasTune_y isH1 hX ok ht (y1 ⟨vp_in_nI (by omega) (by omega), rr_f ?_ (X_exch rfl (by omega) (by omega) ⟨hX.bond hp, rfl⟩)⟩)))))) (cn_X5_bind (cn_X5_binds (M_isBound_y hM ok hp (y1' (M_isTune_y hM ok ht (y1 ?_))))))
        · rw [nI_clamp (by omega), hX.bond hp]; exact c'
        · rw [show (64 : Int32) + nI p = nI (64 + p) from nI_add 64 p]
          refine ⟨vp_in_nI (by omega) (by omega), rr_f ?_ (M_puts_y (by omega) ⟨hM.bond hp, rfl⟩)⟩
          rw [nI_clamp (by omega), hM.bond hp]; exact c'
    · exact two_ask hR (-1) (cn_X4_bind (cn_X0_rebind isH1 (X_hasPrisoner_y isH1 hX ok hp (y1' (X_hasTune_n isH1 hX ok hz2 (y0 ⟨rfl, XK.rf⟩)))))) (cn_X5_bind (cn_X5_binds (M_isBound_y hM ok hp (y1' (M_isTune_n hM ok hz2 (y0 ⟨rfl, MK.rf⟩))))))
  · exact two_ask hR (-1) (cn_X4_bind (cn_X0_rebind isH1 (X_hasPrisoner_n isH1 hX ok hz (y0' ⟨rfl, XK.rf⟩)))) (cn_X5_bind (cn_X5_binds (M_isBound_n hM ok hz (y0' ⟨rfl, MK.rf⟩))))
theorem M_set_no {q : Int32 → DD → Prop} {d : DD} {H : HH} {p0 p1 p2 : Int32} (hM : MH 0 d H) (ok : OKH H) (hz : ∀ j, j < nT H → p0 ≠ nI j) (h : q (-1) d) : Cn SM MX5_set [.ref 0, .int p0, .int p1, .int p2] d (rI q) := by
  have b : ∀ k0, Ev SM MX5_set 55 [.ref 0, .int p0, .int p1, .int p2, uJ] [.int k0] d (rI q) := fun k0 => bk_X5_set_55 (M_isTune_n hM ok hz (y0' (M_puts_n h)))
  exact cn_X5_set ⟨fun _ => ⟨fun _ => ⟨fun _ => b 0, fun _ => M_any (y1' (b 1)) (y0' (b 0))⟩, fun _ => M_any (b 1) (b 0)⟩, fun _ => M_any (b 1) (b 0)⟩
theorem M_set_b0 {q : Int32 → DD → Prop} {d : DD} {H : HH} {t : Nat} {p1 p2 : Int32} (hM : MH 0 d H) (ok : OKH H) (ht : t < nT H) (h : q (-1) d) : Ev SM MX5_set 55 [.ref 0, .int (nI t), .int p1, .int p2, uJ] [.int 0] d (rI q) := bk_X5_set_55 (M_isTune_y hM ok ht (y1' (br_t rfl (M_puts_n h))))
theorem M_set_b1 {q : Int32 → DD → Prop} {d : DD} {H : HH} {t w : Nat} {p2 : Int32} (hM : MH 0 d H) (ok : OKH H) (ht : t < nT H) (hw : w < 4) (h : q (d 1 (4 * w + t)) (up d 1 (4 * w + t) p2)) : Ev SM MX5_set 55 [.ref 0, .int (nI t), .int (nI w), .int p2, uJ] [.int 1] d (rI q) := by
  have o4 := ok.t4
  refine bk_X5_set_55 (M_isTune_y hM ok ht (y1' (br_f (by decide) ?_)))
  rw [show (4 : Int32) * nI w + nI t = nI (4 * w + t) from by rw [li_4, pk_mul, nI_add]]
  exact M_puts_y (by omega) h
theorem two_set {x m : DD} {H : HH} {p0 p1 p2 : Int32} (hR : RelH H x m) : Two MX4_set MX5_set [.ref 0, .int p0, .int p1, .int p2] x m := by
  obtain ⟨ok, hX, hM, hO⟩ := id hR
  have o4 := ok.t4
  rcases ge_of (n := nT H) (v := p0) (by omega) with ⟨t, ht, rfl⟩ | hz
  · by_cases c0 : p1 = 0
    · subst c0
      rcases ge_of (n := 4) (v := p2) (by omega) with ⟨v, hv, rfl⟩ | hz2
      · refine two_chg (nI (H 0 t)) _ _ (hR.put (f := 0) (i := t) (v := v) (by omega) (show t < 4 by omega) ⟨fun _ => (by omega), by simp, by simp, by simp, by simp, by simp, by simp, by simp, by simp, by simp⟩ (fun c => absurd c (by decide)) rfl rfl) (cn_X4_set (X_hasTune_y isH1 hX ok ht (y1 (br_t rfl (X_win_y (n := 3) (by omega) (by omega) (y1' (X_exch rfl (by omega) (by omega) ⟨hX.kind ht, rfl⟩))))))) (cn_X5_set (rr_t rfl (M_win_y (n := 3) (by omega) (by omega) (M_set_b1 (w := 0) hM ok ht (by omega) ?_))))
        rw [show 4 * 0 + t = t by omega]
        refine ⟨hM.kind ht, ?_⟩
        rw [show po 0 = 0 from rfl, Nat.zero_add]
      · exact two_ask hR (-1) (cn_X4_set (X_hasTune_y isH1 hX ok ht (y1 (br_t rfl (X_win_n (n := 3) (by omega) hz2 (y0' ⟨rfl, XK.rf⟩)))))) (cn_X5_set (rr_t rfl (M_win_n (n := 3) (by omega) hz2 (M_set_b0 hM ok ht ⟨rfl, MK.rf⟩))))
    · by_cases c1 : p1 = 1
      · subst c1
        exact two_ask hR (-1) (cn_X4_set (X_hasTune_y isH1 hX ok ht (y1 (br_f c0 (br_t rfl ⟨rfl, XK.rf⟩))))) (cn_X5_set (rr_f c0 (rr_f (by decide) (rr_f (by decide) (M_set_b0 hM ok ht ⟨rfl, MK.rf⟩)))))
      · by_cases c2 : p1 = 2
        · subst c2
          rcases ge1_of (n := 9) (v := p2) with ⟨v, hv1, hv, rfl⟩ | hz2
          · exact two_chg (nI (H 2 t)) _ _ (hR.put (f := 2) (i := t) (v := v) (by omega) (show t < 4 by omega) ⟨by simp, by simp, fun _ => ⟨hv1, hv⟩, by simp, by simp, by simp, by simp, by simp, by simp, by simp⟩ (fun c => absurd c (by decide)) rfl rfl) (cn_X4_set (X_hasTune_y isH1 hX ok ht (y1 (br_f c0 (br_f c1 (br_t rfl (X_w1_y (n := 9) (by omega) hv1 hv (y1' (X_exch rfl (by omega) (by omega) ⟨hX.times ht, rfl⟩))))))))) (cn_X5_set (rr_f c0 (rr_t rfl (M_w1_y (n := 9) (by omega) hv1 hv (M_set_b1 (w := 2) hM ok ht (by omega) ⟨hM.times ht, rfl⟩)))))
          · exact two_ask hR (-1) (cn_X4_set (X_hasTune_y isH1 hX ok ht (y1 (br_f c0 (br_f c1 (br_t rfl (X_w1_n (n := 9) (by omega) hz2 (y0' ⟨rfl, XK.rf⟩)))))))) (cn_X5_set (rr_f c0 (rr_t rfl (M_w1_n (n := 9) (by omega) hz2 (M_set_b0 hM ok ht ⟨rfl, MK.rf⟩)))))
        · by_cases c3 : p1 = 3
          · subst c3
            rcases ge_of (n := 10) (v := p2) (by omega) with ⟨v, hv, rfl⟩ | hz2
            · exact two_chg (nI (H 3 t)) _ _ (hR.put (f := 3) (i := t) (v := v) (by omega) (show t < 4 by omega) ⟨by simp, by simp, by simp, fun _ => (by omega), by simp, by simp, by simp, by simp, by simp, by simp⟩ (fun c => absurd c (by decide)) rfl rfl) (cn_X4_set (X_hasTune_y isH1 hX ok ht (y1 (br_f c0 (br_f c1 (br_f c2 (br_t rfl (X_win_y (n := 9) (by omega) (by omega) (y1' (X_exch rfl (by omega) (by omega) ⟨hX.start ht, rfl⟩)))))))))) (cn_X5_set (rr_f c0 (rr_f c2 (rr_t rfl (M_win_y (n := 9) (by omega) (by omega) (y1' (M_set_b1 (w := 3) hM ok ht (by omega) ⟨hM.start ht, rfl⟩)))))))
            · exact two_ask hR (-1) (cn_X4_set (X_hasTune_y isH1 hX ok ht (y1 (br_f c0 (br_f c1 (br_f c2 (br_t rfl (X_win_n (n := 9) (by omega) hz2 (y0' ⟨rfl, XK.rf⟩))))))))) (cn_X5_set (rr_f c0 (rr_f c2 (rr_t rfl (M_win_n (n := 9) (by omega) hz2 (y0' (M_set_b0 hM ok ht ⟨rfl, MK.rf⟩)))))))
          · exact two_ask hR (-1) (cn_X4_set (X_hasTune_y isH1 hX ok ht (y1 (br_f c0 (br_f c1 (br_f c2 (br_f c3 ⟨rfl, XK.rf⟩))))))) (cn_X5_set (rr_f c0 (rr_f c2 (rr_f c3 (M_set_b0 hM ok ht ⟨rfl, MK.rf⟩)))))
  · exact two_ask hR (-1) (cn_X4_set (X_hasTune_n isH1 hX ok hz (y0 ⟨rfl, XK.rf⟩))) (M_set_no hM ok hz ⟨rfl, MK.rf⟩)
end
section
/-! ===== hire, add ===== -/
theorem M_hire_b0 {q : Int32 → DD → Prop} {d : DD} {H : HH} {p0 p1 p2 : Int32} (hM : MH 0 d H) (ok : OKH H) (h : q (-1) d) : Ev SM MX5_hire 56 [.ref 0, .int p0, .int p1, .int p2, uJ] [.int 0] d (rI q) := bk_X5_hire_56 (M_isPlayer hM ok (fun _ _ _ => y1' (br_t rfl (bk_X5_hire_77 (M_puts_n h)))) (fun _ => y0' (bk_X5_hire_77 (M_puts_n h))))
theorem M_hire_bn {q : Int32 → DD → Prop} {d : DD} {H : HH} {p0 p1 p2 k0 : Int32} (hM : MH 0 d H) (ok : OKH H) (hz : ∀ j, j < nP H → p0 ≠ nI j) (h : q (-1) d) : Ev SM MX5_hire 56 [.ref 0, .int p0, .int p1, .int p2, uJ] [.int k0] d (rI q) := bk_X5_hire_56 (M_isPlayer_n hM ok hz (y0' (bk_X5_hire_77 (M_puts_n h))))
theorem M_hire_b1 {q : Int32 → DD → Prop} {d : DD} {H : HH} {p w : Nat} {p2 : Int32} (hM : MH 0 d H) (ok : OKH H) (hp : p < nP H) (hw : w < 4) (h : q (d 1 (48 + 4 * w + p)) (up d 1 (48 + 4 * w + p) p2)) : Ev SM MX5_hire 56 [.ref 0, .int (nI p), .int (nI w), .int p2, uJ] [.int 1] d (rI q) := by
  have o4 := ok.p4
  refine bk_X5_hire_56 (M_isPlayer_y hM ok hp (y1' (br_f (by decide) (bk_X5_hire_77 ?_))))
  rw [show (48 : Int32) + 4 * nI w + nI p = nI (48 + 4 * w + p) from by rw [li_4, li_48, pk_mul, nI_add, nI_add]]
  exact M_puts_y (by omega) h
theorem two_hire {x m : DD} {H : HH} {p0 p1 p2 : Int32} (hR : RelH H x m) : Two MX4_hire MX5_hire [.ref 0, .int p0, .int p1, .int p2] x m := by
  obtain ⟨ok, hX, hM, hO⟩ := id hR
  have o4 := ok.p4
  have t4 := ok.t4
  rcases ge_of (n := nP H) (v := p0) (by omega) with ⟨p, hp, rfl⟩ | hz
  · by_cases c0 : p1 = 0
    · subst c0
      rcases ge_of (n := 10) (v := p2) (by omega) with ⟨v, hv, rfl⟩ | hz2
      · exact two_chg (nI (H 5 p)) _ _ (hR.put (f := 5) (i := p) (v := v) (by omega) (show p < 4 by omega) ⟨by simp, by simp, by simp, by simp, by simp, fun _ => (by omega), by simp, by simp, by simp, by simp⟩ (fun c => absurd c (by decide)) rfl rfl) (cn_X4_hire (X_hasPlayer_y isH1 hX ok hp (y1 (br_t rfl (X_win_y (n := 9) (by omega) (by omega) (y1' (X_exch rfl (by omega) (by omega) ⟨hX.skill hp, rfl⟩))))))) (cn_X5_hire (rr_f (by decide) (rr_f (by decide) (br_t rfl (M_win_y (n := 9) (by omega) (by omega) (y1' (M_hire_b1 (w := 0) hM ok hp (by omega) ⟨hM.skill hp, rfl⟩)))))))
      · exact two_ask hR (-1) (cn_X4_hire (X_hasPlayer_y isH1 hX ok hp (y1 (br_t rfl (X_win_n (n := 9) (by omega) hz2 (y0' ⟨rfl, XK.rf⟩)))))) (cn_X5_hire (rr_f (by decide) (rr_f (by decide) (br_t rfl (M_win_n (n := 9) (by omega) hz2 (y0' (M_hire_b0 hM ok ⟨rfl, MK.rf⟩)))))))
    · by_cases c1 : p1 = 1
      · subst c1
        rcases ge1_of (n := 99) (v := p2) with ⟨v, hv1, hv, rfl⟩ | hz2
        · exact two_chg (nI (H 6 p)) _ _ (hR.put (f := 6) (i := p) (v := v) (by omega) (show p < 4 by omega) ⟨by simp, by simp, by simp, by simp, by simp, by simp, fun _ => ⟨hv1, hv⟩, by simp, by simp, by simp⟩ (fun c => absurd c (by decide)) rfl rfl) (cn_X4_hire (X_hasPlayer_y isH1 hX ok hp (y1 (br_f c0 (br_t rfl (X_w1_y (n := 99) (by omega) hv1 hv (y1' (X_exch rfl (by omega) (by omega) ⟨hX.breath hp, rfl⟩)))))))) (cn_X5_hire (rr_t rfl (M_w1_y (n := 99) (by omega) hv1 hv (M_hire_b1 (w := 1) hM ok hp (by omega) ⟨hM.breath hp, rfl⟩))))
        · exact two_ask hR (-1) (cn_X4_hire (X_hasPlayer_y isH1 hX ok hp (y1 (br_f c0 (br_t rfl (X_w1_n (n := 99) (by omega) hz2 (y0' ⟨rfl, XK.rf⟩))))))) (cn_X5_hire (rr_t rfl (M_w1_n (n := 99) (by omega) hz2 (M_hire_b0 hM ok ⟨rfl, MK.rf⟩))))
      · by_cases c2 : p1 = 2
        · subst c2
          rcases ge_of (n := 10) (v := p2) (by omega) with ⟨v, hv, rfl⟩ | hz2
          · exact two_chg (nI (H 7 p)) _ _ (hR.put (f := 7) (i := p) (v := v) (by omega) (show p < 4 by omega) ⟨by simp, by simp, by simp, by simp, by simp, by simp, by simp, fun _ => (by omega), by simp, by simp⟩ (fun c => absurd c (by decide)) rfl rfl) (cn_X4_hire (X_hasPlayer_y isH1 hX ok hp (y1 (br_f c0 (br_f c1 (br_t rfl (X_win_y (n := 9) (by omega) (by omega) (y1' (X_exch rfl (by omega) (by omega) ⟨hX.pay hp, rfl⟩))))))))) (cn_X5_hire (rr_f c1 (rr_f (by decide) (br_f c0 (rr_t rfl (M_win_y (n := 9) (by omega) (by omega) (y1' (M_hire_b1 (w := 2) hM ok hp (by omega) ⟨hM.pay hp, rfl⟩))))))))
          · exact two_ask hR (-1) (cn_X4_hire (X_hasPlayer_y isH1 hX ok hp (y1 (br_f c0 (br_f c1 (br_t rfl (X_win_n (n := 9) (by omega) hz2 (y0' ⟨rfl, XK.rf⟩)))))))) (cn_X5_hire (rr_f c1 (rr_f (by decide) (br_f c0 (rr_t rfl (M_win_n (n := 9) (by omega) hz2 (y0' (M_hire_b0 hM ok ⟨rfl, MK.rf⟩))))))))
        · by_cases c3 : p1 = 3
          · subst c3
            rcases ge_of (n := nT H) (v := p2) (by omega) with ⟨v, hv, rfl⟩ | hz2
            · exact two_chg (nI (H 8 p)) _ _ (hR.put (f := 8) (i := p) (v := v) (by omega) (show p < 4 by omega) ⟨by simp, by simp, by simp, by simp, by simp, by simp, by simp, by simp, fun _ => hv, by simp⟩ (fun c => absurd c (by decide)) rfl rfl) (cn_X4_hire (X_hasPlayer_y isH1 hX ok hp (y1 (br_f c0 (br_f c1 (br_f c2 (br_t rfl (X_hasTune_y isH1 hX ok hv (y1' (X_exch rfl (by omega) (by omega) ⟨hX.at hp, rfl⟩)))))))))) (cn_X5_hire (rr_f c1 (rr_t rfl (M_isTune_y hM ok hv (M_hire_b1 (w := 3) hM ok hp (by omega) ⟨hM.at hp, rfl⟩)))))
            · exact two_ask hR (-1) (cn_X4_hire (X_hasPlayer_y isH1 hX ok hp (y1 (br_f c0 (br_f c1 (br_f c2 (br_t rfl (X_hasTune_n isH1 hX ok hz2 (y0' ⟨rfl, XK.rf⟩))))))))) (cn_X5_hire (rr_f c1 (rr_t rfl (M_isTune_n hM ok hz2 (M_hire_b0 hM ok ⟨rfl, MK.rf⟩)))))
          · exact two_ask hR (-1) (cn_X4_hire (X_hasPlayer_y isH1 hX ok hp (y1 (br_f c0 (br_f c1 (br_f c2 (br_f c3 ⟨rfl, XK.rf⟩))))))) (cn_X5_hire (rr_f c1 (rr_f c3 (br_f c0 (rr_f c2 (M_hire_b0 hM ok ⟨rfl, MK.rf⟩))))))
  · have b : ∀ k0, Ev SM MX5_hire 56 [.ref 0, .int p0, .int p1, .int p2, uJ] [.int k0] m (rI fun r' d => r' = -1 ∧ MK m d) := fun k0 => M_hire_bn hM ok hz ⟨rfl, MK.rf⟩
    exact two_ask hR (-1) (cn_X4_hire (X_hasPlayer_n isH1 hX ok hz (y0 ⟨rfl, XK.rf⟩))) (cn_X5_hire ⟨fun _ => ⟨fun _ => ⟨fun _ => M_any (y1' (b 1)) (y0' (b 0)), fun _ => ⟨fun _ => b 0, fun _ => M_any (y1' (b 1)) (y0' (b 0))⟩⟩, fun _ => M_isTune hM ok (fun _ _ _ => b 1) (fun _ => b 0)⟩, fun _ => M_any (b 1) (b 0)⟩)
theorem two_add {x m : DD} {H : HH} {p0 p1 : Int32} (hR : RelH H x m) : Two MX4_add MX5_add [.ref 0, .int p0, .int p1] x m := by
  obtain ⟨ok, hX, hM, hO⟩ := id hR
  have o4 := ok.t4
  rcases ge_of (n := nT H) (v := p0) (by omega) with ⟨t, ht, rfl⟩ | hz
  · have ot := ok.tt ht
    have o8 := ot.2.2.1
    rcases ge_of (n := 10) (v := p1) (by omega) with ⟨v, hv, rfl⟩ | hz2
    · have mi : vp_in ((4 : Int32) + nI t) 350 := by rw [show (4 : Int32) + nI t = nI (4 + t) from nI_add 4 t]; exact vp_in_nI (by omega) (by omega)
      have me : ((4 : Int32) + nI t).toNatClampNeg = 4 + t := by rw [show (4 : Int32) + nI t = nI (4 + t) from nI_add 4 t, nI_clamp (by omega)]
      by_cases c : H 1 t = 8
      · refine two_ask hR (-3) (cn_X4_add (X_hasTune_y isH1 hX ok ht (y1' (X_win_y (n := 9) (by omega) (by omega) (y1 ⟨vp_in_nI (by omega) (by omega), nm_e (br_f ?_ ⟨rfl, XK.rf⟩)⟩))))) (cn_X5_add (M_isTune_y hM ok ht (y1' (M_win_y (n := 9) (by omega) (by omega) (y1 ⟨mi, rr_t ?_ ⟨rfl, MK.rf⟩⟩)))))
        · rw [nI_clamp (by omega), hX.notes ht, c]; decide
        · rw [me, hM.notes ht, c]; rfl
      · have h1 : RelH (pu H 4 (8 * t + H 1 t) v) (up x 6 (8 * t + H 1 t) (nI v)) (up m 1 (16 + (8 * t + H 1 t)) (nI v)) := hR.put (f := 4) (i := 8 * t + H 1 t) (v := v) (by omega) (show 8 * t + H 1 t < 32 by omega) ⟨by simp, by simp, by simp, by simp, fun _ => (by omega), by simp, by simp, by simp, by simp, by simp⟩ (fun c => absurd c (by decide)) rfl rfl
        have e1 : pu H 4 (8 * t + H 1 t) v 1 t = H 1 t := pu_n (by omega)
        have e4 : ∀ j, j < H 1 t + 1 → pu H 4 (8 * t + H 1 t) v 4 (8 * t + j) ≤ 9 := by
          intro j hj
          rw [pu_rd]; split
          · omega
          · exact ot.2.2.2.2.2.2 j (by omega)
        have sx : ∀ j, j < H 1 t + 1 → up x 6 (8 * t + H 1 t) (nI v) 6 (8 * t + j) = nI (pu H 4 (8 * t + H 1 t) v 4 (8 * t + j)) := by
          intro j hj
          rw [pu_rd, up_rd]
          by_cases z : j = H 1 t
          · subst z; rw [if_pos ⟨rfl, rfl⟩, if_pos ⟨rfl, rfl⟩]
          · rw [if_neg (by omega), if_neg (by omega)]; exact hX.score ht (by omega)
        have sm : ∀ j, j < H 1 t + 1 → up m 1 (16 + (8 * t + H 1 t)) (nI v) 1 (16 + (8 * t + j)) = nI (pu H 4 (8 * t + H 1 t) v 4 (8 * t + j)) := by
          intro j hj
          rw [pu_rd, up_rd]
          by_cases z : j = H 1 t
          · subst z; rw [if_pos ⟨rfl, rfl⟩, if_pos ⟨rfl, rfl⟩]
          · rw [if_neg (by omega), if_neg (by omega)]; exact hM.score ht (by omega)
        have h2 := h1.put (f := 1) (i := t) (v := H 1 t + 1) (by omega) (show t < 4 by omega) ⟨by simp, fun _ => ⟨(by omega), (by omega), e4⟩, by simp, by simp, by simp, by simp, by simp, by simp, by simp, by simp⟩ (fun _ _ j hj => ⟨sx j hj, sm j hj⟩) rfl rfl
        refine two_chg (nI (H 1 t + 1)) _ _ h2 (cn_X4_add (X_hasTune_y isH1 hX ok ht (y1' (X_win_y (n := 9) (by omega) (by omega) (y1 ⟨vp_in_nI (by omega) (by omega), nm_e (br_t ?_ ?_)⟩))))) (cn_X5_add (M_isTune_y hM ok ht (y1' (M_win_y (n := 9) (by omega) (by omega) (y1 ⟨mi, rr_f ?_ ⟨mi, ?_⟩⟩)))))
        · rw [nI_clamp (by omega), hX.notes ht, li_8]; exact (nI_ltI (by omega) (by omega)).mpr (by omega)
        · rw [nI_clamp (by omega), hX.notes ht, show nI t * 8 + nI (H 1 t) = nI (8 * t + H 1 t) from by rw [li_8, pk_mul, nI_add, Nat.mul_comm], nI_1]
          refine ⟨vp_in_nI (by omega) (by omega), nm_e ⟨vp_in_nI (by omega) (by omega), nm_e ⟨rfl, ?_⟩⟩⟩
          rw [nI_clamp (by omega)]
        · rw [me, hM.notes ht, li_8]; exact fun z => c (nI_inj (by omega) (by omega) z)
        · rw [me, hM.notes ht, show 16 + 8 * nI t + nI (H 1 t) = nI (16 + (8 * t + H 1 t)) from by rw [li_8, li_16, pk_mul, nI_add, nI_add, Nat.add_assoc]]
          refine ⟨vp_in_nI (by omega) (by omega), nm_e ⟨mi, mi, nm_e ⟨mi, ?_⟩⟩⟩
          have eh : up m 1 (16 + (8 * t + H 1 t)) (nI v) 1 (4 + t) = nI (H 1 t) := by rw [up_n (by omega), hM.notes ht]
          rw [nI_clamp (by omega)]
          simp only [me, up_s, eh, nI_1]
          exact ⟨trivial, rfl⟩
    · exact two_ask hR (-1) (cn_X4_add (X_hasTune_y isH1 hX ok ht (y1' (X_win_n (n := 9) (by omega) hz2 (y0 ⟨rfl, XK.rf⟩))))) (cn_X5_add (M_isTune_y hM ok ht (y1' (M_win_n (n := 9) (by omega) hz2 (y0 ⟨rfl, MK.rf⟩)))))
  · exact two_ask hR (-1) (cn_X4_add (X_hasTune_n isH1 hX ok hz (y0' ⟨rfl, XK.rf⟩))) (cn_X5_add (M_isTune_n hM ok hz (y0' ⟨rfl, MK.rf⟩)))
end
section
/-! ===== one part of what is kept is changed ===== -/
theorem RT.k {x m x' m' : DD} (h : RT x m) (h1 : x' 36 1 = x 36 1) (h2 : x' 37 = x 37) (h3 : m' 0 10 = m 0 10) (h4 : m' 3 = m 3) : RT x' m' := by
  obtain ⟨n, a1, a2, a3, a4⟩ := h
  exact ⟨n, a1, by rw [h1]; exact a2, by rw [h3]; exact a3, fun i hi => by rw [h2, h4]; exact a4 i hi⟩
theorem RSe.k {x m x' m' : DD} (h : RSe x m) (h0 : x' 0 11 = x 0 11) (h1 : x' 49 = x 49) (h2 : x' 50 = x 50) (h3 : x' 51 = x 51) (h4 : m' 0 28 = m 0 28) (h5 : m' 12 = m 12) : RSe x' m' := by
  obtain ⟨n, a1, a2, a3, a4⟩ := h
  exact ⟨n, a1, by rw [h0]; exact a2, by rw [h4]; exact a3, fun i hi => by rw [h1, h2, h3, h5]; exact a4 i hi⟩
theorem RIm.k {H : HH} {x m x' m' : DD} {k : Nat} (h : RIm H x m k) (h1 : x' 35 k = x 35 k) (h2 : ∀ a, 52 + 11 * k ≤ a → a ≤ 62 + 11 * k → x' a = x a) (h3 : m' 13 k = m 13 k) (h4 : ∀ j, 1 ≤ j → j ≤ 3 → m' 0 j = m 0 j) (h5 : ∀ j, 70 * (k + 1) ≤ j → j < 70 * (k + 1) + 70 → m' 1 j = m 1 j) : RIm H x' m' k := by
  rcases h with ⟨a1, a2⟩ | ⟨a1, a2, Hk, a3, a4, a5, a6⟩
  · exact Or.inl ⟨by rw [h1]; exact a1, by rw [h3]; exact a2⟩
  · exact Or.inr ⟨by rw [h1]; exact a1, by rw [h3]; exact a2, Hk, a3, a4, a5.kept (fun a b1 b2 => h2 a (by omega) (by omega)), a6.kept h4 (fun j b1 b2 => h5 j (by omega) (by omega)) a3⟩
theorem RSh.k {x m x' m' : DD} {k : Nat} (h : RSh x m k) (h1 : x' (74 + 2 * k) = x (74 + 2 * k)) (h2 : x' (75 + 2 * k) = x (75 + 2 * k)) (h3 : m' 14 k = m 14 k) (h4 : m' 15 k = m 15 k) (h5 : ∀ i, i < 40 → m' 16 (40 * k + i) = m 16 (40 * k + i)) : RSh x' m' k := by
  rcases h with ⟨a1, a2⟩ | ⟨a1, l, n, a2, a3, a4, a5, a6, a7, a8⟩
  · exact Or.inl ⟨by rw [h1]; exact a1, by rw [h3]; exact a2⟩
  · exact Or.inr ⟨by rw [h1]; exact a1, l, n, a2, a3, by rw [h1]; exact a4, by rw [h3]; exact a5, by rw [h1]; exact a6, by rw [h4]; exact a7, fun i hi => by rw [h2, h5 i (by omega)]; exact a8 i hi⟩
theorem RC.k {m m' : DD} (h : RC m) (h4 : m' 4 = m 4) (h5 : m' 5 = m 5) : RC m' := ⟨fun i hi => by rw [h4]; exact h.1 i hi, fun i hi => by rw [h5]; exact h.2 i hi⟩
theorem RelO.flt {H : HH} {x m : DD} (h : RelO H x m) : RF (x 36 2) (m 0 11) := h.2.2.2.2.2.2.1
theorem RelO.tr {H : HH} {x m : DD} (h : RelO H x m) : x 0 12 = m 0 34 := h.2.2.2.2.2.2.2
/-- the tape -/
theorem RelH.tape {H : HH} {x m x' m' : DD} (hR : RelH H x m) (hT : RT x' m') (hx : ∀ a, a ≠ 36 → a ≠ 37 → x' a = x a) (hx2 : RF (x' 36 2) (m' 0 11)) (hm : ∀ a, a ≠ 0 → a ≠ 3 → m' a = m a) (hm2 : ∀ j, 1 ≤ j ∧ j ≤ 3 ∨ 25 < j → m' 0 j = m 0 j) : RelH H x' m' := by
  obtain ⟨ok, hX, hM, b1, b2, b3, b4, b5, b6, b7, b8⟩ := hR
  refine ⟨ok, hX.kept (fun a _ _ => hx a (by omega) (by omega)), hM.kept (fun j _ _ => hm2 j (by omega)) (fun j _ _ => by rw [hm 1 (by omega) (by omega)]) ok, hT, b2.k (by rw [hx 0 (by omega) (by omega)]) (hx 49 (by omega) (by omega)) (hx 50 (by omega) (by omega)) (hx 51 (by omega) (by omega)) (hm2 28 (by omega)) (hm 12 (by omega) (by omega)), fun k hk => (b3 k hk).k (by rw [hx 35 (by omega) (by omega)]) (fun a _ _ => hx a (by omega) (by omega)) (by rw [hm 13 (by omega) (by omega)]) (fun j _ _ => hm2 j (by omega)) (fun j _ _ => by rw [hm 1 (by omega) (by omega)]), fun k hk => (b4 k hk).k (hx _ (by omega) (by omega)) (hx _ (by omega) (by omega)) (by rw [hm 14 (by omega) (by omega)]) (by rw [hm 15 (by omega) (by omega)]) (fun i _ => by rw [hm 16 (by omega) (by omega)]), b5.k (hm 4 (by omega) (by omega)) (hm 5 (by omega) (by omega)), ?_, hx2, ?_⟩
  · rw [hm2 26 (by omega)]; exact b6
  · rw [hx 0 (by omega) (by omega), hm2 34 (by omega)]; exact b8
/-- what was seen -/
theorem RelH.seen {H : HH} {x m x' m' : DD} (hR : RelH H x m) (hT : RSe x' m') (hx : ∀ a, a ≠ 0 → a ≠ 49 → a ≠ 50 → a ≠ 51 → x' a = x a) (hx2 : ∀ j, j ≠ 11 → x' 0 j = x 0 j) (hm : ∀ a, a ≠ 0 → a ≠ 12 → m' a = m a) (hm2 : ∀ j, j ≠ 28 → m' 0 j = m 0 j) : RelH H x' m' := by
  obtain ⟨ok, hX, hM, b1, b2, b3, b4, b5, b6, b7, b8⟩ := hR
  have hx' := fun a (h : (1 ≤ a ∧ a < 49) ∨ 51 < a) => hx a (by omega) (by omega) (by omega) (by omega)
  refine ⟨ok, hX.kept (fun a _ _ => hx' a (by omega)), hM.kept (fun j _ _ => hm2 j (by omega)) (fun j _ _ => by rw [hm 1 (by omega) (by omega)]) ok, b1.k (by rw [hx' 36 (by omega)]) (hx' 37 (by omega)) (hm2 10 (by omega)) (hm 3 (by omega) (by omega)), hT, fun k hk => (b3 k hk).k (by rw [hx' 35 (by omega)]) (fun a _ _ => hx' a (by omega)) (by rw [hm 13 (by omega) (by omega)]) (fun j _ _ => hm2 j (by omega)) (fun j _ _ => by rw [hm 1 (by omega) (by omega)]), fun k hk => (b4 k hk).k (hx' _ (by omega)) (hx' _ (by omega)) (by rw [hm 14 (by omega) (by omega)]) (by rw [hm 15 (by omega) (by omega)]) (fun i _ => by rw [hm 16 (by omega) (by omega)]), b5.k (hm 4 (by omega) (by omega)) (hm 5 (by omega) (by omega)), ?_, ?_, ?_⟩
  · rw [hm2 26 (by omega)]; exact b6
  · rw [hx' 36 (by omega), hm2 11 (by omega)]; exact b7
  · rw [hx2 12 (by omega), hm2 34 (by omega)]; exact b8
/-- a sheet -/
theorem RelH.sheet {H : HH} {x m x' m' : DD} {k : Nat} (hR : RelH H x m) (hk : k < 4) (hT : RSh x' m' k) (hx : ∀ a, a ≠ 74 + 2 * k → a ≠ 75 + 2 * k → x' a = x a) (hm : ∀ a, a ≠ 14 → a ≠ 15 → a ≠ 16 → m' a = m a) (h14 : ∀ j, j ≠ k → m' 14 j = m 14 j) (h15 : ∀ j, j ≠ k → m' 15 j = m 15 j) (h16 : ∀ j, j < 40 * k ∨ 40 * k + 40 ≤ j → m' 16 j = m 16 j) : RelH H x' m' := by
  obtain ⟨ok, hX, hM, b1, b2, b3, b4, b5, b6, b7, b8⟩ := hR
  have hx' := fun a (h : a < 74) => hx a (by omega) (by omega)
  have hm' := fun a (h : a < 14) => hm a (by omega) (by omega) (by omega)
  refine ⟨ok, hX.kept (fun a _ _ => hx' a (by omega)), hM.kept (fun j _ _ => by rw [hm' 0 (by omega)]) (fun j _ _ => by rw [hm' 1 (by omega)]) ok, b1.k (by rw [hx' 36 (by omega)]) (hx' 37 (by omega)) (by rw [hm' 0 (by omega)]) (hm' 3 (by omega)), b2.k (by rw [hx' 0 (by omega)]) (hx' 49 (by omega)) (hx' 50 (by omega)) (hx' 51 (by omega)) (by rw [hm' 0 (by omega)]) (hm' 12 (by omega)), fun i hi => (b3 i hi).k (by rw [hx' 35 (by omega)]) (fun a _ _ => hx' a (by omega)) (by rw [hm' 13 (by omega)]) (fun j _ _ => by rw [hm' 0 (by omega)]) (fun j _ _ => by rw [hm' 1 (by omega)]), fun i hi => ?_, b5.k (hm' 4 (by omega)) (hm' 5 (by omega)), ?_, ?_, ?_⟩
  · by_cases c : i = k
    · subst c; exact hT
    · exact (b4 i hi).k (hx _ (by omega) (by omega)) (hx _ (by omega) (by omega)) (h14 i c) (h15 i c) (fun j hj => h16 _ (by omega))
  · rw [hm' 0 (by omega)]; exact b6
  · rw [hx' 36 (by omega), hm' 0 (by omega)]; exact b7
  · rw [hx' 0 (by omega), hm' 0 (by omega)]; exact b8
theorem nI_64 {n : Nat} (h : n < 2 ^ 31) : (nI n).toInt64 = lN n := Int64.toInt_inj.mp (by rw [Int32.toInt_toInt64, nI_toInt h, lN_toInt h])
theorem two_feed {x m : DD} {H : HH} {p0 : Int32} (hR : RelH H x m) : Two MX4_feed MX5_feed [.ref 0, .int p0] x m := by
  obtain ⟨ok, hX, hM, hO⟩ := id hR
  obtain ⟨n, a1, a2, a3, a4⟩ := hO.1
  rcases ge_of (n := 128) (v := p0) (by omega) with ⟨c, hc, rfl⟩ | hz
  · by_cases f : n = 160
    · refine two_ask hR (-3) (cn_X4_feed (X_win_y (n := 127) (by omega) (by omega) (y1 (cn_X3_append (br_f ?_ ⟨rfl, XK.rf⟩))))) (cn_X5_feed (M_win_y (n := 127) (by omega) (by omega) (y1 (rr_t ?_ ⟨rfl, MK.rf⟩))))
      · rw [a2, f]; decide
      · rw [a3, f]; rfl
    · have hT : RT (up (up x 37 n (nI c)) 36 1 (nI (n + 1))) (up (up m 3 n (nI c)) 0 10 (nI (n + 1))) := by
        refine ⟨n + 1, (by omega), up_s, up_s, fun i hi => ?_⟩
        rw [up_ne 37 (by omega), up_ne 3 (by omega), up_rd, up_rd]
        by_cases z : i = n
        · rw [if_pos ⟨rfl, z⟩, if_pos ⟨rfl, z⟩]; exact ⟨rfl, c, (by omega), rfl⟩
        · rw [if_neg (by omega), if_neg (by omega)]; exact a4 i (by omega)
      have h2 := hR.tape hT (fun a _ _ => by rw [up_ne a (by omega), up_ne a (by omega)]) (by rw [up_n (by omega), up_n (by omega), up_n (by omega), up_n (by omega)]; exact hO.flt) (fun a _ _ => by rw [up_ne a (by omega), up_ne a (by omega)]) (fun j _ => by rw [up_n (by omega), up_n (by omega)])
      refine two_chg (nI (n + 1)) _ _ h2 (cn_X4_feed (X_win_y (n := 127) (by omega) (by omega) (y1 (cn_X3_append (br_t ?_ ?_))))) (cn_X5_feed (M_win_y (n := 127) (by omega) (by omega) (y1 (rr_f ?_ ?_))))
      · rw [a2, li_160]; exact (nI_ltI (by omega) (by omega)).mpr (by omega)
      · rw [a2, nI_clamp (by omega)]
        refine ⟨vp_in_nI (by omega) (by omega), nm_e (nm_e ?_)⟩
        rw [show up x 37 n (nI c) 36 1 = nI n from by rw [up_n (by omega)]; exact a2, nI_1]
        exact ⟨up_s, rfl⟩
      · rw [a3, li_160]; exact fun z => f (nI_inj (by omega) (by omega) z)
      · rw [a3, nI_clamp (by omega)]
        refine ⟨vp_in_nI (by omega) (by omega), nm_e (nm_e ?_)⟩
        rw [show up m 3 n (nI c) 0 10 = nI n from by rw [up_n (by omega)]; exact a3, nI_1]
        exact ⟨up_s, rfl⟩
  · exact two_ask hR (-1) (cn_X4_feed (X_win_n (n := 127) (by omega) hz (y0 ⟨rfl, XK.rf⟩))) (cn_X5_feed (M_win_n (n := 127) (by omega) hz (y0 ⟨rfl, MK.rf⟩)))
theorem two_end {x m : DD} {H : HH} {p0 : Int32} (hR : RelH H x m) : Two MX4_end MX5_end [.ref 0, .int p0] x m := by
  obtain ⟨ok, hX, hM, hO⟩ := id hR
  obtain ⟨n, a1, a2, a3, a4⟩ := hO.1
  rcases ge_of (n := n + 1) (v := p0) (by omega) with ⟨c, hc, rfl⟩ | hz
  · have hT : RT (up x 36 1 (nI c)) (up m 0 10 (nI c)) := ⟨c, (by omega), up_s, up_s, fun i hi => by rw [up_ne 37 (by omega), up_ne 3 (by omega)]; exact a4 i (by omega)⟩
    have h2 := hR.tape hT (fun a _ _ => up_ne a (by omega)) (by rw [up_n (by omega), up_n (by omega)]; exact hO.flt) (fun a _ _ => up_ne a (by omega)) (fun j _ => up_n (by omega))
    refine two_chg (nI n) _ _ h2 (cn_X4_end ?_) (cn_X5_end ?_)
    · rw [a2]; exact X_win_y (by omega) (by omega) (y1 (nm_e ⟨rfl, rfl⟩))
    · rw [a3, nI_64 (n := n) (by omega)]; exact M_win_y (n := n) (by omega) (by omega) (y1 (nm_e ⟨a3, rfl⟩))
  · refine two_ask hR (-1) (cn_X4_end ?_) (cn_X5_end ?_)
    · rw [a2]; exact X_win_n (by omega) hz (y0 ⟨rfl, XK.rf⟩)
    · rw [a3, nI_64 (n := n) (by omega)]; exact M_win_n (by omega) hz (y0 ⟨rfl, MK.rf⟩)
theorem two_forget {x m : DD} {H : HH} {p0 : Int32} (hR : RelH H x m) : Two MX4_forget MX5_forget [.ref 0, .int p0] x m := by
  obtain ⟨ok, hX, hM, hO⟩ := id hR
  obtain ⟨n, a1, a2, a3, a4⟩ := hO.2.1
  rcases ge_of (n := n + 1) (v := p0) (by omega) with ⟨c, hc, rfl⟩ | hz
  · have hT : RSe (up x 0 11 (nI c)) (up m 0 28 (nI c)) := ⟨c, (by omega), up_s, up_s, fun i hi => by rw [up_ne 49 (by omega), up_ne 50 (by omega), up_ne 51 (by omega), up_ne 12 (by omega)]; exact a4 i (by omega)⟩
    have h2 := hR.seen hT (fun a _ _ _ _ => up_ne a (by omega)) (fun j _ => up_n (by omega)) (fun a _ _ => up_ne a (by omega)) (fun j _ => up_n (by omega))
    refine two_chg (nI n) _ _ h2 (cn_X4_forget ?_) (cn_X5_forget ?_)
    · rw [a2]; exact X_win_y (by omega) (by omega) (y1 (nm_e ⟨rfl, rfl⟩))
    · rw [a3, nI_64 (n := n) (by omega)]; exact M_win_y (n := n) (by omega) (by omega) (y1 (nm_e ⟨a3, rfl⟩))
  · refine two_ask hR (-1) (cn_X4_forget ?_) (cn_X5_forget ?_)
    · rw [a2]; exact X_win_n (by omega) hz (y0 ⟨rfl, XK.rf⟩)
    · rw [a3, nI_64 (n := n) (by omega)]; exact M_win_n (by omega) hz (y0 ⟨rfl, MK.rf⟩)
end
section
/-! ===== see, sheet, lay ===== -/
theorem X_see_43 {x : DD} {n t c : Nat} {v : Int32} {q : Int32 → DD → Prop} (e : x 0 11 = nI n) (hn : n < 6) (h : q (nI (n + 1)) (up (up (up (up x 49 n (nI t)) 50 n (nI c)) 51 n v) 0 11 (nI (n + 1)))) : Ev SX MX4_see 43 [.ref 0, .int (nI t), .int (nI c), .int v, uJ] [.int 1] x (rI q) := by
  refine bk_X4_see_43 (y1 (br_t ?_ ?_))
  · rw [e, li_6]; exact (nI_ltI (by omega) (by omega)).mpr hn
  · have e1 : up x 49 n (nI t) 0 11 = nI n := by rw [up_ne 0 (by omega)]; exact e
    have e2 : up (up x 49 n (nI t)) 50 n (nI c) 0 11 = nI n := by rw [up_ne 0 (by omega)]; exact e1
    have e3 : up (up (up x 49 n (nI t)) 50 n (nI c)) 51 n v 0 11 = nI n := by rw [up_ne 0 (by omega)]; exact e2
    have i6 : vp_in (nI n) 6 := vp_in_nI (by omega) (by omega)
    rw [e, nI_clamp (by omega)]
    refine ⟨i6, nm_e ?_⟩
    rw [e1, nI_clamp (by omega)]
    refine ⟨i6, nm_e ?_⟩
    rw [e2, nI_clamp (by omega)]
    refine ⟨i6, nm_e (nm_e ?_)⟩
    rw [e3, nI_1, up_s]
    exact h
theorem M_see_35 {m : DD} {n t c : Nat} {v : Int32} {q : Int32 → DD → Prop} (e : m 0 28 = nI n) (hn : n < 6) (h : q (nI (n + 1)) (up (up (up (up m 12 (3 * n) (nI t)) 12 (3 * n + 1) (nI c)) 12 (3 * n + 2) v) 0 28 (nI (n + 1)))) : Ev SM MX5_see 35 [.ref 0, .int (nI t), .int (nI c), .int v] [] m (rI q) := by
  refine bk_X5_see_35 (rr_f ?_ ?_)
  · rw [e, li_6]; exact fun z => Nat.lt_irrefl _ (nI_inj (by omega) (by omega) z ▸ hn)
  · have e1 : up m 12 (3 * n) (nI t) 0 28 = nI n := by rw [up_ne 0 (by omega)]; exact e
    have e2 : up (up m 12 (3 * n) (nI t)) 12 (3 * n + 1) (nI c) 0 28 = nI n := by rw [up_ne 0 (by omega)]; exact e1
    have e3 : up (up (up m 12 (3 * n) (nI t)) 12 (3 * n + 1) (nI c)) 12 (3 * n + 2) v 0 28 = nI n := by rw [up_ne 0 (by omega)]; exact e2
    have f1 : (3 : Int32) * nI n = nI (3 * n) := by rw [li_3, pk_mul]
    rw [e, f1, nI_clamp (by omega)]
    refine ⟨vp_in_nI (by omega) (by omega), nm_e ?_⟩
    rw [e1, f1, nI_1, nI_clamp (by omega)]
    refine ⟨vp_in_nI (by omega) (by omega), nm_e ?_⟩
    rw [e2, f1, show nI (3 * n) + 2 = nI (3 * n + 2) from nI_add _ 2, nI_clamp (by omega)]
    refine ⟨vp_in_nI (by omega) (by omega), nm_e (nm_e ?_)⟩
    rw [e3, nI_1, up_s]
    exact h
theorem see_put {x m : DD} {H : HH} {n t c : Nat} {v : Int32} (hR : RelH H x m) (hn : n < 6) (hc : c < 160) (a4 : ∀ i, i < n → x 49 i = m 12 (3 * i) ∧ x 50 i = m 12 (3 * i + 1) ∧ x 51 i = m 12 (3 * i + 2) ∧ ∃ c, c < 160 ∧ x 50 i = nI c) : RelH H (up (up (up (up x 49 n (nI t)) 50 n (nI c)) 51 n v) 0 11 (nI (n + 1))) (up (up (up (up m 12 (3 * n) (nI t)) 12 (3 * n + 1) (nI c)) 12 (3 * n + 2) v) 0 28 (nI (n + 1))) := by
  refine hR.seen ⟨n + 1, (by omega), up_s, up_s, fun i hi => ?_⟩ (fun a _ _ _ _ => by rw [up_ne a (by omega), up_ne a (by omega), up_ne a (by omega), up_ne a (by omega)]) (fun j _ => by rw [up_n (by omega), up_n (by omega), up_n (by omega), up_n (by omega)]) (fun a _ _ => by rw [up_ne a (by omega), up_ne a (by omega), up_ne a (by omega), up_ne a (by omega)]) (fun j _ => by rw [up_n (by omega), up_n (by omega), up_n (by omega), up_n (by omega)])
  by_cases z : i = n
  · subst z
    refine ⟨?_, ?_, ?_, c, hc, ?_⟩
    · rw [up_n (by omega), up_n (by omega), up_n (by omega), up_s, up_n (by omega), up_n (by omega), up_n (by omega), up_s]
    · rw [up_n (by omega), up_n (by omega), up_s, up_n (by omega), up_n (by omega), up_s]
    · rw [up_n (by omega), up_s, up_n (by omega), up_s]
    · rw [up_n (by omega), up_n (by omega), up_s]
  · obtain ⟨b1, b2, b3, c', b4, b5⟩ := a4 i (by omega)
    refine ⟨?_, ?_, ?_, c', b4, ?_⟩
    · rw [up_n (by omega), up_n (by omega), up_n (by omega), up_n (by omega), up_n (by omega), up_n (by omega), up_n (by omega), up_n (by omega)]; exact b1
    · rw [up_n (by omega), up_n (by omega), up_n (by omega), up_n (by omega), up_n (by omega), up_n (by omega), up_n (by omega), up_n (by omega)]; exact b2
    · rw [up_n (by omega), up_n (by omega), up_n (by omega), up_n (by omega), up_n (by omega), up_n (by omega), up_n (by omega), up_n (by omega)]; exact b3
    · rw [up_n (by omega), up_n (by omega), up_n (by omega), up_n (by omega)]; exact b5
theorem two_see {x m : DD} {H : HH} {p0 p1 p2 : Int32} (hR : RelH H x m) : Two MX4_see MX5_see [.ref 0, .int p0, .int p1, .int p2] x m := by
  obtain ⟨ok, hX, hM, hO⟩ := id hR
  have o4 := ok.t4
  obtain ⟨n, a1, a2, a3, a4⟩ := hO.2.1
  rcases ge_of (n := nT H) (v := p0) (by omega) with ⟨t, ht, rfl⟩ | hz
  · rcases ge_of (n := 160) (v := p1) (by omega) with ⟨c, hc, rfl⟩ | hz2
    · have fin : ∀ v : Int32, p2 = v → (∀ (q : Int32 → DD → Prop), Ev SX MX4_see 43 [.ref 0, .int (nI t), .int (nI c), .int v, uJ] [.int 1] x (rI q) → Cn SX MX4_see [.ref 0, .int (nI t), .int (nI c), .int v] x (rI q)) → (∀ (q : Int32 → DD → Prop), Ev SM MX5_see 35 [.ref 0, .int (nI t), .int (nI c), .int v] [] m (rI q) → Cn SM MX5_see [.ref 0, .int (nI t), .int (nI c), .int v] m (rI q)) → Two MX4_see MX5_see [.ref 0, .int (nI t), .int (nI c), .int v] x m := by
        intro v _ g1 g2
        by_cases f : n = 6
        · refine two_ask hR (-3) (g1 _ (bk_X4_see_43 (y1 (br_f ?_ ⟨rfl, XK.rf⟩)))) (g2 _ (bk_X5_see_35 (rr_t ?_ ⟨rfl, MK.rf⟩)))
          · rw [a2, f]; decide
          · rw [a3, f]; rfl
        · exact two_chg (nI (n + 1)) _ _ (see_put hR (by omega) hc a4) (g1 _ (X_see_43 a2 (by omega) ⟨rfl, rfl⟩)) (g2 _ (M_see_35 a3 (by omega) ⟨rfl, rfl⟩))
      by_cases c4 : p2 = -4
      · subst c4
        exact fin (-4) rfl (fun q h => cn_X4_see (X_hasTune_y isH1 hX ok ht (y1' (X_win_y (n := 159) (by omega) (by omega) (y1' (br_t rfl h)))))) (fun q h => cn_X5_see (M_isTune_y hM ok ht (y1' (M_isMinute_y hc (y1' (br_t rfl h))))))
      · rcases ge_of (n := 10) (v := p2) (by omega) with ⟨v, hv, rfl⟩ | hz3
        · exact fin (nI v) rfl (fun q h => cn_X4_see (X_hasTune_y isH1 hX ok ht (y1' (X_win_y (n := 159) (by omega) (by omega) (y1' (br_f c4 (X_win_y (n := 9) (by omega) (by omega) (y1' h)))))))) (fun q h => cn_X5_see (M_isTune_y hM ok ht (y1' (M_isMinute_y hc (y1' (br_f c4 (M_win_y (n := 9) (by omega) (by omega) (y1 h))))))))
        · exact two_ask hR (-1) (cn_X4_see (X_hasTune_y isH1 hX ok ht (y1' (X_win_y (n := 159) (by omega) (by omega) (y1' (br_f c4 (X_win_n (n := 9) (by omega) hz3 (y0' (bk_X4_see_43 (y0 ⟨rfl, XK.rf⟩)))))))))) (cn_X5_see (M_isTune_y hM ok ht (y1' (M_isMinute_y hc (y1' (br_f c4 (M_win_n (n := 9) (by omega) hz3 (y0 ⟨rfl, MK.rf⟩))))))))
    · exact two_ask hR (-1) (cn_X4_see (X_hasTune_y isH1 hX ok ht (y1' (X_win_n (n := 159) (by omega) hz2 (y0' (bk_X4_see_43 (y0 ⟨rfl, XK.rf⟩))))))) (cn_X5_see (M_isTune_y hM ok ht (y1' (M_isMinute_n hz2 (y0' ⟨rfl, MK.rf⟩)))))
  · exact two_ask hR (-1) (cn_X4_see (X_hasTune_n isH1 hX ok hz (y0' (bk_X4_see_43 (y0 ⟨rfl, XK.rf⟩))))) (cn_X5_see (M_isTune_n hM ok hz (y0' ⟨rfl, MK.rf⟩)))
end
section
/-! ===== sheet, lay ===== -/
theorem X_renew {q : DD → Prop} {d : DD} {b : Nat} {l : Int32} {n : Int32} (Hb : isSh b) (h : ∀ d', (∀ a, a ≠ b → a ≠ b + 1 → d' a = d a) → d' b 0 = 1 → d' b 1 = l → d' b 2 = n → (∀ i, i < 40 → d' (b + 1) i = 0) → q d') : Cn SX MX2_renew [.ref b, .int l, .int n] d (rV q) := by
  refine cn_X2_renew Hb (nm_e (nm_e (nm_e ?_)))
  rw [li_0]
  refine for_up (W := fun k d' => Ev SX MX2_renew 17 [.ref b, .int l, .int n, .int (nI k)] [] d' (rV q)) (I := fun k d' => (∀ a, a ≠ b → a ≠ b + 1 → d' a = d a) ∧ d' b 0 = 1 ∧ d' b 1 = l ∧ d' b 2 = n ∧ ∀ i, i < k → d' (b + 1) i = 0) 40 ?_ ?_ 0 _ (Nat.zero_le _) ⟨fun a h1 h2 => by rw [up_ne a (by omega), up_ne a (by omega), up_ne a (by omega)], by rw [up_n (by omega), up_n (by omega), up_s], by rw [up_n (by omega), up_s], up_s, fun i hi => absurd hi (Nat.not_lt_zero i)⟩
  · rintro d' ⟨b1, b2, b3, b4, b5⟩
    exact bk_X2_renew_17 Hb ⟨fun _ => h d' b1 b2 b3 b4 b5, fun c => absurd (show (40 : Int32) ≤ nI 40 from by decide) c⟩
  · rintro k d' hk ⟨b1, b2, b3, b4, b5⟩ ih
    refine bk_X2_renew_17 Hb ⟨fun c => ?_, fun _ => ⟨vp_in_nI (by omega) (by omega), nm_e ?_⟩⟩
    · rw [li_40] at c; exact absurd ((nI_leI (by omega) (by omega)).mp c) (by omega)
    · rw [nI_clamp (by omega), nI_1]
      refine ih _ ⟨fun a h1 h2 => by rw [up_ne a (by omega)]; exact b1 a h1 h2, by rw [up_n (by omega)]; exact b2, by rw [up_n (by omega)]; exact b3, by rw [up_n (by omega)]; exact b4, fun i hi => ?_⟩
      rw [up_rd]; split
      · rfl
      · exact b5 i (by omega)
theorem M_sheet_56 {q : Int32 → DD → Prop} {d : DD} {k : Nat} {l n : Int32} (hk : k < 4) (h : ∀ d', (∀ a, a ≠ 16 → d' a = d a) → (∀ j, j < 40 * k ∨ 40 * k + 40 ≤ j → d' 16 j = d 16 j) → (∀ i, i < 40 → d' 16 (40 * k + i) = 0) → q 1 d') : Ev SM MX5_sheet 56 [.ref 0, .int (nI k), .int l, .int n, .int (nI 0)] [] d (rI q) := by
  refine for_up (W := fun i d' => Ev SM MX5_sheet 56 [.ref 0, .int (nI k), .int l, .int n, .int (nI i)] [] d' (rI q)) (I := fun i d' => (∀ a, a ≠ 16 → d' a = d a) ∧ (∀ j, j < 40 * k ∨ 40 * k + 40 ≤ j → d' 16 j = d 16 j) ∧ ∀ j, j < i → d' 16 (40 * k + j) = 0) 40 ?_ ?_ 0 d (Nat.zero_le _) ⟨fun _ _ => rfl, fun _ _ => rfl, fun i hi => absurd hi (Nat.not_lt_zero i)⟩
  · rintro d' ⟨b1, b2, b3⟩
    exact bk_X5_sheet_56 ⟨fun _ => h d' b1 b2 b3, fun c => absurd (show (40 : Int32) ≤ nI 40 from by decide) c⟩
  · rintro i d' hi ⟨b1, b2, b3⟩ ih
    refine bk_X5_sheet_56 ⟨fun c => ?_, fun _ => ?_⟩
    · rw [li_40] at c; exact absurd ((nI_leI (by omega) (by omega)).mp c) (by omega)
    · rw [show (40 : Int32) * nI k + nI i = nI (40 * k + i) from by rw [li_40, pk_mul, nI_add]]
      refine ⟨vp_in_nI (by omega) (by omega), nm_e ?_⟩
      rw [nI_clamp (by omega), nI_1]
      refine ih _ ⟨fun a h1 => by rw [up_ne a (by omega)]; exact b1 a h1, fun j hj => by rw [up_n (by omega)]; exact b2 j hj, fun j hj => ?_⟩
      rw [up_rd]; split
      · rfl
      · exact b3 j (by omega)
theorem shB_n {k : Nat} (hk : k < 4) : shB (nI k) = 74 + 2 * k := by unfold shB; rw [nI_clamp (by omega)]
theorem sgn_or (v : Int32) : (∃ n, n < 2 ^ 31 ∧ v = nI n ∧ 0 ≤ v) ∨ ¬ 0 ≤ v := by
  by_cases c : 0 ≤ v
  · obtain ⟨n, hn, e⟩ := nI_of (x := v) (fun z => by have := i_lt.mp z; have := i_le.mp c; omega)
    exact Or.inl ⟨n, hn, e, c⟩
  · exact Or.inr c
theorem two_sheet {x m : DD} {H : HH} {p0 p1 p2 : Int32} (hR : RelH H x m) : Two MX4_sheet MX5_sheet [.ref 0, .int p0, .int p1, .int p2] x m := by
  obtain ⟨ok, hX, hM, hO⟩ := id hR
  rcases ge_of (n := 4) (v := p0) (by omega) with ⟨k, hk, rfl⟩ | hz
  · rcases ge_of (n := 3) (v := p1) (by omega) with ⟨l, hl, rfl⟩ | hz2
    · have i4 : vp_in (nI k) 4 := vp_in_nI (by omega) (by omega)
      by_cases c : p2 ≤ 40
      · rcases sgn_or p2 with ⟨n, hn, rfl, hs⟩ | hs
        · have hn40 : n ≤ 40 := (nI_leI hn (by omega)).mp c
          refine ⟨1, fun d => (∀ a, a ≠ 74 + 2 * k → a ≠ 75 + 2 * k → d a = x a) ∧ d (74 + 2 * k) 0 = 1 ∧ d (74 + 2 * k) 1 = nI l ∧ d (74 + 2 * k) 2 = nI n ∧ ∀ i, i < 40 → d (75 + 2 * k) i = 0, fun d => (∀ a, a ≠ 14 → a ≠ 15 → a ≠ 16 → d a = m a) ∧ d 14 = up m 14 k (nI l) 14 ∧ d 15 = up m 15 k (nI n) 15 ∧ (∀ j, j < 40 * k ∨ 40 * k + 40 ≤ j → d 16 j = m 16 j) ∧ ∀ i, i < 40 → d 16 (40 * k + i) = 0, cn_X4_sheet (X_win_y (n := 3) (by omega) (by omega) (y1' (X_win_y (n := 2) (by omega) (by omega) (y1' (br_t c (br_t hs ⟨i4, fun b9 hb9 e => ?_⟩)))))), cn_X5_sheet (M_win_y (n := 3) (by omega) (by omega) (y1' (M_win_y (n := 2) (by omega) (by omega) (y1' (br_t c (br_t hs ⟨i4, nm_e ⟨i4, nm_e ?_⟩⟩)))))), ?_⟩
          · rw [shB_n hk] at e
            subst e
            exact X_renew hb9 fun d' g1 g2 g3 g4 g5 => ⟨rfl, fun a h1 h2 => g1 a h1 (by omega), g2, g3, g4, fun i hi => by rw [show 75 + 2 * k = 74 + 2 * k + 1 by omega]; exact g5 i hi⟩
          · rw [nI_clamp (by omega)]
            exact M_sheet_56 hk fun d' g1 g2 g3 => ⟨rfl, fun a h1 h2 h3 => by rw [g1 a h3, up_ne a h2, up_ne a h1], by rw [g1 14 (by omega), up_ne 14 (by omega)], by
              rw [g1 15 (by omega)]; funext j
              by_cases z : j = k
              · subst z; rw [up_s, up_s]
              · rw [up_n (by omega), up_n (by omega), up_n (by omega)], fun j hj => by rw [g2 j hj, up_ne 16 (by omega), up_ne 16 (by omega)], g3⟩
          · rintro d d' ⟨a1, a2, a3, a4, a5⟩ ⟨b1, b2, b3, b4, b5⟩
            refine (hR.sheet hk (Or.inr ⟨a2, l, n, (by omega), hn40, a3, by rw [b2, up_s], a4, by rw [b3, up_s], fun i hi => by rw [a5 i (by omega), b5 i (by omega)]⟩) a1 b1 (fun j hj => by rw [b2, up_n (by omega)]) (fun j hj => by rw [b3, up_n (by omega)]) b4).rel
        · exact two_ask hR (-14) (cn_X4_sheet (X_win_y (n := 3) (by omega) (by omega) (y1' (X_win_y (n := 2) (by omega) (by omega) (y1' (br_t c (br_f hs ⟨rfl, XK.rf⟩))))))) (cn_X5_sheet (M_win_y (n := 3) (by omega) (by omega) (y1' (M_win_y (n := 2) (by omega) (by omega) (y1' (br_t c (br_f hs ⟨rfl, MK.rf⟩)))))))
      · exact two_ask hR (-1) (cn_X4_sheet (X_win_y (n := 3) (by omega) (by omega) (y1' (X_win_y (n := 2) (by omega) (by omega) (y1' (br_f c ⟨rfl, XK.rf⟩)))))) (cn_X5_sheet (M_win_y (n := 3) (by omega) (by omega) (y1' (M_win_y (n := 2) (by omega) (by omega) (y1' (br_f c ⟨rfl, MK.rf⟩))))))
    · exact two_ask hR (-1) (cn_X4_sheet (X_win_y (n := 3) (by omega) (by omega) (y1' (X_win_n (n := 2) (by omega) hz2 (y0' ⟨rfl, XK.rf⟩))))) (cn_X5_sheet (M_win_y (n := 3) (by omega) (by omega) (y1' (M_win_n (n := 2) (by omega) hz2 (y0' ⟨rfl, MK.rf⟩)))))
  · exact two_ask hR (-1) (cn_X4_sheet (X_win_n (n := 3) (by omega) hz (y0' ⟨rfl, XK.rf⟩))) (cn_X5_sheet (M_win_n (n := 3) (by omega) hz (y0' ⟨rfl, MK.rf⟩)))
theorem nar8 (v : Int32) : v.toInt8.toInt32 = (v <<< ((24 : Int32) &&& 31)) >>> ((24 : Int32) &&& 31) := by
  refine b_ext fun i hi => ?_
  rw [show ((24 : Int32) &&& 31) = (nI 24 &&& 31) from rfl, b_sshr 24 (by omega) _ hi]
  have e : bt v.toInt8.toInt32 i = if i < 8 then bt v i else bt v 7 := by
    unfold bt
    rw [Int8.toBitVec_toInt32, Int32.toBitVec_toInt8]
    by_cases c : i < 8
    · rw [if_pos c, BitVec.getLsbD_signExtend, if_pos c, BitVec.getLsbD_signExtend, if_pos hi, decide_eq_true hi, decide_eq_true c]; rfl
    · rw [if_neg c, BitVec.getLsbD_signExtend, if_neg c, BitVec.msb_eq_getLsbD_last, BitVec.getLsbD_signExtend, decide_eq_true hi]; rfl
  rw [e]
  split
  · rw [if_pos (by omega), b_shl 24 (by omega) _ (by omega), decide_eq_true (by omega), show 24 + i - 24 = i by omega]; rfl
  · rw [if_neg (by omega), b_shl 24 (by omega) _ (by omega)]; rfl
theorem nar16 (v : Int32) : v.toInt16.toInt32 = (v <<< ((16 : Int32) &&& 31)) >>> ((16 : Int32) &&& 31) := by
  refine b_ext fun i hi => ?_
  rw [show ((16 : Int32) &&& 31) = (nI 16 &&& 31) from rfl, b_sshr 16 (by omega) _ hi]
  have e : bt v.toInt16.toInt32 i = if i < 16 then bt v i else bt v 15 := by
    unfold bt
    rw [Int16.toBitVec_toInt32, Int32.toBitVec_toInt16]
    by_cases c : i < 16
    · rw [if_pos c, BitVec.getLsbD_signExtend, if_pos c, BitVec.getLsbD_signExtend, if_pos hi, decide_eq_true hi, decide_eq_true c]; rfl
    · rw [if_neg c, BitVec.getLsbD_signExtend, if_neg c, BitVec.msb_eq_getLsbD_last, BitVec.getLsbD_signExtend, decide_eq_true hi]; rfl
  rw [e]
  split
  · rw [if_pos (by omega), b_shl 16 (by omega) _ (by omega), decide_eq_true (by omega), show 16 + i - 16 = i by omega]; rfl
  · rw [if_neg (by omega), b_shl 16 (by omega) _ (by omega)]; rfl
/-- has the sheet a cell of this place -/
theorem X_hasCell {q : Int32 → DD → Prop} {d : DD} {b n : Nat} {v : Int64} (Hb : isSh b) (e : d b 2 = nI n) (hn : n < 2 ^ 31) (h1 : ∀ j, j < n → v.toInt = (j : Int) → q 1 d) (h0 : (∀ j, j < n → v.toInt ≠ (j : Int)) → q 0 d) : Cn SX MX2_hasCell [.ref b, .long v] d (rI q) := by
  have e0 : ((0 : Int64)).toInt = 0 := rfl
  have ge : ∀ {x y : Int64}, 0 ≤ lg_cmp x y ↔ y.toInt ≤ x.toInt := by
    intro x y
    have := lcmp_lt (x := x) (y := y)
    constructor
    · intro h; have : ¬ x.toInt < y.toInt := fun z => by have := i_lt.mp (lcmp_lt.mpr z); have := i_le.mp h; omega
      omega
    · intro h; refine i_le.mpr ?_
      have := mt i_lt.mpr (mt lcmp_lt.mp (show ¬ x.toInt < y.toInt by omega))
      omega
  refine cn_X2_hasCell Hb ⟨fun c => ?_, fun c => ?_⟩
  · have c := lcmp_lt.mp c
    exact h0 fun j hj z => by rw [e0] at c; omega
  · have c := mt lcmp_lt.mpr c
    rw [e0] at c
    rw [e, nI_64 hn]
    refine ⟨fun c2 => ?_, fun c2 => ?_⟩
    · have c2 := ge.mp c2
      rw [lN_toInt hn] at c2
      exact h0 fun j hj z => by omega
    · have c2 := mt ge.mpr c2
      rw [lN_toInt hn] at c2
      exact h1 v.toInt.toNat (by omega) (by omega)
end
section
/-! ===== lay ===== -/
def narV (l : Nat) (v : Int32) : Int32 := if l = 0 then v.toInt8.toInt32 else if l = 1 then v.toInt16.toInt32 else v
theorem X_narrowed {q : Int32 → DD → Prop} {d : DD} {l : Nat} {v : Int32} (hl : l ≤ 2) (h : q (narV l v) d) : Cn SX MX2_narrowed [.int (nI l), .int v] d (rI q) := by
  rcases lt3 (show l < 3 by omega) with rfl | rfl | rfl
  · exact cn_X2_narrowed (br_t rfl h)
  · exact cn_X2_narrowed (br_f (by decide) (br_t rfl h))
  · exact cn_X2_narrowed (br_f (by decide) (br_f (by decide) h))
theorem c64_ne {v : Int32} {n : Nat} (h : ∀ j, j < n → v ≠ nI j) (hn : n < 2 ^ 31) : ∀ j, j < n → v.toInt64.toInt ≠ (j : Int) := by
  intro j hj e
  rw [Int32.toInt_toInt64] at e
  exact h j hj (Int32.toInt_inj.mp (by rw [nI_toInt (by omega)]; exact e))
theorem two_lay {x m : DD} {H : HH} {p0 p1 p2 : Int32} (hR : RelH H x m) : Two MX4_lay MX5_lay [.ref 0, .int p0, .int p1, .int p2] x m := by
  obtain ⟨ok, hX, hM, hO⟩ := id hR
  rcases ge_of (n := 4) (v := p0) (by omega) with ⟨k, hk, rfl⟩ | hz
  · have i4 : vp_in (nI k) 4 := vp_in_nI (by omega) (by omega)
    rcases hO.2.2.2.1 k hk with ⟨a1, a2⟩ | ⟨a1, l, n, a2, a3, a4, a5, a6, a7, a8⟩
    · refine two_ask hR (-11) (cn_X4_lay (X_win_y (n := 3) (by omega) (by omega) (y1 ⟨i4, fun b4 hb4 e => rr_t ?_ ⟨rfl, XK.rf⟩⟩))) (cn_X5_lay (M_win_y (n := 3) (by omega) (by omega) (y1 ⟨i4, rr_t ?_ ⟨rfl, MK.rf⟩⟩)))
      · rw [e, shB_n hk]; exact a1
      · rw [nI_clamp (by omega)]; exact a2
    · rcases ge_of (n := n) (v := p1) (by omega) with ⟨i, hi, rfl⟩ | hz2
      · have hix : 40 * k + i < 160 := by omega
        have f1 : (40 : Int32) * nI k + nI i = nI (40 * k + i) := by rw [li_40, pk_mul, nI_add]
        have h2 : RelH H (up x (75 + 2 * k) i (narV l p2)) (up m 16 (40 * k + i) (narV l p2)) := by
          refine hR.sheet hk (Or.inr ⟨?_, l, n, a2, a3, ?_, ?_, ?_, ?_, fun j hj => ?_⟩) (fun a h1 h2 => up_ne a h2) (fun a _ _ h3 => up_ne a h3) (fun j _ => by rw [up_ne 14 (by omega)]) (fun j _ => by rw [up_ne 15 (by omega)]) (fun j hj => up_n (by omega))
          · rw [up_n (by omega)]; exact a1
          · rw [up_n (by omega)]; exact a4
          · rw [up_n (by omega)]; exact a5
          · rw [up_n (by omega)]; exact a6
          · rw [up_n (by omega)]; exact a7
          · rw [up_rd, up_rd]
            by_cases z : j = i
            · rw [if_pos ⟨rfl, z⟩, if_pos ⟨rfl, by rw [z]⟩]
            · rw [if_neg (by omega), if_neg (by omega)]; exact a8 j hj
        refine two_chg 1 _ _ h2 (cn_X4_lay (X_win_y (n := 3) (by omega) (by omega) (y1 ⟨i4, fun b4 hb4 e => rr_f ?_ ?_⟩))) (cn_X5_lay (M_win_y (n := 3) (by omega) (by omega) (y1 ⟨i4, rr_f ?_ ⟨i4, ?_⟩⟩)))
        · rw [e, shB_n hk, a1]; decide
        · have e := e.trans (shB_n hk)
          subst e
          refine X_hasCell hb4 a6 (by omega) (fun j hj _ => y1 ?_) (fun z => absurd (by rw [Int32.toInt_toInt64, nI_toInt (by omega)]) (z i hi))
          rw [a4]
          refine X_narrowed a2 ⟨vp_in_nI (by omega) (by omega), nm_e ⟨rfl, ?_⟩⟩
          rw [nI_clamp (by omega), show 74 + 2 * k + 1 = 75 + 2 * k by omega]
        · rw [nI_clamp (by omega), a5]; exact fun z => ne_m4 (show l < 2 ^ 31 by omega) z
        · rw [nI_clamp (by omega), a7]
          refine M_wil (by omega) (fun _ _ _ => y1 ⟨i4, ?_⟩) (fun z => absurd rfl (z i hi))
          rw [a5, f1, nI_clamp (by omega)]
          have i160 : vp_in (nI (40 * k + i)) 160 := vp_in_nI (by omega) (by omega)
          rcases lt3 (show l < 3 by omega) with rfl | rfl | rfl
          · exact rr_t rfl ⟨i160, nm_e ⟨rfl, by rw [← nar8]; rfl⟩⟩
          · exact rr_f (by decide) ⟨i4, rr_t rfl ⟨i160, nm_e ⟨rfl, by rw [← nar16]; rfl⟩⟩⟩
          · exact rr_f (by decide) ⟨i4, rr_f (by decide) ⟨i160, nm_e ⟨rfl, rfl⟩⟩⟩
      · refine two_ask hR (-12) (cn_X4_lay (X_win_y (n := 3) (by omega) (by omega) (y1 ⟨i4, fun b4 hb4 e => rr_f ?_ ?_⟩))) (cn_X5_lay (M_win_y (n := 3) (by omega) (by omega) (y1 ⟨i4, rr_f ?_ ⟨i4, ?_⟩⟩)))
        · rw [e, shB_n hk, a1]; decide
        · have e := e.trans (shB_n hk)
          subst e
          exact X_hasCell hb4 a6 (by omega) (fun j hj z => absurd z (c64_ne hz2 (by omega) j hj)) (fun _ => y0 ⟨rfl, XK.rf⟩)
        · rw [nI_clamp (by omega), a5]; exact fun z => ne_m4 (show l < 2 ^ 31 by omega) z
        · rw [nI_clamp (by omega), a7]
          exact M_wil (by omega) (fun j hj z => absurd z (hz2 j hj)) (fun _ => y0 ⟨rfl, MK.rf⟩)
  · exact two_ask hR (-1) (cn_X4_lay (X_win_n (n := 3) (by omega) hz (y0 ⟨rfl, XK.rf⟩))) (cn_X5_lay (M_win_n (n := 3) (by omega) hz (y0 ⟨rfl, MK.rf⟩)))
end
section
/-! ===== sum, first ===== -/
def lastS (P : PL) : Nat → Nat := itr (fun t s => if s < P 0 t - 1 then P 0 t - 1 else s) 0
def crosN (P : PL) : Nat → Nat := sumN (fun t => if P 1 t = 3 then 1 else 0)
theorem X_lastOver {q : Int32 → DD → Prop} {d : DD} {b : Nat} {H : HH} {P : PL} (Hb : isH b) (hX : XH b d H) (ok : OKH H) (hI : Pinv H 160 P) (hE : XE d H P) (h : q (nI (lastS P (nT H))) d) : Cn SX MX1_lastOver [.ref 38, .ref b] d (rI q) := by
  have o4 := ok.t4
  refine cn_X1_lastOver Hb ?_
  rw [li_0]
  refine for_up (W := fun k d' => Ev SX MX1_lastOver 4 [.ref 38, .ref b, .int (nI (lastS P k)), .int (nI k)] [] d' (rI q)) (I := fun k d' => d' = d ∧ lastS P k < 2 ^ 30) (nT H) ?_ ?_ 0 d (Nat.zero_le _) ⟨rfl, show (0 : Nat) < 2 ^ 30 by decide⟩
  · rintro d' ⟨rfl, _⟩
    refine bk_X1_lastOver_4 Hb ⟨fun _ => h, fun c => absurd ?_ c⟩
    rw [hX.nt]; exact nI_le (Nat.le_refl _) (by omega)
  · rintro k d' hk ⟨rfl, hl⟩ ih
    have b0 := (hI.2.2.1 k hk).1
    have e : lastS P (k + 1) = if lastS P k < P 0 k - 1 then P 0 k - 1 else lastS P k := rfl
    refine bk_X1_lastOver_4 Hb ⟨fun c => ?_, fun _ => ⟨vp_in_nI (by omega) (by omega), nm_e ?_⟩⟩
    · rw [hX.nt] at c; exact absurd ((nI_leI (by omega) (by omega)).mp c) (by omega)
    · rw [nI_clamp (by omega), (hE.1 k hk).2.1, nI_1]
      have := ih d' ⟨rfl, by rw [e]; split <;> omega⟩
      rw [e] at this
      by_cases z : lastS P k < P 0 k - 1
      · rw [if_pos z] at this; rw [if_pos ((nI_ltI (by omega) (by omega)).mpr z)]; exact this
      · rw [if_neg z] at this; rw [if_neg (mt (nI_ltI (by omega) (by omega)).mp z)]; exact this
theorem X_crossedTunes {q : Int32 → DD → Prop} {d : DD} {b : Nat} {H : HH} {P : PL} (Hb : isH b) (hX : XH b d H) (ok : OKH H) (hI : Pinv H 160 P) (hE : XE d H P) (h : q (nI (crosN P (nT H))) d) : Cn SX MX1_crossedTunes [.ref 38, .ref b] d (rI q) := by
  have o4 := ok.t4
  refine cn_X1_crossedTunes Hb ?_
  rw [li_0]
  refine for_up (W := fun k d' => Ev SX MX1_crossedTunes 4 [.ref 38, .ref b, .int (nI (crosN P k)), .int (nI k)] [] d' (rI q)) (I := fun k d' => d' = d) (nT H) ?_ ?_ 0 d (Nat.zero_le _) rfl
  · rintro d' rfl
    refine bk_X1_crossedTunes_4 Hb ⟨fun _ => h, fun c => absurd ?_ c⟩
    rw [hX.nt]; exact nI_le (Nat.le_refl _) (by omega)
  · rintro k d' hk rfl ih
    have b1 := (hI.2.2.1 k hk).2
    have e : crosN P (k + 1) = crosN P k + (if P 1 k = 3 then 1 else 0) := rfl
    refine bk_X1_crossedTunes_4 Hb ⟨fun c => ?_, fun _ => ⟨vp_in_nI (by omega) (by omega), ?_⟩⟩
    · rw [hX.nt] at c; exact absurd ((nI_leI (by omega) (by omega)).mp c) (by omega)
    · rw [nI_clamp (by omega), (hE.1 k hk).2.2.1, nI_1, nI_1]
      have := ih d' rfl
      rw [e] at this
      refine ⟨fun c => ?_, fun c => ?_⟩
      · rw [if_neg (fun z => c (by rw [z]; rfl))] at this; exact this
      · rw [li_3] at c; rw [if_pos (nI_inj (by omega) (by omega) c)] at this; exact this
def sumV (H : HH) (P : PL) (w : Nat) : Nat := if w = 0 then awayS H P else if w = 1 then costS H P else if w = 2 then lastS P (nT H) else crosN P (nT H)
theorem M_sum_25 {q : Int32 → DD → Prop} {d : DD} {H : HH} {P : PL} {w : Nat} (hM : MH 0 d H) (ok : OKH H) (hI : Pinv H 160 P) (hE : ME d H P) (hw : w < 4) (h : q (nI (sumV H P w)) d) : Ev SM MX5_sum 25 [.ref 0, .int (nI w), .int (nI 0), .int (nI 0), .int (nI 0)] [] d (rI q) := by
  have o4 := ok.t4
  refine for_up (W := fun k d' => Ev SM MX5_sum 25 [.ref 0, .int (nI w), .int (nI (lastS P k)), .int (nI (crosN P k)), .int (nI k)] [] d' (rI q)) (I := fun k d' => d' = d ∧ lastS P k < 2 ^ 30) (nT H) ?_ ?_ 0 d (Nat.zero_le _) ⟨rfl, show (0 : Nat) < 2 ^ 30 by decide⟩
  · rintro d' ⟨rfl, _⟩
    refine bk_X5_sum_25 ⟨fun _ => ?_, fun c => absurd ?_ c⟩
    · rcases (show w = 0 ∨ w = 1 ∨ w = 2 ∨ w = 3 by omega) with rfl | rfl | rfl | rfl
      · exact rr_t rfl (M_away hM ok hI hE (M_awayBits ok h))
      · exact rr_f (by decide) (rr_t rfl (M_cost hM ok hE h))
      · exact rr_f (by decide) (rr_f (by decide) (rr_t rfl h))
      · exact rr_f (by decide) (rr_f (by decide) (rr_f (by decide) h))
    · rw [hM.nt]; exact nI_le (Nat.le_refl _) (by omega)
  · rintro k d' hk ⟨rfl, hl⟩ ih
    have b0 := (hI.2.2.1 k hk).1
    have b1 := (hI.2.2.1 k hk).2
    have e : lastS P (k + 1) = if lastS P k < P 0 k - 1 then P 0 k - 1 else lastS P k := rfl
    have ec : crosN P (k + 1) = crosN P k + (if P 1 k = 3 then 1 else 0) := rfl
    have i4 : vp_in (nI k) 4 := vp_in_nI (by omega) (by omega)
    have fin : ∀ l2 : Nat, Ev SM MX5_sum 56 [.ref 0, .int (nI w), .int (nI l2), .int (nI (crosN P k)), .int (nI k)] [.int (nI (lastS P (k + 1)))] d' (rI q) := by
      intro l2
      refine bk_X5_sum_56 ⟨i4, ?_⟩
      rw [nI_clamp (by omega), (hE.1 k hk).2.2.1, nI_1, nI_1, show nI (crosN P k) + 0 = nI (crosN P k + 0) from nI_add _ 0]
      have := ih d' ⟨rfl, by rw [e]; split <;> omega⟩
      rw [ec] at this
      refine ⟨fun c => ?_, fun c => ?_⟩
      · rw [if_neg (fun z => c (by rw [z]; rfl))] at this; exact this
      · rw [li_3] at c; rw [if_pos (nI_inj (by omega) (by omega) c)] at this; exact this
    refine bk_X5_sum_25 ⟨fun c => ?_, fun _ => ⟨i4, ?_⟩⟩
    · rw [hM.nt] at c; exact absurd ((nI_leI (by omega) (by omega)).mp c) (by omega)
    · rw [nI_clamp (by omega), (hE.1 k hk).2.1]
      refine ⟨fun c => ?_, fun c => ⟨i4, ?_⟩⟩
      · have c := (nI_leI (by omega) (by omega)).mp c
        have := fin (lastS P k)
        rw [e, if_neg (by omega)] at this
        exact this
      · have c : lastS P k < P 0 k - 1 := by
          rcases Nat.lt_or_ge (lastS P k) (P 0 k - 1) with z | z
          · exact z
          · exact absurd ((nI_leI (by omega) (by omega)).mpr z) c
        have := fin (lastS P k)
        rw [e, if_pos c] at this
        exact this
theorem two_sum {x m : DD} {H : HH} {p0 : Int32} (hR : RelH H x m) : Two MX4_sum MX5_sum [.ref 0, .int p0] x m := by
  obtain ⟨ok, hX, hM, hO⟩ := id hR
  rcases ge_of (n := 4) (v := p0) (by omega) with ⟨w, hw, rfl⟩ | hz
  · refine two_ask hR (nI (sumV H (playS H 0) w)) (cn_X4_sum (X_win_y (n := 3) (by omega) (by omega) (y1 (X_run (sil := 0) isH1 hX ok (by omega) fun d' f e => ?_)))) (cn_X5_sum (M_win_y (n := 3) (by omega) (by omega) (y1 (M_playing hM ok hO.sil (by omega) fun d' f e => ?_))))
    · have hX' := hX.xk f.k
      rcases (show w = 0 ∨ w = 1 ∨ w = 2 ∨ w = 3 by omega) with rfl | rfl | rfl | rfl
      · exact br_t rfl (X_away isH1 hX' ok (play_inv ok) e ⟨rfl, f.k⟩)
      · exact br_f (by decide) (br_t rfl (X_cost isH1 hX' ok e ⟨rfl, f.k⟩))
      · exact br_f (by decide) (br_f (by decide) (br_t rfl (X_lastOver isH1 hX' ok (play_inv ok) e ⟨rfl, f.k⟩)))
      · exact br_f (by decide) (br_f (by decide) (br_f (by decide) (X_crossedTunes isH1 hX' ok (play_inv ok) e ⟨rfl, f.k⟩)))
    · exact M_sum_25 (hM.mf ok f) ok (play_inv ok) e hw ⟨rfl, f.k⟩
  · exact two_ask hR (-1) (cn_X4_sum (X_win_n (n := 3) (by omega) hz (y0 ⟨rfl, XK.rf⟩))) (cn_X5_sum (M_win_n (n := 3) (by omega) hz (y0 ⟨rfl, MK.rf⟩)))
/-- the first that gets away: 0 none, else its number and 1 -/
def firS (H : HH) (P : PL) : Nat → Nat := itr (fun q s => if P 1 (H 9 q) ≠ 0 ∧ (s = 0 ∨ P 0 (H 9 q) < P 0 (H 9 (s - 1))) then q + 1 else s) 0
theorem firS_s (H : HH) (P : PL) (q : Nat) : firS H P (q + 1) = if P 1 (H 9 q) ≠ 0 ∧ (firS H P q = 0 ∨ P 0 (H 9 q) < P 0 (H 9 (firS H P q - 1))) then q + 1 else firS H P q := rfl
theorem firS_le (H : HH) (P : PL) : ∀ k, firS H P k ≤ k := by
  intro k
  induction k with
  | zero => exact Nat.le_refl _
  | succ k ih => rw [firS_s]; split <;> omega
def mo1 (n : Nat) : Int32 := if n = 0 then -1 else nI (n - 1)
def firV (H : HH) (P : PL) (w : Nat) : Int32 := if firS H P (nB H) = 0 then -4 else if w = 0 then nI (P 0 (H 9 (firS H P (nB H) - 1)) - 1) else nI (firS H P (nB H) - 1)
theorem X_first_27 {q : Int32 → DD → Prop} {d : DD} {H : HH} {P : PL} {w : Nat} (hX : XH 1 d H) (ok : OKH H) (hI : Pinv H 160 P) (hE : XE d H P) (hw : w < 2) (h : q (firV H P w) d) : Ev SX MX4_first 27 [.ref 0, .int (nI w), .int (-1), .int (nI 0)] [] d (rI q) := by
  have o6 := ok.b6
  refine for_up (W := fun k d' => Ev SX MX4_first 27 [.ref 0, .int (nI w), .int (mo1 (firS H P k)), .int (nI k)] [] d' (rI q)) (I := fun k d' => d' = d) (nB H) ?_ ?_ 0 d (Nat.zero_le _) rfl
  · rintro d' rfl
    have hle := firS_le H P (nB H)
    refine bk_X4_first_27 ⟨fun _ => ?_, fun c => absurd ?_ c⟩
    · unfold firV at h
      unfold mo1
      by_cases z : firS H P (nB H) = 0
      · rw [if_pos z] at h; rw [if_pos z]
        exact br_f (by decide) h
      · rw [if_neg z] at h; rw [if_neg z]
        refine br_t (by rw [li_0]; exact nI_le (Nat.zero_le _) (by omega)) ?_
        rcases (show w = 0 ∨ w = 1 by omega) with rfl | rfl
        · exact rr_t rfl (X_outAt isH1 hX ok hE (by omega) h)
        · exact rr_f (by decide) h
    · rw [hX.nb]; exact nI_le (Nat.le_refl _) (by omega)
  · rintro k d' hk rfl ih
    have hle := firS_le H P k
    have := ih d' rfl
    rw [firS_s] at this
    refine bk_X4_first_27 ⟨fun c => ?_, fun _ => X_getsAway isH1 hX ok hI hE hk ?_⟩
    · rw [hX.nb] at c; exact absurd ((nI_leI (by omega) (by omega)).mp c) (by omega)
    · rw [nI_1]
      by_cases g : P 1 (H 9 k) = 0
      · rw [if_pos g]
        rw [if_neg (fun z => z.1 g)] at this
        exact y0' this
      · rw [if_neg g]
        refine y1' ?_
        by_cases z : firS H P k = 0
        · rw [if_pos ⟨g, Or.inl z⟩] at this
          unfold mo1 at this ⊢
          rw [if_neg (by omega)] at this
          rw [if_pos z]
          exact br_t (by decide) this
        · have hj := (ok.bb (q := firS H P k - 1) (by omega))
          have b1 := (hI.2.2.1 _ hj).1
          have b2 := (hI.2.2.1 _ (ok.bb hk)).1
          have p1 := (hE.1 _ hj).1
          have p2 := (hE.1 _ (ok.bb hk)).1
          have em : mo1 (firS H P k) = nI (firS H P k - 1) := if_neg z
          rw [em]
          refine br_f (mt (nI_ltI (a := firS H P k - 1) (b := 0) (by omega) (by omega)).mp (by omega)) (X_outAt isH1 hX ok hE hk (X_outAt isH1 hX ok hE (by omega) ⟨fun c => ?_, fun c => ?_⟩))
          · have c := (nI_leI (by omega) (by omega)).mp c
            rw [if_neg (fun y => by rcases y.2 with y | y <;> omega), em] at this
            exact this
          · have c : P 0 (H 9 k) - 1 < P 0 (H 9 (firS H P k - 1)) - 1 := by
              rcases Nat.lt_or_ge (P 0 (H 9 k) - 1) (P 0 (H 9 (firS H P k - 1)) - 1) with y | y
              · exact y
              · exact absurd ((nI_leI (by omega) (by omega)).mpr y) c
            rw [if_pos ⟨g, Or.inr (by omega)⟩] at this
            unfold mo1 at this
            rw [if_neg (by omega)] at this
            exact this
end
section
def mtm (H : HH) (P : PL) (s : Nat) : Int32 := if s = 0 then 1000000 else nI (P 0 (H 9 (s - 1)) - 1)
theorem M_first_25 {q : Int32 → DD → Prop} {d : DD} {H : HH} {P : PL} {w : Nat} (hM : MH 0 d H) (ok : OKH H) (hI : Pinv H 160 P) (hE : ME d H P) (hw : w < 2) (h : q (firV H P w) d) : Ev SM MX5_first 25 [.ref 0, .int (nI w), .int 1000000, .int (-4), .int (nI 0), uJ, uJ] [] d (rI q) := by
  have o6 := ok.b6
  have o4 := ok.t4
  refine for_up (W := fun k d' => Ev SM MX5_first 25 [.ref 0, .int (nI w), .int (mtm H P (firS H P k)), .int (mv (firS H P k)), .int (nI k), uJ, uJ] [] d' (rI q)) (I := fun k d' => d' = d) (nB H) ?_ ?_ 0 d (Nat.zero_le _) rfl
  · rintro d' rfl
    have hle := firS_le H P (nB H)
    refine bk_X5_first_25 ⟨fun _ => ?_, fun c => absurd ?_ c⟩
    · unfold firV at h
      unfold mv mtm
      by_cases z : firS H P (nB H) = 0
      · rw [if_pos z] at h; rw [if_pos z, if_pos z]
        exact br_t rfl h
      · rw [if_neg z] at h; rw [if_neg z, if_neg z]
        refine br_f (fun y => ne_m4 (by omega) y) ?_
        rcases (show w = 0 ∨ w = 1 by omega) with rfl | rfl
        · exact rr_f (by decide) h
        · exact rr_t rfl h
    · rw [hM.nb]; exact nI_le (Nat.le_refl _) (by omega)
  · rintro k d' hk rfl ih
    have hle := firS_le H P k
    have hb := ok.bb hk
    have b2 := (hI.2.2.1 _ hb).1
    have b1 := (hI.2.2.1 _ hb).2
    have p2 := (hE.1 _ hb).1
    have := ih d' rfl
    rw [firS_s] at this
    have e4 : (64 : Int32) + nI k = nI (64 + k) := nI_add 64 k
    refine bk_X5_first_25 ⟨fun c => ?_, fun _ => ?_⟩
    · rw [hM.nb] at c; exact absurd ((nI_leI (by omega) (by omega)).mp c) (by omega)
    · rw [e4]
      refine ⟨vp_in_nI (by omega) (by omega), nm_e ?_⟩
      rw [nI_clamp (by omega), hM.bond hk]
      have i4 : vp_in (nI (H 9 k)) 4 := vp_in_nI (by omega) (by omega)
      refine ⟨i4, ?_⟩
      rw [nI_clamp (by omega), (hE.1 _ hb).2.2.1, (hE.1 _ hb).2.1]
      by_cases g : P 1 (H 9 k) = 0
      · rw [if_neg (fun z => z.1 g)] at this
        exact br_t (by rw [g]; rfl) (bk_X5_first_85 (br_t rfl (by rw [nI_1]; exact this)))
      · refine br_f (fun z => g (nI_inj (b := 0) (by omega) (by omega) z)) ⟨i4, ?_⟩
        by_cases z : firS H P k = 0
        · rw [if_pos ⟨g, Or.inl z⟩] at this
          refine br_f ?_ (bk_X5_first_85 (br_f (by decide) ⟨i4, nm_e ?_⟩))
          · unfold mtm; rw [if_pos z, li_1000000]; exact fun y => absurd ((nI_leI (by omega) (by omega)).mp y) (by omega)
          · rw [nI_clamp (by omega), (hE.1 _ hb).2.1, nI_1]
            rw [show mtm H P (k + 1) = nI (P 0 (H 9 k) - 1) from if_neg (by omega), mv_s] at this
            exact this
        · have hj := (ok.bb (q := firS H P k - 1) (by omega))
          have c1 := (hI.2.2.1 _ hj).1
          have c2 := (hE.1 _ hj).1
          have em : mtm H P (firS H P k) = nI (P 0 (H 9 (firS H P k - 1)) - 1) := if_neg z
          by_cases y : P 0 (H 9 k) < P 0 (H 9 (firS H P k - 1))
          · rw [if_pos ⟨g, Or.inr y⟩] at this
            refine br_f ?_ (bk_X5_first_85 (br_f (by decide) ⟨i4, nm_e ?_⟩))
            · rw [em]; exact fun y => absurd ((nI_leI (by omega) (by omega)).mp y) (by omega)
            · rw [nI_clamp (by omega), (hE.1 _ hb).2.1, nI_1]
              rw [show mtm H P (k + 1) = nI (P 0 (H 9 k) - 1) from if_neg (by omega), mv_s] at this
              exact this
          · rw [if_neg (fun x => by rcases x.2 with x | x <;> omega)] at this
            refine br_t ?_ (bk_X5_first_85 (br_t rfl (by rw [nI_1]; exact this)))
            rw [em]; exact (nI_leI (by omega) (by omega)).mpr (by omega)
theorem two_first {x m : DD} {H : HH} {p0 : Int32} (hR : RelH H x m) : Two MX4_first MX5_first [.ref 0, .int p0] x m := by
  obtain ⟨ok, hX, hM, hO⟩ := id hR
  rcases ge_of (n := 2) (v := p0) (by omega) with ⟨w, hw, rfl⟩ | hz
  · exact two_ask hR (firV H (playS H 0) w) (cn_X4_first (X_win_y (n := 1) (by omega) (by omega) (y1 (X_run (sil := 0) isH1 hX ok (by omega) fun d' f e => X_first_27 (hX.xk f.k) ok (play_inv ok) e hw ⟨rfl, f.k⟩)))) (cn_X5_first (M_win_y (n := 1) (by omega) (by omega) (y1 (M_playing hM ok hO.sil (by omega) fun d' f e => M_first_25 (hM.mf ok f) ok (play_inv ok) e hw ⟨rfl, f.k⟩))))
  · exact two_ask hR (-1) (cn_X4_first (X_win_n (n := 1) (by omega) hz (y0 ⟨rfl, XK.rf⟩))) (cn_X5_first (M_win_n (n := 1) (by omega) hz (y0 ⟨rfl, MK.rf⟩)))
end
section
/-! ===== a house becomes another ===== -/
theorem hs_sep {b p : Nat} (hb : isH b) (hp : isH p) (h : b ≠ p) : b + 11 ≤ p ∨ p + 11 ≤ b := by unfold isH at hb hp; omega
theorem cpy_lt {f g : Nat → Int32} {n j : Nat} (h : j < n) : va_cpy f g 0 0 n j = f j := by
  show (if 0 ≤ j ∧ j < 0 + n then f (0 + (j - 0)) else g j) = f j
  rw [if_pos ⟨Nat.zero_le _, (by omega)⟩, Nat.zero_add, Nat.sub_zero]
def wr (r : Nat) : Nat := if r = 5 then 32 else if r = 10 then 6 else 4
theorem X_become {q : DD → Prop} {d : DD} {b p : Nat} (Hb : isH b) (Hp : isH p) (hne : b ≠ p) (h : ∀ d', (∀ a, a < b ∨ b + 10 < a → d' a = d a) → (∀ i, i < 3 → d' b i = d p i) → (∀ r i, 1 ≤ r → r ≤ 10 → i < wr r → d' (b + r) i = d (p + r) i) → q d') : Cn SX MX0_become [.ref b, .ref p] d (rV q) := by
  have hs := hs_sep Hb Hp hne
  refine cn_X0_become Hb Hp ?_
  intro d1 e1 d2 e2 d3 e3 d4 e4 d5 e5 d6 e6 d7 e7 d8 e8 d9 e9 d10 e10 d11 e11 d12 e12 d13 e13
  clear Hb Hp
  have k1 : ∀ a, a ≠ b → d1 a = d a := fun a h => by rw [e1, up_ne a (by omega)]
  have s1 : d1 b 0 = d p 0 := by rw [e1, up_s]
  have t1 : ∀ j, j ≠ 0 → d1 b j = d b j := fun j h => by rw [e1, up_n (by omega)]
  have k2 : ∀ a, a ≠ b → d2 a = d1 a := fun a h => by rw [e2, up_ne a (by omega)]
  have s2 : d2 b 1 = d1 p 1 := by rw [e2, up_s]
  have t2 : ∀ j, j ≠ 1 → d2 b j = d1 b j := fun j h => by rw [e2, up_n (by omega)]
  have k3 : ∀ a, a ≠ b → d3 a = d2 a := fun a h => by rw [e3, up_ne a (by omega)]
  have s3 : d3 b 2 = d2 p 2 := by rw [e3, up_s]
  have t3 : ∀ j, j ≠ 2 → d3 b j = d2 b j := fun j h => by rw [e3, up_n (by omega)]
  have k4 : ∀ a, a ≠ b + 1 → d4 a = d3 a := fun a h => by rw [e4, rowset_ne a h]
  have s4 : ∀ j, j < 4 → d4 (b + 1) j = d3 (p + 1) j := fun j h => by rw [e4, rowset_at, cpy_lt h]
  have k5 : ∀ a, a ≠ b + 2 → d5 a = d4 a := fun a h => by rw [e5, rowset_ne a h]
  have s5 : ∀ j, j < 4 → d5 (b + 2) j = d4 (p + 2) j := fun j h => by rw [e5, rowset_at, cpy_lt h]
  have k6 : ∀ a, a ≠ b + 3 → d6 a = d5 a := fun a h => by rw [e6, rowset_ne a h]
  have s6 : ∀ j, j < 4 → d6 (b + 3) j = d5 (p + 3) j := fun j h => by rw [e6, rowset_at, cpy_lt h]
  have k7 : ∀ a, a ≠ b + 4 → d7 a = d6 a := fun a h => by rw [e7, rowset_ne a h]
  have s7 : ∀ j, j < 4 → d7 (b + 4) j = d6 (p + 4) j := fun j h => by rw [e7, rowset_at, cpy_lt h]
  have k8 : ∀ a, a ≠ b + 5 → d8 a = d7 a := fun a h => by rw [e8, rowset_ne a h]
  have s8 : ∀ j, j < 32 → d8 (b + 5) j = d7 (p + 5) j := fun j h => by rw [e8, rowset_at, cpy_lt h]
  have k9 : ∀ a, a ≠ b + 6 → d9 a = d8 a := fun a h => by rw [e9, rowset_ne a h]
  have s9 : ∀ j, j < 4 → d9 (b + 6) j = d8 (p + 6) j := fun j h => by rw [e9, rowset_at, cpy_lt h]
  have k10 : ∀ a, a ≠ b + 7 → d10 a = d9 a := fun a h => by rw [e10, rowset_ne a h]
  have s10 : ∀ j, j < 4 → d10 (b + 7) j = d9 (p + 7) j := fun j h => by rw [e10, rowset_at, cpy_lt h]
  have k11 : ∀ a, a ≠ b + 8 → d11 a = d10 a := fun a h => by rw [e11, rowset_ne a h]
  have s11 : ∀ j, j < 4 → d11 (b + 8) j = d10 (p + 8) j := fun j h => by rw [e11, rowset_at, cpy_lt h]
  have k12 : ∀ a, a ≠ b + 9 → d12 a = d11 a := fun a h => by rw [e12, rowset_ne a h]
  have s12 : ∀ j, j < 4 → d12 (b + 9) j = d11 (p + 9) j := fun j h => by rw [e12, rowset_at, cpy_lt h]
  have k13 : ∀ a, a ≠ b + 10 → d13 a = d12 a := fun a h => by rw [e13, rowset_ne a h]
  have s13 : ∀ j, j < 6 → d13 (b + 10) j = d12 (p + 10) j := fun j h => by rw [e13, rowset_at, cpy_lt h]
  clear e1 e2 e3 e4 e5 e6 e7 e8 e9 e10 e11 e12 e13
  refine h d13 (fun a ha => ?_) (fun i hi => ?_) (fun r i h1 h2 hi => ?_)
  · rw [k13 a (by omega), k12 a (by omega), k11 a (by omega), k10 a (by omega), k9 a (by omega), k8 a (by omega), k7 a (by omega), k6 a (by omega), k5 a (by omega), k4 a (by omega), k3 a (by omega), k2 a (by omega), k1 a (by omega)]
  · rw [k13 b (by omega), k12 b (by omega), k11 b (by omega), k10 b (by omega), k9 b (by omega), k8 b (by omega), k7 b (by omega), k6 b (by omega), k5 b (by omega), k4 b (by omega)]
    rcases (show i = 0 ∨ i = 1 ∨ i = 2 by omega) with rfl | rfl | rfl
    · rw [t3 0 (by omega), t2 0 (by omega), s1]
    · rw [t3 1 (by omega), s2, k1 p (by omega)]
    · rw [s3, k2 p (by omega), k1 p (by omega)]
  · rcases (show r = 1 ∨ r = 2 ∨ r = 3 ∨ r = 4 ∨ r = 5 ∨ r = 6 ∨ r = 7 ∨ r = 8 ∨ r = 9 ∨ r = 10 by omega) with rfl | rfl | rfl | rfl | rfl | rfl | rfl | rfl | rfl | rfl
    · rw [k13 (b + 1) (by omega), k12 (b + 1) (by omega), k11 (b + 1) (by omega), k10 (b + 1) (by omega), k9 (b + 1) (by omega), k8 (b + 1) (by omega), k7 (b + 1) (by omega), k6 (b + 1) (by omega), k5 (b + 1) (by omega), s4 i hi, k3 (p + 1) (by omega), k2 (p + 1) (by omega), k1 (p + 1) (by omega)]
    · rw [k13 (b + 2) (by omega), k12 (b + 2) (by omega), k11 (b + 2) (by omega), k10 (b + 2) (by omega), k9 (b + 2) (by omega), k8 (b + 2) (by omega), k7 (b + 2) (by omega), k6 (b + 2) (by omega), s5 i hi, k4 (p + 2) (by omega), k3 (p + 2) (by omega), k2 (p + 2) (by omega), k1 (p + 2) (by omega)]
    · rw [k13 (b + 3) (by omega), k12 (b + 3) (by omega), k11 (b + 3) (by omega), k10 (b + 3) (by omega), k9 (b + 3) (by omega), k8 (b + 3) (by omega), k7 (b + 3) (by omega), s6 i hi, k5 (p + 3) (by omega), k4 (p + 3) (by omega), k3 (p + 3) (by omega), k2 (p + 3) (by omega), k1 (p + 3) (by omega)]
    · rw [k13 (b + 4) (by omega), k12 (b + 4) (by omega), k11 (b + 4) (by omega), k10 (b + 4) (by omega), k9 (b + 4) (by omega), k8 (b + 4) (by omega), s7 i hi, k6 (p + 4) (by omega), k5 (p + 4) (by omega), k4 (p + 4) (by omega), k3 (p + 4) (by omega), k2 (p + 4) (by omega), k1 (p + 4) (by omega)]
    · rw [k13 (b + 5) (by omega), k12 (b + 5) (by omega), k11 (b + 5) (by omega), k10 (b + 5) (by omega), k9 (b + 5) (by omega), s8 i hi, k7 (p + 5) (by omega), k6 (p + 5) (by omega), k5 (p + 5) (by omega), k4 (p + 5) (by omega), k3 (p + 5) (by omega), k2 (p + 5) (by omega), k1 (p + 5) (by omega)]
    · rw [k13 (b + 6) (by omega), k12 (b + 6) (by omega), k11 (b + 6) (by omega), k10 (b + 6) (by omega), s9 i hi, k8 (p + 6) (by omega), k7 (p + 6) (by omega), k6 (p + 6) (by omega), k5 (p + 6) (by omega), k4 (p + 6) (by omega), k3 (p + 6) (by omega), k2 (p + 6) (by omega), k1 (p + 6) (by omega)]
    · rw [k13 (b + 7) (by omega), k12 (b + 7) (by omega), k11 (b + 7) (by omega), s10 i hi, k9 (p + 7) (by omega), k8 (p + 7) (by omega), k7 (p + 7) (by omega), k6 (p + 7) (by omega), k5 (p + 7) (by omega), k4 (p + 7) (by omega), k3 (p + 7) (by omega), k2 (p + 7) (by omega), k1 (p + 7) (by omega)]
    · rw [k13 (b + 8) (by omega), k12 (b + 8) (by omega), s11 i hi, k10 (p + 8) (by omega), k9 (p + 8) (by omega), k8 (p + 8) (by omega), k7 (p + 8) (by omega), k6 (p + 8) (by omega), k5 (p + 8) (by omega), k4 (p + 8) (by omega), k3 (p + 8) (by omega), k2 (p + 8) (by omega), k1 (p + 8) (by omega)]
    · rw [k13 (b + 9) (by omega), s12 i hi, k11 (p + 9) (by omega), k10 (p + 9) (by omega), k9 (p + 9) (by omega), k8 (p + 9) (by omega), k7 (p + 9) (by omega), k6 (p + 9) (by omega), k5 (p + 9) (by omega), k4 (p + 9) (by omega), k3 (p + 9) (by omega), k2 (p + 9) (by omega), k1 (p + 9) (by omega)]
    · rw [s13 i hi, k12 (p + 10) (by omega), k11 (p + 10) (by omega), k10 (p + 10) (by omega), k9 (p + 10) (by omega), k8 (p + 10) (by omega), k7 (p + 10) (by omega), k6 (p + 10) (by omega), k5 (p + 10) (by omega), k4 (p + 10) (by omega), k3 (p + 10) (by omega), k2 (p + 10) (by omega), k1 (p + 10) (by omega)]
theorem XH.move {d d' : DD} {b p : Nat} {H : HH} (h : XH p d H) (ok : OKH H) (h1 : ∀ i, i < 3 → d' b i = d p i) (h2 : ∀ r i, 1 ≤ r → r ≤ 10 → i < wr r → d' (b + r) i = d (p + r) i) : XH b d' H := by
  obtain ⟨a1, a2, a3, a4, a5, a6⟩ := h
  have o1 := ok.t4; have o2 := ok.p4; have o3 := ok.b6
  refine ⟨by rw [h1 0 (by omega)]; exact a1, by rw [h1 1 (by omega)]; exact a2, by rw [h1 2 (by omega)]; exact a3, fun t ht => ?_, fun p hp => ?_, fun q hq => ?_⟩
  · obtain ⟨b1, b2, b3, b4, b5⟩ := a4 t ht
    have hn := (ok.tt ht).2.2.1
    have g : t < 4 := by omega
    exact ⟨by rw [h2 1 t (by omega) (by omega) g]; exact b1, by rw [h2 2 t (by omega) (by omega) g]; exact b2, by rw [h2 3 t (by omega) (by omega) g]; exact b3, by rw [h2 4 t (by omega) (by omega) g]; exact b4, fun i hi => by rw [h2 5 _ (by omega) (by omega) (show 8 * t + i < 32 by omega)]; exact b5 i hi⟩
  · obtain ⟨b1, b2, b3, b4⟩ := a5 p hp
    have g : p < 4 := by omega
    exact ⟨by rw [h2 6 p (by omega) (by omega) g]; exact b1, by rw [h2 7 p (by omega) (by omega) g]; exact b2, by rw [h2 8 p (by omega) (by omega) g]; exact b3, by rw [h2 9 p (by omega) (by omega) g]; exact b4⟩
  · rw [h2 10 q (by omega) (by omega) (show q < 6 by omega)]; exact a6 q hq
/-- the class's house b becomes the house p -/
theorem X_becomeH {q : DD → Prop} {d : DD} {b p : Nat} {H : HH} (Hb : isH b) (Hp : isH p) (hne : b ≠ p) (hX : XH p d H) (ok : OKH H) (h : ∀ d', (∀ a, a < b ∨ b + 10 < a → d' a = d a) → XH b d' H → q d') : Cn SX MX0_become [.ref b, .ref p] d (rV q) := X_become Hb Hp hne fun d' g1 g2 g3 => h d' g1 (hX.move ok g2 g3)
theorem M_copies {q : DD → Prop} {d : DD} {f t : Nat} (hf : f ≤ 280) (ht : t ≤ 280) (hs : f + 70 ≤ t ∨ t + 70 ≤ f) (h : ∀ d', (∀ a, a ≠ 1 → d' a = d a) → (∀ j, j < t ∨ t + 70 ≤ j → d' 1 j = d 1 j) → (∀ i, i < 70 → d' 1 (t + i) = d 1 (f + i)) → q d') : Cn SM MX5_copies [.ref 0, .int (nI f), .int (nI t)] d (rV q) := by
  refine cn_X5_copies ?_
  rw [li_0]
  refine for_up (W := fun k d' => Ev SM MX5_copies 2 [.ref 0, .int (nI f), .int (nI t), .int (nI k)] [] d' (rV q)) (I := fun k d' => (∀ a, a ≠ 1 → d' a = d a) ∧ (∀ j, j < t ∨ t + 70 ≤ j → d' 1 j = d 1 j) ∧ ∀ i, i < k → d' 1 (t + i) = d 1 (f + i)) 70 ?_ ?_ 0 d (Nat.zero_le _) ⟨fun _ _ => rfl, fun _ _ => rfl, fun i hi => absurd hi (Nat.not_lt_zero i)⟩
  · rintro d' ⟨b1, b2, b3⟩
    exact bk_X5_copies_2 ⟨fun _ => h d' b1 b2 b3, fun c => absurd (show (70 : Int32) ≤ nI 70 from by decide) c⟩
  · rintro k d' hk ⟨b1, b2, b3⟩ ih
    refine bk_X5_copies_2 ⟨fun c => ?_, fun _ => ?_⟩
    · rw [li_70] at c; exact absurd ((nI_leI (by omega) (by omega)).mp c) (by omega)
    · rw [nI_add, nI_add, nI_1]
      refine ⟨vp_in_nI (by omega) (by omega), vp_in_nI (by omega) (by omega), nm_e ?_⟩
      rw [nI_clamp (by omega), nI_clamp (by omega)]
      refine ih _ ⟨fun a ha => by rw [up_ne a ha]; exact b1 a ha, fun j hj => by rw [up_n (by omega)]; exact b2 j hj, fun i hi => ?_⟩
      rw [up_rd]
      by_cases z : i = k
      · subst z; rw [if_pos ⟨rfl, rfl⟩, b2 _ (by omega)]
      · rw [if_neg (by omega)]; exact b3 i (by omega)
theorem MH.move {f t : Nat} {d d' : DD} {H : HH} (h : MH f d H) (ok : OKH H) (h1 : ∀ a, a ≠ 1 → d' a = d a) (h2 : ∀ i, i < 70 → d' 1 (t + i) = d 1 (f + i)) : MH t d' H := by
  obtain ⟨a1, a2, a3, a4, a5, a6⟩ := h
  have o1 := ok.t4; have o2 := ok.p4; have o3 := ok.b6
  refine ⟨by rw [h1 0 (by omega)]; exact a1, by rw [h1 0 (by omega)]; exact a2, by rw [h1 0 (by omega)]; exact a3, fun t ht => ?_, fun p hp => ?_, fun q hq => ?_⟩
  · obtain ⟨b1, b2, b3, b4, b5⟩ := a4 t ht
    have hn := (ok.tt ht).2.2.1
    exact ⟨by rw [h2 _ (by omega)]; exact b1, by rw [h2 _ (by omega)]; exact b2, by rw [h2 _ (by omega)]; exact b3, by rw [h2 _ (by omega)]; exact b4, fun i hi => by rw [h2 _ (by omega)]; exact b5 i hi⟩
  · obtain ⟨b1, b2, b3, b4⟩ := a5 p hp
    exact ⟨by rw [h2 _ (by omega)]; exact b1, by rw [h2 _ (by omega)]; exact b2, by rw [h2 _ (by omega)]; exact b3, by rw [h2 _ (by omega)]; exact b4⟩
  · rw [h2 _ (by omega)]; exact a6 q hq
end
section
/-! ===== keep, back, count ===== -/
theorem RelH.image {H : HH} {x m x' m' : DD} {k : Nat} (hR : RelH H x m) (hk : k < 2) (hT : RIm H x' m' k) (hx : ∀ a, a ≠ 35 → a < 52 + 11 * k ∨ 62 + 11 * k < a → x' a = x a) (h35 : ∀ j, j ≠ k → x' 35 j = x 35 j) (hm : ∀ a, a ≠ 1 → a ≠ 13 → m' a = m a) (h1 : ∀ j, j < 70 * (k + 1) ∨ 70 * (k + 1) + 70 ≤ j → m' 1 j = m 1 j) (h13 : ∀ j, j ≠ k → m' 13 j = m 13 j) : RelH H x' m' := by
  obtain ⟨ok, hX, hM, b1, b2, b3, b4, b5, b6, b7, b8⟩ := hR
  have hm0 := hm 0 (by omega) (by omega)
  refine ⟨ok, hX.kept (fun a _ _ => hx a (by omega) (by omega)), hM.kept (fun j _ _ => by rw [hm0]) (fun j _ _ => h1 j (by omega)) ok, b1.k (by rw [hx 36 (by omega) (by omega)]) (hx 37 (by omega) (by omega)) (by rw [hm0]) (hm 3 (by omega) (by omega)), b2.k (by rw [hx 0 (by omega) (by omega)]) (hx 49 (by omega) (by omega)) (hx 50 (by omega) (by omega)) (hx 51 (by omega) (by omega)) (by rw [hm0]) (hm 12 (by omega) (by omega)), fun i hi => ?_, fun i hi => (b4 i hi).k (hx _ (by omega) (by omega)) (hx _ (by omega) (by omega)) (by rw [hm 14 (by omega) (by omega)]) (by rw [hm 15 (by omega) (by omega)]) (fun j _ => by rw [hm 16 (by omega) (by omega)]), b5.k (hm 4 (by omega) (by omega)) (hm 5 (by omega) (by omega)), ?_, ?_, ?_⟩
  · by_cases c : i = k
    · subst c; exact hT
    · exact (b3 i hi).k (h35 i c) (fun a _ _ => hx a (by omega) (by omega)) (h13 i c) (fun j _ _ => by rw [hm0]) (fun j _ _ => h1 j (by omega))
  · rw [hm0]; exact b6
  · rw [hx 36 (by omega) (by omega), hm0]; exact b7
  · rw [hx 0 (by omega) (by omega), hm0]; exact b8
theorem imB_n {k : Nat} (hk : k < 2) : imB (nI k) = 52 + 11 * k := by unfold imB; rw [nI_clamp (by omega)]
theorem isH_im {k : Nat} (hk : k < 2) : isH (52 + 11 * k) := by unfold isH; omega
theorem keep_bit {H : HH} {x m : DD} {k : Nat} (h : RIm H x m k) : ∃ b, b < 2 ∧ x 35 k = nI b ∧ m 13 k = nI b := by
  rcases h with ⟨a, b⟩ | ⟨a, b, _⟩
  · exact ⟨0, (by omega), a, b⟩
  · exact ⟨1, (by omega), a, b⟩
theorem two_keep {x m : DD} {H : HH} {p0 : Int32} (hR : RelH H x m) : Two MX4_keep MX5_keep [.ref 0, .int p0] x m := by
  obtain ⟨ok, hX, hM, hO⟩ := id hR
  rcases ge_of (n := 2) (v := p0) (by omega) with ⟨k, hk, rfl⟩ | hz
  · have i2 : vp_in (nI k) 2 := vp_in_nI (by omega) (by omega)
    obtain ⟨b, hb, ex, em⟩ := keep_bit (hO.2.2.1 k hk)
    refine ⟨nI b, fun d => (∀ a, a ≠ 35 → a < 52 + 11 * k ∨ 62 + 11 * k < a → d a = x a) ∧ d 35 = up x 35 k 1 35 ∧ XH (52 + 11 * k) d H, fun d => (∀ a, a ≠ 1 → a ≠ 13 → d a = m a) ∧ (∀ j, j < 70 * (k + 1) ∨ 70 * (k + 1) + 70 ≤ j → d 1 j = m 1 j) ∧ d 13 = up m 13 k 1 13 ∧ MH (70 * (k + 1)) d H, cn_X4_keep (X_win_y (n := 1) (by omega) (by omega) (y1 ⟨i2, ?_⟩)), cn_X5_keep (M_win_y (n := 1) (by omega) (by omega) (y1 ?_)), ?_⟩
    · have fin : ∀ k0, k0 = nI b → Ev SX MX4_keep 25 [.ref 0, .int (nI k), uJ] [.int k0] x (rI fun r' d => r' = nI b ∧ (∀ a, a ≠ 35 → a < 52 + 11 * k ∨ 62 + 11 * k < a → d a = x a) ∧ d 35 = up x 35 k 1 35 ∧ XH (52 + 11 * k) d H) := by
        intro k0 e0
        refine bk_X4_keep_25 ⟨i2, fun b1 hb1 e => ?_⟩
        rw [imB_n hk] at e
        subst e
        refine X_becomeH hb1 isH1 (by omega) hX ok fun d' g1 g2 => ⟨i2, nm_e ⟨e0, fun a h1 h2 => ?_, ?_, ?_⟩⟩
        · rw [up_ne a (by omega)]; exact g1 a (by omega)
        · rw [nI_clamp (by omega)]; funext j
          by_cases z : j = k
          · subst z; rw [up_s, up_s]
          · rw [up_n (by omega), up_n (by omega), g1 35 (by omega)]
        · exact g2.kept (fun a _ _ => up_ne a (by omega))
      rw [nI_clamp (by omega), ex]
      rcases (show b = 0 ∨ b = 1 by omega) with rfl | rfl
      · exact br_t rfl (fin _ rfl)
      · exact br_f (by decide) (fin _ rfl)
    · rw [show (70 : Int32) * (nI k + 1) = nI (70 * (k + 1)) from by rw [nI_1, li_70, pk_mul]]
      refine M_copies (f := 0) (by omega) (by omega) (by omega) fun d' g1 g2 g3 => ⟨i2, ?_⟩
      have hM2 := hM.move (t := 70 * (k + 1)) ok g1 g3
      have fin : (fun d => (∀ a, a ≠ 1 → a ≠ 13 → d a = m a) ∧ (∀ j, j < 70 * (k + 1) ∨ 70 * (k + 1) + 70 ≤ j → d 1 j = m 1 j) ∧ d 13 = up m 13 k 1 13 ∧ MH (70 * (k + 1)) d H) (up d' 13 k 1) := by
        refine ⟨fun a h1 h2 => by rw [up_ne a h2]; exact g1 a h1, fun j hj => by rw [up_ne 1 (by omega)]; exact g2 j hj, ?_, hM2.kept (fun j _ _ => by rw [up_ne 0 (by omega)]) (fun j _ _ => by rw [up_ne 1 (by omega)]) ok⟩
        funext j
        by_cases z : j = k
        · subst z; rw [up_s, up_s]
        · rw [up_n (by omega), up_n (by omega), g1 13 (by omega)]
      rw [nI_clamp (by omega), g1 13 (by omega), em]
      rcases (show b = 0 ∨ b = 1 by omega) with rfl | rfl
      · exact br_t rfl ⟨i2, nm_e ⟨rfl, fin⟩⟩
      · exact br_f (by decide) ⟨i2, nm_e ⟨rfl, fin⟩⟩
    · rintro d d' ⟨a1, a2, a3⟩ ⟨b1, b2, b3, b4⟩
      exact (hR.image hk (Or.inr ⟨by rw [a2, up_s]; rfl, by rw [b3, up_s]; rfl, H, ok, fun _ => rfl, a3, b4⟩) a1 (fun j hj => by rw [a2, up_n (by omega)]) b1 b2 (fun j hj => by rw [b3, up_n (by omega)])).rel
  · exact two_ask hR (-1) (cn_X4_keep (X_win_n (n := 1) (by omega) hz (y0 ⟨rfl, XK.rf⟩))) (cn_X5_keep (M_win_n (n := 1) (by omega) hz (y0 ⟨rfl, MK.rf⟩)))
theorem two_back {x m : DD} {H : HH} {p0 : Int32} (hR : RelH H x m) : Two MX4_back MX5_back [.ref 0, .int p0] x m := by
  obtain ⟨ok, hX, hM, hO⟩ := id hR
  rcases ge_of (n := 2) (v := p0) (by omega) with ⟨k, hk, rfl⟩ | hz
  · have i2 : vp_in (nI k) 2 := vp_in_nI (by omega) (by omega)
    rcases hO.2.2.1 k hk with ⟨ex, em⟩ | ⟨ex, em, Hk, okk, h10, hXk, hMk⟩
    · refine two_ask hR (-2) (cn_X4_back (X_win_y (n := 1) (by omega) (by omega) (y1 ⟨i2, rr_t ?_ ⟨rfl, XK.rf⟩⟩))) (cn_X5_back (M_win_y (n := 1) (by omega) (by omega) (y1 ⟨i2, rr_t ?_ ⟨rfl, MK.rf⟩⟩)))
      · rw [nI_clamp (by omega)]; exact ex
      · rw [nI_clamp (by omega)]; exact em
    · refine ⟨nI (sumN (fun t => Hk 1 t) (nT Hk)), fun d => (∀ a, a < 1 ∨ 1 + 10 < a → d a = x a) ∧ XH 1 d Hk, fun d => (∀ a, a ≠ 1 → d a = m a) ∧ (∀ j, j < 0 ∨ 0 + 70 ≤ j → d 1 j = m 1 j) ∧ MH 0 d Hk, cn_X4_back (X_win_y (n := 1) (by omega) (by omega) (y1 ⟨i2, rr_f ?_ ⟨i2, fun b5 hb5 e => ?_⟩⟩)), cn_X5_back (M_win_y (n := 1) (by omega) (by omega) (y1 ⟨i2, rr_f ?_ ?_⟩)), ?_⟩
      · rw [nI_clamp (by omega), ex]; decide
      · rw [imB_n hk] at e
        subst e
        exact X_becomeH isH1 hb5 (by omega) hXk okk fun d' g1 g2 => X_allNotes isH1 g2 okk ⟨rfl, g1, g2⟩
      · rw [nI_clamp (by omega), em]; decide
      · rw [show (70 : Int32) * (nI k + 1) = nI (70 * (k + 1)) from by rw [nI_1, li_70, pk_mul]]
        exact M_copies (t := 0) (by omega) (by omega) (by omega) fun d' g1 g2 g3 => M_noteMany (hMk.move okk g1 g3) okk ⟨rfl, g1, g2, hMk.move okk g1 g3⟩
      · rintro d d' ⟨a1, a2⟩ ⟨b1, b2, b3⟩
        exact RelH.rel ⟨okk, a2, b3, hO.keep2 (fun a ha => a1 a (by omega)) ⟨fun j _ => by rw [b1 0 (by omega)], fun j h1 h2 => b2 j (by omega), fun a ha => b1 a (by omega)⟩ h10⟩
  · exact two_ask hR (-1) (cn_X4_back (X_win_n (n := 1) (by omega) hz (y0 ⟨rfl, XK.rf⟩))) (cn_X5_back (M_win_n (n := 1) (by omega) hz (y0 ⟨rfl, MK.rf⟩)))
theorem M_count_4 {q : Int32 → DD → Prop} {d : DD} {H : HH} {p0 : Int32} (hM : MH 0 d H) (ok : OKH H) (h : ∀ l3, l3 = nI (nT H) → Ev SM MX5_count 4 [.ref 0, .int p0, .int (nI (sumN (lenO H) (nT H))), .int l3] [] d (rI q)) : Ev SM MX5_count 4 [.ref 0, .int p0, .int 0, .int 0] [] d (rI q) := by
  have o4 := ok.t4
  rw [li_0]
  refine for_up (W := fun k d' => Ev SM MX5_count 4 [.ref 0, .int p0, .int (nI (sumN (lenO H) k)), .int (nI k)] [] d' (rI q)) (I := fun k d' => d' = d) (nT H) ?_ ?_ 0 d (Nat.zero_le _) rfl
  · rintro d' rfl
    exact h _ rfl
  · rintro k d' hk rfl ih
    refine bk_X5_count_4 ⟨fun c => ?_, fun _ => M_lengthOf hM ok hk ?_⟩
    · rw [hM.nt] at c; exact absurd ((nI_leI (by omega) (by omega)).mp c) (by omega)
    · rw [nI_add, nI_1]
      exact ih d' rfl
theorem two_count {x m : DD} {H : HH} {p0 : Int32} (hR : RelH H x m) : Two MX4_count MX5_count [.ref 0, .int p0] x m := by
  obtain ⟨ok, hX, hM, hO⟩ := id hR
  have o4 := ok.t4
  have mm : ∀ {r : Int32}, ((p0 = 0 → m 0 28 = r) ∧ (¬ p0 = 0 → ((p0 = 1 → Ev SM MX5_count 4 [.ref 0, .int p0, .int (nI (sumN (lenO H) (nT H))), .int (nI (nT H))] [] m (rI fun r' d => r' = r ∧ MK m d)) ∧ (¬ p0 = 1 → ((p0 = 2 → m 0 10 = r) ∧ (¬ p0 = 2 → ((p0 = 3 → (if m 14 0 = -4 then -4 else m 15 0) = r) ∧ (¬ p0 = 3 → ((p0 = 4 → nI (sumN (fun t => H 1 t) (nT H)) = r) ∧ (¬ p0 = 4 → ((p0 = 5 → nI (sumN (lenO H) (nT H)) = r) ∧ (¬ p0 = 5 → -1 = r)))))))))))) → Cn SM MX5_count [.ref 0, .int p0] m (rI fun r' d => r' = r ∧ MK m d) := by
    intro r h
    refine cn_X5_count (M_count_4 hM ok fun l3 e => ?_)
    subst e
    by_cases c1 : p0 = 1
    · exact (h.2 (by rw [c1]; decide)).1 c1
    · refine bk_X5_count_4 ⟨fun _ => ?_, fun c => absurd ?_ c⟩
      · refine ⟨fun c => ⟨h.1 c, MK.rf⟩, fun c0 => ⟨fun c => absurd c c1, fun _ => ?_⟩⟩
        have h := (h.2 c0).2 c1
        refine ⟨fun c => ⟨h.1 c, MK.rf⟩, fun c2 => ?_⟩
        have h := h.2 c2
        refine ⟨fun c => ?_, fun c3 => ?_⟩
        · have h := h.1 c
          exact ⟨fun z => ⟨by rw [if_neg z] at h; exact h, MK.rf⟩, fun z => ⟨by rw [if_pos z] at h; exact h, MK.rf⟩⟩
        · have h := h.2 c3
          refine ⟨fun c => M_noteMany hM ok ⟨h.1 c, MK.rf⟩, fun c4 => ?_⟩
          have h := h.2 c4
          exact ⟨fun c => ⟨h.1 c, MK.rf⟩, fun c => ⟨h.2 c, MK.rf⟩⟩
      · rw [hM.nt]; exact nI_le (Nat.le_refl _) (by omega)
  by_cases c0 : p0 = 0
  · obtain ⟨n, a1, a2, a3, a4⟩ := hO.2.1
    exact two_ask hR (nI n) (cn_X4_count (br_t c0 ⟨a2, XK.rf⟩)) (mm (br_t c0 a3))
  · by_cases c1 : p0 = 1
    · obtain ⟨b, hb, ex, em⟩ := keep_bit (hO.2.2.1 0 (by omega))
      obtain ⟨b', hb', ex', em'⟩ := keep_bit (hO.2.2.1 1 (by omega))
      refine two_ask hR (nI (b + b')) (cn_X4_count (br_f c0 (br_t c1 ?_))) (mm (br_f c0 (br_t c1 (bk_X5_count_4 ⟨fun _ => br_f c0 (br_t c1 ?_), fun c => absurd ?_ c⟩))))
      · rw [ex, ex']
        rcases (show b = 0 ∨ b = 1 by omega) with rfl | rfl <;> rcases (show b' = 0 ∨ b' = 1 by omega) with rfl | rfl
        · exact br_t rfl (br_t rfl ⟨rfl, XK.rf⟩)
        · exact br_t rfl (br_f (by decide) ⟨rfl, XK.rf⟩)
        · exact br_f (by decide) (br_t rfl ⟨rfl, XK.rf⟩)
        · exact br_f (by decide) (br_f (by decide) ⟨rfl, XK.rf⟩)
      · rw [em, em']
        rcases (show b = 0 ∨ b = 1 by omega) with rfl | rfl <;> rcases (show b' = 0 ∨ b' = 1 by omega) with rfl | rfl
        · exact br_t rfl (br_t rfl ⟨rfl, MK.rf⟩)
        · exact br_t rfl (br_f (by decide) ⟨rfl, MK.rf⟩)
        · exact br_f (by decide) (br_t rfl ⟨rfl, MK.rf⟩)
        · exact br_f (by decide) (br_f (by decide) ⟨rfl, MK.rf⟩)
      · rw [hM.nt]; exact nI_le (Nat.le_refl _) (by omega)
    · by_cases c2 : p0 = 2
      · obtain ⟨n, a1, a2, a3, a4⟩ := hO.1
        exact two_ask hR (nI n) (cn_X4_count (br_f c0 (br_f c1 (br_t c2 ⟨a2, XK.rf⟩)))) (mm (br_f c0 (br_f c1 (br_t c2 a3))))
      · by_cases c3 : p0 = 3
        · have i0 : vp_in 0 4 := vp_in_nI (n := 0) (N := 4) (by omega) (by omega)
          rcases hO.2.2.2.1 0 (by omega) with ⟨a1, a2⟩ | ⟨a1, l, n, a2, a3, a4, a5, a6, a7, a8⟩
          · refine two_ask hR (-4) (cn_X4_count (br_f c0 (br_f c1 (br_f c2 (br_t c3 ⟨i0, fun b8 h8 e => br_t ?_ ⟨rfl, XK.rf⟩⟩))))) (mm (br_f c0 (br_f c1 (br_f c2 (br_t c3 (if_pos a2))))))
            rw [e, li_0, shB_n (by omega)]; exact a1
          · refine two_ask hR (nI n) (cn_X4_count (br_f c0 (br_f c1 (br_f c2 (br_t c3 ⟨i0, fun b8 h8 e => br_f ?_ ⟨i0, fun b10 h10 e10 => ⟨?_, XK.rf⟩⟩⟩))))) (mm (br_f c0 (br_f c1 (br_f c2 (br_t c3 ?_)))))
            · rw [e, li_0, shB_n (by omega), a1]; decide
            · rw [e10, li_0, shB_n (by omega)]; exact a6
            · rw [if_neg (by rw [a5]; exact ne_m4 (by omega))]; exact a7
        · by_cases c4 : p0 = 4
          · exact two_ask hR _ (cn_X4_count (br_f c0 (br_f c1 (br_f c2 (br_f c3 (br_t c4 (X_allNotes isH1 hX ok ⟨rfl, XK.rf⟩))))))) (mm (br_f c0 (br_f c1 (br_f c2 (br_f c3 (br_t c4 rfl))))))
          · by_cases c5 : p0 = 5
            · exact two_ask hR _ (cn_X4_count (br_f c0 (br_f c1 (br_f c2 (br_f c3 (br_f c4 (br_t c5 (X_allLengths isH1 hX ok ⟨rfl, XK.rf⟩)))))))) (mm (br_f c0 (br_f c1 (br_f c2 (br_f c3 (br_f c4 (br_t c5 rfl)))))))
            · exact two_ask hR (-1) (cn_X4_count (br_f c0 (br_f c1 (br_f c2 (br_f c3 (br_f c4 (br_f c5 ⟨rfl, XK.rf⟩))))))) (mm (br_f c0 (br_f c1 (br_f c2 (br_f c3 (br_f c4 (br_f c5 rfl)))))))
end
section
/-! ===== compose ===== -/
abbrev cok (L c : Nat) : Prop := L % rowL (c % 4) (c / 4 + 1) = 0 ∧ L / rowL (c % 4) (c / 4 + 1) ≤ 9
def cpick (L w c : Nat) : Int32 := if w = 0 then nI (c / 4 + 1) else if w = 1 then nI (c % 4) else nI (L / rowL (c % 4) (c / 4 + 1))
def compV (L w : Nat) : Int32 := if fa_first (fun c => decide (cok L c)) 32 = 32 then -4 else cpick L w (fa_first (fun c => decide (cok L c)) 32)
theorem compV_at {L w c : Nat} (hc : c < 32) (h : cok L c) (hno : ∀ j, j < c → ¬ cok L j) : compV L w = cpick L w c := by
  have e : fa_first (fun c => decide (cok L c)) 32 = c := first_is hc (decide_eq_true h) (fun j hj => decide_eq_false (hno j hj))
  unfold compV
  rw [e, if_neg (by omega)]
theorem compV_no {L w : Nat} (hno : ∀ j, j < 32 → ¬ cok L j) : compV L w = -4 := by
  have e : fa_first (fun c => decide (cok L c)) 32 = 32 := first_none (fun j hj => decide_eq_false (hno j hj))
  unfold compV
  rw [e, if_pos rfl]
theorem X_comp {q : Int32 → DD → Prop} {d : DD} {L w : Nat} (hL : 1 ≤ L) (hL2 : L ≤ 144) (hw : w < 3) (h : q (compV L w) d) (c : Nat) (hc : c < 32) (hno : ∀ j, j < c → ¬ cok L j) (nx : c + 1 < 32 → (∀ j, j < c + 1 → ¬ cok L j) → Ev SX MX4_compose 33 [.ref 0, .int (nI L), .int (nI w), .int (nI ((c + 1) / 4 + 1)), .int (nI ((c + 1) % 4)), uJ] [] d (rI q)) : Ev SX MX4_compose 33 [.ref 0, .int (nI L), .int (nI w), .int (nI (c / 4 + 1)), .int (nI (c % 4)), uJ] [] d (rI q) := by
  have hk : c % 4 ≤ 3 := by omega
  have hn : c / 4 + 1 ≤ 8 := by omega
  have r1 := rowL_pos (k := c % 4) (n := c / 4 + 1) (by omega)
  have r2 := rowL_le (k := c % 4) (n := c / 4 + 1) hn
  have fail : ¬ cok L c → Ev SX MX4_compose 33 [.ref 0, .int (nI L), .int (nI w), .int (nI (c / 4 + 1)), .int (nI (c % 4 + 1)), uJ] [] d (rI q) := by
    intro hc2
    have hno' : ∀ j, j < c + 1 → ¬ cok L j := fun j hj => by
      by_cases z : j = c
      · subst z; exact hc2
      · exact hno j (by omega)
    by_cases z : c % 4 + 1 = 4
    · refine bk_X4_compose_33 (br_t (by rw [z]; decide) ?_)
      rw [nI_1]
      by_cases y : c + 1 = 32
      · refine bk_X4_compose_24 (br_t ?_ ?_)
        · rw [show c / 4 + 1 + 1 = 9 by omega]; decide
        · rw [compV_no (fun j hj => hno' j (by omega))] at h; exact h
      · refine bk_X4_compose_24 (br_f ?_ ?_)
        · rw [li_8]; exact fun x => absurd ((nI_ltI (by omega) (by omega)).mp x) (by omega)
        · have := nx (by omega) hno'
          rw [show (c + 1) / 4 + 1 = c / 4 + 1 + 1 by omega, show (c + 1) % 4 = 0 by omega] at this
          exact this
    · have := nx (by omega) hno'
      rw [show (c + 1) / 4 + 1 = c / 4 + 1 by omega, show (c + 1) % 4 = c % 4 + 1 by omega] at this
      exact this
  refine bk_X4_compose_33 (br_f ?_ ?_)
  · rw [li_4]; exact fun x => absurd ((nI_leI (by omega) (by omega)).mp x) (by omega)
  · rw [li_1]
    have key : ∀ n t, t + n = 10 → 1 ≤ t → (∀ u, 1 ≤ u → u < t → u * rowL (c % 4) (c / 4 + 1) ≠ L) → Ev SX MX4_compose 42 [.ref 0, .int (nI L), .int (nI w), .int (nI (c / 4 + 1)), .int (nI (c % 4)), .int (nI t)] [] d (rI q) := by
      intro n
      induction n with
      | zero =>
        intro t e _ hu
        have e : t = 10 := by omega
        subst e
        refine bk_X4_compose_42 (br_t (by decide) ?_)
        rw [nI_1]
        refine fail (fun z => ?_)
        have a1 := Nat.div_add_mod L (rowL (c % 4) (c / 4 + 1))
        rw [z.1, Nat.add_zero, Nat.mul_comm] at a1
        have a2 := z.2
        rcases Nat.eq_zero_or_pos (L / rowL (c % 4) (c / 4 + 1)) with y | y
        · rw [y, Nat.zero_mul] at a1; omega
        · exact hu _ y (by omega) a1
      | succ n ih =>
        intro t e h1 hu
        refine bk_X4_compose_42 (br_f ?_ (X_rowLength hk hn ?_))
        · rw [li_9]; exact fun x => absurd ((nI_ltI (by omega) (by omega)).mp x) (by omega)
        · have hb : t * rowL (c % 4) (c / 4 + 1) ≤ 9 * 16 := Nat.mul_le_mul (by omega) r2
          rw [pk_mul, nI_1]
          refine ⟨fun z => ih (t + 1) (by omega) (by omega) (fun u u1 u2 => ?_), fun z => ?_⟩
          · by_cases y : u = t
            · subst y; exact fun x => z (by rw [x])
            · exact hu u u1 (by omega)
          · have z := nI_inj (by omega) (by omega) z
            have hd : L / rowL (c % 4) (c / 4 + 1) = t := by rw [← z]; exact Nat.mul_div_cancel _ r1
            have hok : cok L c := ⟨by rw [← z]; exact Nat.mul_mod_left _ _, by rw [hd]; omega⟩
            rw [compV_at hc hok hno] at h
            unfold cpick at h
            rcases lt3 hw with rfl | rfl | rfl
            · exact rr_t rfl h
            · exact rr_f (by decide) (rr_t rfl h)
            · rw [hd] at h; exact rr_f (by decide) (rr_f (by decide) h)
    exact key 9 1 (by omega) (by omega) (fun u u1 u2 => absurd u2 (by omega))
theorem M_comp {q : Int32 → DD → Prop} {d : DD} {L w : Nat} (hL : 1 ≤ L) (hL2 : L ≤ 144) (hw : w < 3) (h : q (compV L w) d) (c : Nat) (hc : c < 32) (hno : ∀ j, j < c → ¬ cok L j) (nx : c + 1 < 32 → (∀ j, j < c + 1 → ¬ cok L j) → Ev SM MX5_compose 37 [.ref 0, .int (nI L), .int (nI w), .int (nI ((c + 1) / 4 + 1)), .int (nI ((c + 1) % 4)), uJ] [] d (rI q)) : Ev SM MX5_compose 37 [.ref 0, .int (nI L), .int (nI w), .int (nI (c / 4 + 1)), .int (nI (c % 4)), uJ] [] d (rI q) := by
  have hk : c % 4 ≤ 3 := by omega
  have hn : c / 4 + 1 ≤ 8 := by omega
  have r1 := rowL_pos (k := c % 4) (n := c / 4 + 1) (by omega)
  have r2 := rowL_le (k := c % 4) (n := c / 4 + 1) hn
  have fail : ¬ cok L c → Ev SM MX5_compose 37 [.ref 0, .int (nI L), .int (nI w), .int (nI (c / 4 + 1)), .int (nI (c % 4 + 1)), uJ] [] d (rI q) := by
    intro hc2
    have hno' : ∀ j, j < c + 1 → ¬ cok L j := fun j hj => by
      by_cases z : j = c
      · subst z; exact hc2
      · exact hno j (by omega)
    by_cases z : c % 4 + 1 = 4
    · refine bk_X5_compose_37 (br_t (by rw [z]; decide) ?_)
      rw [nI_1]
      by_cases y : c + 1 = 32
      · refine bk_X5_compose_28 (br_t ?_ ?_)
        · rw [show c / 4 + 1 + 1 = 9 by omega]; decide
        · rw [compV_no (fun j hj => hno' j (by omega))] at h; exact h
      · refine bk_X5_compose_28 (br_f ?_ ?_)
        · rw [li_8]; exact fun x => absurd ((nI_ltI (by omega) (by omega)).mp x) (by omega)
        · have := nx (by omega) hno'
          rw [show (c + 1) / 4 + 1 = c / 4 + 1 + 1 by omega, show (c + 1) % 4 = 0 by omega] at this
          exact this
    · have := nx (by omega) hno'
      rw [show (c + 1) / 4 + 1 = c / 4 + 1 by omega, show (c + 1) % 4 = c % 4 + 1 by omega] at this
      exact this
  refine bk_X5_compose_37 (br_f ?_ (M_rowOf hk hn ?_))
  · rw [li_4]; exact fun x => absurd ((nI_leI (by omega) (by omega)).mp x) (by omega)
  · have r0 : ¬ nI (rowL (c % 4) (c / 4 + 1)) = 0 := fun z => absurd (nI_inj (b := 0) (by omega) (by omega) z) (by omega)
    rw [jrem_nI (by omega) (by omega) (by omega), pk_div (by omega) (by omega) (by omega), nI_1]
    refine ⟨r0, fun z => fail (fun y => z (by rw [y.1]; rfl)), fun z => ⟨r0, fun y => fail (fun x => ?_), fun y => ?_⟩⟩
    · rw [li_9] at y
      have := (nI_ltI (by omega) (Nat.lt_of_le_of_lt (Nat.div_le_self _ _) (by omega))).mp y
      exact absurd x.2 (by omega)
    · rw [li_0] at z
      have z := nI_inj (Nat.lt_of_le_of_lt (Nat.mod_le _ _) (by omega)) (by omega) z
      have hle : L / rowL (c % 4) (c / 4 + 1) ≤ 9 := by
        rcases Nat.lt_or_ge 9 (L / rowL (c % 4) (c / 4 + 1)) with x | x
        · rw [li_9] at y
          exact absurd ((nI_ltI (by omega) (Nat.lt_of_le_of_lt (Nat.div_le_self _ _) (by omega))).mpr x) y
        · exact x
      rw [compV_at hc ⟨z, hle⟩ hno] at h
      unfold cpick at h
      rcases lt3 hw with rfl | rfl | rfl
      · exact rr_t rfl h
      · exact rr_f (by decide) (rr_t rfl h)
      · exact rr_f (by decide) (rr_f (by decide) ⟨r0, h⟩)
theorem two_compose {x m : DD} {H : HH} {p0 p1 : Int32} (hR : RelH H x m) : Two MX4_compose MX5_compose [.ref 0, .int p0, .int p1] x m := by
  rcases ge1_of (n := 144) (v := p0) with ⟨L, hL, hL2, rfl⟩ | hz
  · rcases ge_of (n := 3) (v := p1) (by omega) with ⟨w, hw, rfl⟩ | hz2
    · have kx : ∀ n c, c + n = 31 → (∀ j, j < c → ¬ cok L j) → Ev SX MX4_compose 33 [.ref 0, .int (nI L), .int (nI w), .int (nI (c / 4 + 1)), .int (nI (c % 4)), uJ] [] x (rI fun r' d => r' = compV L w ∧ XK x d) := by
        intro n
        induction n with
        | zero => intro c e hno; exact X_comp hL hL2 hw ⟨rfl, XK.rf⟩ c (by omega) hno (fun z => absurd z (by omega))
        | succ n ih => intro c e hno; exact X_comp hL hL2 hw ⟨rfl, XK.rf⟩ c (by omega) hno (fun z hno' => ih (c + 1) (by omega) hno')
      have km : ∀ n c, c + n = 31 → (∀ j, j < c → ¬ cok L j) → Ev SM MX5_compose 37 [.ref 0, .int (nI L), .int (nI w), .int (nI (c / 4 + 1)), .int (nI (c % 4)), uJ] [] m (rI fun r' d => r' = compV L w ∧ MK m d) := by
        intro n
        induction n with
        | zero => intro c e hno; exact M_comp hL hL2 hw ⟨rfl, MK.rf⟩ c (by omega) hno (fun z => absurd z (by omega))
        | succ n ih => intro c e hno; exact M_comp hL hL2 hw ⟨rfl, MK.rf⟩ c (by omega) hno (fun z hno' => ih (c + 1) (by omega) hno')
      refine two_ask hR (compV L w) (cn_X4_compose (X_w1_y (n := 144) (by omega) hL hL2 (y1' (X_win_y (n := 2) (by omega) (by omega) (y1 (bk_X4_compose_24 (br_f (by decide) ?_))))))) (cn_X5_compose (M_w1_y (n := 144) (by omega) hL hL2 (y1' (M_win_y (n := 2) (by omega) (by omega) (y1 (bk_X5_compose_28 (br_f (by decide) ?_)))))))
      · exact kx 31 0 (by omega) (fun j hj => absurd hj (Nat.not_lt_zero j))
      · exact km 31 0 (by omega) (fun j hj => absurd hj (Nat.not_lt_zero j))
    · exact two_ask hR (-1) (cn_X4_compose (X_w1_y (n := 144) (by omega) hL hL2 (y1' (X_win_n (n := 2) (by omega) hz2 (y0 ⟨rfl, XK.rf⟩))))) (cn_X5_compose (M_w1_y (n := 144) (by omega) hL hL2 (y1' (M_win_n (n := 2) (by omega) hz2 (y0 ⟨rfl, MK.rf⟩)))))
  · exact two_ask hR (-1) (cn_X4_compose (X_w1_n (n := 144) (by omega) hz (y0' ⟨rfl, XK.rf⟩))) (cn_X5_compose (M_w1_n (n := 144) (by omega) hz (y0' ⟨rfl, MK.rf⟩)))
end
section
/-! ===== teach ===== -/
def tauA (H : HH) (p : Nat) : Nat := awayS (pu H 5 p 9) (playS (pu H 5 p 9) 0)
def teaS (H : HH) : Nat → Nat × Nat := itr (fun p s => if tauA H p < s.1 then (tauA H p, p + 1) else s) (awayS H (playS H 0), 0)
theorem teaS_s (H : HH) (k : Nat) : teaS H (k + 1) = if tauA H k < (teaS H k).1 then (tauA H k, k + 1) else teaS H k := rfl
theorem OKH.skill9 {H : HH} (ok : OKH H) (p : Nat) : OKH (pu H 5 p 9) := ok.put (by omega) ⟨by simp, by simp, by simp, by simp, by simp, fun _ => (by omega), by simp, by simp, by simp, by simp⟩
theorem tauA_le {H : HH} (ok : OKH H) (p : Nat) : tauA H p ≤ 6 := awayS_le (ok.skill9 p)
theorem teaS_le {H : HH} (ok : OKH H) : ∀ k, (teaS H k).1 ≤ 6 ∧ (teaS H k).2 ≤ k := by
  intro k
  induction k with
  | zero => exact ⟨awayS_le ok, Nat.le_refl _⟩
  | succ k ih =>
    rw [teaS_s]
    split
    · exact ⟨tauA_le ok k, Nat.le_refl _⟩
    · exact ⟨ih.1, by omega⟩
def teaV (s : Nat × Nat) (w : Nat) : Int32 := if s.2 = 0 then -4 else if w = 0 then nI (s.2 - 1) else nI s.1
theorem pinv_pu5 {H : HH} {m p v : Nat} {P : PL} (h : Pinv (pu H 5 p v) m P) : Pinv H m P := h
theorem awayS_pu5 {H : HH} {p v : Nat} {P : PL} : awayS (pu H 5 p v) P = awayS H P := rfl
theorem X_teach_51 {q : Int32 → DD → Prop} {x d : DD} {H : HH} {w : Nat} (hX : XH 1 x H) (ok : OKH H) (hw : w < 2) (hk0 : XK x d) (h23 : XH 23 d H) (h : ∀ d', XK x d' → q (teaV (teaS H (nP H)) w) d') : Ev SX MX4_teach 51 [.ref 0, .int (nI w), .int (nI (awayS H (playS H 0))), .int (-1), .int (nI 0), uJ] [] d (rI q) := by
  have o4 := ok.p4
  have iH : isH 23 := by unfold isH; omega
  refine for_up (W := fun k d' => Ev SX MX4_teach 51 [.ref 0, .int (nI w), .int (nI (teaS H k).1), .int (mo1 (teaS H k).2), .int (nI k), uJ] [] d' (rI q)) (I := fun k d' => XK x d' ∧ XH 23 d' H) (nP H) ?_ ?_ 0 d (Nat.zero_le _) ⟨hk0, h23⟩
  · rintro d' ⟨g1, g2⟩
    have hle := teaS_le ok (nP H)
    have h := h d' g1
    refine bk_X4_teach_51 ⟨fun _ => ?_, fun c => absurd ?_ c⟩
    · unfold teaV at h
      unfold mo1
      by_cases z : (teaS H (nP H)).2 = 0
      · rw [if_pos z] at h; rw [if_pos z]
        exact br_f (by decide) h
      · rw [if_neg z] at h; rw [if_neg z]
        refine br_t (by rw [li_0]; exact nI_le (Nat.zero_le _) (by omega)) ?_
        rcases (show w = 0 ∨ w = 1 by omega) with rfl | rfl
        · exact rr_t rfl h
        · exact rr_f (by decide) h
    · rw [(hX.xk g1).np]; exact nI_le (Nat.le_refl _) (by omega)
  · rintro k d' hk ⟨g1, g2⟩ ih
    have hle := teaS_le ok k
    have ha := tauA_le ok k
    have i4 : vp_in (nI k) 4 := vp_in_nI (by omega) (by omega)
    refine bk_X4_teach_51 ⟨fun c => ?_, fun _ => ⟨i4, nm_e ?_⟩⟩
    · rw [(hX.xk g1).np] at c; exact absurd ((nI_leI (by omega) (by omega)).mp c) (by omega)
    · rw [nI_clamp (by omega), nI_1]
      have h9 : XH 23 (up d' 29 k 9) (pu H 5 k 9) := g2.put (f := 5) (i := k) (v := 9) (by omega) (fun z => absurd z (by decide))
      refine X_run (sil := 0) iH h9 (ok.skill9 k) (by omega) fun d2 f e => ⟨i4, i4, nm_e ?_⟩
      have g3 : XK x (up d' 29 k 9) := fun a ha => by rw [up_ne a (by omega)]; exact g1 a ha
      have g4 : XK x d2 := g3.tr f.k
      have h7 : d2 7 k = nI (H 5 k) := (hX.xk g4).skill hk
      have g5 : XK x (up d2 29 k (d2 7 k)) := fun a ha => by rw [up_ne a (by omega)]; exact g4 a ha
      have hH : XH 23 (up d2 29 k (d2 7 k)) H := by
        have h9' : XH 23 d2 (pu H 5 k 9) := h9.kept (fun a _ _ => f a (by omega))
        rw [h7]
        have := h9'.put (f := 5) (i := k) (v := H 5 k) (by omega) (fun z => absurd z (by decide))
        rw [show pu (pu H 5 k 9) 5 k (H 5 k) = H from by
          funext g j
          rw [pu_rd]; split
          · rename_i z; rw [z.1, z.2]
          · rename_i z; rw [pu_n z]] at this
        exact this
      have e' : XE (up d2 29 k (d2 7 k)) H (playS (pu H 5 k 9) 0) := by
        refine ⟨fun t ht => ?_, fun p hp => ?_⟩
        · rw [up_ne 39 (by omega), up_ne 40 (by omega), up_ne 41 (by omega)]; exact e.1 t ht
        · rw [up_ne 42 (by omega)]; exact e.2 p hp
      refine X_away iH hH ok (pinv_pu5 (play_inv (ok.skill9 k))) e' ?_
      have := ih _ ⟨g5, hH⟩
      rw [teaS_s] at this
      refine ⟨fun c => ?_, fun c => ?_⟩
      · have c := (nI_leI (show (teaS H k).1 < 2 ^ 31 by omega) (show tauA H k < 2 ^ 31 by omega)).mp c
        rw [if_neg (by omega)] at this; exact this
      · have c : tauA H k < (teaS H k).1 := by
          rcases Nat.lt_or_ge (tauA H k) (teaS H k).1 with y | y
          · exact y
          · exact absurd ((nI_leI (show (teaS H k).1 < 2 ^ 31 by omega) (show tauA H k < 2 ^ 31 by omega)).mpr y) c
        rw [if_pos c] at this; exact this
theorem M_teach_23 {q : Int32 → DD → Prop} {x d : DD} {H : HH} {w : Nat} (hM : MH 0 x H) (ok : OKH H) (hs : x 0 26 = nI 0) (hw : w < 2) (hk0 : MK x d) (h : ∀ d', MK x d' → q (teaV (teaS H (nP H)) w) d') : Ev SM MX5_teach 23 [.ref 0, .int (nI w), .int (nI (awayS H (playS H 0))), .int (-4), .int (nI 0), uJ, uJ] [] d (rI q) := by
  have o4 := ok.p4
  refine for_up (W := fun k d' => Ev SM MX5_teach 23 [.ref 0, .int (nI w), .int (nI (teaS H k).1), .int (mv (teaS H k).2), .int (nI k), uJ, uJ] [] d' (rI q)) (I := fun k d' => MK x d') (nP H) ?_ ?_ 0 d (Nat.zero_le _) hk0
  · rintro d' g1
    have hle := teaS_le ok (nP H)
    have h := h d' g1
    refine bk_X5_teach_23 ⟨fun _ => ?_, fun c => absurd ?_ c⟩
    · unfold teaV at h
      unfold mv
      by_cases z : (teaS H (nP H)).2 = 0
      · rw [if_pos z] at h; rw [if_pos z]
        exact br_t rfl h
      · rw [if_neg z] at h; rw [if_neg z]
        refine br_f (ne_m4 (by omega)) ?_
        rcases (show w = 0 ∨ w = 1 by omega) with rfl | rfl
        · exact rr_t rfl h
        · exact rr_f (by decide) h
    · rw [(hM.mk ok g1).np]; exact nI_le (Nat.le_refl _) (by omega)
  · rintro k d' hk g1 ih
    have hle := teaS_le ok k
    have ha := tauA_le ok k
    have hM' := hM.mk ok g1
    refine bk_X5_teach_23 ⟨fun c => ?_, fun _ => ?_⟩
    · rw [hM'.np] at c; exact absurd ((nI_leI (by omega) (by omega)).mp c) (by omega)
    · rw [show (48 : Int32) + nI k = nI (48 + k) from nI_add 48 k]
      have i4 : vp_in (nI (48 + k)) 350 := vp_in_nI (by omega) (by omega)
      refine ⟨i4, nm_e ⟨i4, nm_e ?_⟩⟩
      rw [nI_clamp (by omega), nI_1]
      have h9 : MH 0 (up d' 1 (48 + k) 9) (pu H 5 k 9) := by
        have := hM'.put (f := 5) (i := k) (v := 9) ok (by omega) (show k < 4 by omega) (fun z => absurd z (by decide)) (fun z => absurd z (by decide))
        rw [Nat.zero_add] at this
        exact this
      refine M_awayMany (sil := 0) h9 (ok.skill9 k) (by rw [up_ne 0 (by omega), g1.1 26 (by omega)]; exact hs) (by omega) fun d2 f e => ⟨i4, nm_e ?_⟩
      have g3 : MK x (up d2 1 (48 + k) (d' 1 (48 + k))) := by
        refine ⟨fun j hj => ?_, fun j hj => ?_, fun a ha => ?_⟩
        · rw [up_ne 0 (by omega), f 0 (by omega), up_ne 0 (by omega)]; exact g1.1 j hj
        · rw [up_rd]; split
          · rename_i z; rw [z.2]; exact g1.2.1 _ (by omega)
          · rename_i z; rw [f 1 (by omega), up_n (by omega)]; exact g1.2.1 j hj
        · rw [up_ne a (by omega), f a (by omega), up_ne a (by omega)]; exact g1.2.2 a ha
      have := ih _ g3
      rw [teaS_s] at this
      refine ⟨fun c => ?_, fun c => ?_⟩
      · have c' := (nI_leI (show (teaS H k).1 < 2 ^ 31 by omega) (show tauA H k < 2 ^ 31 by omega)).mp c
        rw [if_neg (by omega)] at this; exact br_t c this
      · have c' : tauA H k < (teaS H k).1 := by
          rcases Nat.lt_or_ge (tauA H k) (teaS H k).1 with y | y
          · exact y
          · exact absurd ((nI_leI (show (teaS H k).1 < 2 ^ 31 by omega) (show tauA H k < 2 ^ 31 by omega)).mpr y) c
        rw [if_pos c', mv_s] at this; exact br_f c this
theorem two_teach {x m : DD} {H : HH} {p0 : Int32} (hR : RelH H x m) : Two MX4_teach MX5_teach [.ref 0, .int p0] x m := by
  obtain ⟨ok, hX, hM, hO⟩ := id hR
  have iH : isH 23 := by unfold isH; omega
  rcases ge_of (n := 2) (v := p0) (by omega) with ⟨w, hw, rfl⟩ | hz
  · refine two_ask hR (teaV (teaS H (nP H)) w) (cn_X4_teach (X_win_y (n := 1) (by omega) (by omega) (y1 (X_run (sil := 0) isH1 hX ok (by omega) fun d' f e => X_away isH1 (hX.xk f.k) ok (play_inv ok) e (X_becomeH iH isH1 (by omega) (hX.xk f.k) ok fun d2 g1 g2 => X_teach_51 hX ok hw (f.k.tr (fun a ha => g1 a (by omega))) g2 fun d3 g3 => ⟨rfl, g3⟩))))) (cn_X5_teach (M_win_y (n := 1) (by omega) (by omega) (y1 (M_awayMany (sil := 0) hM ok hO.sil (by omega) fun d' f e => M_teach_23 hM ok hO.sil hw f.k fun d3 g3 => ⟨rfl, g3⟩))))
  · exact two_ask hR (-1) (cn_X4_teach (X_win_n (n := 1) (by omega) hz (y0 ⟨rfl, XK.rf⟩))) (cn_X5_teach (M_win_n (n := 1) (by omega) hz (y0 ⟨rfl, MK.rf⟩)))
end
