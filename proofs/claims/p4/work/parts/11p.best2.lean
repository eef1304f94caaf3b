/-! ===== best ===== -/
theorem x1_lt {k v A : Nat} (hA : A ≤ 6) (hv : v ≤ 1000000) (h0 : k = 0 → v = 1000000) : nI A < x1 k v ↔ A < v := by
  unfold x1
  by_cases z : k = 0
  · rw [if_pos z, h0 z]
    have : nI A < (1000000 : Int32) := by rw [li_1000000]; exact (nI_ltI (by omega) (by omega)).mpr (by omega)
    exact ⟨fun _ => (by omega), fun _ => this⟩
  · rw [if_neg z]; exact nI_ltI (by omega) (by omega)
theorem X_best_98 {q : Int32 → DD → Prop} {x d : DD} {H : HH} {w f : Nat} (hX : XH 1 x H) (ok : OKH H) (hT : 0 < nT H) (hw : (w < 2 ∧ f = 0) ∨ (f = 1 ∧ ∃ p, p < nP H ∧ w = 10 + p)) (hk0 : XK x d) (h23 : XH 23 d H) (h : ∀ d', XK x d' → q (besV H w) d') : Ev SX MX4_best 98 [.ref 0, .int (nI w), .int (nI f), .int (nI (nT H ^ nP H)), .int (nI 0), .int 1000000, .int 1000000, .int (nI 0), uJ, uJ] [] d (rI q) := by
  have o4 := ok.p4
  have t4 := ok.t4
  have iH : isH 23 := by unfold isH; omega
  have hcs := codes_le (b := nP H) t4 o4 hT
  have hW : w < 14 := by rcases hw with ⟨a, _⟩ | ⟨_, p, a, b⟩ <;> omega
  refine for_up (W := fun k d' => Ev SX MX4_best 98 [.ref 0, .int (nI w), .int (nI f), .int (nI (nT H ^ nP H)), .int (nI (besS H k).1), .int (x1 k (besS H k).2.1), .int (x1 k (besS H k).2.2), .int (nI k), uJ, uJ] [] d' (rI q)) (I := fun _ d' => XK x d' ∧ ∃ H2, XH 23 d' H2 ∧ like H H2 8 (nP H)) (nT H ^ nP H) ?_ ?_ 0 d (Nat.zero_le _) ⟨hk0, H, h23, fun _ _ _ => rfl⟩
  · rintro d' ⟨g1, H2, g2, g3⟩
    have hX' := hX.xk g1
    have hle := besS_le ok hT (nT H ^ nP H)
    refine bk_X4_best_98 (br_t (nI_le (Nat.le_refl _) (by omega)) ?_)
    rw [hX'.nt, hX'.np]
    rcases hw with ⟨a, b⟩ | ⟨a, p, hp, b⟩
    · subst b
      refine rr_t rfl ?_
      have h := h d' g1
      unfold besV at h
      rcases (show w = 0 ∨ w = 1 by omega) with rfl | rfl
      · refine rr_t rfl ?_
        unfold x1; rw [if_neg (by omega)]; exact h
      · refine rr_f (by decide) ?_
        unfold x1; rw [if_neg (by omega)]; exact h
    · subst a b
      refine rr_f (by decide) (X_spread (c := 32) rfl (by omega) o4 hT (by omega) (by omega) fun d3 e1 e2 e3 => ⟨?_, ?_⟩)
      · rw [li_10, pk_sub (by omega)]; exact vp_in_nI (by omega) (by omega)
      · have h := h d3 (fun a ha => by rw [e1 a (by omega)]; exact g1 a ha)
        unfold besV at h
        rw [if_neg (by omega), if_neg (by omega)] at h
        rw [li_10, pk_sub (by omega), nI_clamp (by omega), e2 _ (by omega)]; exact h
  · rintro k d' hk ⟨g1, H2, g2, g3⟩ ih
    have hX' := hX.xk g1
    have hle := besS_le ok hT k
    have hA := besA_le ok hT k
    have hC := besC_le ok hT k
    have okS := ok.spr8 hT k
    refine bk_X4_best_98 (br_f (fun c => absurd ((nI_leI (by omega) (by omega)).mp c) (by omega)) ?_)
    rw [hX'.nt, hX'.np]
    refine X_spread (c := 32) rfl (by omega) o4 hT (by omega) (by omega) fun d3 e1 e2 e3 => ?_
    have s23 : XH 23 d3 (spr H 8 (nT H) (nP H) k) := g2.spr8 g3 e1 e2
    have k3 : XK x d3 := fun a ha => by rw [e1 a (by omega)]; exact g1 a ha
    refine X_run (sil := 0) iH s23 okS (by omega) fun d4 f4 e4 => ?_
    have s23' : XH 23 d4 (spr H 8 (nT H) (nP H) k) := s23.kept (fun a _ _ => f4 a (by omega))
    refine X_away iH s23' okS (play_inv okS) e4 (X_cost iH s23' okS e4 ?_)
    have := ih d4 ⟨k3.tr f4.k, _, s23', spr_like⟩
    rw [besS_s] at this
    have ex : ∀ v, x1 (k + 1) v = nI v := fun v => if_neg (by omega)
    rw [ex, ex] at this
    rw [nI_1]
    have c1 := x1_lt (k := k) (v := (besS H k).2.1) hA hle.2.1 (fun z => by subst z; rfl)
    by_cases z1 : besA H k < (besS H k).2.1
    · rw [if_pos (Or.inl z1)] at this
      exact br_t (c1.mpr z1) this
    · have kn : k ≠ 0 := fun z => by subst z; exact z1 (show besA H 0 < 1000000 by omega)
      have ex' : ∀ v, x1 k v = nI v := fun v => if_neg kn
      refine br_f (mt c1.mp z1) ?_
      rw [ex', ex']
      by_cases z2 : besA H k = (besS H k).2.1
      · refine rr_t (show nI (besA H k) = _ by rw [z2]) ?_
        by_cases z3 : besC H k < (besS H k).2.2
        · rw [if_pos (Or.inr ⟨z2, z3⟩)] at this
          exact br_f (fun c => absurd ((nI_leI (by omega) (show besC H k < 2 ^ 31 by omega)).mp c) (by omega)) this
        · rw [if_neg (fun y => by rcases y with y | y <;> omega)] at this
          exact br_t ((nI_leI (by omega) (show besC H k < 2 ^ 31 by omega)).mpr (by omega)) this
      · rw [if_neg (fun y => by rcases y with y | y <;> omega)] at this
        exact rr_f (fun c => z2 (nI_inj (show besA H k < 2 ^ 31 by omega) (by omega) c)) this
/-- the page is kept at 280 -/
def MB (m d : DD) : Prop := MK2 m d ∧ ∀ i, i < 70 → d 1 (280 + i) = m 1 i
theorem MB.mf {m d d' : DD} (h : MB m d) (f : MF d d') : MB m d' := by
  obtain ⟨⟨a1, a2, a3⟩, a4⟩ := h
  exact ⟨⟨fun j hj => by rw [f 0 (by omega)]; exact a1 j hj, fun j h1 h2 => by rw [f 1 (by omega)]; exact a2 j h1 h2, fun a ha => by rw [f a (by omega)]; exact a3 a ha⟩, fun i hi => by rw [f 1 (by omega)]; exact a4 i hi⟩
theorem MB.row {m d d' : DD} (h : MB m d) (f : ∀ a, a ≠ 1 → d' a = d a) (f1 : ∀ j, 70 ≤ j → d' 1 j = d 1 j) : MB m d' := by
  obtain ⟨⟨a1, a2, a3⟩, a4⟩ := h
  exact ⟨⟨fun j hj => by rw [f 0 (by omega)]; exact a1 j hj, fun j h1 h2 => by rw [f1 j (by omega)]; exact a2 j h1 h2, fun a ha => by rw [f a (by omega)]; exact a3 a ha⟩, fun i hi => by rw [f1 _ (by omega)]; exact a4 i hi⟩
theorem MB.fin {m d d' : DD} (h : MB m d) (f : ∀ a, a ≠ 1 → d' a = d a) (f1 : ∀ j, j < 0 ∨ 0 + 70 ≤ j → d' 1 j = d 1 j) (f2 : ∀ i, i < 70 → d' 1 (0 + i) = d 1 (280 + i)) : MK m d' := by
  obtain ⟨⟨a1, a2, a3⟩, a4⟩ := h
  refine ⟨fun j hj => by rw [f 0 (by omega)]; exact a1 j hj, fun j hj => ?_, fun a ha => by rw [f a (by omega)]; exact a3 a ha⟩
  rcases Nat.lt_or_ge j 70 with z | z
  · have := f2 j z
    rw [Nat.zero_add] at this
    rw [this]; exact a4 j z
  · rw [f1 j (by omega)]; exact a2 j z hj
theorem MB.beg {m d d' : DD} (h : MK m d) (f : ∀ a, a ≠ 1 → d' a = d a) (f1 : ∀ j, j < 280 ∨ 280 + 70 ≤ j → d' 1 j = d 1 j) (f2 : ∀ i, i < 70 → d' 1 (280 + i) = d 1 (0 + i)) : MB m d' := by
  obtain ⟨a1, a2, a3⟩ := h
  exact ⟨⟨fun j hj => by rw [f 0 (by omega)]; exact a1 j hj, fun j h1 h2 => by rw [f1 j (by omega)]; exact a2 j h2, fun a ha => by rw [f a (by omega)]; exact a3 a ha⟩, fun i hi => by rw [f2 i hi, Nat.zero_add]; exact a2 i (by omega)⟩
theorem MB.sil {m d : DD} (h : MB m d) : d 0 26 = m 0 26 := h.1.1 26 (by omega)
