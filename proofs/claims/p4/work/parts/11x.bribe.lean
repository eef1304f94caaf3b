/-! ===== bribe ===== -/
def outB (H : HH) (P : PL) (st mi k : Nat) : Bool := !(st.testBit k) || decide (P 0 (H 9 k) - 1 ≤ mi)
def allB (H : HH) (P : PL) (st mi : Nat) : Nat → Bool
  | 0 => true
  | k + 1 => allB H P st mi k && outB H P st mi k
theorem allB_no {H : HH} {P : PL} {st mi k : Nat} (h : outB H P st mi k = false) : ∀ n, k < n → allB H P st mi n = false := by
  intro n
  induction n with
  | zero => intro z; exact absurd z (Nat.not_lt_zero k)
  | succ n ih =>
    intro z
    show (allB H P st mi n && outB H P st mi n) = false
    by_cases y : k = n
    · subst y; rw [h, Bool.and_false]
    · rw [ih (by omega), Bool.false_and]
theorem X_allOut {q : Int32 → DD → Prop} {d : DD} {H : HH} {P : PL} {st mi : Nat} (hX : XH 1 d H) (ok : OKH H) (hI : Pinv H 160 P) (hE : XE d H P) (hs : st < 64) (hm : mi < 160) (h : q (b2 (allB H P st mi (nB H))) d) : Cn SX MX1_allOut [.ref 38, .ref 1, .int (nI st), .int (nI mi)] d (rI q) := by
  have o6 := ok.b6
  refine cn_X1_allOut isH1 ?_
  rw [li_0]
  refine for_up (W := fun k d' => Ev SX MX1_allOut 3 [.ref 38, .ref 1, .int (nI st), .int (nI mi), .int (nI k)] [] d' (rI q)) (I := fun k d' => d' = d ∧ allB H P st mi k = true) (nB H) ?_ ?_ 0 d (Nat.zero_le _) ⟨rfl, rfl⟩
  · rintro d' ⟨rfl, e⟩
    refine bk_X1_allOut_3 isH1 (br_t ?_ ?_)
    · rw [hX.nb]; exact nI_le (Nat.le_refl _) (by omega)
    · rw [e] at h; exact h
  · rintro k d' hk ⟨rfl, e⟩ ih
    have es : allB H P st mi (k + 1) = (allB H P st mi k && outB H P st mi k) := rfl
    have b0 := (hI.2.2.1 _ (ok.bb hk)).1
    refine bk_X1_allOut_3 isH1 (br_f ?_ ?_)
    · rw [hX.nb]; exact fun c => absurd ((nI_leI (by omega) (by omega)).mp c) (by omega)
    · rw [bit_of (by omega) (by omega), nI_1]
      cases hb : st.testBit k
      · refine rr_f (by decide) (ih d' ⟨rfl, ?_⟩)
        rw [es, e]; unfold outB; rw [hb]; rfl
      · refine rr_t rfl (X_outAt isH1 hX ok hE hk ?_)
        have c2 : nI (P 0 (H 9 k) - 1) ≤ nI mi ↔ P 0 (H 9 k) - 1 ≤ mi := nI_leI (by omega) (by omega)
        by_cases z : P 0 (H 9 k) - 1 ≤ mi
        · refine br_t (c2.mpr z) (ih d' ⟨rfl, ?_⟩)
          rw [es, e]; unfold outB; rw [hb, decide_eq_true z]; rfl
        · have : outB H P st mi k = false := by unfold outB; rw [hb, decide_eq_false z]; rfl
          rw [allB_no this _ hk] at h
          exact br_f (mt c2.mp z) h
/-- the least of those that do, in [lo, hi): 0 none, else it and 1 -/
def isB (g : Nat → Bool) (lo hi R : Nat) : Prop := (R = 0 ∧ ∀ c, lo ≤ c → c < hi → g c = false) ∨ (R ≠ 0 ∧ lo ≤ R - 1 ∧ R - 1 < hi ∧ g (R - 1) = true ∧ ∀ c, lo ≤ c → c < hi → g c = true → bitsN (R - 1) 6 < bitsN c 6 ∨ (bitsN (R - 1) 6 = bitsN c 6 ∧ R - 1 ≤ c))
theorem isB_uniq {g : Nat → Bool} {lo hi R R' : Nat} (h : isB g lo hi R) (h' : isB g lo hi R') : R = R' := by
  rcases h with ⟨a, b⟩ | ⟨a, b, c, d, e⟩ <;> rcases h' with ⟨a', b'⟩ | ⟨a', b', c', d', e'⟩
  · omega
  · have := b _ b' c'; rw [d'] at this; cases this
  · have := b' _ b c; rw [d] at this; cases this
  · have f1 := e _ b' c' d'
    have f2 := e' _ b c d
    omega
theorem isB_up0 {g : Nat → Bool} {k R : Nat} (h : isB g 0 k R) (hg : g k = false) : isB g 0 (k + 1) R := by
  rcases h with ⟨a, b⟩ | ⟨a, b, c, d, e⟩
  · refine Or.inl ⟨a, fun c _ hc => ?_⟩
    by_cases z : c = k
    · subst z; exact hg
    · exact b c (by omega) (by omega)
  · refine Or.inr ⟨a, b, (by omega), d, fun c' _ hc g' => ?_⟩
    by_cases z : c' = k
    · subst z; rw [hg] at g'; cases g'
    · exact e c' (by omega) (by omega) g'
theorem isB_skip {g : Nat → Bool} {k R : Nat} (h : isB g 0 k R) (hR : R ≠ 0) (hb : bitsN (R - 1) 6 ≤ bitsN k 6) : isB g 0 (k + 1) R := by
  rcases h with ⟨a, b⟩ | ⟨a, b, c, d, e⟩
  · exact absurd a hR
  · refine Or.inr ⟨a, b, (by omega), d, fun c' _ hc g' => ?_⟩
    by_cases z : c' = k
    · subst z; omega
    · exact e c' (by omega) (by omega) g'
theorem isB_up1 {g : Nat → Bool} {k R : Nat} (h : isB g 0 k R) (hg : g k = true) (hb : R = 0 ∨ bitsN k 6 < bitsN (R - 1) 6) : isB g 0 (k + 1) (k + 1) := by
  refine Or.inr ⟨(by omega), (by omega), (by omega), hg, fun c' _ hc g' => ?_⟩
  rw [Nat.add_sub_cancel]
  by_cases z : c' = k
  · subst z; omega
  · rcases h with ⟨a, b⟩ | ⟨a, b, c, d, e⟩
    · have := b c' (by omega) (by omega); rw [g'] at this; cases this
    · have := e c' (by omega) (by omega) g'
      omega
theorem isB_dn0 {g : Nat → Bool} {k N R : Nat} (h : isB g (k + 1) N R) (hg : g k = false ∨ (R ≠ 0 ∧ bitsN (R - 1) 6 < bitsN k 6)) : isB g k N R := by
  rcases h with ⟨a, b⟩ | ⟨a, b, c, d, e⟩
  · refine Or.inl ⟨a, fun c h1 hc => ?_⟩
    by_cases z : c = k
    · subst z
      rcases hg with y | y
      · exact y
      · exact absurd a y.1
    · exact b c (by omega) (by omega)
  · refine Or.inr ⟨a, (by omega), c, d, fun c' h1 hc g' => ?_⟩
    by_cases z : c' = k
    · subst z
      rcases hg with y | y
      · rw [y] at g'; cases g'
      · exact Or.inl y.2
    · exact e c' (by omega) (by omega) g'
theorem isB_dn1 {g : Nat → Bool} {k N R : Nat} (h : isB g (k + 1) N R) (hk : k < N) (hg : g k = true) (hb : R = 0 ∨ bitsN k 6 ≤ bitsN (R - 1) 6) : isB g k N (k + 1) := by
  refine Or.inr ⟨(by omega), (by omega), (by omega), hg, fun c' h1 hc g' => ?_⟩
  rw [Nat.add_sub_cancel]
  by_cases z : c' = k
  · subst z; omega
  · rcases h with ⟨a, b⟩ | ⟨a, b, c, d, e⟩
    · have := b c' (by omega) (by omega); rw [g'] at this; cases this
    · have := e c' (by omega) (by omega) g'
      omega
def briG (H : HH) (st mi : Nat) (c : Nat) : Bool := allB H (playS H c) st mi (nB H)
def briV (R w : Nat) : Int32 := if R = 0 then -4 else if w = 0 then nI (bitsN (R - 1) 6) else nI (R - 1)
theorem X_bribe_59 {q : Int32 → DD → Prop} {x : DD} {H : HH} {st mi w : Nat} (hX : XH 1 x H) (ok : OKH H) (hs : st < 64) (hm : mi < 160) (hw : w < 2) (h : ∀ R d', isB (briG H st mi) 0 (2 ^ nP H) R → XK x d' → q (briV R w) d') : Ev SX MX4_bribe 59 [.ref 0, .int (nI st), .int (nI mi), .int (nI w), .int 1, .int (-1), .int (nI 0)] [] x (rI q) := by
  have o4 := ok.p4
  have hN : 2 ^ nP H ≤ 16 := Nat.le_trans (Nat.pow_le_pow_right (by decide) o4) (by decide)
  suffices hh : ∀ n k R d', k + n = 2 ^ nP H → isB (briG H st mi) 0 k R → XK x d' → Ev SX MX4_bribe 59 [.ref 0, .int (nI st), .int (nI mi), .int (nI w), .int 1, .int (mo1 R), .int (nI k)] [] d' (rI q) from hh (2 ^ nP H) 0 0 x (by omega) (Or.inl ⟨rfl, fun c _ hc => absurd hc (Nat.not_lt_zero c)⟩) XK.rf
  intro n
  induction n with
  | zero =>
    intro k R d' e hB g1
    have e : k = 2 ^ nP H := by omega
    subst e
    have h := h R d' hB g1
    have hR : R ≤ 16 := by rcases hB with ⟨a, _⟩ | ⟨_, _, c, _⟩ <;> omega
    refine bk_X4_bribe_59 (br_t ?_ ?_)
    · rw [(hX.xk g1).np, shl1 (by omega)]; exact nI_le (Nat.le_refl _) (by omega)
    · unfold briV at h
      unfold mo1
      by_cases z : R = 0
      · rw [if_pos z] at h; rw [if_pos z]; exact br_f (by decide) h
      · rw [if_neg z] at h; rw [if_neg z]
        refine br_t (by rw [li_0]; exact nI_le (Nat.zero_le _) (by omega)) ?_
        rcases (show w = 0 ∨ w = 1 by omega) with rfl | rfl
        · exact rr_t rfl (X_bitCount (by omega) h)
        · exact rr_f (by decide) h
  | succ n ih =>
    intro k R d' e hB g1
    have hR : R ≤ 16 := by rcases hB with ⟨a, _⟩ | ⟨_, _, c, _⟩ <;> omega
    have run : (R = 0 ∨ bitsN k 6 < bitsN (R - 1) 6) → Ev SX MX4_bribe 91 [.ref 0, .int (nI st), .int (nI mi), .int (nI w), .int 1, .int (mo1 R), .int (nI k)] [] d' (rI q) := by
      intro hb
      refine bk_X4_bribe_91 (X_run (sil := k) isH1 (hX.xk g1) ok (by omega) fun d2 f e2 => X_allOut (hX.xk (g1.tr f.k)) ok (play_inv ok) e2 hs hm ?_)
      rw [nI_1]
      cases hg : allB H (playS H k) st mi (nB H)
      · exact br_t rfl (ih (k + 1) R d2 (by omega) (isB_up0 hB hg) (g1.tr f.k))
      · refine br_f (by decide) ?_
        have := ih (k + 1) (k + 1) d2 (by omega) (isB_up1 hB hg hb) (g1.tr f.k)
        rw [show mo1 (k + 1) = nI k from if_neg (by omega)] at this
        exact this
    refine bk_X4_bribe_59 (br_f ?_ ?_)
    · rw [(hX.xk g1).np, shl1 (by omega)]; exact fun c => absurd ((nI_leI (by omega) (by omega)).mp c) (by omega)
    · by_cases z : R = 0
      · refine br_t ?_ (run (Or.inl z))
        unfold mo1; rw [if_pos z]; decide
      · have em : mo1 R = nI (R - 1) := if_neg z
        have b6 := bits6 (K := k)
        have b6' := bits6 (K := R - 1)
        refine br_f ?_ (X_bitCount (by omega) ?_)
        · rw [em, li_0]; exact fun c => absurd ((nI_ltI (by omega) (by omega)).mp c) (by omega)
        · have c2 : nI (bitsN (R - 1) 6) ≤ nI (bitsN k 6) ↔ bitsN (R - 1) 6 ≤ bitsN k 6 := nI_leI (by omega) (by omega)
          have run := run
          rw [em] at run ⊢
          refine X_bitCount (by omega) ?_
          rw [nI_1]
          by_cases y : bitsN (R - 1) 6 ≤ bitsN k 6
          · refine br_t (c2.mpr y) ?_
            have := ih (k + 1) R d' (by omega) (isB_skip hB z y) g1
            rw [em] at this; exact this
          · exact br_f (mt c2.mp y) (run (Or.inr (by omega)))
