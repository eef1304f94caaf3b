-- X5_in
theorem cn_X5_in {q : Int32 → DD → Prop} {d : DD} {p0 : Int64} {p1 : Int64} {p2 : Int64} (h : (((lg_cmp p0 p1) < 0 → q 0 d) ∧ (¬ (lg_cmp p0 p1) < 0 → ((0 < (lg_cmp p0 p2) → q 0 d) ∧ (¬ 0 < (lg_cmp p0 p2) → q 1 d))))) : Cn SM MX5_in [.long p0, .long p1, .long p2] d (rI q) := by
  refine cn_of (ls := [.long p0, uJ, .long p1, uJ, .long p2, uJ]) (by decide) rfl rfl (Nat.le_of_ble_eq_true rfl) ?_
  refine ev_lload_n dX5_in_0 rfl ?_
  refine ev_lload_n dX5_in_1 rfl ?_
  refine ev_lcmp dX5_in_2 ?_
  refine ev_if_lt (M := MX5_in) (tgt := 17) dX5_in_3 rfl (fun c1 => ?_) (fun c1 => ?_)
  · have h := h.1 c1
    refine ev_iconst dX5_in_17 ci_0 ?_
    exact ev_ireti (M := MX5_in) (ty := .boolean) dX5_in_18 rfl rfl rfl h
  · have h := h.2 c1
    refine ev_lload_n dX5_in_6 rfl ?_
    refine ev_lload dX5_in_7 rfl ?_
    refine ev_lcmp dX5_in_9 ?_
    refine ev_if_gt (M := MX5_in) (tgt := 17) dX5_in_10 rfl (fun c2 => ?_) (fun c2 => ?_)
    · have h := h.1 c2
      refine ev_iconst dX5_in_17 ci_0 ?_
      exact ev_ireti (M := MX5_in) (ty := .boolean) dX5_in_18 rfl rfl rfl h
    · have h := h.2 c2
      refine ev_iconst dX5_in_13 ci_1 ?_
      refine ev_goto (M := MX5_in) (tgt := 18) dX5_in_14 rfl ?_
      exact ev_ireti (M := MX5_in) (ty := .boolean) dX5_in_18 rfl rfl rfl h
-- X5_feed
theorem cn_X5_feed {q : Int32 → DD → Prop} {d : DD} {p0 : Int32} (h : (Cn SM MX5_in [.long p0.toInt64, .long 0, .long 127] d (rI fun r2 d1 => ((¬ r2 = 0 → ((¬ (d1 0 10) = 160 → (vp_in (d1 0 10) 160 ∧ (∀ d5 : DD, d5 = (up d1 3 (d1 0 10).toNatClampNeg p0) → (∀ d6 : DD, d6 = (up d5 0 10 ((d5 0 10) + 1)) → q (d6 0 10) d6)))) ∧ ((d1 0 10) = 160 → q (-3) d1))) ∧ (r2 = 0 → q (-1) d1))))) : Cn SM MX5_feed [.ref 0, .int p0] d (rI q) := by
  refine cn_of (ls := [.ref 0, .int p0]) (by decide) rfl rfl (Nat.le_of_ble_eq_true rfl) ?_
  refine ev_iload_n dX5_feed_0 rfl ?_
  refine ev_i2l dX5_feed_1 ?_
  refine ev_lconst (M := MX5_feed) (v := 0) dX5_feed_2 rfl ?_
  refine ev_ldc2 dX5_feed_3 w876 ?_
  refine ev_callSi (M := MX5_feed) (M2 := MX5_in) (As := [.long p0.toInt64, .long 0, .long 127]) (rest := []) dX5_feed_6 w877 moX5_in rfl ⟨Nat.le_of_ble_eq_true rfl, Nat.le_of_ble_eq_true rfl⟩ rfl rfl (Nat.le_of_ble_eq_true rfl) h (fun r2 d1 h => ?_)
  have h := rI_dn h
  refine ev_if_ne (M := MX5_feed) (tgt := 14) dX5_feed_9 rfl (fun c3 => ?_) (fun c3 => ?_)
  · have h := h.1 c3
    refine ev_aload_n dX5_feed_14 rfl ?_
    refine ev_get 10 dX5_feed_15 sM_0 ck5 (Nat.le_of_ble_eq_true rfl) rfl w776 ?_
    refine ev_sipush dX5_feed_18 cs_160 ?_
    refine ev_icmp_ne (M := MX5_feed) (tgt := 27) dX5_feed_21 rfl (fun c4 => ?_) (fun c4 => ?_)
    · have h := h.1 c4
      refine ev_aload_n dX5_feed_27 rfl ?_
      refine ev_getr (M := MX5_feed) (r := 3) 9 dX5_feed_28 sM_0 ck5 (Nat.le_of_ble_eq_true rfl) rfl w775 ?_
      refine ev_aload_n dX5_feed_31 rfl ?_
      refine ev_get 10 dX5_feed_32 sM_0 ck5 (Nat.le_of_ble_eq_true rfl) rfl w776 ?_
      refine ev_iload_n dX5_feed_35 rfl ?_
      obtain ⟨g, h⟩ := h
      refine ev_iast dX5_feed_36 sM_3 g ?_
      refine ev_topd (fun d5 ed5 => ?_)
      have h := h d5 ed5
      refine ev_aload_n dX5_feed_37 rfl ?_
      refine ev_dup dX5_feed_38 rfl ?_
      refine ev_get 10 dX5_feed_39 sM_0 ck5 (Nat.le_of_ble_eq_true rfl) rfl w776 ?_
      refine ev_iconst dX5_feed_42 ci_1 ?_
      refine ev_iadd dX5_feed_43 ?_
      refine ev_put 10 dX5_feed_44 sM_0 ck5 (Nat.le_of_ble_eq_true rfl) rfl w776 rfl rfl rfl ?_
      refine ev_topd (fun d6 ed6 => ?_)
      have h := h d6 ed6
      refine ev_aload_n dX5_feed_47 rfl ?_
      refine ev_get 10 dX5_feed_48 sM_0 ck5 (Nat.le_of_ble_eq_true rfl) rfl w776 ?_
      exact ev_ireti (M := MX5_feed) (ty := .int) dX5_feed_51 rfl rfl rfl h
    · have h := h.2 c4
      refine ev_bipush dX5_feed_24 cb_m3 ?_
      exact ev_ireti (M := MX5_feed) (ty := .int) dX5_feed_26 rfl rfl rfl h
  · have h := h.2 c3
    refine ev_iconst dX5_feed_12 ci_m1 ?_
    exact ev_ireti (M := MX5_feed) (ty := .int) dX5_feed_13 rfl rfl rfl h
-- X5_end
theorem cn_X5_end {q : Int32 → DD → Prop} {d : DD} {p0 : Int32} (h : (Cn SM MX5_in [.long p0.toInt64, .long 0, .long (d 0 10).toInt64] d (rI fun r2 d1 => ((¬ r2 = 0 → (∀ d4 : DD, d4 = (up d1 0 10 p0) → q (d1 0 10) d4)) ∧ (r2 = 0 → q (-1) d1))))) : Cn SM MX5_end [.ref 0, .int p0] d (rI q) := by
  refine cn_of (ls := [.ref 0, .int p0, uJ]) (by decide) rfl rfl (Nat.le_of_ble_eq_true rfl) ?_
  refine ev_iload_n dX5_end_0 rfl ?_
  refine ev_i2l dX5_end_1 ?_
  refine ev_lconst (M := MX5_end) (v := 0) dX5_end_2 rfl ?_
  refine ev_aload_n dX5_end_3 rfl ?_
  refine ev_get 10 dX5_end_4 sM_0 ck5 (Nat.le_of_ble_eq_true rfl) rfl w776 ?_
  refine ev_i2l dX5_end_7 ?_
  refine ev_callSi (M := MX5_end) (M2 := MX5_in) (As := [.long p0.toInt64, .long 0, .long (d 0 10).toInt64]) (rest := []) dX5_end_8 w877 moX5_in rfl ⟨Nat.le_of_ble_eq_true rfl, Nat.le_of_ble_eq_true rfl⟩ rfl rfl (Nat.le_of_ble_eq_true rfl) h (fun r2 d1 h => ?_)
  have h := rI_dn h
  refine ev_if_ne (M := MX5_end) (tgt := 16) dX5_end_11 rfl (fun c3 => ?_) (fun c3 => ?_)
  · have h := h.1 c3
    refine ev_aload_n dX5_end_16 rfl ?_
    refine ev_get 10 dX5_end_17 sM_0 ck5 (Nat.le_of_ble_eq_true rfl) rfl w776 ?_
    refine ev_istore_n (M := MX5_end) (ls2 := [.ref 0, .int p0, .int (d1 0 10)]) 2 dX5_end_20 rfl (Nat.le_of_ble_eq_true rfl) rfl ?_
    refine ev_aload_n dX5_end_21 rfl ?_
    refine ev_iload_n dX5_end_22 rfl ?_
    refine ev_put 10 dX5_end_23 sM_0 ck5 (Nat.le_of_ble_eq_true rfl) rfl w776 rfl rfl rfl ?_
    refine ev_topd (fun d4 ed4 => ?_)
    have h := h d4 ed4
    refine ev_iload_n dX5_end_26 rfl ?_
    exact ev_ireti (M := MX5_end) (ty := .int) dX5_end_27 rfl rfl rfl h
  · have h := h.2 c3
    refine ev_iconst dX5_end_14 ci_m1 ?_
    exact ev_ireti (M := MX5_end) (ty := .int) dX5_end_15 rfl rfl rfl h
-- X5_byteAt
theorem cn_X5_byteAt {q : Int32 → DD → Prop} {d : DD} {p0 : Int32} (h : (((d 0 10) ≤ p0 → q (-4) d) ∧ (¬ (d 0 10) ≤ p0 → (vp_in p0 160 ∧ q (d 3 p0.toNatClampNeg) d)))) : Cn SM MX5_byteAt [.ref 0, .int p0] d (rI q) := by
  refine cn_of (ls := [.ref 0, .int p0]) (by decide) rfl rfl (Nat.le_of_ble_eq_true rfl) ?_
  refine ev_iload_n dX5_byteAt_0 rfl ?_
  refine ev_aload_n dX5_byteAt_1 rfl ?_
  refine ev_get 10 dX5_byteAt_2 sM_0 ck5 (Nat.le_of_ble_eq_true rfl) rfl w776 ?_
  refine ev_icmp_ge (M := MX5_byteAt) (tgt := 17) dX5_byteAt_5 rfl (fun c1 => ?_) (fun c1 => ?_)
  · have h := h.1 c1
    refine ev_bipush dX5_byteAt_17 cb_m4 ?_
    exact ev_ireti (M := MX5_byteAt) (ty := .int) dX5_byteAt_19 rfl rfl rfl h
  · have h := h.2 c1
    refine ev_aload_n dX5_byteAt_8 rfl ?_
    refine ev_getr (M := MX5_byteAt) (r := 3) 9 dX5_byteAt_9 sM_0 ck5 (Nat.le_of_ble_eq_true rfl) rfl w775 ?_
    refine ev_iload_n dX5_byteAt_12 rfl ?_
    obtain ⟨g, h⟩ := h
    refine ev_iald dX5_byteAt_13 sM_3 g ?_
    refine ev_goto (M := MX5_byteAt) (tgt := 19) dX5_byteAt_14 rfl ?_
    exact ev_ireti (M := MX5_byteAt) (ty := .int) dX5_byteAt_19 rfl rfl rfl h
-- X5_fails
theorem cn_X5_fails {q : DD → Prop} {d : DD} {p0 : Int32} (h : ((¬ (d 0 12) = 0 → q d) ∧ ((d 0 12) = 0 → (∀ d2 : DD, d2 = (up d 0 12 p0) → (∀ d3 : DD, d3 = (up d2 0 13 (d2 0 15)) → q d3))))) : Cn SM MX5_fails [.ref 0, .int p0] d (rV q) := by
  refine cn_of (ls := [.ref 0, .int p0]) (by decide) rfl rfl (Nat.le_of_ble_eq_true rfl) ?_
  refine ev_aload_n dX5_fails_0 rfl ?_
  refine ev_get 12 dX5_fails_1 sM_0 ck5 (Nat.le_of_ble_eq_true rfl) rfl w778 ?_
  refine ev_if_ne (M := MX5_fails) (tgt := 20) dX5_fails_4 rfl (fun c1 => ?_) (fun c1 => ?_)
  · have h := h.1 c1
    exact ev_ret (M := MX5_fails) dX5_fails_20 rfl rfl h
  · have h := h.2 c1
    refine ev_aload_n dX5_fails_7 rfl ?_
    refine ev_iload_n dX5_fails_8 rfl ?_
    refine ev_put 12 dX5_fails_9 sM_0 ck5 (Nat.le_of_ble_eq_true rfl) rfl w778 rfl rfl rfl ?_
    refine ev_topd (fun d2 ed2 => ?_)
    have h := h d2 ed2
    refine ev_aload_n dX5_fails_12 rfl ?_
    refine ev_aload_n dX5_fails_13 rfl ?_
    refine ev_get 15 dX5_fails_14 sM_0 ck5 (Nat.le_of_ble_eq_true rfl) rfl w781 ?_
    refine ev_put 13 dX5_fails_17 sM_0 ck5 (Nat.le_of_ble_eq_true rfl) rfl w779 rfl rfl rfl ?_
    refine ev_topd (fun d3 ed3 => ?_)
    have h := h d3 ed3
    exact ev_ret (M := MX5_fails) dX5_fails_20 rfl rfl h
-- X5_nameHere
set_option maxRecDepth 4000 in
theorem cn_X5_nameHere {q : Int32 → DD → Prop} {d : DD}  (h : Ev SM MX5_nameHere 2 [.ref 0, .int 0, uJ, uJ] [] d (rI q)) : Cn SM MX5_nameHere [.ref 0] d (rI q) := by
  refine cn_of (ls := [.ref 0, uJ, uJ, uJ]) (by decide) rfl rfl (Nat.le_of_ble_eq_true rfl) ?_
  refine ev_iconst dX5_nameHere_0 ci_0 ?_
  refine ev_istore_n (M := MX5_nameHere) (ls2 := [.ref 0, .int 0, uJ, uJ]) 1 dX5_nameHere_1 rfl (Nat.le_of_ble_eq_true rfl) rfl ?_
  exact h
set_option maxRecDepth 4000 in
theorem bk_X5_nameHere_2 {q : Int32 → DD → Prop} {d : DD} {l1 : Int32} (h : ((6 ≤ l1 → q (-4) d) ∧ (¬ 6 ≤ l1 → ((¬ (d 0 16) = 1 → q (-4) d) ∧ ((d 0 16) = 1 → (vp_in (l1 + 1) 7 ∧ (vp_in l1 7 ∧ ((¬ ((d 0 14) - (d 0 15)) = ((d 4 (l1 + 1).toNatClampNeg) - (d 4 l1.toNatClampNeg)) → Ev SM MX5_nameHere 51 [.ref 0, .int l1, .int 0, .int 0] [] d (rI q)) ∧ (((d 0 14) - (d 0 15)) = ((d 4 (l1 + 1).toNatClampNeg) - (d 4 l1.toNatClampNeg)) → Ev SM MX5_nameHere 51 [.ref 0, .int l1, .int 1, .int 0] [] d (rI q)))))))))) : Ev SM MX5_nameHere 2 [.ref 0, .int l1, uJ, uJ] [] d (rI q) := by
  refine ev_iload_n dX5_nameHere_2 rfl ?_
  refine ev_bipush dX5_nameHere_3 cb_6 ?_
  refine ev_icmp_ge (M := MX5_nameHere) (tgt := 118) dX5_nameHere_5 rfl (fun c1 => ?_) (fun c1 => ?_)
  · have h := h.1 c1
    refine ev_bipush dX5_nameHere_118 cb_m4 ?_
    exact ev_ireti (M := MX5_nameHere) (ty := .int) dX5_nameHere_120 rfl rfl rfl h
  · have h := h.2 c1
    refine ev_aload_n dX5_nameHere_8 rfl ?_
    refine ev_get 16 dX5_nameHere_9 sM_0 ck5 (Nat.le_of_ble_eq_true rfl) rfl w782 ?_
    refine ev_iconst dX5_nameHere_12 ci_1 ?_
    refine ev_icmp_ne (M := MX5_nameHere) (tgt := 118) dX5_nameHere_13 rfl (fun c2 => ?_) (fun c2 => ?_)
    · have h := h.1 c2
      refine ev_bipush dX5_nameHere_118 cb_m4 ?_
      exact ev_ireti (M := MX5_nameHere) (ty := .int) dX5_nameHere_120 rfl rfl rfl h
    · have h := h.2 c2
      refine ev_aload_n dX5_nameHere_16 rfl ?_
      refine ev_get 14 dX5_nameHere_17 sM_0 ck5 (Nat.le_of_ble_eq_true rfl) rfl w780 ?_
      refine ev_aload_n dX5_nameHere_20 rfl ?_
      refine ev_get 15 dX5_nameHere_21 sM_0 ck5 (Nat.le_of_ble_eq_true rfl) rfl w781 ?_
      refine ev_isub dX5_nameHere_24 ?_
      refine ev_aload_n dX5_nameHere_25 rfl ?_
      refine ev_getr (M := MX5_nameHere) (r := 4) 18 dX5_nameHere_26 sM_0 ck5 (Nat.le_of_ble_eq_true rfl) rfl w784 ?_
      refine ev_iload_n dX5_nameHere_29 rfl ?_
      refine ev_iconst dX5_nameHere_30 ci_1 ?_
      refine ev_iadd dX5_nameHere_31 ?_
      obtain ⟨g, h⟩ := h
      refine ev_iald dX5_nameHere_32 sM_4 g ?_
      refine ev_aload_n dX5_nameHere_33 rfl ?_
      refine ev_getr (M := MX5_nameHere) (r := 4) 18 dX5_nameHere_34 sM_0 ck5 (Nat.le_of_ble_eq_true rfl) rfl w784 ?_
      refine ev_iload_n dX5_nameHere_37 rfl ?_
      obtain ⟨g, h⟩ := h
      refine ev_iald dX5_nameHere_38 sM_4 g ?_
      refine ev_isub dX5_nameHere_39 ?_
      refine ev_icmp_ne (M := MX5_nameHere) (tgt := 47) dX5_nameHere_40 rfl (fun c3 => ?_) (fun c3 => ?_)
      · have h := h.1 c3
        refine ev_iconst dX5_nameHere_47 ci_0 ?_
        refine ev_istore_n (M := MX5_nameHere) (ls2 := [.ref 0, .int l1, .int 0, uJ]) 2 dX5_nameHere_48 rfl (Nat.le_of_ble_eq_true rfl) rfl ?_
        refine ev_iconst dX5_nameHere_49 ci_0 ?_
        refine ev_istore_n (M := MX5_nameHere) (ls2 := [.ref 0, .int l1, .int 0, .int 0]) 3 dX5_nameHere_50 rfl (Nat.le_of_ble_eq_true rfl) rfl ?_
        exact h
      · have h := h.2 c3
        refine ev_iconst dX5_nameHere_43 ci_1 ?_
        refine ev_goto (M := MX5_nameHere) (tgt := 48) dX5_nameHere_44 rfl ?_
        refine ev_istore_n (M := MX5_nameHere) (ls2 := [.ref 0, .int l1, .int 1, uJ]) 2 dX5_nameHere_48 rfl (Nat.le_of_ble_eq_true rfl) rfl ?_
        refine ev_iconst dX5_nameHere_49 ci_0 ?_
        refine ev_istore_n (M := MX5_nameHere) (ls2 := [.ref 0, .int l1, .int 1, .int 0]) 3 dX5_nameHere_50 rfl (Nat.le_of_ble_eq_true rfl) rfl ?_
        exact h
set_option maxRecDepth 4000 in
theorem bk_X5_nameHere_51 {q : Int32 → DD → Prop} {d : DD} {l1 : Int32} {l2 : Int32} {l3 : Int32} (h : ((l2 = 0 → ((l2 = 0 → Ev SM MX5_nameHere 2 [.ref 0, .int (l1 + 1), uJ, uJ] [] d (rI q)) ∧ (¬ l2 = 0 → q l1 d))) ∧ (¬ l2 = 0 → ((((d 0 14) - (d 0 15)) ≤ l3 → ((l2 = 0 → Ev SM MX5_nameHere 2 [.ref 0, .int (l1 + 1), uJ, uJ] [] d (rI q)) ∧ (¬ l2 = 0 → q l1 d))) ∧ (¬ ((d 0 14) - (d 0 15)) ≤ l3 → (Cn SM MX5_byteAt [.ref 0, .int ((d 0 15) + l3)] d (rI fun r6 d5 => (vp_in l1 7 ∧ (vp_in ((d5 4 l1.toNatClampNeg) + l3) 33 ∧ ((¬ r6 = (d5 5 ((d5 4 l1.toNatClampNeg) + l3).toNatClampNeg) → Ev SM MX5_nameHere 51 [.ref 0, .int l1, .int 0, .int (l3 + 1)] [] d5 (rI q)) ∧ (r6 = (d5 5 ((d5 4 l1.toNatClampNeg) + l3).toNatClampNeg) → Ev SM MX5_nameHere 51 [.ref 0, .int l1, .int 1, .int (l3 + 1)] [] d5 (rI q)))))))))))) : Ev SM MX5_nameHere 51 [.ref 0, .int l1, .int l2, .int l3] [] d (rI q) := by
  refine ev_iload_n dX5_nameHere_51 rfl ?_
  refine ev_if_eq (M := MX5_nameHere) (tgt := 106) dX5_nameHere_52 rfl (fun c1 => ?_) (fun c1 => ?_)
  · have h := h.1 c1
    refine ev_iload_n dX5_nameHere_106 rfl ?_
    refine ev_if_eq (M := MX5_nameHere) (tgt := 112) dX5_nameHere_107 rfl (fun c2 => ?_) (fun c2 => ?_)
    · have h := h.1 c2
      refine ev_iinc (M := MX5_nameHere) (ls2 := [.ref 0, .int (l1 + 1), .int l2, .int l3]) dX5_nameHere_112 rfl (iin ci_1) (Nat.le_of_ble_eq_true rfl) rfl ?_
      refine ev_goto (M := MX5_nameHere) (tgt := 2) dX5_nameHere_115 rfl ?_
      refine Ev.forget (ls2 := [.ref 0, .int (l1 + 1), uJ, uJ]) ?_ (fun i v hi hv => lsub_of (bs := [false, false, true, true]) rfl i v hi hv)
      exact h
    · have h := h.2 c2
      refine ev_iload_n dX5_nameHere_110 rfl ?_
      exact ev_ireti (M := MX5_nameHere) (ty := .int) dX5_nameHere_111 rfl rfl rfl h
  · have h := h.2 c1
    refine ev_iload_n dX5_nameHere_55 rfl ?_
    refine ev_aload_n dX5_nameHere_56 rfl ?_
    refine ev_get 14 dX5_nameHere_57 sM_0 ck5 (Nat.le_of_ble_eq_true rfl) rfl w780 ?_
    refine ev_aload_n dX5_nameHere_60 rfl ?_
    refine ev_get 15 dX5_nameHere_61 sM_0 ck5 (Nat.le_of_ble_eq_true rfl) rfl w781 ?_
    refine ev_isub dX5_nameHere_64 ?_
    refine ev_icmp_ge (M := MX5_nameHere) (tgt := 106) dX5_nameHere_65 rfl (fun c3 => ?_) (fun c3 => ?_)
    · have h := h.1 c3
      refine ev_iload_n dX5_nameHere_106 rfl ?_
      refine ev_if_eq (M := MX5_nameHere) (tgt := 112) dX5_nameHere_107 rfl (fun c4 => ?_) (fun c4 => ?_)
      · have h := h.1 c4
        refine ev_iinc (M := MX5_nameHere) (ls2 := [.ref 0, .int (l1 + 1), .int l2, .int l3]) dX5_nameHere_112 rfl (iin ci_1) (Nat.le_of_ble_eq_true rfl) rfl ?_
        refine ev_goto (M := MX5_nameHere) (tgt := 2) dX5_nameHere_115 rfl ?_
        refine Ev.forget (ls2 := [.ref 0, .int (l1 + 1), uJ, uJ]) ?_ (fun i v hi hv => lsub_of (bs := [false, false, true, true]) rfl i v hi hv)
        exact h
      · have h := h.2 c4
        refine ev_iload_n dX5_nameHere_110 rfl ?_
        exact ev_ireti (M := MX5_nameHere) (ty := .int) dX5_nameHere_111 rfl rfl rfl h
    · have h := h.2 c3
      refine ev_aload_n dX5_nameHere_68 rfl ?_
      refine ev_aload_n dX5_nameHere_69 rfl ?_
      refine ev_get 15 dX5_nameHere_70 sM_0 ck5 (Nat.le_of_ble_eq_true rfl) rfl w781 ?_
      refine ev_iload_n dX5_nameHere_73 rfl ?_
      refine ev_iadd dX5_nameHere_74 ?_
      refine ev_callVi (M := MX5_nameHere) (M2 := MX5_byteAt) (As := [.int ((d 0 15) + l3)]) (rest := []) dX5_nameHere_75 sM_0 ck5 rfl w892 moX5_byteAt rfl ⟨Nat.le_of_ble_eq_true rfl, Nat.le_of_ble_eq_true rfl⟩ rfl rfl (Nat.le_of_ble_eq_true rfl) h (fun r6 d5 h => ?_)
      have h := rI_dn h
      refine ev_aload_n dX5_nameHere_78 rfl ?_
      refine ev_getr (M := MX5_nameHere) (r := 5) 19 dX5_nameHere_79 sM_0 ck5 (Nat.le_of_ble_eq_true rfl) rfl w785 ?_
      refine ev_aload_n dX5_nameHere_82 rfl ?_
      refine ev_getr (M := MX5_nameHere) (r := 4) 18 dX5_nameHere_83 sM_0 ck5 (Nat.le_of_ble_eq_true rfl) rfl w784 ?_
      refine ev_iload_n dX5_nameHere_86 rfl ?_
      obtain ⟨g, h⟩ := h
      refine ev_iald dX5_nameHere_87 sM_4 g ?_
      refine ev_iload_n dX5_nameHere_88 rfl ?_
      refine ev_iadd dX5_nameHere_89 ?_
      obtain ⟨g, h⟩ := h
      refine ev_iald dX5_nameHere_90 sM_5 g ?_
      refine ev_icmp_ne (M := MX5_nameHere) (tgt := 98) dX5_nameHere_91 rfl (fun c7 => ?_) (fun c7 => ?_)
      · have h := h.1 c7
        refine ev_iconst dX5_nameHere_98 ci_0 ?_
        refine ev_istore_n (M := MX5_nameHere) (ls2 := [.ref 0, .int l1, .int 0, .int l3]) 2 dX5_nameHere_99 rfl (Nat.le_of_ble_eq_true rfl) rfl ?_
        refine ev_iinc (M := MX5_nameHere) (ls2 := [.ref 0, .int l1, .int 0, .int (l3 + 1)]) dX5_nameHere_100 rfl (iin ci_1) (Nat.le_of_ble_eq_true rfl) rfl ?_
        refine ev_goto (M := MX5_nameHere) (tgt := 51) dX5_nameHere_103 rfl ?_
        exact h
      · have h := h.2 c7
        refine ev_iconst dX5_nameHere_94 ci_1 ?_
        refine ev_goto (M := MX5_nameHere) (tgt := 99) dX5_nameHere_95 rfl ?_
        refine ev_istore_n (M := MX5_nameHere) (ls2 := [.ref 0, .int l1, .int 1, .int l3]) 2 dX5_nameHere_99 rfl (Nat.le_of_ble_eq_true rfl) rfl ?_
        refine ev_iinc (M := MX5_nameHere) (ls2 := [.ref 0, .int l1, .int 1, .int (l3 + 1)]) dX5_nameHere_100 rfl (iin ci_1) (Nat.le_of_ble_eq_true rfl) rfl ?_
        refine ev_goto (M := MX5_nameHere) (tgt := 51) dX5_nameHere_103 rfl ?_
        exact h
-- X5_step
set_option maxRecDepth 4000 in
theorem cn_X5_step {q : DD → Prop} {d : DD}  (h : (((d 0 12) ≤ 0 → Ev SM MX5_step 8 [.ref 0, uJ] [] d (rV q)) ∧ (¬ (d 0 12) ≤ 0 → q d))) : Cn SM MX5_step [.ref 0] d (rV q) := by
  refine cn_of (ls := [.ref 0, uJ]) (by decide) rfl rfl (Nat.le_of_ble_eq_true rfl) ?_
  refine ev_aload_n dX5_step_0 rfl ?_
  refine ev_get 12 dX5_step_1 sM_0 ck5 (Nat.le_of_ble_eq_true rfl) rfl w778 ?_
  refine ev_if_le (M := MX5_step) (tgt := 8) dX5_step_4 rfl (fun c1 => ?_) (fun c1 => ?_)
  · have h := h.1 c1
    exact h
  · have h := h.2 c1
    exact ev_ret (M := MX5_step) dX5_step_7 rfl rfl h
set_option maxRecDepth 4000 in
theorem bk_X5_step_8 {q : DD → Prop} {d : DD}  (h : (Cn SM MX5_byteAt [.ref 0, .int (d 0 14)] d (rI fun r2 d1 => ((¬ r2 = 32 → (∀ d4 : DD, d4 = (up d1 0 15 (d1 0 14)) → (Cn SM MX5_byteAt [.ref 0, .int (d4 0 14)] d4 (rI fun r6 d5 => (∀ d7 : DD, d7 = (up d5 0 17 0) → ((¬ r6 = (-4) → (Cn SM MX5_in [.long r6.toInt64, .long 97, .long 122] d7 (rI fun r10 d9 => ((r10 = 0 → (Cn SM MX5_in [.long r6.toInt64, .long 48, .long 57] d9 (rI fun r13 d12 => ((r13 = 0 → (∀ d15 : DD, d15 = (up d12 0 16 3) → (∀ d16 : DD, d16 = (up d15 0 14 ((d15 0 14) + 1)) → ((r6 = 59 → q d16) ∧ (¬ r6 = 59 → (Cn SM MX5_fails [.ref 0, .int 1] d16 (rV fun d18 => q d18))))))) ∧ (¬ r13 = 0 → Ev SM MX5_step 140 [.ref 0, .int r6] [] d12 (rV q)))))) ∧ (¬ r10 = 0 → Ev SM MX5_step 84 [.ref 0, .int r6] [] d9 (rV q)))))) ∧ (r6 = (-4) → (∀ d19 : DD, d19 = (up d7 0 16 0) → q d19)))))))) ∧ (r2 = 32 → (∀ d20 : DD, d20 = (up d1 0 14 ((d1 0 14) + 1)) → Ev SM MX5_step 8 [.ref 0, uJ] [] d20 (rV q))))))) : Ev SM MX5_step 8 [.ref 0, uJ] [] d (rV q) := by
  refine ev_aload_n dX5_step_8 rfl ?_
  refine ev_aload_n dX5_step_9 rfl ?_
  refine ev_get 14 dX5_step_10 sM_0 ck5 (Nat.le_of_ble_eq_true rfl) rfl w780 ?_
  refine ev_callVi (M := MX5_step) (M2 := MX5_byteAt) (As := [.int (d 0 14)]) (rest := []) dX5_step_13 sM_0 ck5 rfl w892 moX5_byteAt rfl ⟨Nat.le_of_ble_eq_true rfl, Nat.le_of_ble_eq_true rfl⟩ rfl rfl (Nat.le_of_ble_eq_true rfl) h (fun r2 d1 h => ?_)
  have h := rI_dn h
  refine ev_bipush dX5_step_16 cb_32 ?_
  refine ev_icmp_ne (M := MX5_step) (tgt := 34) dX5_step_18 rfl (fun c3 => ?_) (fun c3 => ?_)
  · have h := h.1 c3
    refine ev_aload_n dX5_step_34 rfl ?_
    refine ev_aload_n dX5_step_35 rfl ?_
    refine ev_get 14 dX5_step_36 sM_0 ck5 (Nat.le_of_ble_eq_true rfl) rfl w780 ?_
    refine ev_put 15 dX5_step_39 sM_0 ck5 (Nat.le_of_ble_eq_true rfl) rfl w781 rfl rfl rfl ?_
    refine ev_topd (fun d4 ed4 => ?_)
    have h := h d4 ed4
    refine ev_aload_n dX5_step_42 rfl ?_
    refine ev_aload_n dX5_step_43 rfl ?_
    refine ev_get 14 dX5_step_44 sM_0 ck5 (Nat.le_of_ble_eq_true rfl) rfl w780 ?_
    refine ev_callVi (M := MX5_step) (M2 := MX5_byteAt) (As := [.int (d4 0 14)]) (rest := []) dX5_step_47 sM_0 ck5 rfl w892 moX5_byteAt rfl ⟨Nat.le_of_ble_eq_true rfl, Nat.le_of_ble_eq_true rfl⟩ rfl rfl (Nat.le_of_ble_eq_true rfl) h (fun r6 d5 h => ?_)
    have h := rI_dn h
    refine ev_istore_n (M := MX5_step) (ls2 := [.ref 0, .int r6]) 1 dX5_step_50 rfl (Nat.le_of_ble_eq_true rfl) rfl ?_
    refine ev_aload_n dX5_step_51 rfl ?_
    refine ev_iconst dX5_step_52 ci_0 ?_
    refine ev_put 17 dX5_step_53 sM_0 ck5 (Nat.le_of_ble_eq_true rfl) rfl w783 rfl rfl rfl ?_
    refine ev_topd (fun d7 ed7 => ?_)
    have h := h d7 ed7
    refine ev_iload_n dX5_step_56 rfl ?_
    refine ev_bipush dX5_step_57 cb_m4 ?_
    refine ev_icmp_ne (M := MX5_step) (tgt := 70) dX5_step_59 rfl (fun c8 => ?_) (fun c8 => ?_)
    · have h := h.1 c8
      refine ev_iload_n dX5_step_70 rfl ?_
      refine ev_i2l dX5_step_71 ?_
      refine ev_ldc2 dX5_step_72 w896 ?_
      refine ev_ldc2 dX5_step_75 w897 ?_
      refine ev_callSi (M := MX5_step) (M2 := MX5_in) (As := [.long r6.toInt64, .long 97, .long 122]) (rest := []) dX5_step_78 w877 moX5_in rfl ⟨Nat.le_of_ble_eq_true rfl, Nat.le_of_ble_eq_true rfl⟩ rfl rfl (Nat.le_of_ble_eq_true rfl) h (fun r10 d9 h => ?_)
      have h := rI_dn h
      refine ev_if_eq (M := MX5_step) (tgt := 126) dX5_step_81 rfl (fun c11 => ?_) (fun c11 => ?_)
      · have h := h.1 c11
        refine ev_iload_n dX5_step_126 rfl ?_
        refine ev_i2l dX5_step_127 ?_
        refine ev_ldc2 dX5_step_128 w898 ?_
        refine ev_ldc2 dX5_step_131 w899 ?_
        refine ev_callSi (M := MX5_step) (M2 := MX5_in) (As := [.long r6.toInt64, .long 48, .long 57]) (rest := []) dX5_step_134 w877 moX5_in rfl ⟨Nat.le_of_ble_eq_true rfl, Nat.le_of_ble_eq_true rfl⟩ rfl rfl (Nat.le_of_ble_eq_true rfl) h (fun r13 d12 h => ?_)
        have h := rI_dn h
        refine ev_if_eq (M := MX5_step) (tgt := 243) dX5_step_137 rfl (fun c14 => ?_) (fun c14 => ?_)
        · have h := h.1 c14
          refine ev_aload_n dX5_step_243 rfl ?_
          refine ev_iconst dX5_step_244 ci_3 ?_
          refine ev_put 16 dX5_step_245 sM_0 ck5 (Nat.le_of_ble_eq_true rfl) rfl w782 rfl rfl rfl ?_
          refine ev_topd (fun d15 ed15 => ?_)
          have h := h d15 ed15
          refine ev_aload_n dX5_step_248 rfl ?_
          refine ev_dup dX5_step_249 rfl ?_
          refine ev_get 14 dX5_step_250 sM_0 ck5 (Nat.le_of_ble_eq_true rfl) rfl w780 ?_
          refine ev_iconst dX5_step_253 ci_1 ?_
          refine ev_iadd dX5_step_254 ?_
          refine ev_put 14 dX5_step_255 sM_0 ck5 (Nat.le_of_ble_eq_true rfl) rfl w780 rfl rfl rfl ?_
          refine ev_topd (fun d16 ed16 => ?_)
          have h := h d16 ed16
          refine ev_iload_n dX5_step_258 rfl ?_
          refine ev_bipush dX5_step_259 cb_59 ?_
          refine ev_icmp_eq (M := MX5_step) (tgt := 269) dX5_step_261 rfl (fun c17 => ?_) (fun c17 => ?_)
          · have h := h.1 c17
            exact ev_ret (M := MX5_step) dX5_step_269 rfl rfl h
          · have h := h.2 c17
            refine ev_aload_n dX5_step_264 rfl ?_
            refine ev_iconst dX5_step_265 ci_1 ?_
            refine ev_callVv (M := MX5_step) (M2 := MX5_fails) (As := [.int 1]) (rest := []) dX5_step_266 sM_0 ck5 rfl w900 moX5_fails rfl ⟨Nat.le_of_ble_eq_true rfl, Nat.le_of_ble_eq_true rfl⟩ rfl rfl (Nat.le_of_ble_eq_true rfl) h (fun d18 h => ?_)
            have h := rV_dn h
            exact ev_ret (M := MX5_step) dX5_step_269 rfl rfl h
        · have h := h.2 c14
          exact h
      · have h := h.2 c11
        exact h
    · have h := h.2 c8
      refine ev_aload_n dX5_step_62 rfl ?_
      refine ev_iconst dX5_step_63 ci_0 ?_
      refine ev_put 16 dX5_step_64 sM_0 ck5 (Nat.le_of_ble_eq_true rfl) rfl w782 rfl rfl rfl ?_
      refine ev_topd (fun d19 ed19 => ?_)
      have h := h d19 ed19
      refine ev_goto (M := MX5_step) (tgt := 269) dX5_step_67 rfl ?_
      exact ev_ret (M := MX5_step) dX5_step_269 rfl rfl h
  · have h := h.2 c3
    refine ev_aload_n dX5_step_21 rfl ?_
    refine ev_dup dX5_step_22 rfl ?_
    refine ev_get 14 dX5_step_23 sM_0 ck5 (Nat.le_of_ble_eq_true rfl) rfl w780 ?_
    refine ev_iconst dX5_step_26 ci_1 ?_
    refine ev_iadd dX5_step_27 ?_
    refine ev_put 14 dX5_step_28 sM_0 ck5 (Nat.le_of_ble_eq_true rfl) rfl w780 rfl rfl rfl ?_
    refine ev_topd (fun d20 ed20 => ?_)
    have h := h d20 ed20
    refine ev_goto (M := MX5_step) (tgt := 8) dX5_step_31 rfl ?_
    exact h
set_option maxRecDepth 4000 in
theorem bk_X5_step_84 {q : DD → Prop} {d : DD} {l1 : Int32} (h : (Cn SM MX5_byteAt [.ref 0, .int (d 0 14)] d (rI fun r2 d1 => (Cn SM MX5_in [.long r2.toInt64, .long 97, .long 122] d1 (rI fun r4 d3 => ((r4 = 0 → (∀ d6 : DD, d6 = (up d3 0 16 1) → q d6)) ∧ (¬ r4 = 0 → (∀ d7 : DD, d7 = (up d3 0 14 ((d3 0 14) + 1)) → Ev SM MX5_step 84 [.ref 0, .int l1] [] d7 (rV q))))))))) : Ev SM MX5_step 84 [.ref 0, .int l1] [] d (rV q) := by
  refine ev_aload_n dX5_step_84 rfl ?_
  refine ev_aload_n dX5_step_85 rfl ?_
  refine ev_get 14 dX5_step_86 sM_0 ck5 (Nat.le_of_ble_eq_true rfl) rfl w780 ?_
  refine ev_callVi (M := MX5_step) (M2 := MX5_byteAt) (As := [.int (d 0 14)]) (rest := []) dX5_step_89 sM_0 ck5 rfl w892 moX5_byteAt rfl ⟨Nat.le_of_ble_eq_true rfl, Nat.le_of_ble_eq_true rfl⟩ rfl rfl (Nat.le_of_ble_eq_true rfl) h (fun r2 d1 h => ?_)
  have h := rI_dn h
  refine ev_i2l dX5_step_92 ?_
  refine ev_ldc2 dX5_step_93 w896 ?_
  refine ev_ldc2 dX5_step_96 w897 ?_
  refine ev_callSi (M := MX5_step) (M2 := MX5_in) (As := [.long r2.toInt64, .long 97, .long 122]) (rest := []) dX5_step_99 w877 moX5_in rfl ⟨Nat.le_of_ble_eq_true rfl, Nat.le_of_ble_eq_true rfl⟩ rfl rfl (Nat.le_of_ble_eq_true rfl) h (fun r4 d3 h => ?_)
  have h := rI_dn h
  refine ev_if_eq (M := MX5_step) (tgt := 118) dX5_step_102 rfl (fun c5 => ?_) (fun c5 => ?_)
  · have h := h.1 c5
    refine ev_aload_n dX5_step_118 rfl ?_
    refine ev_iconst dX5_step_119 ci_1 ?_
    refine ev_put 16 dX5_step_120 sM_0 ck5 (Nat.le_of_ble_eq_true rfl) rfl w782 rfl rfl rfl ?_
    refine ev_topd (fun d6 ed6 => ?_)
    have h := h d6 ed6
    refine ev_goto (M := MX5_step) (tgt := 269) dX5_step_123 rfl ?_
    exact ev_ret (M := MX5_step) dX5_step_269 rfl rfl h
  · have h := h.2 c5
    refine ev_aload_n dX5_step_105 rfl ?_
    refine ev_dup dX5_step_106 rfl ?_
    refine ev_get 14 dX5_step_107 sM_0 ck5 (Nat.le_of_ble_eq_true rfl) rfl w780 ?_
    refine ev_iconst dX5_step_110 ci_1 ?_
    refine ev_iadd dX5_step_111 ?_
    refine ev_put 14 dX5_step_112 sM_0 ck5 (Nat.le_of_ble_eq_true rfl) rfl w780 rfl rfl rfl ?_
    refine ev_topd (fun d7 ed7 => ?_)
    have h := h d7 ed7
    refine ev_goto (M := MX5_step) (tgt := 84) dX5_step_115 rfl ?_
    exact h
set_option maxRecDepth 4000 in
theorem bk_X5_step_140 {q : DD → Prop} {d : DD} {l1 : Int32} (h : (Cn SM MX5_byteAt [.ref 0, .int (d 0 14)] d (rI fun r2 d1 => (Cn SM MX5_in [.long r2.toInt64, .long 48, .long 57] d1 (rI fun r4 d3 => ((r4 = 0 → (∀ d6 : DD, d6 = (up d3 0 16 2) → ((((d6 0 14) - (d6 0 15)) ≤ 2 → q d6) ∧ (¬ ((d6 0 14) - (d6 0 15)) ≤ 2 → (Cn SM MX5_fails [.ref 0, .int 1] d6 (rV fun d8 => q d8)))))) ∧ (¬ r4 = 0 → ((2 ≤ ((d3 0 14) - (d3 0 15)) → (∀ d10 : DD, d10 = (up d3 0 17 (d3 0 17)) → (∀ d11 : DD, d11 = (up d10 0 14 ((d10 0 14) + 1)) → Ev SM MX5_step 140 [.ref 0, .int l1] [] d11 (rV q)))) ∧ (¬ 2 ≤ ((d3 0 14) - (d3 0 15)) → (Cn SM MX5_byteAt [.ref 0, .int (d3 0 14)] d3 (rI fun r13 d12 => (∀ d14 : DD, d14 = (up d12 0 17 (((10 * (d3 0 17)) + r13) - 48)) → (∀ d15 : DD, d15 = (up d14 0 14 ((d14 0 14) + 1)) → Ev SM MX5_step 140 [.ref 0, .int l1] [] d15 (rV q)))))))))))))) : Ev SM MX5_step 140 [.ref 0, .int l1] [] d (rV q) := by
  refine ev_aload_n dX5_step_140 rfl ?_
  refine ev_aload_n dX5_step_141 rfl ?_
  refine ev_get 14 dX5_step_142 sM_0 ck5 (Nat.le_of_ble_eq_true rfl) rfl w780 ?_
  refine ev_callVi (M := MX5_step) (M2 := MX5_byteAt) (As := [.int (d 0 14)]) (rest := []) dX5_step_145 sM_0 ck5 rfl w892 moX5_byteAt rfl ⟨Nat.le_of_ble_eq_true rfl, Nat.le_of_ble_eq_true rfl⟩ rfl rfl (Nat.le_of_ble_eq_true rfl) h (fun r2 d1 h => ?_)
  have h := rI_dn h
  refine ev_i2l dX5_step_148 ?_
  refine ev_ldc2 dX5_step_149 w898 ?_
  refine ev_ldc2 dX5_step_152 w899 ?_
  refine ev_callSi (M := MX5_step) (M2 := MX5_in) (As := [.long r2.toInt64, .long 48, .long 57]) (rest := []) dX5_step_155 w877 moX5_in rfl ⟨Nat.le_of_ble_eq_true rfl, Nat.le_of_ble_eq_true rfl⟩ rfl rfl (Nat.le_of_ble_eq_true rfl) h (fun r4 d3 h => ?_)
  have h := rI_dn h
  refine ev_if_eq (M := MX5_step) (tgt := 217) dX5_step_158 rfl (fun c5 => ?_) (fun c5 => ?_)
  · have h := h.1 c5
    refine ev_aload_n dX5_step_217 rfl ?_
    refine ev_iconst dX5_step_218 ci_2 ?_
    refine ev_put 16 dX5_step_219 sM_0 ck5 (Nat.le_of_ble_eq_true rfl) rfl w782 rfl rfl rfl ?_
    refine ev_topd (fun d6 ed6 => ?_)
    have h := h d6 ed6
    refine ev_aload_n dX5_step_222 rfl ?_
    refine ev_get 14 dX5_step_223 sM_0 ck5 (Nat.le_of_ble_eq_true rfl) rfl w780 ?_
    refine ev_aload_n dX5_step_226 rfl ?_
    refine ev_get 15 dX5_step_227 sM_0 ck5 (Nat.le_of_ble_eq_true rfl) rfl w781 ?_
    refine ev_isub dX5_step_230 ?_
    refine ev_iconst dX5_step_231 ci_2 ?_
    refine ev_icmp_le (M := MX5_step) (tgt := 269) dX5_step_232 rfl (fun c7 => ?_) (fun c7 => ?_)
    · have h := h.1 c7
      exact ev_ret (M := MX5_step) dX5_step_269 rfl rfl h
    · have h := h.2 c7
      refine ev_aload_n dX5_step_235 rfl ?_
      refine ev_iconst dX5_step_236 ci_1 ?_
      refine ev_callVv (M := MX5_step) (M2 := MX5_fails) (As := [.int 1]) (rest := []) dX5_step_237 sM_0 ck5 rfl w900 moX5_fails rfl ⟨Nat.le_of_ble_eq_true rfl, Nat.le_of_ble_eq_true rfl⟩ rfl rfl (Nat.le_of_ble_eq_true rfl) h (fun d8 h => ?_)
      have h := rV_dn h
      refine ev_goto (M := MX5_step) (tgt := 269) dX5_step_240 rfl ?_
      exact ev_ret (M := MX5_step) dX5_step_269 rfl rfl h
  · have h := h.2 c5
    refine ev_aload_n dX5_step_161 rfl ?_
    refine ev_aload_n dX5_step_162 rfl ?_
    refine ev_get 14 dX5_step_163 sM_0 ck5 (Nat.le_of_ble_eq_true rfl) rfl w780 ?_
    refine ev_aload_n dX5_step_166 rfl ?_
    refine ev_get 15 dX5_step_167 sM_0 ck5 (Nat.le_of_ble_eq_true rfl) rfl w781 ?_
    refine ev_isub dX5_step_170 ?_
    refine ev_iconst dX5_step_171 ci_2 ?_
    refine ev_icmp_ge (M := MX5_step) (tgt := 197) dX5_step_172 rfl (fun c9 => ?_) (fun c9 => ?_)
    · have h := h.1 c9
      refine ev_aload_n dX5_step_197 rfl ?_
      refine ev_get 17 dX5_step_198 sM_0 ck5 (Nat.le_of_ble_eq_true rfl) rfl w783 ?_
      refine ev_put 17 dX5_step_201 sM_0 ck5 (Nat.le_of_ble_eq_true rfl) rfl w783 rfl rfl rfl ?_
      refine ev_topd (fun d10 ed10 => ?_)
      have h := h d10 ed10
      refine ev_aload_n dX5_step_204 rfl ?_
      refine ev_dup dX5_step_205 rfl ?_
      refine ev_get 14 dX5_step_206 sM_0 ck5 (Nat.le_of_ble_eq_true rfl) rfl w780 ?_
      refine ev_iconst dX5_step_209 ci_1 ?_
      refine ev_iadd dX5_step_210 ?_
      refine ev_put 14 dX5_step_211 sM_0 ck5 (Nat.le_of_ble_eq_true rfl) rfl w780 rfl rfl rfl ?_
      refine ev_topd (fun d11 ed11 => ?_)
      have h := h d11 ed11
      refine ev_goto (M := MX5_step) (tgt := 140) dX5_step_214 rfl ?_
      exact h
    · have h := h.2 c9
      refine ev_bipush dX5_step_175 cb_10 ?_
      refine ev_aload_n dX5_step_177 rfl ?_
      refine ev_get 17 dX5_step_178 sM_0 ck5 (Nat.le_of_ble_eq_true rfl) rfl w783 ?_
      refine ev_imul dX5_step_181 ?_
      refine ev_aload_n dX5_step_182 rfl ?_
      refine ev_aload_n dX5_step_183 rfl ?_
      refine ev_get 14 dX5_step_184 sM_0 ck5 (Nat.le_of_ble_eq_true rfl) rfl w780 ?_
      refine ev_callVi (M := MX5_step) (M2 := MX5_byteAt) (As := [.int (d3 0 14)]) (rest := [.int (10 * (d3 0 17)), .ref 0]) dX5_step_187 sM_0 ck5 rfl w892 moX5_byteAt rfl ⟨Nat.le_of_ble_eq_true rfl, Nat.le_of_ble_eq_true rfl⟩ rfl rfl (Nat.le_of_ble_eq_true rfl) h (fun r13 d12 h => ?_)
      have h := rI_dn h
      refine ev_iadd dX5_step_190 ?_
      refine ev_bipush dX5_step_191 cb_48 ?_
      refine ev_isub dX5_step_193 ?_
      refine ev_goto (M := MX5_step) (tgt := 201) dX5_step_194 rfl ?_
      refine ev_put 17 dX5_step_201 sM_0 ck5 (Nat.le_of_ble_eq_true rfl) rfl w783 rfl rfl rfl ?_
      refine ev_topd (fun d14 ed14 => ?_)
      have h := h d14 ed14
      refine ev_aload_n dX5_step_204 rfl ?_
      refine ev_dup dX5_step_205 rfl ?_
      refine ev_get 14 dX5_step_206 sM_0 ck5 (Nat.le_of_ble_eq_true rfl) rfl w780 ?_
      refine ev_iconst dX5_step_209 ci_1 ?_
      refine ev_iadd dX5_step_210 ?_
      refine ev_put 14 dX5_step_211 sM_0 ck5 (Nat.le_of_ble_eq_true rfl) rfl w780 rfl rfl rfl ?_
      refine ev_topd (fun d15 ed15 => ?_)
      have h := h d15 ed15
      refine ev_goto (M := MX5_step) (tgt := 140) dX5_step_214 rfl ?_
      exact h
-- X5_number
theorem cn_X5_number {q : Int32 → DD → Prop} {d : DD} {p0 : Int32} {p1 : Int32} (h : ((¬ (d 0 12) = 0 → Ev SM MX5_number 20 [.ref 0, .int p0, .int p1, uJ] [] d (rI q)) ∧ ((d 0 12) = 0 → (((d 0 16) = 2 → Ev SM MX5_number 20 [.ref 0, .int p0, .int p1, uJ] [] d (rI q)) ∧ (¬ (d 0 16) = 2 → (Cn SM MX5_fails [.ref 0, .int 2] d (rV fun d3 => Ev SM MX5_number 20 [.ref 0, .int p0, .int p1, uJ] [] d3 (rI q)))))))) : Cn SM MX5_number [.ref 0, .int p0, .int p1] d (rI q) := by
  refine cn_of (ls := [.ref 0, .int p0, .int p1, uJ]) (by decide) rfl rfl (Nat.le_of_ble_eq_true rfl) ?_
  refine ev_aload_n dX5_number_0 rfl ?_
  refine ev_get 12 dX5_number_1 sM_0 ck5 (Nat.le_of_ble_eq_true rfl) rfl w778 ?_
  refine ev_if_ne (M := MX5_number) (tgt := 20) dX5_number_4 rfl (fun c1 => ?_) (fun c1 => ?_)
  · have h := h.1 c1
    exact h
  · have h := h.2 c1
    refine ev_aload_n dX5_number_7 rfl ?_
    refine ev_get 16 dX5_number_8 sM_0 ck5 (Nat.le_of_ble_eq_true rfl) rfl w782 ?_
    refine ev_iconst dX5_number_11 ci_2 ?_
    refine ev_icmp_eq (M := MX5_number) (tgt := 20) dX5_number_12 rfl (fun c2 => ?_) (fun c2 => ?_)
    · have h := h.1 c2
      exact h
    · have h := h.2 c2
      refine ev_aload_n dX5_number_15 rfl ?_
      refine ev_iconst dX5_number_16 ci_2 ?_
      refine ev_callVv (M := MX5_number) (M2 := MX5_fails) (As := [.int 2]) (rest := []) dX5_number_17 sM_0 ck5 rfl w900 moX5_fails rfl ⟨Nat.le_of_ble_eq_true rfl, Nat.le_of_ble_eq_true rfl⟩ rfl rfl (Nat.le_of_ble_eq_true rfl) h (fun d3 h => ?_)
      have h := rV_dn h
      exact h
theorem bk_X5_number_20 {q : Int32 → DD → Prop} {d : DD} {l1 : Int32} {l2 : Int32} (h : ((¬ (d 0 12) = 0 → Ev SM MX5_number 47 [.ref 0, .int l1, .int l2, uJ] [] d (rI q)) ∧ ((d 0 12) = 0 → (Cn SM MX5_in [.long (d 0 17).toInt64, .long l1.toInt64, .long l2.toInt64] d (rI fun r3 d2 => ((¬ r3 = 0 → Ev SM MX5_number 47 [.ref 0, .int l1, .int l2, uJ] [] d2 (rI q)) ∧ (r3 = 0 → (Cn SM MX5_fails [.ref 0, .int 3] d2 (rV fun d5 => Ev SM MX5_number 47 [.ref 0, .int l1, .int l2, uJ] [] d5 (rI q)))))))))) : Ev SM MX5_number 20 [.ref 0, .int l1, .int l2, uJ] [] d (rI q) := by
  refine ev_aload_n dX5_number_20 rfl ?_
  refine ev_get 12 dX5_number_21 sM_0 ck5 (Nat.le_of_ble_eq_true rfl) rfl w778 ?_
  refine ev_if_ne (M := MX5_number) (tgt := 47) dX5_number_24 rfl (fun c1 => ?_) (fun c1 => ?_)
  · have h := h.1 c1
    exact h
  · have h := h.2 c1
    refine ev_aload_n dX5_number_27 rfl ?_
    refine ev_get 17 dX5_number_28 sM_0 ck5 (Nat.le_of_ble_eq_true rfl) rfl w783 ?_
    refine ev_i2l dX5_number_31 ?_
    refine ev_iload_n dX5_number_32 rfl ?_
    refine ev_i2l dX5_number_33 ?_
    refine ev_iload_n dX5_number_34 rfl ?_
    refine ev_i2l dX5_number_35 ?_
    refine ev_callSi (M := MX5_number) (M2 := MX5_in) (As := [.long (d 0 17).toInt64, .long l1.toInt64, .long l2.toInt64]) (rest := []) dX5_number_36 w877 moX5_in rfl ⟨Nat.le_of_ble_eq_true rfl, Nat.le_of_ble_eq_true rfl⟩ rfl rfl (Nat.le_of_ble_eq_true rfl) h (fun r3 d2 h => ?_)
    have h := rI_dn h
    refine ev_if_ne (M := MX5_number) (tgt := 47) dX5_number_39 rfl (fun c4 => ?_) (fun c4 => ?_)
    · have h := h.1 c4
      exact h
    · have h := h.2 c4
      refine ev_aload_n dX5_number_42 rfl ?_
      refine ev_iconst dX5_number_43 ci_3 ?_
      refine ev_callVv (M := MX5_number) (M2 := MX5_fails) (As := [.int 3]) (rest := []) dX5_number_44 sM_0 ck5 rfl w900 moX5_fails rfl ⟨Nat.le_of_ble_eq_true rfl, Nat.le_of_ble_eq_true rfl⟩ rfl rfl (Nat.le_of_ble_eq_true rfl) h (fun d5 h => ?_)
      have h := rV_dn h
      exact h
theorem bk_X5_number_47 {q : Int32 → DD → Prop} {d : DD} {l1 : Int32} {l2 : Int32} (h : ((¬ (d 0 12) = 0 → (Cn SM MX5_step [.ref 0] d (rV fun d2 => q l1 d2))) ∧ ((d 0 12) = 0 → (Cn SM MX5_step [.ref 0] d (rV fun d3 => q (d 0 17) d3))))) : Ev SM MX5_number 47 [.ref 0, .int l1, .int l2, uJ] [] d (rI q) := by
  refine ev_aload_n dX5_number_47 rfl ?_
  refine ev_get 12 dX5_number_48 sM_0 ck5 (Nat.le_of_ble_eq_true rfl) rfl w778 ?_
  refine ev_if_ne (M := MX5_number) (tgt := 61) dX5_number_51 rfl (fun c1 => ?_) (fun c1 => ?_)
  · have h := h.1 c1
    refine ev_iload_n dX5_number_61 rfl ?_
    refine ev_istore_n (M := MX5_number) (ls2 := [.ref 0, .int l1, .int l2, .int l1]) 3 dX5_number_62 rfl (Nat.le_of_ble_eq_true rfl) rfl ?_
    refine ev_aload_n dX5_number_63 rfl ?_
    refine ev_callVv (M := MX5_number) (M2 := MX5_step) (As := []) (rest := []) dX5_number_64 sM_0 ck5 rfl w888 moX5_step rfl ⟨Nat.le_of_ble_eq_true rfl, Nat.le_of_ble_eq_true rfl⟩ rfl rfl (Nat.le_of_ble_eq_true rfl) h (fun d2 h => ?_)
    have h := rV_dn h
    refine ev_iload_n dX5_number_67 rfl ?_
    exact ev_ireti (M := MX5_number) (ty := .int) dX5_number_68 rfl rfl rfl h
  · have h := h.2 c1
    refine ev_aload_n dX5_number_54 rfl ?_
    refine ev_get 17 dX5_number_55 sM_0 ck5 (Nat.le_of_ble_eq_true rfl) rfl w783 ?_
    refine ev_goto (M := MX5_number) (tgt := 62) dX5_number_58 rfl ?_
    refine ev_istore_n (M := MX5_number) (ls2 := [.ref 0, .int l1, .int l2, .int (d 0 17)]) 3 dX5_number_62 rfl (Nat.le_of_ble_eq_true rfl) rfl ?_
    refine ev_aload_n dX5_number_63 rfl ?_
    refine ev_callVv (M := MX5_number) (M2 := MX5_step) (As := []) (rest := []) dX5_number_64 sM_0 ck5 rfl w888 moX5_step rfl ⟨Nat.le_of_ble_eq_true rfl, Nat.le_of_ble_eq_true rfl⟩ rfl rfl (Nat.le_of_ble_eq_true rfl) h (fun d3 h => ?_)
    have h := rV_dn h
    refine ev_iload_n dX5_number_67 rfl ?_
    exact ev_ireti (M := MX5_number) (ty := .int) dX5_number_68 rfl rfl rfl h
-- X5_tuneHere
theorem cn_X5_tuneHere {q : Int32 → DD → Prop} {d : DD}  (h : (Cn SM MX5_number [.ref 0, .int 0, .int 3] d (rI fun r2 d1 => ((r2 ≤ (d1 0 8) → (∀ d4 : DD, d4 = (up d1 0 8 (d1 0 8)) → q r2 d4)) ∧ (¬ r2 ≤ (d1 0 8) → (∀ d5 : DD, d5 = (up d1 0 8 r2) → q r2 d5)))))) : Cn SM MX5_tuneHere [.ref 0] d (rI q) := by
  refine cn_of (ls := [.ref 0, uJ]) (by decide) rfl rfl (Nat.le_of_ble_eq_true rfl) ?_
  refine ev_aload_n dX5_tuneHere_0 rfl ?_
  refine ev_iconst dX5_tuneHere_1 ci_0 ?_
  refine ev_iconst dX5_tuneHere_2 ci_3 ?_
  refine ev_callVi (M := MX5_tuneHere) (M2 := MX5_number) (As := [.int 0, .int 3]) (rest := []) dX5_tuneHere_3 sM_0 ck5 rfl w921 moX5_number rfl ⟨Nat.le_of_ble_eq_true rfl, Nat.le_of_ble_eq_true rfl⟩ rfl rfl (Nat.le_of_ble_eq_true rfl) h (fun r2 d1 h => ?_)
  have h := rI_dn h
  refine ev_istore_n (M := MX5_tuneHere) (ls2 := [.ref 0, .int r2]) 1 dX5_tuneHere_6 rfl (Nat.le_of_ble_eq_true rfl) rfl ?_
  refine ev_aload_n dX5_tuneHere_7 rfl ?_
  refine ev_iload_n dX5_tuneHere_8 rfl ?_
  refine ev_aload_n dX5_tuneHere_9 rfl ?_
  refine ev_get 8 dX5_tuneHere_10 sM_0 ck5 (Nat.le_of_ble_eq_true rfl) rfl w774 ?_
  refine ev_icmp_le (M := MX5_tuneHere) (tgt := 20) dX5_tuneHere_13 rfl (fun c3 => ?_) (fun c3 => ?_)
  · have h := h.1 c3
    refine ev_aload_n dX5_tuneHere_20 rfl ?_
    refine ev_get 8 dX5_tuneHere_21 sM_0 ck5 (Nat.le_of_ble_eq_true rfl) rfl w774 ?_
    refine ev_put 8 dX5_tuneHere_24 sM_0 ck5 (Nat.le_of_ble_eq_true rfl) rfl w774 rfl rfl rfl ?_
    refine ev_topd (fun d4 ed4 => ?_)
    have h := h d4 ed4
    refine ev_iload_n dX5_tuneHere_27 rfl ?_
    exact ev_ireti (M := MX5_tuneHere) (ty := .int) dX5_tuneHere_28 rfl rfl rfl h
  · have h := h.2 c3
    refine ev_iload_n dX5_tuneHere_16 rfl ?_
    refine ev_goto (M := MX5_tuneHere) (tgt := 24) dX5_tuneHere_17 rfl ?_
    refine ev_put 8 dX5_tuneHere_24 sM_0 ck5 (Nat.le_of_ble_eq_true rfl) rfl w774 rfl rfl rfl ?_
    refine ev_topd (fun d5 ed5 => ?_)
    have h := h d5 ed5
    refine ev_iload_n dX5_tuneHere_27 rfl ?_
    exact ev_ireti (M := MX5_tuneHere) (ty := .int) dX5_tuneHere_28 rfl rfl rfl h
-- X5_readTune
set_option maxRecDepth 4000 in
theorem cn_X5_readTune {q : DD → Prop} {d : DD} {p0 : Int32} (h : (vp_in (d 0 5) 70 ∧ (∀ d1 : DD, d1 = (up d 2 (d 0 5).toNatClampNeg p0) → (Cn SM MX5_number [.ref 0, .int 1, .int 9] d1 (rI fun r3 d2 => (vp_in (8 + (d 0 5)) 70 ∧ (∀ d4 : DD, d4 = (up d2 2 (8 + (d 0 5)).toNatClampNeg r3) → (Cn SM MX5_number [.ref 0, .int 0, .int 9] d4 (rI fun r6 d5 => (vp_in (12 + (d 0 5)) 70 ∧ (∀ d7 : DD, d7 = (up d5 2 (12 + (d 0 5)).toNatClampNeg r6) → (Cn SM MX5_number [.ref 0, .int 0, .int 9] d7 (rI fun r9 d8 => (vp_in (16 + (8 * (d 0 5))) 70 ∧ (∀ d10 : DD, d10 = (up d8 2 (16 + (8 * (d 0 5))).toNatClampNeg r9) → Ev SM MX5_readTune 65 [.ref 0, .int p0, .int (d 0 5), .int 1] [] d10 (rV q)))))))))))))))) : Cn SM MX5_readTune [.ref 0, .int p0] d (rV q) := by
  refine cn_of (ls := [.ref 0, .int p0, uJ, uJ]) (by decide) rfl rfl (Nat.le_of_ble_eq_true rfl) ?_
  refine ev_aload_n dX5_readTune_0 rfl ?_
  refine ev_get 5 dX5_readTune_1 sM_0 ck5 (Nat.le_of_ble_eq_true rfl) rfl w771 ?_
  refine ev_istore_n (M := MX5_readTune) (ls2 := [.ref 0, .int p0, .int (d 0 5), uJ]) 2 dX5_readTune_4 rfl (Nat.le_of_ble_eq_true rfl) rfl ?_
  refine ev_aload_n dX5_readTune_5 rfl ?_
  refine ev_getr (M := MX5_readTune) (r := 2) 4 dX5_readTune_6 sM_0 ck5 (Nat.le_of_ble_eq_true rfl) rfl w770 ?_
  refine ev_iload_n dX5_readTune_9 rfl ?_
  refine ev_iload_n dX5_readTune_10 rfl ?_
  obtain ⟨g, h⟩ := h
  refine ev_iast dX5_readTune_11 sM_2 g ?_
  refine ev_topd (fun d1 ed1 => ?_)
  have h := h d1 ed1
  refine ev_aload_n dX5_readTune_12 rfl ?_
  refine ev_getr (M := MX5_readTune) (r := 2) 4 dX5_readTune_13 sM_0 ck5 (Nat.le_of_ble_eq_true rfl) rfl w770 ?_
  refine ev_bipush dX5_readTune_16 cb_8 ?_
  refine ev_iload_n dX5_readTune_18 rfl ?_
  refine ev_iadd dX5_readTune_19 ?_
  refine ev_aload_n dX5_readTune_20 rfl ?_
  refine ev_iconst dX5_readTune_21 ci_1 ?_
  refine ev_bipush dX5_readTune_22 cb_9 ?_
  refine ev_callVi (M := MX5_readTune) (M2 := MX5_number) (As := [.int 1, .int 9]) (rest := [.int (8 + (d 0 5)), .ref 2]) dX5_readTune_24 sM_0 ck5 rfl w921 moX5_number rfl ⟨Nat.le_of_ble_eq_true rfl, Nat.le_of_ble_eq_true rfl⟩ rfl rfl (Nat.le_of_ble_eq_true rfl) h (fun r3 d2 h => ?_)
  have h := rI_dn h
  obtain ⟨g, h⟩ := h
  refine ev_iast dX5_readTune_27 sM_2 g ?_
  refine ev_topd (fun d4 ed4 => ?_)
  have h := h d4 ed4
  refine ev_aload_n dX5_readTune_28 rfl ?_
  refine ev_getr (M := MX5_readTune) (r := 2) 4 dX5_readTune_29 sM_0 ck5 (Nat.le_of_ble_eq_true rfl) rfl w770 ?_
  refine ev_bipush dX5_readTune_32 cb_12 ?_
  refine ev_iload_n dX5_readTune_34 rfl ?_
  refine ev_iadd dX5_readTune_35 ?_
  refine ev_aload_n dX5_readTune_36 rfl ?_
  refine ev_iconst dX5_readTune_37 ci_0 ?_
  refine ev_bipush dX5_readTune_38 cb_9 ?_
  refine ev_callVi (M := MX5_readTune) (M2 := MX5_number) (As := [.int 0, .int 9]) (rest := [.int (12 + (d 0 5)), .ref 2]) dX5_readTune_40 sM_0 ck5 rfl w921 moX5_number rfl ⟨Nat.le_of_ble_eq_true rfl, Nat.le_of_ble_eq_true rfl⟩ rfl rfl (Nat.le_of_ble_eq_true rfl) h (fun r6 d5 h => ?_)
  have h := rI_dn h
  obtain ⟨g, h⟩ := h
  refine ev_iast dX5_readTune_43 sM_2 g ?_
  refine ev_topd (fun d7 ed7 => ?_)
  have h := h d7 ed7
  refine ev_aload_n dX5_readTune_44 rfl ?_
  refine ev_getr (M := MX5_readTune) (r := 2) 4 dX5_readTune_45 sM_0 ck5 (Nat.le_of_ble_eq_true rfl) rfl w770 ?_
  refine ev_bipush dX5_readTune_48 cb_16 ?_
  refine ev_bipush dX5_readTune_50 cb_8 ?_
  refine ev_iload_n dX5_readTune_52 rfl ?_
  refine ev_imul dX5_readTune_53 ?_
  refine ev_iadd dX5_readTune_54 ?_
  refine ev_aload_n dX5_readTune_55 rfl ?_
  refine ev_iconst dX5_readTune_56 ci_0 ?_
  refine ev_bipush dX5_readTune_57 cb_9 ?_
  refine ev_callVi (M := MX5_readTune) (M2 := MX5_number) (As := [.int 0, .int 9]) (rest := [.int (16 + (8 * (d 0 5))), .ref 2]) dX5_readTune_59 sM_0 ck5 rfl w921 moX5_number rfl ⟨Nat.le_of_ble_eq_true rfl, Nat.le_of_ble_eq_true rfl⟩ rfl rfl (Nat.le_of_ble_eq_true rfl) h (fun r9 d8 h => ?_)
  have h := rI_dn h
  obtain ⟨g, h⟩ := h
  refine ev_iast dX5_readTune_62 sM_2 g ?_
  refine ev_topd (fun d10 ed10 => ?_)
  have h := h d10 ed10
  refine ev_iconst dX5_readTune_63 ci_1 ?_
  refine ev_istore_n (M := MX5_readTune) (ls2 := [.ref 0, .int p0, .int (d 0 5), .int 1]) 3 dX5_readTune_64 rfl (Nat.le_of_ble_eq_true rfl) rfl ?_
  exact h
set_option maxRecDepth 4000 in
theorem bk_X5_readTune_65 {q : DD → Prop} {d : DD} {l1 : Int32} {l2 : Int32} {l3 : Int32} (h : ((¬ (d 0 12) = 0 → (vp_in (4 + l2) 70 ∧ (∀ d2 : DD, d2 = (up d 2 (4 + l2).toNatClampNeg l3) → (∀ d3 : DD, d3 = (up d2 0 5 ((d2 0 5) + 1)) → q d3)))) ∧ ((d 0 12) = 0 → ((¬ (d 0 16) = 2 → (vp_in (4 + l2) 70 ∧ (∀ d5 : DD, d5 = (up d 2 (4 + l2).toNatClampNeg l3) → (∀ d6 : DD, d6 = (up d5 0 5 ((d5 0 5) + 1)) → q d6)))) ∧ ((d 0 16) = 2 → ((¬ l3 = 8 → (Cn SM MX5_number [.ref 0, .int 0, .int 9] d (rI fun r9 d8 => (vp_in ((16 + (8 * l2)) + l3) 70 ∧ (∀ d10 : DD, d10 = (up d8 2 ((16 + (8 * l2)) + l3).toNatClampNeg r9) → Ev SM MX5_readTune 65 [.ref 0, .int l1, .int l2, .int (l3 + 1)] [] d10 (rV q)))))) ∧ (l3 = 8 → (Cn SM MX5_fails [.ref 0, .int 5] d (rV fun d11 => Ev SM MX5_readTune 65 [.ref 0, .int l1, .int l2, .int l3] [] d11 (rV q)))))))))) : Ev SM MX5_readTune 65 [.ref 0, .int l1, .int l2, .int l3] [] d (rV q) := by
  refine ev_aload_n dX5_readTune_65 rfl ?_
  refine ev_get 12 dX5_readTune_66 sM_0 ck5 (Nat.le_of_ble_eq_true rfl) rfl w778 ?_
  refine ev_if_ne (M := MX5_readTune) (tgt := 121) dX5_readTune_69 rfl (fun c1 => ?_) (fun c1 => ?_)
  · have h := h.1 c1
    refine ev_aload_n dX5_readTune_121 rfl ?_
    refine ev_getr (M := MX5_readTune) (r := 2) 4 dX5_readTune_122 sM_0 ck5 (Nat.le_of_ble_eq_true rfl) rfl w770 ?_
    refine ev_iconst dX5_readTune_125 ci_4 ?_
    refine ev_iload_n dX5_readTune_126 rfl ?_
    refine ev_iadd dX5_readTune_127 ?_
    refine ev_iload_n dX5_readTune_128 rfl ?_
    obtain ⟨g, h⟩ := h
    refine ev_iast dX5_readTune_129 sM_2 g ?_
    refine ev_topd (fun d2 ed2 => ?_)
    have h := h d2 ed2
    refine ev_aload_n dX5_readTune_130 rfl ?_
    refine ev_dup dX5_readTune_131 rfl ?_
    refine ev_get 5 dX5_readTune_132 sM_0 ck5 (Nat.le_of_ble_eq_true rfl) rfl w771 ?_
    refine ev_iconst dX5_readTune_135 ci_1 ?_
    refine ev_iadd dX5_readTune_136 ?_
    refine ev_put 5 dX5_readTune_137 sM_0 ck5 (Nat.le_of_ble_eq_true rfl) rfl w771 rfl rfl rfl ?_
    refine ev_topd (fun d3 ed3 => ?_)
    have h := h d3 ed3
    exact ev_ret (M := MX5_readTune) dX5_readTune_140 rfl rfl h
  · have h := h.2 c1
    refine ev_aload_n dX5_readTune_72 rfl ?_
    refine ev_get 16 dX5_readTune_73 sM_0 ck5 (Nat.le_of_ble_eq_true rfl) rfl w782 ?_
    refine ev_iconst dX5_readTune_76 ci_2 ?_
    refine ev_icmp_ne (M := MX5_readTune) (tgt := 121) dX5_readTune_77 rfl (fun c4 => ?_) (fun c4 => ?_)
    · have h := h.1 c4
      refine ev_aload_n dX5_readTune_121 rfl ?_
      refine ev_getr (M := MX5_readTune) (r := 2) 4 dX5_readTune_122 sM_0 ck5 (Nat.le_of_ble_eq_true rfl) rfl w770 ?_
      refine ev_iconst dX5_readTune_125 ci_4 ?_
      refine ev_iload_n dX5_readTune_126 rfl ?_
      refine ev_iadd dX5_readTune_127 ?_
      refine ev_iload_n dX5_readTune_128 rfl ?_
      obtain ⟨g, h⟩ := h
      refine ev_iast dX5_readTune_129 sM_2 g ?_
      refine ev_topd (fun d5 ed5 => ?_)
      have h := h d5 ed5
      refine ev_aload_n dX5_readTune_130 rfl ?_
      refine ev_dup dX5_readTune_131 rfl ?_
      refine ev_get 5 dX5_readTune_132 sM_0 ck5 (Nat.le_of_ble_eq_true rfl) rfl w771 ?_
      refine ev_iconst dX5_readTune_135 ci_1 ?_
      refine ev_iadd dX5_readTune_136 ?_
      refine ev_put 5 dX5_readTune_137 sM_0 ck5 (Nat.le_of_ble_eq_true rfl) rfl w771 rfl rfl rfl ?_
      refine ev_topd (fun d6 ed6 => ?_)
      have h := h d6 ed6
      exact ev_ret (M := MX5_readTune) dX5_readTune_140 rfl rfl h
    · have h := h.2 c4
      refine ev_iload_n dX5_readTune_80 rfl ?_
      refine ev_bipush dX5_readTune_81 cb_8 ?_
      refine ev_icmp_ne (M := MX5_readTune) (tgt := 94) dX5_readTune_83 rfl (fun c7 => ?_) (fun c7 => ?_)
      · have h := h.1 c7
        refine ev_aload_n dX5_readTune_94 rfl ?_
        refine ev_getr (M := MX5_readTune) (r := 2) 4 dX5_readTune_95 sM_0 ck5 (Nat.le_of_ble_eq_true rfl) rfl w770 ?_
        refine ev_bipush dX5_readTune_98 cb_16 ?_
        refine ev_bipush dX5_readTune_100 cb_8 ?_
        refine ev_iload_n dX5_readTune_102 rfl ?_
        refine ev_imul dX5_readTune_103 ?_
        refine ev_iadd dX5_readTune_104 ?_
        refine ev_iload_n dX5_readTune_105 rfl ?_
        refine ev_iadd dX5_readTune_106 ?_
        refine ev_aload_n dX5_readTune_107 rfl ?_
        refine ev_iconst dX5_readTune_108 ci_0 ?_
        refine ev_bipush dX5_readTune_109 cb_9 ?_
        refine ev_callVi (M := MX5_readTune) (M2 := MX5_number) (As := [.int 0, .int 9]) (rest := [.int ((16 + (8 * l2)) + l3), .ref 2]) dX5_readTune_111 sM_0 ck5 rfl w921 moX5_number rfl ⟨Nat.le_of_ble_eq_true rfl, Nat.le_of_ble_eq_true rfl⟩ rfl rfl (Nat.le_of_ble_eq_true rfl) h (fun r9 d8 h => ?_)
        have h := rI_dn h
        obtain ⟨g, h⟩ := h
        refine ev_iast dX5_readTune_114 sM_2 g ?_
        refine ev_topd (fun d10 ed10 => ?_)
        have h := h d10 ed10
        refine ev_iinc (M := MX5_readTune) (ls2 := [.ref 0, .int l1, .int l2, .int (l3 + 1)]) dX5_readTune_115 rfl (iin ci_1) (Nat.le_of_ble_eq_true rfl) rfl ?_
        refine ev_goto (M := MX5_readTune) (tgt := 65) dX5_readTune_118 rfl ?_
        exact h
      · have h := h.2 c7
        refine ev_aload_n dX5_readTune_86 rfl ?_
        refine ev_iconst dX5_readTune_87 ci_5 ?_
        refine ev_callVv (M := MX5_readTune) (M2 := MX5_fails) (As := [.int 5]) (rest := []) dX5_readTune_88 sM_0 ck5 rfl w900 moX5_fails rfl ⟨Nat.le_of_ble_eq_true rfl, Nat.le_of_ble_eq_true rfl⟩ rfl rfl (Nat.le_of_ble_eq_true rfl) h (fun d11 h => ?_)
        have h := rV_dn h
        refine ev_goto (M := MX5_readTune) (tgt := 65) dX5_readTune_91 rfl ?_
        exact h
-- X5_readMore
set_option maxRecDepth 4000 in
theorem cn_X5_readMore {q : DD → Prop} {d : DD} {p0 : Int32} (h : ((3 < p0 → ((¬ p0 = 4 → (Cn SM MX5_tuneHere [.ref 0] d (rI fun r4 d3 => (vp_in (64 + (d 0 7)) 70 ∧ (∀ d5 : DD, d5 = (up d3 2 (64 + (d 0 7)).toNatClampNeg r4) → (∀ d6 : DD, d6 = (up d5 0 7 ((d5 0 7) + 1)) → q d6)))))) ∧ (p0 = 4 → (Cn SM MX5_number [.ref 0, .int 0, .int 9] d (rI fun r8 d7 => (vp_in (48 + (d 0 6)) 70 ∧ (∀ d9 : DD, d9 = (up d7 2 (48 + (d 0 6)).toNatClampNeg r8) → (Cn SM MX5_number [.ref 0, .int 1, .int 99] d9 (rI fun r11 d10 => (vp_in (52 + (d9 0 6)) 70 ∧ (∀ d12 : DD, d12 = (up d10 2 (52 + (d9 0 6)).toNatClampNeg r11) → (Cn SM MX5_number [.ref 0, .int 0, .int 9] d12 (rI fun r14 d13 => (vp_in (56 + (d12 0 6)) 70 ∧ (∀ d15 : DD, d15 = (up d13 2 (56 + (d12 0 6)).toNatClampNeg r14) → (Cn SM MX5_tuneHere [.ref 0] d15 (rI fun r17 d16 => (vp_in (60 + (d15 0 6)) 70 ∧ (∀ d18 : DD, d18 = (up d16 2 (60 + (d15 0 6)).toNatClampNeg r17) → (∀ d19 : DD, d19 = (up d18 0 6 ((d18 0 6) + 1)) → q d19)))))))))))))))))))) ∧ (¬ 3 < p0 → (Cn SM MX5_readTune [.ref 0, .int p0] d (rV fun d20 => q d20))))) : Cn SM MX5_readMore [.ref 0, .int p0] d (rV q) := by
  refine cn_of (ls := [.ref 0, .int p0]) (by decide) rfl rfl (Nat.le_of_ble_eq_true rfl) ?_
  refine ev_iload_n dX5_readMore_0 rfl ?_
  refine ev_iconst dX5_readMore_1 ci_3 ?_
  refine ev_icmp_gt (M := MX5_readMore) (tgt := 13) dX5_readMore_2 rfl (fun c1 => ?_) (fun c1 => ?_)
  · have h := h.1 c1
    refine ev_iload_n dX5_readMore_13 rfl ?_
    refine ev_iconst dX5_readMore_14 ci_4 ?_
    refine ev_icmp_ne (M := MX5_readMore) (tgt := 104) dX5_readMore_15 rfl (fun c2 => ?_) (fun c2 => ?_)
    · have h := h.1 c2
      refine ev_aload_n dX5_readMore_104 rfl ?_
      refine ev_getr (M := MX5_readMore) (r := 2) 4 dX5_readMore_105 sM_0 ck5 (Nat.le_of_ble_eq_true rfl) rfl w770 ?_
      refine ev_bipush dX5_readMore_108 cb_64 ?_
      refine ev_aload_n dX5_readMore_110 rfl ?_
      refine ev_get 7 dX5_readMore_111 sM_0 ck5 (Nat.le_of_ble_eq_true rfl) rfl w773 ?_
      refine ev_iadd dX5_readMore_114 ?_
      refine ev_aload_n dX5_readMore_115 rfl ?_
      refine ev_callVi (M := MX5_readMore) (M2 := MX5_tuneHere) (As := []) (rest := [.int (64 + (d 0 7)), .ref 2]) dX5_readMore_116 sM_0 ck5 rfl w925 moX5_tuneHere rfl ⟨Nat.le_of_ble_eq_true rfl, Nat.le_of_ble_eq_true rfl⟩ rfl rfl (Nat.le_of_ble_eq_true rfl) h (fun r4 d3 h => ?_)
      have h := rI_dn h
      obtain ⟨g, h⟩ := h
      refine ev_iast dX5_readMore_119 sM_2 g ?_
      refine ev_topd (fun d5 ed5 => ?_)
      have h := h d5 ed5
      refine ev_aload_n dX5_readMore_120 rfl ?_
      refine ev_dup dX5_readMore_121 rfl ?_
      refine ev_get 7 dX5_readMore_122 sM_0 ck5 (Nat.le_of_ble_eq_true rfl) rfl w773 ?_
      refine ev_iconst dX5_readMore_125 ci_1 ?_
      refine ev_iadd dX5_readMore_126 ?_
      refine ev_put 7 dX5_readMore_127 sM_0 ck5 (Nat.le_of_ble_eq_true rfl) rfl w773 rfl rfl rfl ?_
      refine ev_topd (fun d6 ed6 => ?_)
      have h := h d6 ed6
      exact ev_ret (M := MX5_readMore) dX5_readMore_130 rfl rfl h
    · have h := h.2 c2
      refine ev_aload_n dX5_readMore_18 rfl ?_
      refine ev_getr (M := MX5_readMore) (r := 2) 4 dX5_readMore_19 sM_0 ck5 (Nat.le_of_ble_eq_true rfl) rfl w770 ?_
      refine ev_bipush dX5_readMore_22 cb_48 ?_
      refine ev_aload_n dX5_readMore_24 rfl ?_
      refine ev_get 6 dX5_readMore_25 sM_0 ck5 (Nat.le_of_ble_eq_true rfl) rfl w772 ?_
      refine ev_iadd dX5_readMore_28 ?_
      refine ev_aload_n dX5_readMore_29 rfl ?_
      refine ev_iconst dX5_readMore_30 ci_0 ?_
      refine ev_bipush dX5_readMore_31 cb_9 ?_
      refine ev_callVi (M := MX5_readMore) (M2 := MX5_number) (As := [.int 0, .int 9]) (rest := [.int (48 + (d 0 6)), .ref 2]) dX5_readMore_33 sM_0 ck5 rfl w921 moX5_number rfl ⟨Nat.le_of_ble_eq_true rfl, Nat.le_of_ble_eq_true rfl⟩ rfl rfl (Nat.le_of_ble_eq_true rfl) h (fun r8 d7 h => ?_)
      have h := rI_dn h
      obtain ⟨g, h⟩ := h
      refine ev_iast dX5_readMore_36 sM_2 g ?_
      refine ev_topd (fun d9 ed9 => ?_)
      have h := h d9 ed9
      refine ev_aload_n dX5_readMore_37 rfl ?_
      refine ev_getr (M := MX5_readMore) (r := 2) 4 dX5_readMore_38 sM_0 ck5 (Nat.le_of_ble_eq_true rfl) rfl w770 ?_
      refine ev_bipush dX5_readMore_41 cb_52 ?_
      refine ev_aload_n dX5_readMore_43 rfl ?_
      refine ev_get 6 dX5_readMore_44 sM_0 ck5 (Nat.le_of_ble_eq_true rfl) rfl w772 ?_
      refine ev_iadd dX5_readMore_47 ?_
      refine ev_aload_n dX5_readMore_48 rfl ?_
      refine ev_iconst dX5_readMore_49 ci_1 ?_
      refine ev_bipush dX5_readMore_50 cb_99 ?_
      refine ev_callVi (M := MX5_readMore) (M2 := MX5_number) (As := [.int 1, .int 99]) (rest := [.int (52 + (d9 0 6)), .ref 2]) dX5_readMore_52 sM_0 ck5 rfl w921 moX5_number rfl ⟨Nat.le_of_ble_eq_true rfl, Nat.le_of_ble_eq_true rfl⟩ rfl rfl (Nat.le_of_ble_eq_true rfl) h (fun r11 d10 h => ?_)
      have h := rI_dn h
      obtain ⟨g, h⟩ := h
      refine ev_iast dX5_readMore_55 sM_2 g ?_
      refine ev_topd (fun d12 ed12 => ?_)
      have h := h d12 ed12
      refine ev_aload_n dX5_readMore_56 rfl ?_
      refine ev_getr (M := MX5_readMore) (r := 2) 4 dX5_readMore_57 sM_0 ck5 (Nat.le_of_ble_eq_true rfl) rfl w770 ?_
      refine ev_bipush dX5_readMore_60 cb_56 ?_
      refine ev_aload_n dX5_readMore_62 rfl ?_
      refine ev_get 6 dX5_readMore_63 sM_0 ck5 (Nat.le_of_ble_eq_true rfl) rfl w772 ?_
      refine ev_iadd dX5_readMore_66 ?_
      refine ev_aload_n dX5_readMore_67 rfl ?_
      refine ev_iconst dX5_readMore_68 ci_0 ?_
      refine ev_bipush dX5_readMore_69 cb_9 ?_
      refine ev_callVi (M := MX5_readMore) (M2 := MX5_number) (As := [.int 0, .int 9]) (rest := [.int (56 + (d12 0 6)), .ref 2]) dX5_readMore_71 sM_0 ck5 rfl w921 moX5_number rfl ⟨Nat.le_of_ble_eq_true rfl, Nat.le_of_ble_eq_true rfl⟩ rfl rfl (Nat.le_of_ble_eq_true rfl) h (fun r14 d13 h => ?_)
      have h := rI_dn h
      obtain ⟨g, h⟩ := h
      refine ev_iast dX5_readMore_74 sM_2 g ?_
      refine ev_topd (fun d15 ed15 => ?_)
      have h := h d15 ed15
      refine ev_aload_n dX5_readMore_75 rfl ?_
      refine ev_getr (M := MX5_readMore) (r := 2) 4 dX5_readMore_76 sM_0 ck5 (Nat.le_of_ble_eq_true rfl) rfl w770 ?_
      refine ev_bipush dX5_readMore_79 cb_60 ?_
      refine ev_aload_n dX5_readMore_81 rfl ?_
      refine ev_get 6 dX5_readMore_82 sM_0 ck5 (Nat.le_of_ble_eq_true rfl) rfl w772 ?_
      refine ev_iadd dX5_readMore_85 ?_
      refine ev_aload_n dX5_readMore_86 rfl ?_
      refine ev_callVi (M := MX5_readMore) (M2 := MX5_tuneHere) (As := []) (rest := [.int (60 + (d15 0 6)), .ref 2]) dX5_readMore_87 sM_0 ck5 rfl w925 moX5_tuneHere rfl ⟨Nat.le_of_ble_eq_true rfl, Nat.le_of_ble_eq_true rfl⟩ rfl rfl (Nat.le_of_ble_eq_true rfl) h (fun r17 d16 h => ?_)
      have h := rI_dn h
      obtain ⟨g, h⟩ := h
      refine ev_iast dX5_readMore_90 sM_2 g ?_
      refine ev_topd (fun d18 ed18 => ?_)
      have h := h d18 ed18
      refine ev_aload_n dX5_readMore_91 rfl ?_
      refine ev_dup dX5_readMore_92 rfl ?_
      refine ev_get 6 dX5_readMore_93 sM_0 ck5 (Nat.le_of_ble_eq_true rfl) rfl w772 ?_
      refine ev_iconst dX5_readMore_96 ci_1 ?_
      refine ev_iadd dX5_readMore_97 ?_
      refine ev_put 6 dX5_readMore_98 sM_0 ck5 (Nat.le_of_ble_eq_true rfl) rfl w772 rfl rfl rfl ?_
      refine ev_topd (fun d19 ed19 => ?_)
      have h := h d19 ed19
      refine ev_goto (M := MX5_readMore) (tgt := 130) dX5_readMore_101 rfl ?_
      exact ev_ret (M := MX5_readMore) dX5_readMore_130 rfl rfl h
  · have h := h.2 c1
    refine ev_aload_n dX5_readMore_5 rfl ?_
    refine ev_iload_n dX5_readMore_6 rfl ?_
    refine ev_callVv (M := MX5_readMore) (M2 := MX5_readTune) (As := [.int p0]) (rest := []) dX5_readMore_7 sM_0 ck5 rfl w917 moX5_readTune rfl ⟨Nat.le_of_ble_eq_true rfl, Nat.le_of_ble_eq_true rfl⟩ rfl rfl (Nat.le_of_ble_eq_true rfl) h (fun d20 h => ?_)
    have h := rV_dn h
    refine ev_goto (M := MX5_readMore) (tgt := 130) dX5_readMore_10 rfl ?_
    exact ev_ret (M := MX5_readMore) dX5_readMore_130 rfl rfl h
-- X5_readLine
set_option maxRecDepth 4000 in
theorem cn_X5_readLine {q : DD → Prop} {d : DD}  (h : (Cn SM MX5_nameHere [.ref 0] d (rI fun r2 d1 => (Cn SM MX5_in [.long r2.toInt64, .long 0, .long 5] d1 (rI fun r4 d3 => ((¬ r4 = 0 → ((3 < r2 → Ev SM MX5_readLine 36 [.ref 0, .int r2] [] d3 (rV q)) ∧ (¬ 3 < r2 → (((d3 0 5) = 4 → (Cn SM MX5_fails [.ref 0, .int 5] d3 (rV fun d8 => Ev SM MX5_readLine 68 [.ref 0, .int r2] [] d8 (rV q)))) ∧ (¬ (d3 0 5) = 4 → Ev SM MX5_readLine 36 [.ref 0, .int r2] [] d3 (rV q)))))) ∧ (r4 = 0 → (Cn SM MX5_fails [.ref 0, .int 2] d3 (rV fun d9 => q d9))))))))) : Cn SM MX5_readLine [.ref 0] d (rV q) := by
  refine cn_of (ls := [.ref 0, uJ]) (by decide) rfl rfl (Nat.le_of_ble_eq_true rfl) ?_
  refine ev_aload_n dX5_readLine_0 rfl ?_
  refine ev_callVi (M := MX5_readLine) (M2 := MX5_nameHere) (As := []) (rest := []) dX5_readLine_1 sM_0 ck5 rfl w908 moX5_nameHere rfl ⟨Nat.le_of_ble_eq_true rfl, Nat.le_of_ble_eq_true rfl⟩ rfl rfl (Nat.le_of_ble_eq_true rfl) h (fun r2 d1 h => ?_)
  have h := rI_dn h
  refine ev_istore_n (M := MX5_readLine) (ls2 := [.ref 0, .int r2]) 1 dX5_readLine_4 rfl (Nat.le_of_ble_eq_true rfl) rfl ?_
  refine ev_iload_n dX5_readLine_5 rfl ?_
  refine ev_i2l dX5_readLine_6 ?_
  refine ev_lconst (M := MX5_readLine) (v := 0) dX5_readLine_7 rfl ?_
  refine ev_ldc2 dX5_readLine_8 w912 ?_
  refine ev_callSi (M := MX5_readLine) (M2 := MX5_in) (As := [.long r2.toInt64, .long 0, .long 5]) (rest := []) dX5_readLine_11 w877 moX5_in rfl ⟨Nat.le_of_ble_eq_true rfl, Nat.le_of_ble_eq_true rfl⟩ rfl rfl (Nat.le_of_ble_eq_true rfl) h (fun r4 d3 h => ?_)
  have h := rI_dn h
  refine ev_if_ne (M := MX5_readLine) (tgt := 23) dX5_readLine_14 rfl (fun c5 => ?_) (fun c5 => ?_)
  · have h := h.1 c5
    refine ev_iload_n dX5_readLine_23 rfl ?_
    refine ev_iconst dX5_readLine_24 ci_3 ?_
    refine ev_icmp_gt (M := MX5_readLine) (tgt := 36) dX5_readLine_25 rfl (fun c6 => ?_) (fun c6 => ?_)
    · have h := h.1 c6
      exact h
    · have h := h.2 c6
      refine ev_aload_n dX5_readLine_28 rfl ?_
      refine ev_get 5 dX5_readLine_29 sM_0 ck5 (Nat.le_of_ble_eq_true rfl) rfl w771 ?_
      refine ev_iconst dX5_readLine_32 ci_4 ?_
      refine ev_icmp_eq (M := MX5_readLine) (tgt := 63) dX5_readLine_33 rfl (fun c7 => ?_) (fun c7 => ?_)
      · have h := h.1 c7
        refine ev_aload_n dX5_readLine_63 rfl ?_
        refine ev_iconst dX5_readLine_64 ci_5 ?_
        refine ev_callVv (M := MX5_readLine) (M2 := MX5_fails) (As := [.int 5]) (rest := []) dX5_readLine_65 sM_0 ck5 rfl w900 moX5_fails rfl ⟨Nat.le_of_ble_eq_true rfl, Nat.le_of_ble_eq_true rfl⟩ rfl rfl (Nat.le_of_ble_eq_true rfl) h (fun d8 h => ?_)
        have h := rV_dn h
        exact h
      · have h := h.2 c7
        exact h
  · have h := h.2 c5
    refine ev_aload_n dX5_readLine_17 rfl ?_
    refine ev_iconst dX5_readLine_18 ci_2 ?_
    refine ev_callVv (M := MX5_readLine) (M2 := MX5_fails) (As := [.int 2]) (rest := []) dX5_readLine_19 sM_0 ck5 rfl w900 moX5_fails rfl ⟨Nat.le_of_ble_eq_true rfl, Nat.le_of_ble_eq_true rfl⟩ rfl rfl (Nat.le_of_ble_eq_true rfl) h (fun d9 h => ?_)
    have h := rV_dn h
    exact ev_ret (M := MX5_readLine) dX5_readLine_22 rfl rfl h
set_option maxRecDepth 4000 in
theorem bk_X5_readLine_36 {q : DD → Prop} {d : DD} {l1 : Int32} (h : ((¬ l1 = 4 → Ev SM MX5_readLine 49 [.ref 0, .int l1] [] d (rV q)) ∧ (l1 = 4 → (((d 0 6) = 4 → (Cn SM MX5_fails [.ref 0, .int 5] d (rV fun d3 => Ev SM MX5_readLine 68 [.ref 0, .int l1] [] d3 (rV q)))) ∧ (¬ (d 0 6) = 4 → Ev SM MX5_readLine 49 [.ref 0, .int l1] [] d (rV q)))))) : Ev SM MX5_readLine 36 [.ref 0, .int l1] [] d (rV q) := by
  refine ev_iload_n dX5_readLine_36 rfl ?_
  refine ev_iconst dX5_readLine_37 ci_4 ?_
  refine ev_icmp_ne (M := MX5_readLine) (tgt := 49) dX5_readLine_38 rfl (fun c1 => ?_) (fun c1 => ?_)
  · have h := h.1 c1
    exact h
  · have h := h.2 c1
    refine ev_aload_n dX5_readLine_41 rfl ?_
    refine ev_get 6 dX5_readLine_42 sM_0 ck5 (Nat.le_of_ble_eq_true rfl) rfl w772 ?_
    refine ev_iconst dX5_readLine_45 ci_4 ?_
    refine ev_icmp_eq (M := MX5_readLine) (tgt := 63) dX5_readLine_46 rfl (fun c2 => ?_) (fun c2 => ?_)
    · have h := h.1 c2
      refine ev_aload_n dX5_readLine_63 rfl ?_
      refine ev_iconst dX5_readLine_64 ci_5 ?_
      refine ev_callVv (M := MX5_readLine) (M2 := MX5_fails) (As := [.int 5]) (rest := []) dX5_readLine_65 sM_0 ck5 rfl w900 moX5_fails rfl ⟨Nat.le_of_ble_eq_true rfl, Nat.le_of_ble_eq_true rfl⟩ rfl rfl (Nat.le_of_ble_eq_true rfl) h (fun d3 h => ?_)
      have h := rV_dn h
      exact h
    · have h := h.2 c2
      exact h
set_option maxRecDepth 4000 in
theorem bk_X5_readLine_49 {q : DD → Prop} {d : DD} {l1 : Int32} (h : ((¬ l1 = 5 → Ev SM MX5_readLine 68 [.ref 0, .int l1] [] d (rV q)) ∧ (l1 = 5 → ((¬ (d 0 7) = 6 → Ev SM MX5_readLine 68 [.ref 0, .int l1] [] d (rV q)) ∧ ((d 0 7) = 6 → (Cn SM MX5_fails [.ref 0, .int 5] d (rV fun d3 => Ev SM MX5_readLine 68 [.ref 0, .int l1] [] d3 (rV q)))))))) : Ev SM MX5_readLine 49 [.ref 0, .int l1] [] d (rV q) := by
  refine ev_iload_n dX5_readLine_49 rfl ?_
  refine ev_iconst dX5_readLine_50 ci_5 ?_
  refine ev_icmp_ne (M := MX5_readLine) (tgt := 68) dX5_readLine_51 rfl (fun c1 => ?_) (fun c1 => ?_)
  · have h := h.1 c1
    exact h
  · have h := h.2 c1
    refine ev_aload_n dX5_readLine_54 rfl ?_
    refine ev_get 7 dX5_readLine_55 sM_0 ck5 (Nat.le_of_ble_eq_true rfl) rfl w773 ?_
    refine ev_bipush dX5_readLine_58 cb_6 ?_
    refine ev_icmp_ne (M := MX5_readLine) (tgt := 68) dX5_readLine_60 rfl (fun c2 => ?_) (fun c2 => ?_)
    · have h := h.1 c2
      exact h
    · have h := h.2 c2
      refine ev_aload_n dX5_readLine_63 rfl ?_
      refine ev_iconst dX5_readLine_64 ci_5 ?_
      refine ev_callVv (M := MX5_readLine) (M2 := MX5_fails) (As := [.int 5]) (rest := []) dX5_readLine_65 sM_0 ck5 rfl w900 moX5_fails rfl ⟨Nat.le_of_ble_eq_true rfl, Nat.le_of_ble_eq_true rfl⟩ rfl rfl (Nat.le_of_ble_eq_true rfl) h (fun d3 h => ?_)
      have h := rV_dn h
      exact h
set_option maxRecDepth 4000 in
theorem bk_X5_readLine_68 {q : DD → Prop} {d : DD} {l1 : Int32} (h : (Cn SM MX5_step [.ref 0] d (rV fun d1 => (((d1 0 12) ≤ 0 → (Cn SM MX5_readMore [.ref 0, .int l1] d1 (rV fun d3 => ((¬ (d3 0 12) = 0 → (Cn SM MX5_step [.ref 0] d3 (rV fun d5 => q d5))) ∧ ((d3 0 12) = 0 → (((d3 0 16) = 3 → (Cn SM MX5_step [.ref 0] d3 (rV fun d7 => q d7))) ∧ (¬ (d3 0 16) = 3 → (Cn SM MX5_fails [.ref 0, .int 2] d3 (rV fun d8 => (Cn SM MX5_step [.ref 0] d8 (rV fun d9 => q d9))))))))))) ∧ (¬ (d1 0 12) ≤ 0 → q d1))))) : Ev SM MX5_readLine 68 [.ref 0, .int l1] [] d (rV q) := by
  refine ev_aload_n dX5_readLine_68 rfl ?_
  refine ev_callVv (M := MX5_readLine) (M2 := MX5_step) (As := []) (rest := []) dX5_readLine_69 sM_0 ck5 rfl w888 moX5_step rfl ⟨Nat.le_of_ble_eq_true rfl, Nat.le_of_ble_eq_true rfl⟩ rfl rfl (Nat.le_of_ble_eq_true rfl) h (fun d1 h => ?_)
  have h := rV_dn h
  refine ev_aload_n dX5_readLine_72 rfl ?_
  refine ev_get 12 dX5_readLine_73 sM_0 ck5 (Nat.le_of_ble_eq_true rfl) rfl w778 ?_
  refine ev_if_le (M := MX5_readLine) (tgt := 80) dX5_readLine_76 rfl (fun c2 => ?_) (fun c2 => ?_)
  · have h := h.1 c2
    refine ev_aload_n dX5_readLine_80 rfl ?_
    refine ev_iload_n dX5_readLine_81 rfl ?_
    refine ev_callVv (M := MX5_readLine) (M2 := MX5_readMore) (As := [.int l1]) (rest := []) dX5_readLine_82 sM_0 ck5 rfl w913 moX5_readMore rfl ⟨Nat.le_of_ble_eq_true rfl, Nat.le_of_ble_eq_true rfl⟩ rfl rfl (Nat.le_of_ble_eq_true rfl) h (fun d3 h => ?_)
    have h := rV_dn h
    refine ev_aload_n dX5_readLine_85 rfl ?_
    refine ev_get 12 dX5_readLine_86 sM_0 ck5 (Nat.le_of_ble_eq_true rfl) rfl w778 ?_
    refine ev_if_ne (M := MX5_readLine) (tgt := 105) dX5_readLine_89 rfl (fun c4 => ?_) (fun c4 => ?_)
    · have h := h.1 c4
      refine ev_aload_n dX5_readLine_105 rfl ?_
      refine ev_callVv (M := MX5_readLine) (M2 := MX5_step) (As := []) (rest := []) dX5_readLine_106 sM_0 ck5 rfl w888 moX5_step rfl ⟨Nat.le_of_ble_eq_true rfl, Nat.le_of_ble_eq_true rfl⟩ rfl rfl (Nat.le_of_ble_eq_true rfl) h (fun d5 h => ?_)
      have h := rV_dn h
      exact ev_ret (M := MX5_readLine) dX5_readLine_109 rfl rfl h
    · have h := h.2 c4
      refine ev_aload_n dX5_readLine_92 rfl ?_
      refine ev_get 16 dX5_readLine_93 sM_0 ck5 (Nat.le_of_ble_eq_true rfl) rfl w782 ?_
      refine ev_iconst dX5_readLine_96 ci_3 ?_
      refine ev_icmp_eq (M := MX5_readLine) (tgt := 105) dX5_readLine_97 rfl (fun c6 => ?_) (fun c6 => ?_)
      · have h := h.1 c6
        refine ev_aload_n dX5_readLine_105 rfl ?_
        refine ev_callVv (M := MX5_readLine) (M2 := MX5_step) (As := []) (rest := []) dX5_readLine_106 sM_0 ck5 rfl w888 moX5_step rfl ⟨Nat.le_of_ble_eq_true rfl, Nat.le_of_ble_eq_true rfl⟩ rfl rfl (Nat.le_of_ble_eq_true rfl) h (fun d7 h => ?_)
        have h := rV_dn h
        exact ev_ret (M := MX5_readLine) dX5_readLine_109 rfl rfl h
      · have h := h.2 c6
        refine ev_aload_n dX5_readLine_100 rfl ?_
        refine ev_iconst dX5_readLine_101 ci_2 ?_
        refine ev_callVv (M := MX5_readLine) (M2 := MX5_fails) (As := [.int 2]) (rest := []) dX5_readLine_102 sM_0 ck5 rfl w900 moX5_fails rfl ⟨Nat.le_of_ble_eq_true rfl, Nat.le_of_ble_eq_true rfl⟩ rfl rfl (Nat.le_of_ble_eq_true rfl) h (fun d8 h => ?_)
        have h := rV_dn h
        refine ev_aload_n dX5_readLine_105 rfl ?_
        refine ev_callVv (M := MX5_readLine) (M2 := MX5_step) (As := []) (rest := []) dX5_readLine_106 sM_0 ck5 rfl w888 moX5_step rfl ⟨Nat.le_of_ble_eq_true rfl, Nat.le_of_ble_eq_true rfl⟩ rfl rfl (Nat.le_of_ble_eq_true rfl) h (fun d9 h => ?_)
        have h := rV_dn h
        exact ev_ret (M := MX5_readLine) dX5_readLine_109 rfl rfl h
  · have h := h.2 c2
    exact ev_ret (M := MX5_readLine) dX5_readLine_79 rfl rfl h
-- X5_text
set_option maxRecDepth 4000 in
theorem cn_X5_text {q : Int32 → DD → Prop} {d : DD}  (h : (∀ d1 : DD, d1 = (up d 0 12 0) → (∀ d2 : DD, d2 = (up d1 0 14 0) → (∀ d3 : DD, d3 = (up d2 0 5 0) → (∀ d4 : DD, d4 = (up d3 0 6 0) → (∀ d5 : DD, d5 = (up d4 0 7 0) → (∀ d6 : DD, d6 = (up d5 0 8 (-1)) → Ev SM MX5_text 34 [.ref 0, .int 0, .int 0] [] d6 (rI q)))))))) : Cn SM MX5_text [.ref 0] d (rI q) := by
  refine cn_of (ls := [.ref 0, uJ, uJ]) (by decide) rfl rfl (Nat.le_of_ble_eq_true rfl) ?_
  refine ev_aload_n dX5_text_0 rfl ?_
  refine ev_iconst dX5_text_1 ci_0 ?_
  refine ev_put 12 dX5_text_2 sM_0 ck5 (Nat.le_of_ble_eq_true rfl) rfl w778 rfl rfl rfl ?_
  refine ev_topd (fun d1 ed1 => ?_)
  have h := h d1 ed1
  refine ev_aload_n dX5_text_5 rfl ?_
  refine ev_iconst dX5_text_6 ci_0 ?_
  refine ev_put 14 dX5_text_7 sM_0 ck5 (Nat.le_of_ble_eq_true rfl) rfl w780 rfl rfl rfl ?_
  refine ev_topd (fun d2 ed2 => ?_)
  have h := h d2 ed2
  refine ev_aload_n dX5_text_10 rfl ?_
  refine ev_iconst dX5_text_11 ci_0 ?_
  refine ev_put 5 dX5_text_12 sM_0 ck5 (Nat.le_of_ble_eq_true rfl) rfl w771 rfl rfl rfl ?_
  refine ev_topd (fun d3 ed3 => ?_)
  have h := h d3 ed3
  refine ev_aload_n dX5_text_15 rfl ?_
  refine ev_iconst dX5_text_16 ci_0 ?_
  refine ev_put 6 dX5_text_17 sM_0 ck5 (Nat.le_of_ble_eq_true rfl) rfl w772 rfl rfl rfl ?_
  refine ev_topd (fun d4 ed4 => ?_)
  have h := h d4 ed4
  refine ev_aload_n dX5_text_20 rfl ?_
  refine ev_iconst dX5_text_21 ci_0 ?_
  refine ev_put 7 dX5_text_22 sM_0 ck5 (Nat.le_of_ble_eq_true rfl) rfl w773 rfl rfl rfl ?_
  refine ev_topd (fun d5 ed5 => ?_)
  have h := h d5 ed5
  refine ev_aload_n dX5_text_25 rfl ?_
  refine ev_iconst dX5_text_26 ci_m1 ?_
  refine ev_put 8 dX5_text_27 sM_0 ck5 (Nat.le_of_ble_eq_true rfl) rfl w774 rfl rfl rfl ?_
  refine ev_topd (fun d6 ed6 => ?_)
  have h := h d6 ed6
  refine ev_iconst dX5_text_30 ci_0 ?_
  refine ev_istore_n (M := MX5_text) (ls2 := [.ref 0, .int 0, uJ]) 1 dX5_text_31 rfl (Nat.le_of_ble_eq_true rfl) rfl ?_
  refine ev_iconst dX5_text_32 ci_0 ?_
  refine ev_istore_n (M := MX5_text) (ls2 := [.ref 0, .int 0, .int 0]) 2 dX5_text_33 rfl (Nat.le_of_ble_eq_true rfl) rfl ?_
  exact h
set_option maxRecDepth 4000 in
theorem bk_X5_text_34 {q : Int32 → DD → Prop} {d : DD} {l1 : Int32} {l2 : Int32} (h : ((70 ≤ l2 → (Cn SM MX5_step [.ref 0] d (rV fun d2 => Ev SM MX5_text 57 [.ref 0, .int l1, .int l2] [] d2 (rI q)))) ∧ (¬ 70 ≤ l2 → (vp_in l2 70 ∧ (∀ d3 : DD, d3 = (up d 2 l2.toNatClampNeg 0) → Ev SM MX5_text 34 [.ref 0, .int l1, .int (l2 + 1)] [] d3 (rI q)))))) : Ev SM MX5_text 34 [.ref 0, .int l1, .int l2] [] d (rI q) := by
  refine ev_iload_n dX5_text_34 rfl ?_
  refine ev_bipush dX5_text_35 cb_70 ?_
  refine ev_icmp_ge (M := MX5_text) (tgt := 53) dX5_text_37 rfl (fun c1 => ?_) (fun c1 => ?_)
  · have h := h.1 c1
    refine ev_aload_n dX5_text_53 rfl ?_
    refine ev_callVv (M := MX5_text) (M2 := MX5_step) (As := []) (rest := []) dX5_text_54 sM_0 ck5 rfl w888 moX5_step rfl ⟨Nat.le_of_ble_eq_true rfl, Nat.le_of_ble_eq_true rfl⟩ rfl rfl (Nat.le_of_ble_eq_true rfl) h (fun d2 h => ?_)
    have h := rV_dn h
    exact h
  · have h := h.2 c1
    refine ev_aload_n dX5_text_40 rfl ?_
    refine ev_getr (M := MX5_text) (r := 2) 4 dX5_text_41 sM_0 ck5 (Nat.le_of_ble_eq_true rfl) rfl w770 ?_
    refine ev_iload_n dX5_text_44 rfl ?_
    refine ev_iconst dX5_text_45 ci_0 ?_
    obtain ⟨g, h⟩ := h
    refine ev_iast dX5_text_46 sM_2 g ?_
    refine ev_topd (fun d3 ed3 => ?_)
    have h := h d3 ed3
    refine ev_iinc (M := MX5_text) (ls2 := [.ref 0, .int l1, .int (l2 + 1)]) dX5_text_47 rfl (iin ci_1) (Nat.le_of_ble_eq_true rfl) rfl ?_
    refine ev_goto (M := MX5_text) (tgt := 34) dX5_text_50 rfl ?_
    exact h
set_option maxRecDepth 4000 in
theorem bk_X5_text_57 {q : Int32 → DD → Prop} {d : DD} {l1 : Int32} {l2 : Int32} (h : ((¬ (d 0 12) = 0 → Ev SM MX5_text 81 [.ref 0, .int l1, .int l2] [] d (rI q)) ∧ ((d 0 12) = 0 → (((d 0 16) = 0 → Ev SM MX5_text 81 [.ref 0, .int l1, .int l2] [] d (rI q)) ∧ (¬ (d 0 16) = 0 → (Cn SM MX5_readLine [.ref 0] d (rV fun d3 => Ev SM MX5_text 57 [.ref 0, .int (l1 + 1), .int l2] [] d3 (rI q)))))))) : Ev SM MX5_text 57 [.ref 0, .int l1, .int l2] [] d (rI q) := by
  refine ev_aload_n dX5_text_57 rfl ?_
  refine ev_get 12 dX5_text_58 sM_0 ck5 (Nat.le_of_ble_eq_true rfl) rfl w778 ?_
  refine ev_if_ne (M := MX5_text) (tgt := 81) dX5_text_61 rfl (fun c1 => ?_) (fun c1 => ?_)
  · have h := h.1 c1
    exact h
  · have h := h.2 c1
    refine ev_aload_n dX5_text_64 rfl ?_
    refine ev_get 16 dX5_text_65 sM_0 ck5 (Nat.le_of_ble_eq_true rfl) rfl w782 ?_
    refine ev_if_eq (M := MX5_text) (tgt := 81) dX5_text_68 rfl (fun c2 => ?_) (fun c2 => ?_)
    · have h := h.1 c2
      exact h
    · have h := h.2 c2
      refine ev_aload_n dX5_text_71 rfl ?_
      refine ev_callVv (M := MX5_text) (M2 := MX5_readLine) (As := []) (rest := []) dX5_text_72 sM_0 ck5 rfl w904 moX5_readLine rfl ⟨Nat.le_of_ble_eq_true rfl, Nat.le_of_ble_eq_true rfl⟩ rfl rfl (Nat.le_of_ble_eq_true rfl) h (fun d3 h => ?_)
      have h := rV_dn h
      refine ev_iinc (M := MX5_text) (ls2 := [.ref 0, .int (l1 + 1), .int l2]) dX5_text_75 rfl (iin ci_1) (Nat.le_of_ble_eq_true rfl) rfl ?_
      refine ev_goto (M := MX5_text) (tgt := 57) dX5_text_78 rfl ?_
      exact h
set_option maxRecDepth 4000 in
theorem bk_X5_text_81 {q : Int32 → DD → Prop} {d : DD} {l1 : Int32} {l2 : Int32} (h : ((¬ (d 0 12) = 0 → Ev SM MX5_text 105 [.ref 0, .int l1, .int l2] [] d (rI q)) ∧ ((d 0 12) = 0 → (((d 0 8) < (d 0 5) → Ev SM MX5_text 105 [.ref 0, .int l1, .int l2] [] d (rI q)) ∧ (¬ (d 0 8) < (d 0 5) → (Cn SM MX5_fails [.ref 0, .int 6] d (rV fun d3 => Ev SM MX5_text 105 [.ref 0, .int l1, .int l2] [] d3 (rI q)))))))) : Ev SM MX5_text 81 [.ref 0, .int l1, .int l2] [] d (rI q) := by
  refine ev_aload_n dX5_text_81 rfl ?_
  refine ev_get 12 dX5_text_82 sM_0 ck5 (Nat.le_of_ble_eq_true rfl) rfl w778 ?_
  refine ev_if_ne (M := MX5_text) (tgt := 105) dX5_text_85 rfl (fun c1 => ?_) (fun c1 => ?_)
  · have h := h.1 c1
    exact h
  · have h := h.2 c1
    refine ev_aload_n dX5_text_88 rfl ?_
    refine ev_get 8 dX5_text_89 sM_0 ck5 (Nat.le_of_ble_eq_true rfl) rfl w774 ?_
    refine ev_aload_n dX5_text_92 rfl ?_
    refine ev_get 5 dX5_text_93 sM_0 ck5 (Nat.le_of_ble_eq_true rfl) rfl w771 ?_
    refine ev_icmp_lt (M := MX5_text) (tgt := 105) dX5_text_96 rfl (fun c2 => ?_) (fun c2 => ?_)
    · have h := h.1 c2
      exact h
    · have h := h.2 c2
      refine ev_aload_n dX5_text_99 rfl ?_
      refine ev_bipush dX5_text_100 cb_6 ?_
      refine ev_callVv (M := MX5_text) (M2 := MX5_fails) (As := [.int 6]) (rest := []) dX5_text_102 sM_0 ck5 rfl w900 moX5_fails rfl ⟨Nat.le_of_ble_eq_true rfl, Nat.le_of_ble_eq_true rfl⟩ rfl rfl (Nat.le_of_ble_eq_true rfl) h (fun d3 h => ?_)
      have h := rV_dn h
      exact h
set_option maxRecDepth 4000 in
theorem bk_X5_text_105 {q : Int32 → DD → Prop} {d : DD} {l1 : Int32} {l2 : Int32} (h : (∀ d1 : DD, d1 = (up d 0 10 0) → (∀ d2 : DD, d2 = (up d1 0 11 (d1 0 12)) → (((d2 0 12) ≤ 0 → Ev SM MX5_text 135 [.ref 0, .int l1, .int 0] [] d2 (rI q)) ∧ (¬ (d2 0 12) ≤ 0 → q ((-10) - (d2 0 13)) d2))))) : Ev SM MX5_text 105 [.ref 0, .int l1, .int l2] [] d (rI q) := by
  refine ev_aload_n dX5_text_105 rfl ?_
  refine ev_iconst dX5_text_106 ci_0 ?_
  refine ev_put 10 dX5_text_107 sM_0 ck5 (Nat.le_of_ble_eq_true rfl) rfl w776 rfl rfl rfl ?_
  refine ev_topd (fun d1 ed1 => ?_)
  have h := h d1 ed1
  refine ev_aload_n dX5_text_110 rfl ?_
  refine ev_aload_n dX5_text_111 rfl ?_
  refine ev_get 12 dX5_text_112 sM_0 ck5 (Nat.le_of_ble_eq_true rfl) rfl w778 ?_
  refine ev_put 11 dX5_text_115 sM_0 ck5 (Nat.le_of_ble_eq_true rfl) rfl w777 rfl rfl rfl ?_
  refine ev_topd (fun d2 ed2 => ?_)
  have h := h d2 ed2
  refine ev_aload_n dX5_text_118 rfl ?_
  refine ev_get 12 dX5_text_119 sM_0 ck5 (Nat.le_of_ble_eq_true rfl) rfl w778 ?_
  refine ev_if_le (M := MX5_text) (tgt := 133) dX5_text_122 rfl (fun c3 => ?_) (fun c3 => ?_)
  · have h := h.1 c3
    refine ev_iconst dX5_text_133 ci_0 ?_
    refine ev_istore_n (M := MX5_text) (ls2 := [.ref 0, .int l1, .int 0]) 2 dX5_text_134 rfl (Nat.le_of_ble_eq_true rfl) rfl ?_
    exact h
  · have h := h.2 c3
    refine ev_bipush dX5_text_125 cb_m10 ?_
    refine ev_aload_n dX5_text_127 rfl ?_
    refine ev_get 13 dX5_text_128 sM_0 ck5 (Nat.le_of_ble_eq_true rfl) rfl w779 ?_
    refine ev_isub dX5_text_131 ?_
    exact ev_ireti (M := MX5_text) (ty := .int) dX5_text_132 rfl rfl rfl h
set_option maxRecDepth 4000 in
theorem bk_X5_text_135 {q : Int32 → DD → Prop} {d : DD} {l1 : Int32} {l2 : Int32} (h : ((70 ≤ l2 → (∀ d2 : DD, d2 = (up d 0 1 (d 0 5)) → (∀ d3 : DD, d3 = (up d2 0 2 (d2 0 6)) → (∀ d4 : DD, d4 = (up d3 0 3 (d3 0 7)) → (∀ d5 : DD, d5 = (up d4 0 28 0) → (∀ d6 : DD, d6 = (up d5 13 0 0) → (∀ d7 : DD, d7 = (up d6 13 1 0) → q l1 d7))))))) ∧ (¬ 70 ≤ l2 → (vp_in l2 70 ∧ (vp_in l2 350 ∧ (∀ d8 : DD, d8 = (up d 1 l2.toNatClampNeg (d 2 l2.toNatClampNeg)) → Ev SM MX5_text 135 [.ref 0, .int l1, .int (l2 + 1)] [] d8 (rI q))))))) : Ev SM MX5_text 135 [.ref 0, .int l1, .int l2] [] d (rI q) := by
  refine ev_iload_n dX5_text_135 rfl ?_
  refine ev_bipush dX5_text_136 cb_70 ?_
  refine ev_icmp_ge (M := MX5_text) (tgt := 159) dX5_text_138 rfl (fun c1 => ?_) (fun c1 => ?_)
  · have h := h.1 c1
    refine ev_aload_n dX5_text_159 rfl ?_
    refine ev_aload_n dX5_text_160 rfl ?_
    refine ev_get 5 dX5_text_161 sM_0 ck5 (Nat.le_of_ble_eq_true rfl) rfl w771 ?_
    refine ev_put 1 dX5_text_164 sM_0 ck5 (Nat.le_of_ble_eq_true rfl) rfl w767 rfl rfl rfl ?_
    refine ev_topd (fun d2 ed2 => ?_)
    have h := h d2 ed2
    refine ev_aload_n dX5_text_167 rfl ?_
    refine ev_aload_n dX5_text_168 rfl ?_
    refine ev_get 6 dX5_text_169 sM_0 ck5 (Nat.le_of_ble_eq_true rfl) rfl w772 ?_
    refine ev_put 2 dX5_text_172 sM_0 ck5 (Nat.le_of_ble_eq_true rfl) rfl w768 rfl rfl rfl ?_
    refine ev_topd (fun d3 ed3 => ?_)
    have h := h d3 ed3
    refine ev_aload_n dX5_text_175 rfl ?_
    refine ev_aload_n dX5_text_176 rfl ?_
    refine ev_get 7 dX5_text_177 sM_0 ck5 (Nat.le_of_ble_eq_true rfl) rfl w773 ?_
    refine ev_put 3 dX5_text_180 sM_0 ck5 (Nat.le_of_ble_eq_true rfl) rfl w769 rfl rfl rfl ?_
    refine ev_topd (fun d4 ed4 => ?_)
    have h := h d4 ed4
    refine ev_aload_n dX5_text_183 rfl ?_
    refine ev_iconst dX5_text_184 ci_0 ?_
    refine ev_put 28 dX5_text_185 sM_0 ck5 (Nat.le_of_ble_eq_true rfl) rfl w794 rfl rfl rfl ?_
    refine ev_topd (fun d5 ed5 => ?_)
    have h := h d5 ed5
    refine ev_aload_n dX5_text_188 rfl ?_
    refine ev_getr (M := MX5_text) (r := 13) 30 dX5_text_189 sM_0 ck5 (Nat.le_of_ble_eq_true rfl) rfl w796 ?_
    refine ev_iconst dX5_text_192 ci_0 ?_
    refine ev_iconst dX5_text_193 ci_0 ?_
    refine ev_zast (M := MX5_text) (y := 0) dX5_text_194 sM_13 (inb_of (by decide)) rfl ?_
    rw [show ((0 : Int32)).toNatClampNeg = 0 from rfl]
    refine ev_topd (fun d6 ed6 => ?_)
    have h := h d6 ed6
    refine ev_aload_n dX5_text_195 rfl ?_
    refine ev_getr (M := MX5_text) (r := 13) 30 dX5_text_196 sM_0 ck5 (Nat.le_of_ble_eq_true rfl) rfl w796 ?_
    refine ev_iconst dX5_text_199 ci_1 ?_
    refine ev_iconst dX5_text_200 ci_0 ?_
    refine ev_zast (M := MX5_text) (y := 0) dX5_text_201 sM_13 (inb_of (by decide)) rfl ?_
    rw [show ((1 : Int32)).toNatClampNeg = 1 from rfl]
    refine ev_topd (fun d7 ed7 => ?_)
    have h := h d7 ed7
    refine ev_iload_n dX5_text_202 rfl ?_
    exact ev_ireti (M := MX5_text) (ty := .int) dX5_text_203 rfl rfl rfl h
  · have h := h.2 c1
    refine ev_aload_n dX5_text_141 rfl ?_
    refine ev_getr (M := MX5_text) (r := 1) 0 dX5_text_142 sM_0 ck5 (Nat.le_of_ble_eq_true rfl) rfl w766 ?_
    refine ev_iload_n dX5_text_145 rfl ?_
    refine ev_aload_n dX5_text_146 rfl ?_
    refine ev_getr (M := MX5_text) (r := 2) 4 dX5_text_147 sM_0 ck5 (Nat.le_of_ble_eq_true rfl) rfl w770 ?_
    refine ev_iload_n dX5_text_150 rfl ?_
    obtain ⟨g, h⟩ := h
    refine ev_iald dX5_text_151 sM_2 g ?_
    obtain ⟨g, h⟩ := h
    refine ev_iast dX5_text_152 sM_1 g ?_
    refine ev_topd (fun d8 ed8 => ?_)
    have h := h d8 ed8
    refine ev_iinc (M := MX5_text) (ls2 := [.ref 0, .int l1, .int (l2 + 1)]) dX5_text_153 rfl (iin ci_1) (Nat.le_of_ble_eq_true rfl) rfl ?_
    refine ev_goto (M := MX5_text) (tgt := 135) dX5_text_156 rfl ?_
    exact h
-- X5_fault
theorem cn_X5_fault {q : Int32 → DD → Prop} {d : DD}  (h : q (d 0 11) d) : Cn SM MX5_fault [.ref 0] d (rI q) := by
  refine cn_of (ls := [.ref 0]) (by decide) rfl rfl (Nat.le_of_ble_eq_true rfl) ?_
  refine ev_aload_n dX5_fault_0 rfl ?_
  refine ev_get 11 dX5_fault_1 sM_0 ck5 (Nat.le_of_ble_eq_true rfl) rfl w777 ?_
  exact ev_ireti (M := MX5_fault) (ty := .int) dX5_fault_4 rfl rfl rfl h
-- X5_isTune
theorem cn_X5_isTune {q : Int32 → DD → Prop} {d : DD} {p0 : Int32} (h : (Cn SM MX5_in [.long p0.toInt64, .long 0, .long ((d 0 1) - 1).toInt64] d (rI fun r2 d1 => (narrow .boolean (.int r2) = .int r2 ∧ q r2 d1)))) : Cn SM MX5_isTune [.ref 0, .int p0] d (rI q) := by
  refine cn_of (ls := [.ref 0, .int p0]) (by decide) rfl rfl (Nat.le_of_ble_eq_true rfl) ?_
  refine ev_iload_n dX5_isTune_0 rfl ?_
  refine ev_i2l dX5_isTune_1 ?_
  refine ev_lconst (M := MX5_isTune) (v := 0) dX5_isTune_2 rfl ?_
  refine ev_aload_n dX5_isTune_3 rfl ?_
  refine ev_get 1 dX5_isTune_4 sM_0 ck5 (Nat.le_of_ble_eq_true rfl) rfl w767 ?_
  refine ev_iconst dX5_isTune_7 ci_1 ?_
  refine ev_isub dX5_isTune_8 ?_
  refine ev_i2l dX5_isTune_9 ?_
  refine ev_callSi (M := MX5_isTune) (M2 := MX5_in) (As := [.long p0.toInt64, .long 0, .long ((d 0 1) - 1).toInt64]) (rest := []) dX5_isTune_10 w877 moX5_in rfl ⟨Nat.le_of_ble_eq_true rfl, Nat.le_of_ble_eq_true rfl⟩ rfl rfl (Nat.le_of_ble_eq_true rfl) h (fun r2 d1 h => ?_)
  have h := rI_dn h
  exact ev_ireti (M := MX5_isTune) (ty := .boolean) dX5_isTune_13 rfl rfl h.1 h.2
-- X5_isPlayer
theorem cn_X5_isPlayer {q : Int32 → DD → Prop} {d : DD} {p0 : Int32} (h : (Cn SM MX5_in [.long p0.toInt64, .long 0, .long ((d 0 2) - 1).toInt64] d (rI fun r2 d1 => (narrow .boolean (.int r2) = .int r2 ∧ q r2 d1)))) : Cn SM MX5_isPlayer [.ref 0, .int p0] d (rI q) := by
  refine cn_of (ls := [.ref 0, .int p0]) (by decide) rfl rfl (Nat.le_of_ble_eq_true rfl) ?_
  refine ev_iload_n dX5_isPlayer_0 rfl ?_
  refine ev_i2l dX5_isPlayer_1 ?_
  refine ev_lconst (M := MX5_isPlayer) (v := 0) dX5_isPlayer_2 rfl ?_
  refine ev_aload_n dX5_isPlayer_3 rfl ?_
  refine ev_get 2 dX5_isPlayer_4 sM_0 ck5 (Nat.le_of_ble_eq_true rfl) rfl w768 ?_
  refine ev_iconst dX5_isPlayer_7 ci_1 ?_
  refine ev_isub dX5_isPlayer_8 ?_
  refine ev_i2l dX5_isPlayer_9 ?_
  refine ev_callSi (M := MX5_isPlayer) (M2 := MX5_in) (As := [.long p0.toInt64, .long 0, .long ((d 0 2) - 1).toInt64]) (rest := []) dX5_isPlayer_10 w877 moX5_in rfl ⟨Nat.le_of_ble_eq_true rfl, Nat.le_of_ble_eq_true rfl⟩ rfl rfl (Nat.le_of_ble_eq_true rfl) h (fun r2 d1 h => ?_)
  have h := rI_dn h
  exact ev_ireti (M := MX5_isPlayer) (ty := .boolean) dX5_isPlayer_13 rfl rfl h.1 h.2
-- X5_isBound
theorem cn_X5_isBound {q : Int32 → DD → Prop} {d : DD} {p0 : Int32} (h : (Cn SM MX5_in [.long p0.toInt64, .long 0, .long ((d 0 3) - 1).toInt64] d (rI fun r2 d1 => (narrow .boolean (.int r2) = .int r2 ∧ q r2 d1)))) : Cn SM MX5_isBound [.ref 0, .int p0] d (rI q) := by
  refine cn_of (ls := [.ref 0, .int p0]) (by decide) rfl rfl (Nat.le_of_ble_eq_true rfl) ?_
  refine ev_iload_n dX5_isBound_0 rfl ?_
  refine ev_i2l dX5_isBound_1 ?_
  refine ev_lconst (M := MX5_isBound) (v := 0) dX5_isBound_2 rfl ?_
  refine ev_aload_n dX5_isBound_3 rfl ?_
  refine ev_get 3 dX5_isBound_4 sM_0 ck5 (Nat.le_of_ble_eq_true rfl) rfl w769 ?_
  refine ev_iconst dX5_isBound_7 ci_1 ?_
  refine ev_isub dX5_isBound_8 ?_
  refine ev_i2l dX5_isBound_9 ?_
  refine ev_callSi (M := MX5_isBound) (M2 := MX5_in) (As := [.long p0.toInt64, .long 0, .long ((d 0 3) - 1).toInt64]) (rest := []) dX5_isBound_10 w877 moX5_in rfl ⟨Nat.le_of_ble_eq_true rfl, Nat.le_of_ble_eq_true rfl⟩ rfl rfl (Nat.le_of_ble_eq_true rfl) h (fun r2 d1 h => ?_)
  have h := rI_dn h
  exact ev_ireti (M := MX5_isBound) (ty := .boolean) dX5_isBound_13 rfl rfl h.1 h.2
-- X5_rule
theorem cn_X5_rule {q : Int32 → DD → Prop} {d : DD} {p0 : Int32} (h : ((¬ p0 = 0 → ((¬ p0 = 1 → ((¬ p0 = 2 → q (-1) d) ∧ (p0 = 2 → q (d 0 3) d))) ∧ (p0 = 1 → q (d 0 2) d))) ∧ (p0 = 0 → q (d 0 1) d))) : Cn SM MX5_rule [.ref 0, .int p0] d (rI q) := by
  refine cn_of (ls := [.ref 0, .int p0]) (by decide) rfl rfl (Nat.le_of_ble_eq_true rfl) ?_
  refine ev_iload_n dX5_rule_0 rfl ?_
  refine ev_if_ne (M := MX5_rule) (tgt := 11) dX5_rule_1 rfl (fun c1 => ?_) (fun c1 => ?_)
  · have h := h.1 c1
    refine ev_iload_n dX5_rule_11 rfl ?_
    refine ev_iconst dX5_rule_12 ci_1 ?_
    refine ev_icmp_ne (M := MX5_rule) (tgt := 23) dX5_rule_13 rfl (fun c2 => ?_) (fun c2 => ?_)
    · have h := h.1 c2
      refine ev_iload_n dX5_rule_23 rfl ?_
      refine ev_iconst dX5_rule_24 ci_2 ?_
      refine ev_icmp_ne (M := MX5_rule) (tgt := 35) dX5_rule_25 rfl (fun c3 => ?_) (fun c3 => ?_)
      · have h := h.1 c3
        refine ev_iconst dX5_rule_35 ci_m1 ?_
        exact ev_ireti (M := MX5_rule) (ty := .int) dX5_rule_36 rfl rfl rfl h
      · have h := h.2 c3
        refine ev_aload_n dX5_rule_28 rfl ?_
        refine ev_get 3 dX5_rule_29 sM_0 ck5 (Nat.le_of_ble_eq_true rfl) rfl w769 ?_
        refine ev_goto (M := MX5_rule) (tgt := 36) dX5_rule_32 rfl ?_
        exact ev_ireti (M := MX5_rule) (ty := .int) dX5_rule_36 rfl rfl rfl h
    · have h := h.2 c2
      refine ev_aload_n dX5_rule_16 rfl ?_
      refine ev_get 2 dX5_rule_17 sM_0 ck5 (Nat.le_of_ble_eq_true rfl) rfl w768 ?_
      refine ev_goto (M := MX5_rule) (tgt := 36) dX5_rule_20 rfl ?_
      exact ev_ireti (M := MX5_rule) (ty := .int) dX5_rule_36 rfl rfl rfl h
  · have h := h.2 c1
    refine ev_aload_n dX5_rule_4 rfl ?_
    refine ev_get 1 dX5_rule_5 sM_0 ck5 (Nat.le_of_ble_eq_true rfl) rfl w767 ?_
    refine ev_goto (M := MX5_rule) (tgt := 36) dX5_rule_8 rfl ?_
    exact ev_ireti (M := MX5_rule) (ty := .int) dX5_rule_36 rfl rfl rfl h
-- X5_rowOf
theorem cn_X5_rowOf {q : Int32 → DD → Prop} {d : DD} {p0 : Int32} {p1 : Int32} (h : ((¬ p0 = 1 → ((¬ p0 = 2 → q p1 d) ∧ (p0 = 2 → q (2 * p1) d))) ∧ (p0 = 1 → q (p1 + ((p1 + 1) / 2)) d))) : Cn SM MX5_rowOf [.int p0, .int p1] d (rI q) := by
  refine cn_of (ls := [.int p0, .int p1]) (by decide) rfl rfl (Nat.le_of_ble_eq_true rfl) ?_
  refine ev_iload_n dX5_rowOf_0 rfl ?_
  refine ev_iconst dX5_rowOf_1 ci_1 ?_
  refine ev_icmp_ne (M := MX5_rowOf) (tgt := 15) dX5_rowOf_2 rfl (fun c1 => ?_) (fun c1 => ?_)
  · have h := h.1 c1
    refine ev_iload_n dX5_rowOf_15 rfl ?_
    refine ev_iconst dX5_rowOf_16 ci_2 ?_
    refine ev_icmp_ne (M := MX5_rowOf) (tgt := 26) dX5_rowOf_17 rfl (fun c2 => ?_) (fun c2 => ?_)
    · have h := h.1 c2
      refine ev_iload_n dX5_rowOf_26 rfl ?_
      exact ev_ireti (M := MX5_rowOf) (ty := .int) dX5_rowOf_27 rfl rfl rfl h
    · have h := h.2 c2
      refine ev_iconst dX5_rowOf_20 ci_2 ?_
      refine ev_iload_n dX5_rowOf_21 rfl ?_
      refine ev_imul dX5_rowOf_22 ?_
      refine ev_goto (M := MX5_rowOf) (tgt := 27) dX5_rowOf_23 rfl ?_
      exact ev_ireti (M := MX5_rowOf) (ty := .int) dX5_rowOf_27 rfl rfl rfl h
  · have h := h.2 c1
    refine ev_iload_n dX5_rowOf_5 rfl ?_
    refine ev_iload_n dX5_rowOf_6 rfl ?_
    refine ev_iconst dX5_rowOf_7 ci_1 ?_
    refine ev_iadd dX5_rowOf_8 ?_
    refine ev_iconst dX5_rowOf_9 ci_2 ?_
    refine ev_idiv dX5_rowOf_10 (by decide) ?_
    refine ev_iadd dX5_rowOf_11 ?_
    refine ev_goto (M := MX5_rowOf) (tgt := 27) dX5_rowOf_12 rfl ?_
    exact ev_ireti (M := MX5_rowOf) (ty := .int) dX5_rowOf_27 rfl rfl rfl h
-- X5_lengthBy
theorem cn_X5_lengthBy {q : Int32 → DD → Prop} {d : DD} {p0 : Int32} {p1 : Int32} (h : (vp_in (8 + p0) 350 ∧ (vp_in (4 + p0) 350 ∧ (Cn SM MX5_rowOf [.int p1, .int (d 1 (4 + p0).toNatClampNeg)] d (rI fun r2 d1 => q ((d 1 (8 + p0).toNatClampNeg) * r2) d1))))) : Cn SM MX5_lengthBy [.ref 0, .int p0, .int p1] d (rI q) := by
  refine cn_of (ls := [.ref 0, .int p0, .int p1]) (by decide) rfl rfl (Nat.le_of_ble_eq_true rfl) ?_
  refine ev_aload_n dX5_lengthBy_0 rfl ?_
  refine ev_getr (M := MX5_lengthBy) (r := 1) 0 dX5_lengthBy_1 sM_0 ck5 (Nat.le_of_ble_eq_true rfl) rfl w766 ?_
  refine ev_bipush dX5_lengthBy_4 cb_8 ?_
  refine ev_iload_n dX5_lengthBy_6 rfl ?_
  refine ev_iadd dX5_lengthBy_7 ?_
  obtain ⟨g, h⟩ := h
  refine ev_iald dX5_lengthBy_8 sM_1 g ?_
  refine ev_iload_n dX5_lengthBy_9 rfl ?_
  refine ev_aload_n dX5_lengthBy_10 rfl ?_
  refine ev_getr (M := MX5_lengthBy) (r := 1) 0 dX5_lengthBy_11 sM_0 ck5 (Nat.le_of_ble_eq_true rfl) rfl w766 ?_
  refine ev_iconst dX5_lengthBy_14 ci_4 ?_
  refine ev_iload_n dX5_lengthBy_15 rfl ?_
  refine ev_iadd dX5_lengthBy_16 ?_
  obtain ⟨g, h⟩ := h
  refine ev_iald dX5_lengthBy_17 sM_1 g ?_
  refine ev_callSi (M := MX5_lengthBy) (M2 := MX5_rowOf) (As := [.int p1, .int (d 1 (4 + p0).toNatClampNeg)]) (rest := [.int (d 1 (8 + p0).toNatClampNeg)]) dX5_lengthBy_18 w953 moX5_rowOf rfl ⟨Nat.le_of_ble_eq_true rfl, Nat.le_of_ble_eq_true rfl⟩ rfl rfl (Nat.le_of_ble_eq_true rfl) h (fun r2 d1 h => ?_)
  have h := rI_dn h
  refine ev_imul dX5_lengthBy_21 ?_
  exact ev_ireti (M := MX5_lengthBy) (ty := .int) dX5_lengthBy_22 rfl rfl rfl h
-- X5_lengthOf
theorem cn_X5_lengthOf {q : Int32 → DD → Prop} {d : DD} {p0 : Int32} (h : (vp_in p0 350 ∧ (Cn SM MX5_lengthBy [.ref 0, .int p0, .int (d 1 p0.toNatClampNeg)] d (rI fun r2 d1 => q r2 d1)))) : Cn SM MX5_lengthOf [.ref 0, .int p0] d (rI q) := by
  refine cn_of (ls := [.ref 0, .int p0]) (by decide) rfl rfl (Nat.le_of_ble_eq_true rfl) ?_
  refine ev_aload_n dX5_lengthOf_0 rfl ?_
  refine ev_iload_n dX5_lengthOf_1 rfl ?_
  refine ev_aload_n dX5_lengthOf_2 rfl ?_
  refine ev_getr (M := MX5_lengthOf) (r := 1) 0 dX5_lengthOf_3 sM_0 ck5 (Nat.le_of_ble_eq_true rfl) rfl w766 ?_
  refine ev_iload_n dX5_lengthOf_6 rfl ?_
  obtain ⟨g, h⟩ := h
  refine ev_iald dX5_lengthOf_7 sM_1 g ?_
  refine ev_callVi (M := MX5_lengthOf) (M2 := MX5_lengthBy) (As := [.int p0, .int (d 1 p0.toNatClampNeg)]) (rest := []) dX5_lengthOf_8 sM_0 ck5 rfl w949 moX5_lengthBy rfl ⟨Nat.le_of_ble_eq_true rfl, Nat.le_of_ble_eq_true rfl⟩ rfl rfl (Nat.le_of_ble_eq_true rfl) h (fun r2 d1 h => ?_)
  have h := rI_dn h
  exact ev_ireti (M := MX5_lengthOf) (ty := .int) dX5_lengthOf_11 rfl rfl rfl h
-- X5_noteBy
set_option maxRecDepth 4000 in
theorem cn_X5_noteBy {q : Int32 → DD → Prop} {d : DD} {p0 : Int32} {p1 : Int32} {p2 : Int32} (h : (vp_in (12 + p0) 350 ∧ (∀ x1 : Int32, x1 = (p2 - (d 1 (12 + p0).toNatClampNeg)) → (Cn SM MX5_lengthBy [.ref 0, .int p0, .int p1] d (rI fun r3 d2 => (Cn SM MX5_in [.long x1.toInt64, .long 0, .long (r3 - 1).toInt64] d2 (rI fun r5 d4 => ((¬ r5 = 0 → (vp_in (4 + p0) 350 ∧ (∀ x7 : Int32, x7 = (d4 1 (4 + p0).toNatClampNeg) → (Cn SM MX5_rowOf [.int p1, .int x7] d4 (rI fun r9 d8 => ((¬ r9 = 0) ∧ ((x7 ≤ (jrem x1 r9) → ((¬ p1 = 1 → Ev SM MX5_noteBy 101 [.ref 0, .int p0, .int p1, .int p2, .int x1, .int x7, .int (jrem x1 r9), uJ] [.int (((2 * x7) - 1) - (jrem x1 r9)), .int (16 + (8 * p0)), .ref 1] d8 (rI q)) ∧ (p1 = 1 → Ev SM MX5_noteBy 101 [.ref 0, .int p0, .int p1, .int p2, .int x1, .int x7, .int (jrem x1 r9), uJ] [.int ((jrem x1 r9) - x7), .int (16 + (8 * p0)), .ref 1] d8 (rI q)))) ∧ (¬ x7 ≤ (jrem x1 r9) → Ev SM MX5_noteBy 101 [.ref 0, .int p0, .int p1, .int p2, .int x1, .int x7, .int (jrem x1 r9), uJ] [.int (jrem x1 r9), .int (16 + (8 * p0)), .ref 1] d8 (rI q))))))))) ∧ (r5 = 0 → q (-4) d4))))))))) : Cn SM MX5_noteBy [.ref 0, .int p0, .int p1, .int p2] d (rI q) := by
  refine cn_of (ls := [.ref 0, .int p0, .int p1, .int p2, uJ, uJ, uJ, uJ]) (by decide) rfl rfl (Nat.le_of_ble_eq_true rfl) ?_
  refine ev_iload_n dX5_noteBy_0 rfl ?_
  refine ev_aload_n dX5_noteBy_1 rfl ?_
  refine ev_getr (M := MX5_noteBy) (r := 1) 0 dX5_noteBy_2 sM_0 ck5 (Nat.le_of_ble_eq_true rfl) rfl w766 ?_
  refine ev_bipush dX5_noteBy_5 cb_12 ?_
  refine ev_iload_n dX5_noteBy_7 rfl ?_
  refine ev_iadd dX5_noteBy_8 ?_
  obtain ⟨g, h⟩ := h
  refine ev_iald dX5_noteBy_9 sM_1 g ?_
  refine ev_isub dX5_noteBy_10 ?_
  refine ev_topi (fun x1 ex1 => ?_)
  have h := h x1 ex1
  refine ev_istore (M := MX5_noteBy) (ls2 := [.ref 0, .int p0, .int p1, .int p2, .int x1, uJ, uJ, uJ]) dX5_noteBy_11 (Nat.le_of_ble_eq_true rfl) rfl ?_
  refine ev_iload dX5_noteBy_13 rfl ?_
  refine ev_i2l dX5_noteBy_15 ?_
  refine ev_lconst (M := MX5_noteBy) (v := 0) dX5_noteBy_16 rfl ?_
  refine ev_aload_n dX5_noteBy_17 rfl ?_
  refine ev_iload_n dX5_noteBy_18 rfl ?_
  refine ev_iload_n dX5_noteBy_19 rfl ?_
  refine ev_callVi (M := MX5_noteBy) (M2 := MX5_lengthBy) (As := [.int p0, .int p1]) (rest := [.long 0, .long x1.toInt64]) dX5_noteBy_20 sM_0 ck5 rfl w949 moX5_lengthBy rfl ⟨Nat.le_of_ble_eq_true rfl, Nat.le_of_ble_eq_true rfl⟩ rfl rfl (Nat.le_of_ble_eq_true rfl) h (fun r3 d2 h => ?_)
  have h := rI_dn h
  refine ev_iconst dX5_noteBy_23 ci_1 ?_
  refine ev_isub dX5_noteBy_24 ?_
  refine ev_i2l dX5_noteBy_25 ?_
  refine ev_callSi (M := MX5_noteBy) (M2 := MX5_in) (As := [.long x1.toInt64, .long 0, .long (r3 - 1).toInt64]) (rest := []) dX5_noteBy_26 w877 moX5_in rfl ⟨Nat.le_of_ble_eq_true rfl, Nat.le_of_ble_eq_true rfl⟩ rfl rfl (Nat.le_of_ble_eq_true rfl) h (fun r5 d4 h => ?_)
  have h := rI_dn h
  refine ev_if_ne (M := MX5_noteBy) (tgt := 35) dX5_noteBy_29 rfl (fun c6 => ?_) (fun c6 => ?_)
  · have h := h.1 c6
    refine ev_aload_n dX5_noteBy_35 rfl ?_
    refine ev_getr (M := MX5_noteBy) (r := 1) 0 dX5_noteBy_36 sM_0 ck5 (Nat.le_of_ble_eq_true rfl) rfl w766 ?_
    refine ev_iconst dX5_noteBy_39 ci_4 ?_
    refine ev_iload_n dX5_noteBy_40 rfl ?_
    refine ev_iadd dX5_noteBy_41 ?_
    obtain ⟨g, h⟩ := h
    refine ev_iald dX5_noteBy_42 sM_1 g ?_
    refine ev_topi (fun x7 ex7 => ?_)
    have h := h x7 ex7
    refine ev_istore (M := MX5_noteBy) (ls2 := [.ref 0, .int p0, .int p1, .int p2, .int x1, .int x7, uJ, uJ]) dX5_noteBy_43 (Nat.le_of_ble_eq_true rfl) rfl ?_
    refine ev_iload dX5_noteBy_45 rfl ?_
    refine ev_iload_n dX5_noteBy_47 rfl ?_
    refine ev_iload dX5_noteBy_48 rfl ?_
    refine ev_callSi (M := MX5_noteBy) (M2 := MX5_rowOf) (As := [.int p1, .int x7]) (rest := [.int x1]) dX5_noteBy_50 w953 moX5_rowOf rfl ⟨Nat.le_of_ble_eq_true rfl, Nat.le_of_ble_eq_true rfl⟩ rfl rfl (Nat.le_of_ble_eq_true rfl) h (fun r9 d8 h => ?_)
    have h := rI_dn h
    obtain ⟨g, h⟩ := h
    refine ev_irem dX5_noteBy_53 g ?_
    refine ev_istore (M := MX5_noteBy) (ls2 := [.ref 0, .int p0, .int p1, .int p2, .int x1, .int x7, .int (jrem x1 r9), uJ]) dX5_noteBy_54 (Nat.le_of_ble_eq_true rfl) rfl ?_
    refine ev_aload_n dX5_noteBy_56 rfl ?_
    refine ev_getr (M := MX5_noteBy) (r := 1) 0 dX5_noteBy_57 sM_0 ck5 (Nat.le_of_ble_eq_true rfl) rfl w766 ?_
    refine ev_bipush dX5_noteBy_60 cb_16 ?_
    refine ev_bipush dX5_noteBy_62 cb_8 ?_
    refine ev_iload_n dX5_noteBy_64 rfl ?_
    refine ev_imul dX5_noteBy_65 ?_
    refine ev_iadd dX5_noteBy_66 ?_
    refine ev_iload dX5_noteBy_67 rfl ?_
    refine ev_iload dX5_noteBy_69 rfl ?_
    refine ev_icmp_ge (M := MX5_noteBy) (tgt := 79) dX5_noteBy_71 rfl (fun c10 => ?_) (fun c10 => ?_)
    · have h := h.1 c10
      refine ev_iload_n dX5_noteBy_79 rfl ?_
      refine ev_iconst dX5_noteBy_80 ci_1 ?_
      refine ev_icmp_ne (M := MX5_noteBy) (tgt := 92) dX5_noteBy_81 rfl (fun c11 => ?_) (fun c11 => ?_)
      · have h := h.1 c11
        refine ev_iconst dX5_noteBy_92 ci_2 ?_
        refine ev_iload dX5_noteBy_93 rfl ?_
        refine ev_imul dX5_noteBy_95 ?_
        refine ev_iconst dX5_noteBy_96 ci_1 ?_
        refine ev_isub dX5_noteBy_97 ?_
        refine ev_iload dX5_noteBy_98 rfl ?_
        refine ev_isub dX5_noteBy_100 ?_
        exact h
      · have h := h.2 c11
        refine ev_iload dX5_noteBy_84 rfl ?_
        refine ev_iload dX5_noteBy_86 rfl ?_
        refine ev_isub dX5_noteBy_88 ?_
        refine ev_goto (M := MX5_noteBy) (tgt := 101) dX5_noteBy_89 rfl ?_
        exact h
    · have h := h.2 c10
      refine ev_iload dX5_noteBy_74 rfl ?_
      refine ev_goto (M := MX5_noteBy) (tgt := 101) dX5_noteBy_76 rfl ?_
      exact h
  · have h := h.2 c6
    refine ev_bipush dX5_noteBy_32 cb_m4 ?_
    exact ev_ireti (M := MX5_noteBy) (ty := .int) dX5_noteBy_34 rfl rfl rfl h
set_option maxRecDepth 4000 in
theorem bk_X5_noteBy_101 {q : Int32 → DD → Prop} {d : DD} {l1 : Int32} {l2 : Int32} {l3 : Int32} {l4 : Int32} {l5 : Int32} {l6 : Int32} {k0 : Int32} {k1 : Int32} (h : (vp_in (k1 + k0) 350 ∧ (∀ x1 : Int32, x1 = (d 1 (k1 + k0).toNatClampNeg) → ((¬ l2 = 3 → q x1 d) ∧ (l2 = 3 → ((x1 ≤ 0 → q x1 d) ∧ (¬ x1 ≤ 0 → q (x1 - 1) d))))))) : Ev SM MX5_noteBy 101 [.ref 0, .int l1, .int l2, .int l3, .int l4, .int l5, .int l6, uJ] [.int k0, .int k1, .ref 1] d (rI q) := by
  refine ev_iadd dX5_noteBy_101 ?_
  obtain ⟨g, h⟩ := h
  refine ev_iald dX5_noteBy_102 sM_1 g ?_
  refine ev_topi (fun x1 ex1 => ?_)
  have h := h x1 ex1
  refine ev_istore (M := MX5_noteBy) (ls2 := [.ref 0, .int l1, .int l2, .int l3, .int l4, .int l5, .int l6, .int x1]) dX5_noteBy_103 (Nat.le_of_ble_eq_true rfl) rfl ?_
  refine ev_iload_n dX5_noteBy_105 rfl ?_
  refine ev_iconst dX5_noteBy_106 ci_3 ?_
  refine ev_icmp_ne (M := MX5_noteBy) (tgt := 122) dX5_noteBy_107 rfl (fun c2 => ?_) (fun c2 => ?_)
  · have h := h.1 c2
    refine ev_iload dX5_noteBy_122 rfl ?_
    exact ev_ireti (M := MX5_noteBy) (ty := .int) dX5_noteBy_124 rfl rfl rfl h
  · have h := h.2 c2
    refine ev_iload dX5_noteBy_110 rfl ?_
    refine ev_if_le (M := MX5_noteBy) (tgt := 122) dX5_noteBy_112 rfl (fun c3 => ?_) (fun c3 => ?_)
    · have h := h.1 c3
      refine ev_iload dX5_noteBy_122 rfl ?_
      exact ev_ireti (M := MX5_noteBy) (ty := .int) dX5_noteBy_124 rfl rfl rfl h
    · have h := h.2 c3
      refine ev_iload dX5_noteBy_115 rfl ?_
      refine ev_iconst dX5_noteBy_117 ci_1 ?_
      refine ev_isub dX5_noteBy_118 ?_
      refine ev_goto (M := MX5_noteBy) (tgt := 124) dX5_noteBy_119 rfl ?_
      exact ev_ireti (M := MX5_noteBy) (ty := .int) dX5_noteBy_124 rfl rfl rfl h
-- X5_boundTo
theorem cn_X5_boundTo {q : Int32 → DD → Prop} {d : DD} {p0 : Int32} (h : Ev SM MX5_boundTo 4 [.ref 0, .int p0, .int 0, .int 0] [] d (rI q)) : Cn SM MX5_boundTo [.ref 0, .int p0] d (rI q) := by
  refine cn_of (ls := [.ref 0, .int p0, uJ, uJ]) (by decide) rfl rfl (Nat.le_of_ble_eq_true rfl) ?_
  refine ev_iconst dX5_boundTo_0 ci_0 ?_
  refine ev_istore_n (M := MX5_boundTo) (ls2 := [.ref 0, .int p0, .int 0, uJ]) 2 dX5_boundTo_1 rfl (Nat.le_of_ble_eq_true rfl) rfl ?_
  refine ev_iconst dX5_boundTo_2 ci_0 ?_
  refine ev_istore_n (M := MX5_boundTo) (ls2 := [.ref 0, .int p0, .int 0, .int 0]) 3 dX5_boundTo_3 rfl (Nat.le_of_ble_eq_true rfl) rfl ?_
  exact h
theorem bk_X5_boundTo_4 {q : Int32 → DD → Prop} {d : DD} {l1 : Int32} {l2 : Int32} {l3 : Int32} (h : (((d 0 3) ≤ l3 → q l2 d) ∧ (¬ (d 0 3) ≤ l3 → (vp_in (64 + l3) 350 ∧ ((¬ (d 1 (64 + l3).toNatClampNeg) = l1 → Ev SM MX5_boundTo 4 [.ref 0, .int l1, .int (l2 ||| 0), .int (l3 + 1)] [] d (rI q)) ∧ ((d 1 (64 + l3).toNatClampNeg) = l1 → (∀ x3 : Int32, x3 = (l2 ||| (1 <<< (l3 &&& 31))) → Ev SM MX5_boundTo 4 [.ref 0, .int l1, .int x3, .int (l3 + 1)] [] d (rI q)))))))) : Ev SM MX5_boundTo 4 [.ref 0, .int l1, .int l2, .int l3] [] d (rI q) := by
  refine ev_iload_n dX5_boundTo_4 rfl ?_
  refine ev_aload_n dX5_boundTo_5 rfl ?_
  refine ev_get 3 dX5_boundTo_6 sM_0 ck5 (Nat.le_of_ble_eq_true rfl) rfl w769 ?_
  refine ev_icmp_ge (M := MX5_boundTo) (tgt := 41) dX5_boundTo_9 rfl (fun c1 => ?_) (fun c1 => ?_)
  · have h := h.1 c1
    refine ev_iload_n dX5_boundTo_41 rfl ?_
    exact ev_ireti (M := MX5_boundTo) (ty := .int) dX5_boundTo_42 rfl rfl rfl h
  · have h := h.2 c1
    refine ev_iload_n dX5_boundTo_12 rfl ?_
    refine ev_aload_n dX5_boundTo_13 rfl ?_
    refine ev_getr (M := MX5_boundTo) (r := 1) 0 dX5_boundTo_14 sM_0 ck5 (Nat.le_of_ble_eq_true rfl) rfl w766 ?_
    refine ev_bipush dX5_boundTo_17 cb_64 ?_
    refine ev_iload_n dX5_boundTo_19 rfl ?_
    refine ev_iadd dX5_boundTo_20 ?_
    obtain ⟨g, h⟩ := h
    refine ev_iald dX5_boundTo_21 sM_1 g ?_
    refine ev_iload_n dX5_boundTo_22 rfl ?_
    refine ev_icmp_ne (M := MX5_boundTo) (tgt := 32) dX5_boundTo_23 rfl (fun c2 => ?_) (fun c2 => ?_)
    · have h := h.1 c2
      refine ev_iconst dX5_boundTo_32 ci_0 ?_
      refine ev_ior dX5_boundTo_33 ?_
      refine ev_istore_n (M := MX5_boundTo) (ls2 := [.ref 0, .int l1, .int (l2 ||| 0), .int l3]) 2 dX5_boundTo_34 rfl (Nat.le_of_ble_eq_true rfl) rfl ?_
      refine ev_iinc (M := MX5_boundTo) (ls2 := [.ref 0, .int l1, .int (l2 ||| 0), .int (l3 + 1)]) dX5_boundTo_35 rfl (iin ci_1) (Nat.le_of_ble_eq_true rfl) rfl ?_
      refine ev_goto (M := MX5_boundTo) (tgt := 4) dX5_boundTo_38 rfl ?_
      exact h
    · have h := h.2 c2
      refine ev_iconst dX5_boundTo_26 ci_1 ?_
      refine ev_iload_n dX5_boundTo_27 rfl ?_
      refine ev_ishl dX5_boundTo_28 ?_
      refine ev_goto (M := MX5_boundTo) (tgt := 33) dX5_boundTo_29 rfl ?_
      refine ev_ior dX5_boundTo_33 ?_
      refine ev_topi (fun x3 ex3 => ?_)
      have h := h x3 ex3
      refine ev_istore_n (M := MX5_boundTo) (ls2 := [.ref 0, .int l1, .int x3, .int l3]) 2 dX5_boundTo_34 rfl (Nat.le_of_ble_eq_true rfl) rfl ?_
      refine ev_iinc (M := MX5_boundTo) (ls2 := [.ref 0, .int l1, .int x3, .int (l3 + 1)]) dX5_boundTo_35 rfl (iin ci_1) (Nat.le_of_ble_eq_true rfl) rfl ?_
      refine ev_goto (M := MX5_boundTo) (tgt := 4) dX5_boundTo_38 rfl ?_
      exact h
-- X5_tune
set_option maxRecDepth 4000 in
theorem cn_X5_tune {q : Int32 → DD → Prop} {d : DD} {p0 : Int32} {p1 : Int32} (h : (Cn SM MX5_isTune [.ref 0, .int p0] d (rI fun r2 d1 => ((¬ r2 = 0 → ((p1 = 0 → (vp_in ((4 * p1) + p0) 350 ∧ q (d1 1 ((4 * p1) + p0).toNatClampNeg) d1)) ∧ (¬ p1 = 0 → ((p1 = 1 → (vp_in ((4 * p1) + p0) 350 ∧ q (d1 1 ((4 * p1) + p0).toNatClampNeg) d1)) ∧ (¬ p1 = 1 → ((p1 = 2 → (vp_in ((4 * p1) + p0) 350 ∧ q (d1 1 ((4 * p1) + p0).toNatClampNeg) d1)) ∧ (¬ p1 = 2 → ((p1 = 3 → (vp_in ((4 * p1) + p0) 350 ∧ q (d1 1 ((4 * p1) + p0).toNatClampNeg) d1)) ∧ (¬ p1 = 3 → ((p1 = 4 → (Cn SM MX5_lengthOf [.ref 0, .int p0] d1 (rI fun r10 d9 => q r10 d9))) ∧ (¬ p1 = 4 → ((p1 = 5 → (Cn SM MX5_boundTo [.ref 0, .int p0] d1 (rI fun r13 d12 => q r13 d12))) ∧ (¬ p1 = 5 → q (-1) d1))))))))))))) ∧ (r2 = 0 → q (-1) d1))))) : Cn SM MX5_tune [.ref 0, .int p0, .int p1] d (rI q) := by
  refine cn_of (ls := [.ref 0, .int p0, .int p1]) (by decide) rfl rfl (Nat.le_of_ble_eq_true rfl) ?_
  refine ev_aload_n dX5_tune_0 rfl ?_
  refine ev_iload_n dX5_tune_1 rfl ?_
  refine ev_callVi (M := MX5_tune) (M2 := MX5_isTune) (As := [.int p0]) (rest := []) dX5_tune_2 sM_0 ck5 rfl w941 moX5_isTune rfl ⟨Nat.le_of_ble_eq_true rfl, Nat.le_of_ble_eq_true rfl⟩ rfl rfl (Nat.le_of_ble_eq_true rfl) h (fun r2 d1 h => ?_)
  have h := rI_dn h
  refine ev_if_ne (M := MX5_tune) (tgt := 10) dX5_tune_5 rfl (fun c3 => ?_) (fun c3 => ?_)
  · have h := h.1 c3
    refine ev_iload_n dX5_tune_10 rfl ?_
    by_cases c4 : p1 = 0
    · have h := h.1 c4
      refine ev_tsw (M := MX5_tune) (tgt := 48) dX5_tune_11 0 (sw_eq 0 c4 (by decide)) (by decide) (by decide) rfl rfl ?_
      refine ev_aload_n dX5_tune_48 rfl ?_
      refine ev_getr (M := MX5_tune) (r := 1) 0 dX5_tune_49 sM_0 ck5 (Nat.le_of_ble_eq_true rfl) rfl w766 ?_
      refine ev_iconst dX5_tune_52 ci_4 ?_
      refine ev_iload_n dX5_tune_53 rfl ?_
      refine ev_imul dX5_tune_54 ?_
      refine ev_iload_n dX5_tune_55 rfl ?_
      refine ev_iadd dX5_tune_56 ?_
      obtain ⟨g, h⟩ := h
      refine ev_iald dX5_tune_57 sM_1 g ?_
      exact ev_ireti (M := MX5_tune) (ty := .int) dX5_tune_58 rfl rfl rfl h
    · have h := h.2 c4
      by_cases c5 : p1 = 1
      · have h := h.1 c5
        refine ev_tsw (M := MX5_tune) (tgt := 48) dX5_tune_11 1 (sw_eq 1 c5 (by decide)) (by decide) (by decide) rfl rfl ?_
        refine ev_aload_n dX5_tune_48 rfl ?_
        refine ev_getr (M := MX5_tune) (r := 1) 0 dX5_tune_49 sM_0 ck5 (Nat.le_of_ble_eq_true rfl) rfl w766 ?_
        refine ev_iconst dX5_tune_52 ci_4 ?_
        refine ev_iload_n dX5_tune_53 rfl ?_
        refine ev_imul dX5_tune_54 ?_
        refine ev_iload_n dX5_tune_55 rfl ?_
        refine ev_iadd dX5_tune_56 ?_
        obtain ⟨g, h⟩ := h
        refine ev_iald dX5_tune_57 sM_1 g ?_
        exact ev_ireti (M := MX5_tune) (ty := .int) dX5_tune_58 rfl rfl rfl h
      · have h := h.2 c5
        by_cases c6 : p1 = 2
        · have h := h.1 c6
          refine ev_tsw (M := MX5_tune) (tgt := 48) dX5_tune_11 2 (sw_eq 2 c6 (by decide)) (by decide) (by decide) rfl rfl ?_
          refine ev_aload_n dX5_tune_48 rfl ?_
          refine ev_getr (M := MX5_tune) (r := 1) 0 dX5_tune_49 sM_0 ck5 (Nat.le_of_ble_eq_true rfl) rfl w766 ?_
          refine ev_iconst dX5_tune_52 ci_4 ?_
          refine ev_iload_n dX5_tune_53 rfl ?_
          refine ev_imul dX5_tune_54 ?_
          refine ev_iload_n dX5_tune_55 rfl ?_
          refine ev_iadd dX5_tune_56 ?_
          obtain ⟨g, h⟩ := h
          refine ev_iald dX5_tune_57 sM_1 g ?_
          exact ev_ireti (M := MX5_tune) (ty := .int) dX5_tune_58 rfl rfl rfl h
        · have h := h.2 c6
          by_cases c7 : p1 = 3
          · have h := h.1 c7
            refine ev_tsw (M := MX5_tune) (tgt := 48) dX5_tune_11 3 (sw_eq 3 c7 (by decide)) (by decide) (by decide) rfl rfl ?_
            refine ev_aload_n dX5_tune_48 rfl ?_
            refine ev_getr (M := MX5_tune) (r := 1) 0 dX5_tune_49 sM_0 ck5 (Nat.le_of_ble_eq_true rfl) rfl w766 ?_
            refine ev_iconst dX5_tune_52 ci_4 ?_
            refine ev_iload_n dX5_tune_53 rfl ?_
            refine ev_imul dX5_tune_54 ?_
            refine ev_iload_n dX5_tune_55 rfl ?_
            refine ev_iadd dX5_tune_56 ?_
            obtain ⟨g, h⟩ := h
            refine ev_iald dX5_tune_57 sM_1 g ?_
            exact ev_ireti (M := MX5_tune) (ty := .int) dX5_tune_58 rfl rfl rfl h
          · have h := h.2 c7
            by_cases c8 : p1 = 4
            · have h := h.1 c8
              refine ev_tsw (M := MX5_tune) (tgt := 59) dX5_tune_11 4 (sw_eq 4 c8 (by decide)) (by decide) (by decide) rfl rfl ?_
              refine ev_aload_n dX5_tune_59 rfl ?_
              refine ev_iload_n dX5_tune_60 rfl ?_
              refine ev_callVi (M := MX5_tune) (M2 := MX5_lengthOf) (As := [.int p0]) (rest := []) dX5_tune_61 sM_0 ck5 rfl w945 moX5_lengthOf rfl ⟨Nat.le_of_ble_eq_true rfl, Nat.le_of_ble_eq_true rfl⟩ rfl rfl (Nat.le_of_ble_eq_true rfl) h (fun r10 d9 h => ?_)
              have h := rI_dn h
              exact ev_ireti (M := MX5_tune) (ty := .int) dX5_tune_64 rfl rfl rfl h
            · have h := h.2 c8
              by_cases c11 : p1 = 5
              · have h := h.1 c11
                refine ev_tsw (M := MX5_tune) (tgt := 65) dX5_tune_11 5 (sw_eq 5 c11 (by decide)) (by decide) (by decide) rfl rfl ?_
                refine ev_aload_n dX5_tune_65 rfl ?_
                refine ev_iload_n dX5_tune_66 rfl ?_
                refine ev_callVi (M := MX5_tune) (M2 := MX5_boundTo) (As := [.int p0]) (rest := []) dX5_tune_67 sM_0 ck5 rfl w956 moX5_boundTo rfl ⟨Nat.le_of_ble_eq_true rfl, Nat.le_of_ble_eq_true rfl⟩ rfl rfl (Nat.le_of_ble_eq_true rfl) h (fun r13 d12 h => ?_)
                have h := rI_dn h
                exact ev_ireti (M := MX5_tune) (ty := .int) dX5_tune_70 rfl rfl rfl h
              · have h := h.2 c11
                have nc4 := sw_ne 0 c4 (by decide)
                have nc5 := sw_ne 1 c5 (by decide)
                have nc6 := sw_ne 2 c6 (by decide)
                have nc7 := sw_ne 3 c7 (by decide)
                have nc8 := sw_ne 4 c8 (by decide)
                have nc11 := sw_ne 5 c11 (by decide)
                refine ev_tswD (M := MX5_tune) (tgt := 71) dX5_tune_11 (by omega) rfl ?_
                refine ev_iconst dX5_tune_71 ci_m1 ?_
                exact ev_ireti (M := MX5_tune) (ty := .int) dX5_tune_72 rfl rfl rfl h
  · have h := h.2 c3
    refine ev_iconst dX5_tune_8 ci_m1 ?_
    exact ev_ireti (M := MX5_tune) (ty := .int) dX5_tune_9 rfl rfl rfl h
-- X5_isNote
theorem cn_X5_isNote {q : Int32 → DD → Prop} {d : DD} {p0 : Int32} {p1 : Int32} (h : (Cn SM MX5_isTune [.ref 0, .int p0] d (rI fun r2 d1 => ((r2 = 0 → q 0 d1) ∧ (¬ r2 = 0 → (vp_in (4 + p0) 350 ∧ (Cn SM MX5_in [.long p1.toInt64, .long 0, .long ((d1 1 (4 + p0).toNatClampNeg) - 1).toInt64] d1 (rI fun r5 d4 => ((r5 = 0 → q 0 d4) ∧ (¬ r5 = 0 → q 1 d4)))))))))) : Cn SM MX5_isNote [.ref 0, .int p0, .int p1] d (rI q) := by
  refine cn_of (ls := [.ref 0, .int p0, .int p1]) (by decide) rfl rfl (Nat.le_of_ble_eq_true rfl) ?_
  refine ev_aload_n dX5_isNote_0 rfl ?_
  refine ev_iload_n dX5_isNote_1 rfl ?_
  refine ev_callVi (M := MX5_isNote) (M2 := MX5_isTune) (As := [.int p0]) (rest := []) dX5_isNote_2 sM_0 ck5 rfl w941 moX5_isTune rfl ⟨Nat.le_of_ble_eq_true rfl, Nat.le_of_ble_eq_true rfl⟩ rfl rfl (Nat.le_of_ble_eq_true rfl) h (fun r2 d1 h => ?_)
  have h := rI_dn h
  refine ev_if_eq (M := MX5_isNote) (tgt := 32) dX5_isNote_5 rfl (fun c3 => ?_) (fun c3 => ?_)
  · have h := h.1 c3
    refine ev_iconst dX5_isNote_32 ci_0 ?_
    exact ev_ireti (M := MX5_isNote) (ty := .boolean) dX5_isNote_33 rfl rfl rfl h
  · have h := h.2 c3
    refine ev_iload_n dX5_isNote_8 rfl ?_
    refine ev_i2l dX5_isNote_9 ?_
    refine ev_lconst (M := MX5_isNote) (v := 0) dX5_isNote_10 rfl ?_
    refine ev_aload_n dX5_isNote_11 rfl ?_
    refine ev_getr (M := MX5_isNote) (r := 1) 0 dX5_isNote_12 sM_0 ck5 (Nat.le_of_ble_eq_true rfl) rfl w766 ?_
    refine ev_iconst dX5_isNote_15 ci_4 ?_
    refine ev_iload_n dX5_isNote_16 rfl ?_
    refine ev_iadd dX5_isNote_17 ?_
    obtain ⟨g, h⟩ := h
    refine ev_iald dX5_isNote_18 sM_1 g ?_
    refine ev_iconst dX5_isNote_19 ci_1 ?_
    refine ev_isub dX5_isNote_20 ?_
    refine ev_i2l dX5_isNote_21 ?_
    refine ev_callSi (M := MX5_isNote) (M2 := MX5_in) (As := [.long p1.toInt64, .long 0, .long ((d1 1 (4 + p0).toNatClampNeg) - 1).toInt64]) (rest := []) dX5_isNote_22 w877 moX5_in rfl ⟨Nat.le_of_ble_eq_true rfl, Nat.le_of_ble_eq_true rfl⟩ rfl rfl (Nat.le_of_ble_eq_true rfl) h (fun r5 d4 h => ?_)
    have h := rI_dn h
    refine ev_if_eq (M := MX5_isNote) (tgt := 32) dX5_isNote_25 rfl (fun c6 => ?_) (fun c6 => ?_)
    · have h := h.1 c6
      refine ev_iconst dX5_isNote_32 ci_0 ?_
      exact ev_ireti (M := MX5_isNote) (ty := .boolean) dX5_isNote_33 rfl rfl rfl h
    · have h := h.2 c6
      refine ev_iconst dX5_isNote_28 ci_1 ?_
      refine ev_goto (M := MX5_isNote) (tgt := 33) dX5_isNote_29 rfl ?_
      exact ev_ireti (M := MX5_isNote) (ty := .boolean) dX5_isNote_33 rfl rfl rfl h
-- X5_note
theorem cn_X5_note {q : Int32 → DD → Prop} {d : DD} {p0 : Int32} {p1 : Int32} (h : (Cn SM MX5_isNote [.ref 0, .int p0, .int p1] d (rI fun r2 d1 => ((r2 = 0 → q (-1) d1) ∧ (¬ r2 = 0 → (vp_in ((16 + (8 * p0)) + p1) 350 ∧ q (d1 1 ((16 + (8 * p0)) + p1).toNatClampNeg) d1)))))) : Cn SM MX5_note [.ref 0, .int p0, .int p1] d (rI q) := by
  refine cn_of (ls := [.ref 0, .int p0, .int p1]) (by decide) rfl rfl (Nat.le_of_ble_eq_true rfl) ?_
  refine ev_aload_n dX5_note_0 rfl ?_
  refine ev_iload_n dX5_note_1 rfl ?_
  refine ev_iload_n dX5_note_2 rfl ?_
  refine ev_callVi (M := MX5_note) (M2 := MX5_isNote) (As := [.int p0, .int p1]) (rest := []) dX5_note_3 sM_0 ck5 rfl w964 moX5_isNote rfl ⟨Nat.le_of_ble_eq_true rfl, Nat.le_of_ble_eq_true rfl⟩ rfl rfl (Nat.le_of_ble_eq_true rfl) h (fun r2 d1 h => ?_)
  have h := rI_dn h
  refine ev_if_eq (M := MX5_note) (tgt := 26) dX5_note_6 rfl (fun c3 => ?_) (fun c3 => ?_)
  · have h := h.1 c3
    refine ev_iconst dX5_note_26 ci_m1 ?_
    exact ev_ireti (M := MX5_note) (ty := .int) dX5_note_27 rfl rfl rfl h
  · have h := h.2 c3
    refine ev_aload_n dX5_note_9 rfl ?_
    refine ev_getr (M := MX5_note) (r := 1) 0 dX5_note_10 sM_0 ck5 (Nat.le_of_ble_eq_true rfl) rfl w766 ?_
    refine ev_bipush dX5_note_13 cb_16 ?_
    refine ev_bipush dX5_note_15 cb_8 ?_
    refine ev_iload_n dX5_note_17 rfl ?_
    refine ev_imul dX5_note_18 ?_
    refine ev_iadd dX5_note_19 ?_
    refine ev_iload_n dX5_note_20 rfl ?_
    refine ev_iadd dX5_note_21 ?_
    obtain ⟨g, h⟩ := h
    refine ev_iald dX5_note_22 sM_1 g ?_
    refine ev_goto (M := MX5_note) (tgt := 27) dX5_note_23 rfl ?_
    exact ev_ireti (M := MX5_note) (ty := .int) dX5_note_27 rfl rfl rfl h
-- X5_isMinute
theorem cn_X5_isMinute {q : Int32 → DD → Prop} {d : DD} {p0 : Int32} (h : (Cn SM MX5_in [.long p0.toInt64, .long 0, .long 159] d (rI fun r2 d1 => (narrow .boolean (.int r2) = .int r2 ∧ q r2 d1)))) : Cn SM MX5_isMinute [.int p0] d (rI q) := by
  refine cn_of (ls := [.int p0]) (by decide) rfl rfl (Nat.le_of_ble_eq_true rfl) ?_
  refine ev_iload_n dX5_isMinute_0 rfl ?_
  refine ev_i2l dX5_isMinute_1 ?_
  refine ev_lconst (M := MX5_isMinute) (v := 0) dX5_isMinute_2 rfl ?_
  refine ev_ldc2 dX5_isMinute_3 w975 ?_
  refine ev_callSi (M := MX5_isMinute) (M2 := MX5_in) (As := [.long p0.toInt64, .long 0, .long 159]) (rest := []) dX5_isMinute_6 w877 moX5_in rfl ⟨Nat.le_of_ble_eq_true rfl, Nat.le_of_ble_eq_true rfl⟩ rfl rfl (Nat.le_of_ble_eq_true rfl) h (fun r2 d1 h => ?_)
  have h := rI_dn h
  exact ev_ireti (M := MX5_isMinute) (ty := .boolean) dX5_isMinute_9 rfl rfl h.1 h.2
-- X5_has
theorem cn_X5_has {q : Int32 → DD → Prop} {d : DD} {p0 : Int32} {p1 : Int32} (h : (Cn SM MX5_isTune [.ref 0, .int p0] d (rI fun r2 d1 => ((r2 = 0 → q (-1) d1) ∧ (¬ r2 = 0 → (Cn SM MX5_isMinute [.int p1] d1 (rI fun r5 d4 => ((r5 = 0 → q (-1) d4) ∧ (¬ r5 = 0 → (vp_in p0 350 ∧ (Cn SM MX5_noteBy [.ref 0, .int p0, .int (d4 1 p0.toNatClampNeg), .int p1] d4 (rI fun r8 d7 => q r8 d7)))))))))))) : Cn SM MX5_has [.ref 0, .int p0, .int p1] d (rI q) := by
  refine cn_of (ls := [.ref 0, .int p0, .int p1]) (by decide) rfl rfl (Nat.le_of_ble_eq_true rfl) ?_
  refine ev_aload_n dX5_has_0 rfl ?_
  refine ev_iload_n dX5_has_1 rfl ?_
  refine ev_callVi (M := MX5_has) (M2 := MX5_isTune) (As := [.int p0]) (rest := []) dX5_has_2 sM_0 ck5 rfl w941 moX5_isTune rfl ⟨Nat.le_of_ble_eq_true rfl, Nat.le_of_ble_eq_true rfl⟩ rfl rfl (Nat.le_of_ble_eq_true rfl) h (fun r2 d1 h => ?_)
  have h := rI_dn h
  refine ev_if_eq (M := MX5_has) (tgt := 30) dX5_has_5 rfl (fun c3 => ?_) (fun c3 => ?_)
  · have h := h.1 c3
    refine ev_iconst dX5_has_30 ci_m1 ?_
    exact ev_ireti (M := MX5_has) (ty := .int) dX5_has_31 rfl rfl rfl h
  · have h := h.2 c3
    refine ev_iload_n dX5_has_8 rfl ?_
    refine ev_callSi (M := MX5_has) (M2 := MX5_isMinute) (As := [.int p1]) (rest := []) dX5_has_9 w972 moX5_isMinute rfl ⟨Nat.le_of_ble_eq_true rfl, Nat.le_of_ble_eq_true rfl⟩ rfl rfl (Nat.le_of_ble_eq_true rfl) h (fun r5 d4 h => ?_)
    have h := rI_dn h
    refine ev_if_eq (M := MX5_has) (tgt := 30) dX5_has_12 rfl (fun c6 => ?_) (fun c6 => ?_)
    · have h := h.1 c6
      refine ev_iconst dX5_has_30 ci_m1 ?_
      exact ev_ireti (M := MX5_has) (ty := .int) dX5_has_31 rfl rfl rfl h
    · have h := h.2 c6
      refine ev_aload_n dX5_has_15 rfl ?_
      refine ev_iload_n dX5_has_16 rfl ?_
      refine ev_aload_n dX5_has_17 rfl ?_
      refine ev_getr (M := MX5_has) (r := 1) 0 dX5_has_18 sM_0 ck5 (Nat.le_of_ble_eq_true rfl) rfl w766 ?_
      refine ev_iload_n dX5_has_21 rfl ?_
      obtain ⟨g, h⟩ := h
      refine ev_iald dX5_has_22 sM_1 g ?_
      refine ev_iload_n dX5_has_23 rfl ?_
      refine ev_callVi (M := MX5_has) (M2 := MX5_noteBy) (As := [.int p0, .int (d4 1 p0.toNatClampNeg), .int p1]) (rest := []) dX5_has_24 sM_0 ck5 rfl w976 moX5_noteBy rfl ⟨Nat.le_of_ble_eq_true rfl, Nat.le_of_ble_eq_true rfl⟩ rfl rfl (Nat.le_of_ble_eq_true rfl) h (fun r8 d7 h => ?_)
      have h := rI_dn h
      refine ev_goto (M := MX5_has) (tgt := 31) dX5_has_27 rfl ?_
      exact ev_ireti (M := MX5_has) (ty := .int) dX5_has_31 rfl rfl rfl h
-- X5_player
theorem cn_X5_player {q : Int32 → DD → Prop} {d : DD} {p0 : Int32} {p1 : Int32} (h : (Cn SM MX5_isPlayer [.ref 0, .int p0] d (rI fun r2 d1 => ((r2 = 0 → q (-1) d1) ∧ (¬ r2 = 0 → (Cn SM MX5_in [.long p1.toInt64, .long 0, .long 3] d1 (rI fun r5 d4 => ((r5 = 0 → q (-1) d4) ∧ (¬ r5 = 0 → (vp_in ((48 + (4 * p1)) + p0) 350 ∧ q (d4 1 ((48 + (4 * p1)) + p0).toNatClampNeg) d4)))))))))) : Cn SM MX5_player [.ref 0, .int p0, .int p1] d (rI q) := by
  refine cn_of (ls := [.ref 0, .int p0, .int p1]) (by decide) rfl rfl (Nat.le_of_ble_eq_true rfl) ?_
  refine ev_aload_n dX5_player_0 rfl ?_
  refine ev_iload_n dX5_player_1 rfl ?_
  refine ev_callVi (M := MX5_player) (M2 := MX5_isPlayer) (As := [.int p0]) (rest := []) dX5_player_2 sM_0 ck5 rfl w984 moX5_isPlayer rfl ⟨Nat.le_of_ble_eq_true rfl, Nat.le_of_ble_eq_true rfl⟩ rfl rfl (Nat.le_of_ble_eq_true rfl) h (fun r2 d1 h => ?_)
  have h := rI_dn h
  refine ev_if_eq (M := MX5_player) (tgt := 36) dX5_player_5 rfl (fun c3 => ?_) (fun c3 => ?_)
  · have h := h.1 c3
    refine ev_iconst dX5_player_36 ci_m1 ?_
    exact ev_ireti (M := MX5_player) (ty := .int) dX5_player_37 rfl rfl rfl h
  · have h := h.2 c3
    refine ev_iload_n dX5_player_8 rfl ?_
    refine ev_i2l dX5_player_9 ?_
    refine ev_lconst (M := MX5_player) (v := 0) dX5_player_10 rfl ?_
    refine ev_ldc2 dX5_player_11 w988 ?_
    refine ev_callSi (M := MX5_player) (M2 := MX5_in) (As := [.long p1.toInt64, .long 0, .long 3]) (rest := []) dX5_player_14 w877 moX5_in rfl ⟨Nat.le_of_ble_eq_true rfl, Nat.le_of_ble_eq_true rfl⟩ rfl rfl (Nat.le_of_ble_eq_true rfl) h (fun r5 d4 h => ?_)
    have h := rI_dn h
    refine ev_if_eq (M := MX5_player) (tgt := 36) dX5_player_17 rfl (fun c6 => ?_) (fun c6 => ?_)
    · have h := h.1 c6
      refine ev_iconst dX5_player_36 ci_m1 ?_
      exact ev_ireti (M := MX5_player) (ty := .int) dX5_player_37 rfl rfl rfl h
    · have h := h.2 c6
      refine ev_aload_n dX5_player_20 rfl ?_
      refine ev_getr (M := MX5_player) (r := 1) 0 dX5_player_21 sM_0 ck5 (Nat.le_of_ble_eq_true rfl) rfl w766 ?_
      refine ev_bipush dX5_player_24 cb_48 ?_
      refine ev_iconst dX5_player_26 ci_4 ?_
      refine ev_iload_n dX5_player_27 rfl ?_
      refine ev_imul dX5_player_28 ?_
      refine ev_iadd dX5_player_29 ?_
      refine ev_iload_n dX5_player_30 rfl ?_
      refine ev_iadd dX5_player_31 ?_
      obtain ⟨g, h⟩ := h
      refine ev_iald dX5_player_32 sM_1 g ?_
      refine ev_goto (M := MX5_player) (tgt := 37) dX5_player_33 rfl ?_
      exact ev_ireti (M := MX5_player) (ty := .int) dX5_player_37 rfl rfl rfl h
-- X5_bound
theorem cn_X5_bound {q : Int32 → DD → Prop} {d : DD} {p0 : Int32} (h : (Cn SM MX5_isBound [.ref 0, .int p0] d (rI fun r2 d1 => ((r2 = 0 → q (-1) d1) ∧ (¬ r2 = 0 → (vp_in (64 + p0) 350 ∧ q (d1 1 (64 + p0).toNatClampNeg) d1)))))) : Cn SM MX5_bound [.ref 0, .int p0] d (rI q) := by
  refine cn_of (ls := [.ref 0, .int p0]) (by decide) rfl rfl (Nat.le_of_ble_eq_true rfl) ?_
  refine ev_aload_n dX5_bound_0 rfl ?_
  refine ev_iload_n dX5_bound_1 rfl ?_
  refine ev_callVi (M := MX5_bound) (M2 := MX5_isBound) (As := [.int p0]) (rest := []) dX5_bound_2 sM_0 ck5 rfl w993 moX5_isBound rfl ⟨Nat.le_of_ble_eq_true rfl, Nat.le_of_ble_eq_true rfl⟩ rfl rfl (Nat.le_of_ble_eq_true rfl) h (fun r2 d1 h => ?_)
  have h := rI_dn h
  refine ev_if_eq (M := MX5_bound) (tgt := 20) dX5_bound_5 rfl (fun c3 => ?_) (fun c3 => ?_)
  · have h := h.1 c3
    refine ev_iconst dX5_bound_20 ci_m1 ?_
    exact ev_ireti (M := MX5_bound) (ty := .int) dX5_bound_21 rfl rfl rfl h
  · have h := h.2 c3
    refine ev_aload_n dX5_bound_8 rfl ?_
    refine ev_getr (M := MX5_bound) (r := 1) 0 dX5_bound_9 sM_0 ck5 (Nat.le_of_ble_eq_true rfl) rfl w766 ?_
    refine ev_bipush dX5_bound_12 cb_64 ?_
    refine ev_iload_n dX5_bound_14 rfl ?_
    refine ev_iadd dX5_bound_15 ?_
    obtain ⟨g, h⟩ := h
    refine ev_iald dX5_bound_16 sM_1 g ?_
    refine ev_goto (M := MX5_bound) (tgt := 21) dX5_bound_17 rfl ?_
    exact ev_ireti (M := MX5_bound) (ty := .int) dX5_bound_21 rfl rfl rfl h
-- X5_puts
theorem cn_X5_puts {q : Int32 → DD → Prop} {d : DD} {p0 : Int32} {p1 : Int32} {p2 : Int32} (h : ((¬ p0 = 0 → (vp_in p1 350 ∧ (∀ x2 : Int32, x2 = (d 1 p1.toNatClampNeg) → (vp_in p1 350 ∧ (∀ d3 : DD, d3 = (up d 1 p1.toNatClampNeg p2) → q x2 d3))))) ∧ (p0 = 0 → q (-1) d))) : Cn SM MX5_puts [.ref 0, .int p0, .int p1, .int p2] d (rI q) := by
  refine cn_of (ls := [.ref 0, .int p0, .int p1, .int p2, uJ]) (by decide) rfl rfl (Nat.le_of_ble_eq_true rfl) ?_
  refine ev_iload_n dX5_puts_0 rfl ?_
  refine ev_if_ne (M := MX5_puts) (tgt := 6) dX5_puts_1 rfl (fun c1 => ?_) (fun c1 => ?_)
  · have h := h.1 c1
    refine ev_aload_n dX5_puts_6 rfl ?_
    refine ev_getr (M := MX5_puts) (r := 1) 0 dX5_puts_7 sM_0 ck5 (Nat.le_of_ble_eq_true rfl) rfl w766 ?_
    refine ev_iload_n dX5_puts_10 rfl ?_
    obtain ⟨g, h⟩ := h
    refine ev_iald dX5_puts_11 sM_1 g ?_
    refine ev_topi (fun x2 ex2 => ?_)
    have h := h x2 ex2
    refine ev_istore (M := MX5_puts) (ls2 := [.ref 0, .int p0, .int p1, .int p2, .int x2]) dX5_puts_12 (Nat.le_of_ble_eq_true rfl) rfl ?_
    refine ev_aload_n dX5_puts_14 rfl ?_
    refine ev_getr (M := MX5_puts) (r := 1) 0 dX5_puts_15 sM_0 ck5 (Nat.le_of_ble_eq_true rfl) rfl w766 ?_
    refine ev_iload_n dX5_puts_18 rfl ?_
    refine ev_iload_n dX5_puts_19 rfl ?_
    obtain ⟨g, h⟩ := h
    refine ev_iast dX5_puts_20 sM_1 g ?_
    refine ev_topd (fun d3 ed3 => ?_)
    have h := h d3 ed3
    refine ev_iload dX5_puts_21 rfl ?_
    exact ev_ireti (M := MX5_puts) (ty := .int) dX5_puts_23 rfl rfl rfl h
  · have h := h.2 c1
    refine ev_iconst dX5_puts_4 ci_m1 ?_
    exact ev_ireti (M := MX5_puts) (ty := .int) dX5_puts_5 rfl rfl rfl h
-- X5_write
theorem cn_X5_write {q : Int32 → DD → Prop} {d : DD} {p0 : Int32} {p1 : Int32} {p2 : Int32} (h : (Cn SM MX5_isNote [.ref 0, .int p0, .int p1] d (rI fun r2 d1 => ((r2 = 0 → Ev SM MX5_write 27 [.ref 0, .int p0, .int p1, .int p2] [.int 0, .ref 0] d1 (rI q)) ∧ (¬ r2 = 0 → (Cn SM MX5_in [.long p2.toInt64, .long 0, .long 9] d1 (rI fun r5 d4 => ((r5 = 0 → Ev SM MX5_write 27 [.ref 0, .int p0, .int p1, .int p2] [.int 0, .ref 0] d4 (rI q)) ∧ (¬ r5 = 0 → Ev SM MX5_write 27 [.ref 0, .int p0, .int p1, .int p2] [.int 1, .ref 0] d4 (rI q)))))))))) : Cn SM MX5_write [.ref 0, .int p0, .int p1, .int p2] d (rI q) := by
  refine cn_of (ls := [.ref 0, .int p0, .int p1, .int p2]) (by decide) rfl rfl (Nat.le_of_ble_eq_true rfl) ?_
  refine ev_aload_n dX5_write_0 rfl ?_
  refine ev_aload_n dX5_write_1 rfl ?_
  refine ev_iload_n dX5_write_2 rfl ?_
  refine ev_iload_n dX5_write_3 rfl ?_
  refine ev_callVi (M := MX5_write) (M2 := MX5_isNote) (As := [.int p0, .int p1]) (rest := [.ref 0]) dX5_write_4 sM_0 ck5 rfl w964 moX5_isNote rfl ⟨Nat.le_of_ble_eq_true rfl, Nat.le_of_ble_eq_true rfl⟩ rfl rfl (Nat.le_of_ble_eq_true rfl) h (fun r2 d1 h => ?_)
  have h := rI_dn h
  refine ev_if_eq (M := MX5_write) (tgt := 26) dX5_write_7 rfl (fun c3 => ?_) (fun c3 => ?_)
  · have h := h.1 c3
    refine ev_iconst dX5_write_26 ci_0 ?_
    exact h
  · have h := h.2 c3
    refine ev_iload_n dX5_write_10 rfl ?_
    refine ev_i2l dX5_write_11 ?_
    refine ev_lconst (M := MX5_write) (v := 0) dX5_write_12 rfl ?_
    refine ev_ldc2 dX5_write_13 w1001 ?_
    refine ev_callSi (M := MX5_write) (M2 := MX5_in) (As := [.long p2.toInt64, .long 0, .long 9]) (rest := [.ref 0]) dX5_write_16 w877 moX5_in rfl ⟨Nat.le_of_ble_eq_true rfl, Nat.le_of_ble_eq_true rfl⟩ rfl rfl (Nat.le_of_ble_eq_true rfl) h (fun r5 d4 h => ?_)
    have h := rI_dn h
    refine ev_if_eq (M := MX5_write) (tgt := 26) dX5_write_19 rfl (fun c6 => ?_) (fun c6 => ?_)
    · have h := h.1 c6
      refine ev_iconst dX5_write_26 ci_0 ?_
      exact h
    · have h := h.2 c6
      refine ev_iconst dX5_write_22 ci_1 ?_
      refine ev_goto (M := MX5_write) (tgt := 27) dX5_write_23 rfl ?_
      exact h
theorem bk_X5_write_27 {q : Int32 → DD → Prop} {d : DD} {l1 : Int32} {l2 : Int32} {l3 : Int32} {k0 : Int32} (h : (Cn SM MX5_puts [.ref 0, .int k0, .int ((16 + (8 * l1)) + l2), .int l3] d (rI fun r2 d1 => q r2 d1))) : Ev SM MX5_write 27 [.ref 0, .int l1, .int l2, .int l3] [.int k0, .ref 0] d (rI q) := by
  refine ev_bipush dX5_write_27 cb_16 ?_
  refine ev_bipush dX5_write_29 cb_8 ?_
  refine ev_iload_n dX5_write_31 rfl ?_
  refine ev_imul dX5_write_32 ?_
  refine ev_iadd dX5_write_33 ?_
  refine ev_iload_n dX5_write_34 rfl ?_
  refine ev_iadd dX5_write_35 ?_
  refine ev_iload_n dX5_write_36 rfl ?_
  refine ev_callVi (M := MX5_write) (M2 := MX5_puts) (As := [.int k0, .int ((16 + (8 * l1)) + l2), .int l3]) (rest := []) dX5_write_37 sM_0 ck5 rfl w1002 moX5_puts rfl ⟨Nat.le_of_ble_eq_true rfl, Nat.le_of_ble_eq_true rfl⟩ rfl rfl (Nat.le_of_ble_eq_true rfl) h (fun r2 d1 h => ?_)
  have h := rI_dn h
  exact ev_ireti (M := MX5_write) (ty := .int) dX5_write_40 rfl rfl rfl h
-- X5_add
theorem cn_X5_add {q : Int32 → DD → Prop} {d : DD} {p0 : Int32} {p1 : Int32} (h : (Cn SM MX5_isTune [.ref 0, .int p0] d (rI fun r2 d1 => ((r2 = 0 → q (-1) d1) ∧ (¬ r2 = 0 → (Cn SM MX5_in [.long p1.toInt64, .long 0, .long 9] d1 (rI fun r5 d4 => ((¬ r5 = 0 → (vp_in (4 + p0) 350 ∧ ((¬ (d4 1 (4 + p0).toNatClampNeg) = 8 → (vp_in (4 + p0) 350 ∧ (vp_in ((16 + (8 * p0)) + (d4 1 (4 + p0).toNatClampNeg)) 350 ∧ (∀ d8 : DD, d8 = (up d4 1 ((16 + (8 * p0)) + (d4 1 (4 + p0).toNatClampNeg)).toNatClampNeg p1) → (vp_in (4 + p0) 350 ∧ (vp_in (4 + p0) 350 ∧ (∀ d9 : DD, d9 = (up d8 1 (4 + p0).toNatClampNeg ((d8 1 (4 + p0).toNatClampNeg) + 1)) → (vp_in (4 + p0) 350 ∧ q (d9 1 (4 + p0).toNatClampNeg) d9)))))))) ∧ ((d4 1 (4 + p0).toNatClampNeg) = 8 → q (-3) d4)))) ∧ (r5 = 0 → q (-1) d4))))))))) : Cn SM MX5_add [.ref 0, .int p0, .int p1] d (rI q) := by
  refine cn_of (ls := [.ref 0, .int p0, .int p1]) (by decide) rfl rfl (Nat.le_of_ble_eq_true rfl) ?_
  refine ev_aload_n dX5_add_0 rfl ?_
  refine ev_iload_n dX5_add_1 rfl ?_
  refine ev_callVi (M := MX5_add) (M2 := MX5_isTune) (As := [.int p0]) (rest := []) dX5_add_2 sM_0 ck5 rfl w941 moX5_isTune rfl ⟨Nat.le_of_ble_eq_true rfl, Nat.le_of_ble_eq_true rfl⟩ rfl rfl (Nat.le_of_ble_eq_true rfl) h (fun r2 d1 h => ?_)
  have h := rI_dn h
  refine ev_if_eq (M := MX5_add) (tgt := 20) dX5_add_5 rfl (fun c3 => ?_) (fun c3 => ?_)
  · have h := h.1 c3
    refine ev_iconst dX5_add_20 ci_m1 ?_
    exact ev_ireti (M := MX5_add) (ty := .int) dX5_add_21 rfl rfl rfl h
  · have h := h.2 c3
    refine ev_iload_n dX5_add_8 rfl ?_
    refine ev_i2l dX5_add_9 ?_
    refine ev_lconst (M := MX5_add) (v := 0) dX5_add_10 rfl ?_
    refine ev_ldc2 dX5_add_11 w1001 ?_
    refine ev_callSi (M := MX5_add) (M2 := MX5_in) (As := [.long p1.toInt64, .long 0, .long 9]) (rest := []) dX5_add_14 w877 moX5_in rfl ⟨Nat.le_of_ble_eq_true rfl, Nat.le_of_ble_eq_true rfl⟩ rfl rfl (Nat.le_of_ble_eq_true rfl) h (fun r5 d4 h => ?_)
    have h := rI_dn h
    refine ev_if_ne (M := MX5_add) (tgt := 22) dX5_add_17 rfl (fun c6 => ?_) (fun c6 => ?_)
    · have h := h.1 c6
      refine ev_aload_n dX5_add_22 rfl ?_
      refine ev_getr (M := MX5_add) (r := 1) 0 dX5_add_23 sM_0 ck5 (Nat.le_of_ble_eq_true rfl) rfl w766 ?_
      refine ev_iconst dX5_add_26 ci_4 ?_
      refine ev_iload_n dX5_add_27 rfl ?_
      refine ev_iadd dX5_add_28 ?_
      obtain ⟨g, h⟩ := h
      refine ev_iald dX5_add_29 sM_1 g ?_
      refine ev_bipush dX5_add_30 cb_8 ?_
      refine ev_icmp_ne (M := MX5_add) (tgt := 38) dX5_add_32 rfl (fun c7 => ?_) (fun c7 => ?_)
      · have h := h.1 c7
        refine ev_aload_n dX5_add_38 rfl ?_
        refine ev_getr (M := MX5_add) (r := 1) 0 dX5_add_39 sM_0 ck5 (Nat.le_of_ble_eq_true rfl) rfl w766 ?_
        refine ev_bipush dX5_add_42 cb_16 ?_
        refine ev_bipush dX5_add_44 cb_8 ?_
        refine ev_iload_n dX5_add_46 rfl ?_
        refine ev_imul dX5_add_47 ?_
        refine ev_iadd dX5_add_48 ?_
        refine ev_aload_n dX5_add_49 rfl ?_
        refine ev_getr (M := MX5_add) (r := 1) 0 dX5_add_50 sM_0 ck5 (Nat.le_of_ble_eq_true rfl) rfl w766 ?_
        refine ev_iconst dX5_add_53 ci_4 ?_
        refine ev_iload_n dX5_add_54 rfl ?_
        refine ev_iadd dX5_add_55 ?_
        obtain ⟨g, h⟩ := h
        refine ev_iald dX5_add_56 sM_1 g ?_
        refine ev_iadd dX5_add_57 ?_
        refine ev_iload_n dX5_add_58 rfl ?_
        obtain ⟨g, h⟩ := h
        refine ev_iast dX5_add_59 sM_1 g ?_
        refine ev_topd (fun d8 ed8 => ?_)
        have h := h d8 ed8
        refine ev_aload_n dX5_add_60 rfl ?_
        refine ev_getr (M := MX5_add) (r := 1) 0 dX5_add_61 sM_0 ck5 (Nat.le_of_ble_eq_true rfl) rfl w766 ?_
        refine ev_iconst dX5_add_64 ci_4 ?_
        refine ev_iload_n dX5_add_65 rfl ?_
        refine ev_iadd dX5_add_66 ?_
        refine ev_dup2 dX5_add_67 rfl rfl ?_
        obtain ⟨g, h⟩ := h
        refine ev_iald dX5_add_68 sM_1 g ?_
        refine ev_iconst dX5_add_69 ci_1 ?_
        refine ev_iadd dX5_add_70 ?_
        obtain ⟨g, h⟩ := h
        refine ev_iast dX5_add_71 sM_1 g ?_
        refine ev_topd (fun d9 ed9 => ?_)
        have h := h d9 ed9
        refine ev_aload_n dX5_add_72 rfl ?_
        refine ev_getr (M := MX5_add) (r := 1) 0 dX5_add_73 sM_0 ck5 (Nat.le_of_ble_eq_true rfl) rfl w766 ?_
        refine ev_iconst dX5_add_76 ci_4 ?_
        refine ev_iload_n dX5_add_77 rfl ?_
        refine ev_iadd dX5_add_78 ?_
        obtain ⟨g, h⟩ := h
        refine ev_iald dX5_add_79 sM_1 g ?_
        exact ev_ireti (M := MX5_add) (ty := .int) dX5_add_80 rfl rfl rfl h
      · have h := h.2 c7
        refine ev_bipush dX5_add_35 cb_m3 ?_
        exact ev_ireti (M := MX5_add) (ty := .int) dX5_add_37 rfl rfl rfl h
    · have h := h.2 c6
      refine ev_iconst dX5_add_20 ci_m1 ?_
      exact ev_ireti (M := MX5_add) (ty := .int) dX5_add_21 rfl rfl rfl h
-- X5_set
set_option maxRecDepth 4000 in
theorem cn_X5_set {q : Int32 → DD → Prop} {d : DD} {p0 : Int32} {p1 : Int32} {p2 : Int32} (h : ((¬ p1 = 0 → ((¬ p1 = 2 → ((¬ p1 = 3 → Ev SM MX5_set 55 [.ref 0, .int p0, .int p1, .int p2, uJ] [.int 0] d (rI q)) ∧ (p1 = 3 → (Cn SM MX5_in [.long p2.toInt64, .long 0, .long 9] d (rI fun r5 d4 => ((r5 = 0 → Ev SM MX5_set 55 [.ref 0, .int p0, .int p1, .int p2, uJ] [.int 0] d4 (rI q)) ∧ (¬ r5 = 0 → Ev SM MX5_set 55 [.ref 0, .int p0, .int p1, .int p2, uJ] [.int 1] d4 (rI q)))))))) ∧ (p1 = 2 → (Cn SM MX5_in [.long p2.toInt64, .long 1, .long 9] d (rI fun r8 d7 => Ev SM MX5_set 55 [.ref 0, .int p0, .int p1, .int p2, uJ] [.int r8] d7 (rI q)))))) ∧ (p1 = 0 → (Cn SM MX5_in [.long p2.toInt64, .long 0, .long 3] d (rI fun r10 d9 => Ev SM MX5_set 55 [.ref 0, .int p0, .int p1, .int p2, uJ] [.int r10] d9 (rI q)))))) : Cn SM MX5_set [.ref 0, .int p0, .int p1, .int p2] d (rI q) := by
  refine cn_of (ls := [.ref 0, .int p0, .int p1, .int p2, uJ]) (by decide) rfl rfl (Nat.le_of_ble_eq_true rfl) ?_
  refine ev_iload_n dX5_set_0 rfl ?_
  refine ev_if_ne (M := MX5_set) (tgt := 16) dX5_set_1 rfl (fun c1 => ?_) (fun c1 => ?_)
  · have h := h.1 c1
    refine ev_iload_n dX5_set_16 rfl ?_
    refine ev_iconst dX5_set_17 ci_2 ?_
    refine ev_icmp_ne (M := MX5_set) (tgt := 33) dX5_set_18 rfl (fun c2 => ?_) (fun c2 => ?_)
    · have h := h.1 c2
      refine ev_iload_n dX5_set_33 rfl ?_
      refine ev_iconst dX5_set_34 ci_3 ?_
      refine ev_icmp_ne (M := MX5_set) (tgt := 54) dX5_set_35 rfl (fun c3 => ?_) (fun c3 => ?_)
      · have h := h.1 c3
        refine ev_iconst dX5_set_54 ci_0 ?_
        exact h
      · have h := h.2 c3
        refine ev_iload_n dX5_set_38 rfl ?_
        refine ev_i2l dX5_set_39 ?_
        refine ev_lconst (M := MX5_set) (v := 0) dX5_set_40 rfl ?_
        refine ev_ldc2 dX5_set_41 w1001 ?_
        refine ev_callSi (M := MX5_set) (M2 := MX5_in) (As := [.long p2.toInt64, .long 0, .long 9]) (rest := []) dX5_set_44 w877 moX5_in rfl ⟨Nat.le_of_ble_eq_true rfl, Nat.le_of_ble_eq_true rfl⟩ rfl rfl (Nat.le_of_ble_eq_true rfl) h (fun r5 d4 h => ?_)
        have h := rI_dn h
        refine ev_if_eq (M := MX5_set) (tgt := 54) dX5_set_47 rfl (fun c6 => ?_) (fun c6 => ?_)
        · have h := h.1 c6
          refine ev_iconst dX5_set_54 ci_0 ?_
          exact h
        · have h := h.2 c6
          refine ev_iconst dX5_set_50 ci_1 ?_
          refine ev_goto (M := MX5_set) (tgt := 55) dX5_set_51 rfl ?_
          exact h
    · have h := h.2 c2
      refine ev_iload_n dX5_set_21 rfl ?_
      refine ev_i2l dX5_set_22 ?_
      refine ev_lconst (M := MX5_set) (v := 1) dX5_set_23 rfl ?_
      refine ev_ldc2 dX5_set_24 w1001 ?_
      refine ev_callSi (M := MX5_set) (M2 := MX5_in) (As := [.long p2.toInt64, .long 1, .long 9]) (rest := []) dX5_set_27 w877 moX5_in rfl ⟨Nat.le_of_ble_eq_true rfl, Nat.le_of_ble_eq_true rfl⟩ rfl rfl (Nat.le_of_ble_eq_true rfl) h (fun r8 d7 h => ?_)
      have h := rI_dn h
      refine ev_goto (M := MX5_set) (tgt := 55) dX5_set_30 rfl ?_
      exact h
  · have h := h.2 c1
    refine ev_iload_n dX5_set_4 rfl ?_
    refine ev_i2l dX5_set_5 ?_
    refine ev_lconst (M := MX5_set) (v := 0) dX5_set_6 rfl ?_
    refine ev_ldc2 dX5_set_7 w988 ?_
    refine ev_callSi (M := MX5_set) (M2 := MX5_in) (As := [.long p2.toInt64, .long 0, .long 3]) (rest := []) dX5_set_10 w877 moX5_in rfl ⟨Nat.le_of_ble_eq_true rfl, Nat.le_of_ble_eq_true rfl⟩ rfl rfl (Nat.le_of_ble_eq_true rfl) h (fun r10 d9 h => ?_)
    have h := rI_dn h
    refine ev_goto (M := MX5_set) (tgt := 55) dX5_set_13 rfl ?_
    exact h
set_option maxRecDepth 4000 in
theorem bk_X5_set_55 {q : Int32 → DD → Prop} {d : DD} {l1 : Int32} {l2 : Int32} {l3 : Int32} {k0 : Int32} (h : (Cn SM MX5_isTune [.ref 0, .int l1] d (rI fun r2 d1 => ((r2 = 0 → (Cn SM MX5_puts [.ref 0, .int 0, .int ((4 * l2) + l1), .int l3] d1 (rI fun r5 d4 => q r5 d4))) ∧ (¬ r2 = 0 → ((k0 = 0 → (Cn SM MX5_puts [.ref 0, .int 0, .int ((4 * l2) + l1), .int l3] d1 (rI fun r8 d7 => q r8 d7))) ∧ (¬ k0 = 0 → (Cn SM MX5_puts [.ref 0, .int 1, .int ((4 * l2) + l1), .int l3] d1 (rI fun r10 d9 => q r10 d9))))))))) : Ev SM MX5_set 55 [.ref 0, .int l1, .int l2, .int l3, uJ] [.int k0] d (rI q) := by
  refine ev_istore (M := MX5_set) (ls2 := [.ref 0, .int l1, .int l2, .int l3, .int k0]) dX5_set_55 (Nat.le_of_ble_eq_true rfl) rfl ?_
  refine ev_aload_n dX5_set_57 rfl ?_
  refine ev_aload_n dX5_set_58 rfl ?_
  refine ev_iload_n dX5_set_59 rfl ?_
  refine ev_callVi (M := MX5_set) (M2 := MX5_isTune) (As := [.int l1]) (rest := [.ref 0]) dX5_set_60 sM_0 ck5 rfl w941 moX5_isTune rfl ⟨Nat.le_of_ble_eq_true rfl, Nat.le_of_ble_eq_true rfl⟩ rfl rfl (Nat.le_of_ble_eq_true rfl) h (fun r2 d1 h => ?_)
  have h := rI_dn h
  refine ev_if_eq (M := MX5_set) (tgt := 75) dX5_set_63 rfl (fun c3 => ?_) (fun c3 => ?_)
  · have h := h.1 c3
    refine ev_iconst dX5_set_75 ci_0 ?_
    refine ev_iconst dX5_set_76 ci_4 ?_
    refine ev_iload_n dX5_set_77 rfl ?_
    refine ev_imul dX5_set_78 ?_
    refine ev_iload_n dX5_set_79 rfl ?_
    refine ev_iadd dX5_set_80 ?_
    refine ev_iload_n dX5_set_81 rfl ?_
    refine ev_callVi (M := MX5_set) (M2 := MX5_puts) (As := [.int 0, .int ((4 * l2) + l1), .int l3]) (rest := []) dX5_set_82 sM_0 ck5 rfl w1002 moX5_puts rfl ⟨Nat.le_of_ble_eq_true rfl, Nat.le_of_ble_eq_true rfl⟩ rfl rfl (Nat.le_of_ble_eq_true rfl) h (fun r5 d4 h => ?_)
    have h := rI_dn h
    exact ev_ireti (M := MX5_set) (ty := .int) dX5_set_85 rfl rfl rfl h
  · have h := h.2 c3
    refine ev_iload dX5_set_66 rfl ?_
    refine ev_if_eq (M := MX5_set) (tgt := 75) dX5_set_68 rfl (fun c6 => ?_) (fun c6 => ?_)
    · have h := h.1 c6
      refine ev_iconst dX5_set_75 ci_0 ?_
      refine ev_iconst dX5_set_76 ci_4 ?_
      refine ev_iload_n dX5_set_77 rfl ?_
      refine ev_imul dX5_set_78 ?_
      refine ev_iload_n dX5_set_79 rfl ?_
      refine ev_iadd dX5_set_80 ?_
      refine ev_iload_n dX5_set_81 rfl ?_
      refine ev_callVi (M := MX5_set) (M2 := MX5_puts) (As := [.int 0, .int ((4 * l2) + l1), .int l3]) (rest := []) dX5_set_82 sM_0 ck5 rfl w1002 moX5_puts rfl ⟨Nat.le_of_ble_eq_true rfl, Nat.le_of_ble_eq_true rfl⟩ rfl rfl (Nat.le_of_ble_eq_true rfl) h (fun r8 d7 h => ?_)
      have h := rI_dn h
      exact ev_ireti (M := MX5_set) (ty := .int) dX5_set_85 rfl rfl rfl h
    · have h := h.2 c6
      refine ev_iconst dX5_set_71 ci_1 ?_
      refine ev_goto (M := MX5_set) (tgt := 76) dX5_set_72 rfl ?_
      refine ev_iconst dX5_set_76 ci_4 ?_
      refine ev_iload_n dX5_set_77 rfl ?_
      refine ev_imul dX5_set_78 ?_
      refine ev_iload_n dX5_set_79 rfl ?_
      refine ev_iadd dX5_set_80 ?_
      refine ev_iload_n dX5_set_81 rfl ?_
      refine ev_callVi (M := MX5_set) (M2 := MX5_puts) (As := [.int 1, .int ((4 * l2) + l1), .int l3]) (rest := []) dX5_set_82 sM_0 ck5 rfl w1002 moX5_puts rfl ⟨Nat.le_of_ble_eq_true rfl, Nat.le_of_ble_eq_true rfl⟩ rfl rfl (Nat.le_of_ble_eq_true rfl) h (fun r10 d9 h => ?_)
      have h := rI_dn h
      exact ev_ireti (M := MX5_set) (ty := .int) dX5_set_85 rfl rfl rfl h
-- X5_hire
set_option maxRecDepth 4000 in
theorem cn_X5_hire {q : Int32 → DD → Prop} {d : DD} {p0 : Int32} {p1 : Int32} {p2 : Int32} (h : ((¬ p1 = 1 → ((¬ p1 = 3 → ((p1 = 0 → (Cn SM MX5_in [.long p2.toInt64, .long 0, .long 9] d (rI fun r5 d4 => ((r5 = 0 → Ev SM MX5_hire 56 [.ref 0, .int p0, .int p1, .int p2, uJ] [.int 0] d4 (rI q)) ∧ (¬ r5 = 0 → Ev SM MX5_hire 56 [.ref 0, .int p0, .int p1, .int p2, uJ] [.int 1] d4 (rI q)))))) ∧ (¬ p1 = 0 → ((¬ p1 = 2 → Ev SM MX5_hire 56 [.ref 0, .int p0, .int p1, .int p2, uJ] [.int 0] d (rI q)) ∧ (p1 = 2 → (Cn SM MX5_in [.long p2.toInt64, .long 0, .long 9] d (rI fun r9 d8 => ((r9 = 0 → Ev SM MX5_hire 56 [.ref 0, .int p0, .int p1, .int p2, uJ] [.int 0] d8 (rI q)) ∧ (¬ r9 = 0 → Ev SM MX5_hire 56 [.ref 0, .int p0, .int p1, .int p2, uJ] [.int 1] d8 (rI q)))))))))) ∧ (p1 = 3 → (Cn SM MX5_isTune [.ref 0, .int p2] d (rI fun r12 d11 => Ev SM MX5_hire 56 [.ref 0, .int p0, .int p1, .int p2, uJ] [.int r12] d11 (rI q)))))) ∧ (p1 = 1 → (Cn SM MX5_in [.long p2.toInt64, .long 1, .long 99] d (rI fun r14 d13 => Ev SM MX5_hire 56 [.ref 0, .int p0, .int p1, .int p2, uJ] [.int r14] d13 (rI q)))))) : Cn SM MX5_hire [.ref 0, .int p0, .int p1, .int p2] d (rI q) := by
  refine cn_of (ls := [.ref 0, .int p0, .int p1, .int p2, uJ]) (by decide) rfl rfl (Nat.le_of_ble_eq_true rfl) ?_
  refine ev_iload_n dX5_hire_0 rfl ?_
  refine ev_iconst dX5_hire_1 ci_1 ?_
  refine ev_icmp_ne (M := MX5_hire) (tgt := 17) dX5_hire_2 rfl (fun c1 => ?_) (fun c1 => ?_)
  · have h := h.1 c1
    refine ev_iload_n dX5_hire_17 rfl ?_
    refine ev_iconst dX5_hire_18 ci_3 ?_
    refine ev_icmp_ne (M := MX5_hire) (tgt := 30) dX5_hire_19 rfl (fun c2 => ?_) (fun c2 => ?_)
    · have h := h.1 c2
      refine ev_iload_n dX5_hire_30 rfl ?_
      refine ev_if_eq (M := MX5_hire) (tgt := 39) dX5_hire_31 rfl (fun c3 => ?_) (fun c3 => ?_)
      · have h := h.1 c3
        refine ev_iload_n dX5_hire_39 rfl ?_
        refine ev_i2l dX5_hire_40 ?_
        refine ev_lconst (M := MX5_hire) (v := 0) dX5_hire_41 rfl ?_
        refine ev_ldc2 dX5_hire_42 w1001 ?_
        refine ev_callSi (M := MX5_hire) (M2 := MX5_in) (As := [.long p2.toInt64, .long 0, .long 9]) (rest := []) dX5_hire_45 w877 moX5_in rfl ⟨Nat.le_of_ble_eq_true rfl, Nat.le_of_ble_eq_true rfl⟩ rfl rfl (Nat.le_of_ble_eq_true rfl) h (fun r5 d4 h => ?_)
        have h := rI_dn h
        refine ev_if_eq (M := MX5_hire) (tgt := 55) dX5_hire_48 rfl (fun c6 => ?_) (fun c6 => ?_)
        · have h := h.1 c6
          refine ev_iconst dX5_hire_55 ci_0 ?_
          exact h
        · have h := h.2 c6
          refine ev_iconst dX5_hire_51 ci_1 ?_
          refine ev_goto (M := MX5_hire) (tgt := 56) dX5_hire_52 rfl ?_
          exact h
      · have h := h.2 c3
        refine ev_iload_n dX5_hire_34 rfl ?_
        refine ev_iconst dX5_hire_35 ci_2 ?_
        refine ev_icmp_ne (M := MX5_hire) (tgt := 55) dX5_hire_36 rfl (fun c7 => ?_) (fun c7 => ?_)
        · have h := h.1 c7
          refine ev_iconst dX5_hire_55 ci_0 ?_
          exact h
        · have h := h.2 c7
          refine ev_iload_n dX5_hire_39 rfl ?_
          refine ev_i2l dX5_hire_40 ?_
          refine ev_lconst (M := MX5_hire) (v := 0) dX5_hire_41 rfl ?_
          refine ev_ldc2 dX5_hire_42 w1001 ?_
          refine ev_callSi (M := MX5_hire) (M2 := MX5_in) (As := [.long p2.toInt64, .long 0, .long 9]) (rest := []) dX5_hire_45 w877 moX5_in rfl ⟨Nat.le_of_ble_eq_true rfl, Nat.le_of_ble_eq_true rfl⟩ rfl rfl (Nat.le_of_ble_eq_true rfl) h (fun r9 d8 h => ?_)
          have h := rI_dn h
          refine ev_if_eq (M := MX5_hire) (tgt := 55) dX5_hire_48 rfl (fun c10 => ?_) (fun c10 => ?_)
          · have h := h.1 c10
            refine ev_iconst dX5_hire_55 ci_0 ?_
            exact h
          · have h := h.2 c10
            refine ev_iconst dX5_hire_51 ci_1 ?_
            refine ev_goto (M := MX5_hire) (tgt := 56) dX5_hire_52 rfl ?_
            exact h
    · have h := h.2 c2
      refine ev_aload_n dX5_hire_22 rfl ?_
      refine ev_iload_n dX5_hire_23 rfl ?_
      refine ev_callVi (M := MX5_hire) (M2 := MX5_isTune) (As := [.int p2]) (rest := []) dX5_hire_24 sM_0 ck5 rfl w941 moX5_isTune rfl ⟨Nat.le_of_ble_eq_true rfl, Nat.le_of_ble_eq_true rfl⟩ rfl rfl (Nat.le_of_ble_eq_true rfl) h (fun r12 d11 h => ?_)
      have h := rI_dn h
      refine ev_goto (M := MX5_hire) (tgt := 56) dX5_hire_27 rfl ?_
      exact h
  · have h := h.2 c1
    refine ev_iload_n dX5_hire_5 rfl ?_
    refine ev_i2l dX5_hire_6 ?_
    refine ev_lconst (M := MX5_hire) (v := 1) dX5_hire_7 rfl ?_
    refine ev_ldc2 dX5_hire_8 w1018 ?_
    refine ev_callSi (M := MX5_hire) (M2 := MX5_in) (As := [.long p2.toInt64, .long 1, .long 99]) (rest := []) dX5_hire_11 w877 moX5_in rfl ⟨Nat.le_of_ble_eq_true rfl, Nat.le_of_ble_eq_true rfl⟩ rfl rfl (Nat.le_of_ble_eq_true rfl) h (fun r14 d13 h => ?_)
    have h := rI_dn h
    refine ev_goto (M := MX5_hire) (tgt := 56) dX5_hire_14 rfl ?_
    exact h
set_option maxRecDepth 4000 in
theorem bk_X5_hire_56 {q : Int32 → DD → Prop} {d : DD} {l1 : Int32} {l2 : Int32} {l3 : Int32} {k0 : Int32} (h : (Cn SM MX5_isPlayer [.ref 0, .int l1] d (rI fun r2 d1 => ((r2 = 0 → Ev SM MX5_hire 77 [.ref 0, .int l1, .int l2, .int l3, .int k0] [.int 0, .ref 0] d1 (rI q)) ∧ (¬ r2 = 0 → ((k0 = 0 → Ev SM MX5_hire 77 [.ref 0, .int l1, .int l2, .int l3, .int k0] [.int 0, .ref 0] d1 (rI q)) ∧ (¬ k0 = 0 → Ev SM MX5_hire 77 [.ref 0, .int l1, .int l2, .int l3, .int k0] [.int 1, .ref 0] d1 (rI q)))))))) : Ev SM MX5_hire 56 [.ref 0, .int l1, .int l2, .int l3, uJ] [.int k0] d (rI q) := by
  refine ev_istore (M := MX5_hire) (ls2 := [.ref 0, .int l1, .int l2, .int l3, .int k0]) dX5_hire_56 (Nat.le_of_ble_eq_true rfl) rfl ?_
  refine ev_aload_n dX5_hire_58 rfl ?_
  refine ev_aload_n dX5_hire_59 rfl ?_
  refine ev_iload_n dX5_hire_60 rfl ?_
  refine ev_callVi (M := MX5_hire) (M2 := MX5_isPlayer) (As := [.int l1]) (rest := [.ref 0]) dX5_hire_61 sM_0 ck5 rfl w984 moX5_isPlayer rfl ⟨Nat.le_of_ble_eq_true rfl, Nat.le_of_ble_eq_true rfl⟩ rfl rfl (Nat.le_of_ble_eq_true rfl) h (fun r2 d1 h => ?_)
  have h := rI_dn h
  refine ev_if_eq (M := MX5_hire) (tgt := 76) dX5_hire_64 rfl (fun c3 => ?_) (fun c3 => ?_)
  · have h := h.1 c3
    refine ev_iconst dX5_hire_76 ci_0 ?_
    exact h
  · have h := h.2 c3
    refine ev_iload dX5_hire_67 rfl ?_
    refine ev_if_eq (M := MX5_hire) (tgt := 76) dX5_hire_69 rfl (fun c4 => ?_) (fun c4 => ?_)
    · have h := h.1 c4
      refine ev_iconst dX5_hire_76 ci_0 ?_
      exact h
    · have h := h.2 c4
      refine ev_iconst dX5_hire_72 ci_1 ?_
      refine ev_goto (M := MX5_hire) (tgt := 77) dX5_hire_73 rfl ?_
      exact h
set_option maxRecDepth 4000 in
theorem bk_X5_hire_77 {q : Int32 → DD → Prop} {d : DD} {l1 : Int32} {l2 : Int32} {l3 : Int32} {l4 : Int32} {k0 : Int32} (h : (Cn SM MX5_puts [.ref 0, .int k0, .int ((48 + (4 * l2)) + l1), .int l3] d (rI fun r2 d1 => q r2 d1))) : Ev SM MX5_hire 77 [.ref 0, .int l1, .int l2, .int l3, .int l4] [.int k0, .ref 0] d (rI q) := by
  refine ev_bipush dX5_hire_77 cb_48 ?_
  refine ev_iconst dX5_hire_79 ci_4 ?_
  refine ev_iload_n dX5_hire_80 rfl ?_
  refine ev_imul dX5_hire_81 ?_
  refine ev_iadd dX5_hire_82 ?_
  refine ev_iload_n dX5_hire_83 rfl ?_
  refine ev_iadd dX5_hire_84 ?_
  refine ev_iload_n dX5_hire_85 rfl ?_
  refine ev_callVi (M := MX5_hire) (M2 := MX5_puts) (As := [.int k0, .int ((48 + (4 * l2)) + l1), .int l3]) (rest := []) dX5_hire_86 sM_0 ck5 rfl w1002 moX5_puts rfl ⟨Nat.le_of_ble_eq_true rfl, Nat.le_of_ble_eq_true rfl⟩ rfl rfl (Nat.le_of_ble_eq_true rfl) h (fun r2 d1 h => ?_)
  have h := rI_dn h
  exact ev_ireti (M := MX5_hire) (ty := .int) dX5_hire_89 rfl rfl rfl h
-- X5_binds
theorem cn_X5_binds {q : Int32 → DD → Prop} {d : DD} {p0 : Int32} {p1 : Int32} (h : (Cn SM MX5_isBound [.ref 0, .int p0] d (rI fun r2 d1 => ((r2 = 0 → q (-1) d1) ∧ (¬ r2 = 0 → (Cn SM MX5_isTune [.ref 0, .int p1] d1 (rI fun r5 d4 => ((¬ r5 = 0 → (vp_in (64 + p0) 350 ∧ ((¬ (d4 1 (64 + p0).toNatClampNeg) = p1 → (Cn SM MX5_puts [.ref 0, .int 1, .int (64 + p0), .int p1] d4 (rI fun r9 d8 => q r9 d8))) ∧ ((d4 1 (64 + p0).toNatClampNeg) = p1 → q (-2) d4)))) ∧ (r5 = 0 → q (-1) d4))))))))) : Cn SM MX5_binds [.ref 0, .int p0, .int p1] d (rI q) := by
  refine cn_of (ls := [.ref 0, .int p0, .int p1]) (by decide) rfl rfl (Nat.le_of_ble_eq_true rfl) ?_
  refine ev_aload_n dX5_binds_0 rfl ?_
  refine ev_iload_n dX5_binds_1 rfl ?_
  refine ev_callVi (M := MX5_binds) (M2 := MX5_isBound) (As := [.int p0]) (rest := []) dX5_binds_2 sM_0 ck5 rfl w993 moX5_isBound rfl ⟨Nat.le_of_ble_eq_true rfl, Nat.le_of_ble_eq_true rfl⟩ rfl rfl (Nat.le_of_ble_eq_true rfl) h (fun r2 d1 h => ?_)
  have h := rI_dn h
  refine ev_if_eq (M := MX5_binds) (tgt := 16) dX5_binds_5 rfl (fun c3 => ?_) (fun c3 => ?_)
  · have h := h.1 c3
    refine ev_iconst dX5_binds_16 ci_m1 ?_
    exact ev_ireti (M := MX5_binds) (ty := .int) dX5_binds_17 rfl rfl rfl h
  · have h := h.2 c3
    refine ev_aload_n dX5_binds_8 rfl ?_
    refine ev_iload_n dX5_binds_9 rfl ?_
    refine ev_callVi (M := MX5_binds) (M2 := MX5_isTune) (As := [.int p1]) (rest := []) dX5_binds_10 sM_0 ck5 rfl w941 moX5_isTune rfl ⟨Nat.le_of_ble_eq_true rfl, Nat.le_of_ble_eq_true rfl⟩ rfl rfl (Nat.le_of_ble_eq_true rfl) h (fun r5 d4 h => ?_)
    have h := rI_dn h
    refine ev_if_ne (M := MX5_binds) (tgt := 18) dX5_binds_13 rfl (fun c6 => ?_) (fun c6 => ?_)
    · have h := h.1 c6
      refine ev_aload_n dX5_binds_18 rfl ?_
      refine ev_getr (M := MX5_binds) (r := 1) 0 dX5_binds_19 sM_0 ck5 (Nat.le_of_ble_eq_true rfl) rfl w766 ?_
      refine ev_bipush dX5_binds_22 cb_64 ?_
      refine ev_iload_n dX5_binds_24 rfl ?_
      refine ev_iadd dX5_binds_25 ?_
      obtain ⟨g, h⟩ := h
      refine ev_iald dX5_binds_26 sM_1 g ?_
      refine ev_iload_n dX5_binds_27 rfl ?_
      refine ev_icmp_ne (M := MX5_binds) (tgt := 36) dX5_binds_28 rfl (fun c7 => ?_) (fun c7 => ?_)
      · have h := h.1 c7
        refine ev_aload_n dX5_binds_36 rfl ?_
        refine ev_iconst dX5_binds_37 ci_1 ?_
        refine ev_bipush dX5_binds_38 cb_64 ?_
        refine ev_iload_n dX5_binds_40 rfl ?_
        refine ev_iadd dX5_binds_41 ?_
        refine ev_iload_n dX5_binds_42 rfl ?_
        refine ev_callVi (M := MX5_binds) (M2 := MX5_puts) (As := [.int 1, .int (64 + p0), .int p1]) (rest := []) dX5_binds_43 sM_0 ck5 rfl w1002 moX5_puts rfl ⟨Nat.le_of_ble_eq_true rfl, Nat.le_of_ble_eq_true rfl⟩ rfl rfl (Nat.le_of_ble_eq_true rfl) h (fun r9 d8 h => ?_)
        have h := rI_dn h
        exact ev_ireti (M := MX5_binds) (ty := .int) dX5_binds_46 rfl rfl rfl h
      · have h := h.2 c7
        refine ev_bipush dX5_binds_31 cb_m2 ?_
        refine ev_goto (M := MX5_binds) (tgt := 46) dX5_binds_33 rfl ?_
        exact ev_ireti (M := MX5_binds) (ty := .int) dX5_binds_46 rfl rfl rfl h
    · have h := h.2 c6
      refine ev_iconst dX5_binds_16 ci_m1 ?_
      exact ev_ireti (M := MX5_binds) (ty := .int) dX5_binds_17 rfl rfl rfl h
-- X5_bind
theorem cn_X5_bind {q : Int32 → DD → Prop} {d : DD} {p0 : Int32} {p1 : Int32} (h : (Cn SM MX5_binds [.ref 0, .int p0, .int p1] d (rI fun r2 d1 => q r2 d1))) : Cn SM MX5_bind [.ref 0, .int p0, .int p1] d (rI q) := by
  refine cn_of (ls := [.ref 0, .int p0, .int p1]) (by decide) rfl rfl (Nat.le_of_ble_eq_true rfl) ?_
  refine ev_aload_n dX5_bind_0 rfl ?_
  refine ev_iload_n dX5_bind_1 rfl ?_
  refine ev_iload_n dX5_bind_2 rfl ?_
  refine ev_callVi (M := MX5_bind) (M2 := MX5_binds) (As := [.int p0, .int p1]) (rest := []) dX5_bind_3 sM_0 ck5 rfl w1023 moX5_binds rfl ⟨Nat.le_of_ble_eq_true rfl, Nat.le_of_ble_eq_true rfl⟩ rfl rfl (Nat.le_of_ble_eq_true rfl) h (fun r2 d1 h => ?_)
  have h := rI_dn h
  exact ev_ireti (M := MX5_bind) (ty := .int) dX5_bind_6 rfl rfl rfl h
-- X5_playerAt
theorem cn_X5_playerAt {q : Int32 → DD → Prop} {d : DD} {p0 : Int32} (h : Ev SM MX5_playerAt 2 [.ref 0, .int p0, .int 0] [] d (rI q)) : Cn SM MX5_playerAt [.ref 0, .int p0] d (rI q) := by
  refine cn_of (ls := [.ref 0, .int p0, uJ]) (by decide) rfl rfl (Nat.le_of_ble_eq_true rfl) ?_
  refine ev_iconst dX5_playerAt_0 ci_0 ?_
  refine ev_istore_n (M := MX5_playerAt) (ls2 := [.ref 0, .int p0, .int 0]) 2 dX5_playerAt_1 rfl (Nat.le_of_ble_eq_true rfl) rfl ?_
  exact h
theorem bk_X5_playerAt_2 {q : Int32 → DD → Prop} {d : DD} {l1 : Int32} {l2 : Int32} (h : (((d 0 2) ≤ l2 → q (-4) d) ∧ (¬ (d 0 2) ≤ l2 → (vp_in (60 + l2) 350 ∧ ((¬ (d 1 (60 + l2).toNatClampNeg) = l1 → Ev SM MX5_playerAt 2 [.ref 0, .int l1, .int (l2 + 1)] [] d (rI q)) ∧ ((d 1 (60 + l2).toNatClampNeg) = l1 → (vp_in l2 4 ∧ (((d 6 l2.toNatClampNeg) ≤ 0 → Ev SM MX5_playerAt 2 [.ref 0, .int l1, .int (l2 + 1)] [] d (rI q)) ∧ (¬ (d 6 l2.toNatClampNeg) ≤ 0 → ((¬ (((d 0 26) >>> (l2 &&& 31)) &&& 1) = 0 → Ev SM MX5_playerAt 2 [.ref 0, .int l1, .int (l2 + 1)] [] d (rI q)) ∧ ((((d 0 26) >>> (l2 &&& 31)) &&& 1) = 0 → q l2 d))))))))))) : Ev SM MX5_playerAt 2 [.ref 0, .int l1, .int l2] [] d (rI q) := by
  refine ev_iload_n dX5_playerAt_2 rfl ?_
  refine ev_aload_n dX5_playerAt_3 rfl ?_
  refine ev_get 2 dX5_playerAt_4 sM_0 ck5 (Nat.le_of_ble_eq_true rfl) rfl w768 ?_
  refine ev_icmp_ge (M := MX5_playerAt) (tgt := 51) dX5_playerAt_7 rfl (fun c1 => ?_) (fun c1 => ?_)
  · have h := h.1 c1
    refine ev_bipush dX5_playerAt_51 cb_m4 ?_
    exact ev_ireti (M := MX5_playerAt) (ty := .int) dX5_playerAt_53 rfl rfl rfl h
  · have h := h.2 c1
    refine ev_aload_n dX5_playerAt_10 rfl ?_
    refine ev_getr (M := MX5_playerAt) (r := 1) 0 dX5_playerAt_11 sM_0 ck5 (Nat.le_of_ble_eq_true rfl) rfl w766 ?_
    refine ev_bipush dX5_playerAt_14 cb_60 ?_
    refine ev_iload_n dX5_playerAt_16 rfl ?_
    refine ev_iadd dX5_playerAt_17 ?_
    obtain ⟨g, h⟩ := h
    refine ev_iald dX5_playerAt_18 sM_1 g ?_
    refine ev_iload_n dX5_playerAt_19 rfl ?_
    refine ev_icmp_ne (M := MX5_playerAt) (tgt := 45) dX5_playerAt_20 rfl (fun c2 => ?_) (fun c2 => ?_)
    · have h := h.1 c2
      refine ev_iinc (M := MX5_playerAt) (ls2 := [.ref 0, .int l1, .int (l2 + 1)]) dX5_playerAt_45 rfl (iin ci_1) (Nat.le_of_ble_eq_true rfl) rfl ?_
      refine ev_goto (M := MX5_playerAt) (tgt := 2) dX5_playerAt_48 rfl ?_
      exact h
    · have h := h.2 c2
      refine ev_aload_n dX5_playerAt_23 rfl ?_
      refine ev_getr (M := MX5_playerAt) (r := 6) 20 dX5_playerAt_24 sM_0 ck5 (Nat.le_of_ble_eq_true rfl) rfl w786 ?_
      refine ev_iload_n dX5_playerAt_27 rfl ?_
      obtain ⟨g, h⟩ := h
      refine ev_iald dX5_playerAt_28 sM_6 g ?_
      refine ev_if_le (M := MX5_playerAt) (tgt := 45) dX5_playerAt_29 rfl (fun c3 => ?_) (fun c3 => ?_)
      · have h := h.1 c3
        refine ev_iinc (M := MX5_playerAt) (ls2 := [.ref 0, .int l1, .int (l2 + 1)]) dX5_playerAt_45 rfl (iin ci_1) (Nat.le_of_ble_eq_true rfl) rfl ?_
        refine ev_goto (M := MX5_playerAt) (tgt := 2) dX5_playerAt_48 rfl ?_
        exact h
      · have h := h.2 c3
        refine ev_aload_n dX5_playerAt_32 rfl ?_
        refine ev_get 26 dX5_playerAt_33 sM_0 ck5 (Nat.le_of_ble_eq_true rfl) rfl w792 ?_
        refine ev_iload_n dX5_playerAt_36 rfl ?_
        refine ev_ishr dX5_playerAt_37 ?_
        refine ev_iconst dX5_playerAt_38 ci_1 ?_
        refine ev_iand dX5_playerAt_39 ?_
        refine ev_if_ne (M := MX5_playerAt) (tgt := 45) dX5_playerAt_40 rfl (fun c4 => ?_) (fun c4 => ?_)
        · have h := h.1 c4
          refine ev_iinc (M := MX5_playerAt) (ls2 := [.ref 0, .int l1, .int (l2 + 1)]) dX5_playerAt_45 rfl (iin ci_1) (Nat.le_of_ble_eq_true rfl) rfl ?_
          refine ev_goto (M := MX5_playerAt) (tgt := 2) dX5_playerAt_48 rfl ?_
          exact h
        · have h := h.2 c4
          refine ev_iload_n dX5_playerAt_43 rfl ?_
          exact ev_ireti (M := MX5_playerAt) (ty := .int) dX5_playerAt_44 rfl rfl rfl h
-- X5_ends
theorem cn_X5_ends {q : DD → Prop} {d : DD} {p0 : Int32} {p1 : Int32} {p2 : Int32} (h : (vp_in p0 4 ∧ (∀ d1 : DD, d1 = (up d 8 p0.toNatClampNeg p1) → (vp_in p0 4 ∧ (∀ d2 : DD, d2 = (up d1 9 p0.toNatClampNeg p2) → q d2))))) : Cn SM MX5_ends [.ref 0, .int p0, .int p1, .int p2] d (rV q) := by
  refine cn_of (ls := [.ref 0, .int p0, .int p1, .int p2]) (by decide) rfl rfl (Nat.le_of_ble_eq_true rfl) ?_
  refine ev_aload_n dX5_ends_0 rfl ?_
  refine ev_getr (M := MX5_ends) (r := 8) 22 dX5_ends_1 sM_0 ck5 (Nat.le_of_ble_eq_true rfl) rfl w788 ?_
  refine ev_iload_n dX5_ends_4 rfl ?_
  refine ev_iload_n dX5_ends_5 rfl ?_
  obtain ⟨g, h⟩ := h
  refine ev_iast dX5_ends_6 sM_8 g ?_
  refine ev_topd (fun d1 ed1 => ?_)
  have h := h d1 ed1
  refine ev_aload_n dX5_ends_7 rfl ?_
  refine ev_getr (M := MX5_ends) (r := 9) 23 dX5_ends_8 sM_0 ck5 (Nat.le_of_ble_eq_true rfl) rfl w789 ?_
  refine ev_iload_n dX5_ends_11 rfl ?_
  refine ev_iload_n dX5_ends_12 rfl ?_
  obtain ⟨g, h⟩ := h
  refine ev_iast dX5_ends_13 sM_9 g ?_
  refine ev_topd (fun d2 ed2 => ?_)
  have h := h d2 ed2
  exact ev_ret (M := MX5_ends) dX5_ends_14 rfl rfl h
-- X5_doesSound
set_option maxRecDepth 4000 in
theorem cn_X5_doesSound {q : Int32 → DD → Prop} {d : DD} {p0 : Int32} {p1 : Int32} (h : (vp_in p0 4 ∧ ((¬ (d 8 p0.toNatClampNeg) = (-4) → q 0 d) ∧ ((d 8 p0.toNatClampNeg) = (-4) → (vp_in (12 + p0) 350 ∧ (((d 1 (12 + p0).toNatClampNeg) ≤ p1 → (vp_in p0 4 ∧ (Cn SM MX5_lengthOf [.ref 0, .int p0] d (rI fun r4 d3 => ((¬ (d 10 p0.toNatClampNeg) = r4 → (Cn SM MX5_playerAt [.ref 0, .int p0] d3 (rI fun r7 d6 => ((¬ r7 = (-4) → (vp_in r7 4 ∧ (vp_in r7 4 ∧ (∀ d9 : DD, d9 = (up d6 6 r7.toNatClampNeg ((d6 6 r7.toNatClampNeg) - 1)) → (vp_in r7 4 ∧ (vp_in r7 4 ∧ (∀ d10 : DD, d10 = (up d9 7 r7.toNatClampNeg ((d9 7 r7.toNatClampNeg) + 1)) → (vp_in p0 350 ∧ (Cn SM MX5_noteBy [.ref 0, .int p0, .int (d10 1 p0.toNatClampNeg), .int p1] d10 (rI fun r12 d11 => (vp_in (48 + r7) 350 ∧ ((r12 ≤ (d11 1 (48 + r7).toNatClampNeg) → (vp_in p0 4 ∧ (vp_in p0 4 ∧ (∀ d14 : DD, d14 = (up d11 10 p0.toNatClampNeg ((d11 10 p0.toNatClampNeg) + 1)) → q 1 d14)))) ∧ (¬ r12 ≤ (d11 1 (48 + r7).toNatClampNeg) → (Cn SM MX5_ends [.ref 0, .int p0, .int p1, .int 1] d11 (rV fun d15 => q 0 d15))))))))))))))) ∧ (r7 = (-4) → (Cn SM MX5_ends [.ref 0, .int p0, .int p1, .int 2] d6 (rV fun d16 => q 0 d16))))))) ∧ ((d 10 p0.toNatClampNeg) = r4 → (Cn SM MX5_ends [.ref 0, .int p0, .int p1, .int 0] d3 (rV fun d17 => q 0 d17)))))))) ∧ (¬ (d 1 (12 + p0).toNatClampNeg) ≤ p1 → q 0 d))))))) : Cn SM MX5_doesSound [.ref 0, .int p0, .int p1] d (rI q) := by
  refine cn_of (ls := [.ref 0, .int p0, .int p1, uJ]) (by decide) rfl rfl (Nat.le_of_ble_eq_true rfl) ?_
  refine ev_aload_n dX5_doesSound_0 rfl ?_
  refine ev_getr (M := MX5_doesSound) (r := 8) 22 dX5_doesSound_1 sM_0 ck5 (Nat.le_of_ble_eq_true rfl) rfl w788 ?_
  refine ev_iload_n dX5_doesSound_4 rfl ?_
  obtain ⟨g, h⟩ := h
  refine ev_iald dX5_doesSound_5 sM_8 g ?_
  refine ev_bipush dX5_doesSound_6 cb_m4 ?_
  refine ev_icmp_ne (M := MX5_doesSound) (tgt := 24) dX5_doesSound_8 rfl (fun c1 => ?_) (fun c1 => ?_)
  · have h := h.1 c1
    refine ev_iconst dX5_doesSound_24 ci_0 ?_
    exact ev_ireti (M := MX5_doesSound) (ty := .boolean) dX5_doesSound_25 rfl rfl rfl h
  · have h := h.2 c1
    refine ev_iload_n dX5_doesSound_11 rfl ?_
    refine ev_aload_n dX5_doesSound_12 rfl ?_
    refine ev_getr (M := MX5_doesSound) (r := 1) 0 dX5_doesSound_13 sM_0 ck5 (Nat.le_of_ble_eq_true rfl) rfl w766 ?_
    refine ev_bipush dX5_doesSound_16 cb_12 ?_
    refine ev_iload_n dX5_doesSound_18 rfl ?_
    refine ev_iadd dX5_doesSound_19 ?_
    obtain ⟨g, h⟩ := h
    refine ev_iald dX5_doesSound_20 sM_1 g ?_
    refine ev_icmp_ge (M := MX5_doesSound) (tgt := 26) dX5_doesSound_21 rfl (fun c2 => ?_) (fun c2 => ?_)
    · have h := h.1 c2
      refine ev_aload_n dX5_doesSound_26 rfl ?_
      refine ev_getr (M := MX5_doesSound) (r := 10) 24 dX5_doesSound_27 sM_0 ck5 (Nat.le_of_ble_eq_true rfl) rfl w790 ?_
      refine ev_iload_n dX5_doesSound_30 rfl ?_
      obtain ⟨g, h⟩ := h
      refine ev_iald dX5_doesSound_31 sM_10 g ?_
      refine ev_aload_n dX5_doesSound_32 rfl ?_
      refine ev_iload_n dX5_doesSound_33 rfl ?_
      refine ev_callVi (M := MX5_doesSound) (M2 := MX5_lengthOf) (As := [.int p0]) (rest := [.int (d 10 p0.toNatClampNeg)]) dX5_doesSound_34 sM_0 ck5 rfl w945 moX5_lengthOf rfl ⟨Nat.le_of_ble_eq_true rfl, Nat.le_of_ble_eq_true rfl⟩ rfl rfl (Nat.le_of_ble_eq_true rfl) h (fun r4 d3 h => ?_)
      have h := rI_dn h
      refine ev_icmp_ne (M := MX5_doesSound) (tgt := 49) dX5_doesSound_37 rfl (fun c5 => ?_) (fun c5 => ?_)
      · have h := h.1 c5
        refine ev_aload_n dX5_doesSound_49 rfl ?_
        refine ev_iload_n dX5_doesSound_50 rfl ?_
        refine ev_callVi (M := MX5_doesSound) (M2 := MX5_playerAt) (As := [.int p0]) (rest := []) dX5_doesSound_51 sM_0 ck5 rfl w1043 moX5_playerAt rfl ⟨Nat.le_of_ble_eq_true rfl, Nat.le_of_ble_eq_true rfl⟩ rfl rfl (Nat.le_of_ble_eq_true rfl) h (fun r7 d6 h => ?_)
        have h := rI_dn h
        refine ev_istore_n (M := MX5_doesSound) (ls2 := [.ref 0, .int p0, .int p1, .int r7]) 3 dX5_doesSound_54 rfl (Nat.le_of_ble_eq_true rfl) rfl ?_
        refine ev_iload_n dX5_doesSound_55 rfl ?_
        refine ev_bipush dX5_doesSound_56 cb_m4 ?_
        refine ev_icmp_ne (M := MX5_doesSound) (tgt := 70) dX5_doesSound_58 rfl (fun c8 => ?_) (fun c8 => ?_)
        · have h := h.1 c8
          refine ev_aload_n dX5_doesSound_70 rfl ?_
          refine ev_getr (M := MX5_doesSound) (r := 6) 20 dX5_doesSound_71 sM_0 ck5 (Nat.le_of_ble_eq_true rfl) rfl w786 ?_
          refine ev_iload_n dX5_doesSound_74 rfl ?_
          refine ev_dup2 dX5_doesSound_75 rfl rfl ?_
          obtain ⟨g, h⟩ := h
          refine ev_iald dX5_doesSound_76 sM_6 g ?_
          refine ev_iconst dX5_doesSound_77 ci_1 ?_
          refine ev_isub dX5_doesSound_78 ?_
          obtain ⟨g, h⟩ := h
          refine ev_iast dX5_doesSound_79 sM_6 g ?_
          refine ev_topd (fun d9 ed9 => ?_)
          have h := h d9 ed9
          refine ev_aload_n dX5_doesSound_80 rfl ?_
          refine ev_getr (M := MX5_doesSound) (r := 7) 21 dX5_doesSound_81 sM_0 ck5 (Nat.le_of_ble_eq_true rfl) rfl w787 ?_
          refine ev_iload_n dX5_doesSound_84 rfl ?_
          refine ev_dup2 dX5_doesSound_85 rfl rfl ?_
          obtain ⟨g, h⟩ := h
          refine ev_iald dX5_doesSound_86 sM_7 g ?_
          refine ev_iconst dX5_doesSound_87 ci_1 ?_
          refine ev_iadd dX5_doesSound_88 ?_
          obtain ⟨g, h⟩ := h
          refine ev_iast dX5_doesSound_89 sM_7 g ?_
          refine ev_topd (fun d10 ed10 => ?_)
          have h := h d10 ed10
          refine ev_aload_n dX5_doesSound_90 rfl ?_
          refine ev_iload_n dX5_doesSound_91 rfl ?_
          refine ev_aload_n dX5_doesSound_92 rfl ?_
          refine ev_getr (M := MX5_doesSound) (r := 1) 0 dX5_doesSound_93 sM_0 ck5 (Nat.le_of_ble_eq_true rfl) rfl w766 ?_
          refine ev_iload_n dX5_doesSound_96 rfl ?_
          obtain ⟨g, h⟩ := h
          refine ev_iald dX5_doesSound_97 sM_1 g ?_
          refine ev_iload_n dX5_doesSound_98 rfl ?_
          refine ev_callVi (M := MX5_doesSound) (M2 := MX5_noteBy) (As := [.int p0, .int (d10 1 p0.toNatClampNeg), .int p1]) (rest := []) dX5_doesSound_99 sM_0 ck5 rfl w976 moX5_noteBy rfl ⟨Nat.le_of_ble_eq_true rfl, Nat.le_of_ble_eq_true rfl⟩ rfl rfl (Nat.le_of_ble_eq_true rfl) h (fun r12 d11 h => ?_)
          have h := rI_dn h
          refine ev_aload_n dX5_doesSound_102 rfl ?_
          refine ev_getr (M := MX5_doesSound) (r := 1) 0 dX5_doesSound_103 sM_0 ck5 (Nat.le_of_ble_eq_true rfl) rfl w766 ?_
          refine ev_bipush dX5_doesSound_106 cb_48 ?_
          refine ev_iload_n dX5_doesSound_108 rfl ?_
          refine ev_iadd dX5_doesSound_109 ?_
          obtain ⟨g, h⟩ := h
          refine ev_iald dX5_doesSound_110 sM_1 g ?_
          refine ev_icmp_le (M := MX5_doesSound) (tgt := 123) dX5_doesSound_111 rfl (fun c13 => ?_) (fun c13 => ?_)
          · have h := h.1 c13
            refine ev_aload_n dX5_doesSound_123 rfl ?_
            refine ev_getr (M := MX5_doesSound) (r := 10) 24 dX5_doesSound_124 sM_0 ck5 (Nat.le_of_ble_eq_true rfl) rfl w790 ?_
            refine ev_iload_n dX5_doesSound_127 rfl ?_
            refine ev_dup2 dX5_doesSound_128 rfl rfl ?_
            obtain ⟨g, h⟩ := h
            refine ev_iald dX5_doesSound_129 sM_10 g ?_
            refine ev_iconst dX5_doesSound_130 ci_1 ?_
            refine ev_iadd dX5_doesSound_131 ?_
            obtain ⟨g, h⟩ := h
            refine ev_iast dX5_doesSound_132 sM_10 g ?_
            refine ev_topd (fun d14 ed14 => ?_)
            have h := h d14 ed14
            refine ev_iconst dX5_doesSound_133 ci_1 ?_
            exact ev_ireti (M := MX5_doesSound) (ty := .boolean) dX5_doesSound_134 rfl rfl rfl h
          · have h := h.2 c13
            refine ev_aload_n dX5_doesSound_114 rfl ?_
            refine ev_iload_n dX5_doesSound_115 rfl ?_
            refine ev_iload_n dX5_doesSound_116 rfl ?_
            refine ev_iconst dX5_doesSound_117 ci_1 ?_
            refine ev_callVv (M := MX5_doesSound) (M2 := MX5_ends) (As := [.int p0, .int p1, .int 1]) (rest := []) dX5_doesSound_118 sM_0 ck5 rfl w1039 moX5_ends rfl ⟨Nat.le_of_ble_eq_true rfl, Nat.le_of_ble_eq_true rfl⟩ rfl rfl (Nat.le_of_ble_eq_true rfl) h (fun d15 h => ?_)
            have h := rV_dn h
            refine ev_iconst dX5_doesSound_121 ci_0 ?_
            exact ev_ireti (M := MX5_doesSound) (ty := .boolean) dX5_doesSound_122 rfl rfl rfl h
        · have h := h.2 c8
          refine ev_aload_n dX5_doesSound_61 rfl ?_
          refine ev_iload_n dX5_doesSound_62 rfl ?_
          refine ev_iload_n dX5_doesSound_63 rfl ?_
          refine ev_iconst dX5_doesSound_64 ci_2 ?_
          refine ev_callVv (M := MX5_doesSound) (M2 := MX5_ends) (As := [.int p0, .int p1, .int 2]) (rest := []) dX5_doesSound_65 sM_0 ck5 rfl w1039 moX5_ends rfl ⟨Nat.le_of_ble_eq_true rfl, Nat.le_of_ble_eq_true rfl⟩ rfl rfl (Nat.le_of_ble_eq_true rfl) h (fun d16 h => ?_)
          have h := rV_dn h
          refine ev_iconst dX5_doesSound_68 ci_0 ?_
          exact ev_ireti (M := MX5_doesSound) (ty := .boolean) dX5_doesSound_69 rfl rfl rfl h
      · have h := h.2 c5
        refine ev_aload_n dX5_doesSound_40 rfl ?_
        refine ev_iload_n dX5_doesSound_41 rfl ?_
        refine ev_iload_n dX5_doesSound_42 rfl ?_
        refine ev_iconst dX5_doesSound_43 ci_0 ?_
        refine ev_callVv (M := MX5_doesSound) (M2 := MX5_ends) (As := [.int p0, .int p1, .int 0]) (rest := []) dX5_doesSound_44 sM_0 ck5 rfl w1039 moX5_ends rfl ⟨Nat.le_of_ble_eq_true rfl, Nat.le_of_ble_eq_true rfl⟩ rfl rfl (Nat.le_of_ble_eq_true rfl) h (fun d17 h => ?_)
        have h := rV_dn h
        refine ev_iconst dX5_doesSound_47 ci_0 ?_
        exact ev_ireti (M := MX5_doesSound) (ty := .boolean) dX5_doesSound_48 rfl rfl rfl h
    · have h := h.2 c2
      refine ev_iconst dX5_doesSound_24 ci_0 ?_
      exact ev_ireti (M := MX5_doesSound) (ty := .boolean) dX5_doesSound_25 rfl rfl rfl h
-- X5_crosses
set_option maxRecDepth 4000 in
theorem cn_X5_crosses {q : DD → Prop} {d : DD} {p0 : Int32} (h : Ev SM MX5_crosses 2 [.ref 0, .int p0, .int 0, uJ, uJ, uJ] [] d (rV q)) : Cn SM MX5_crosses [.ref 0, .int p0] d (rV q) := by
  refine cn_of (ls := [.ref 0, .int p0, uJ, uJ, uJ, uJ]) (by decide) rfl rfl (Nat.le_of_ble_eq_true rfl) ?_
  refine ev_iconst dX5_crosses_0 ci_0 ?_
  refine ev_istore_n (M := MX5_crosses) (ls2 := [.ref 0, .int p0, .int 0, uJ, uJ, uJ]) 2 dX5_crosses_1 rfl (Nat.le_of_ble_eq_true rfl) rfl ?_
  exact h
set_option maxRecDepth 4000 in
theorem bk_X5_crosses_2 {q : DD → Prop} {d : DD} {l1 : Int32} {l2 : Int32} (h : (((d 0 1) ≤ l2 → q d) ∧ (¬ (d 0 1) ≤ l2 → Ev SM MX5_crosses 14 [.ref 0, .int l1, .int l2, .int (l2 + 1), uJ, uJ] [] d (rV q)))) : Ev SM MX5_crosses 2 [.ref 0, .int l1, .int l2, uJ, uJ, uJ] [] d (rV q) := by
  refine ev_iload_n dX5_crosses_2 rfl ?_
  refine ev_aload_n dX5_crosses_3 rfl ?_
  refine ev_get 1 dX5_crosses_4 sM_0 ck5 (Nat.le_of_ble_eq_true rfl) rfl w767 ?_
  refine ev_icmp_ge (M := MX5_crosses) (tgt := 174) dX5_crosses_7 rfl (fun c1 => ?_) (fun c1 => ?_)
  · have h := h.1 c1
    exact ev_ret (M := MX5_crosses) dX5_crosses_174 rfl rfl h
  · have h := h.2 c1
    refine ev_iload_n dX5_crosses_10 rfl ?_
    refine ev_iconst dX5_crosses_11 ci_1 ?_
    refine ev_iadd dX5_crosses_12 ?_
    refine ev_istore_n (M := MX5_crosses) (ls2 := [.ref 0, .int l1, .int l2, .int (l2 + 1), uJ, uJ]) 3 dX5_crosses_13 rfl (Nat.le_of_ble_eq_true rfl) rfl ?_
    exact h
set_option maxRecDepth 4000 in
theorem bk_X5_crosses_14 {q : DD → Prop} {d : DD} {l1 : Int32} {l2 : Int32} {l3 : Int32} (h : (((d 0 1) ≤ l3 → Ev SM MX5_crosses 2 [.ref 0, .int l1, .int (l2 + 1), uJ, uJ, uJ] [] d (rV q)) ∧ (¬ (d 0 1) ≤ l3 → (vp_in l1 160 ∧ ((¬ (((d 11 l1.toNatClampNeg) >>> (l2 &&& 31)) &&& 1) = 1 → Ev SM MX5_crosses 55 [.ref 0, .int l1, .int l2, .int l3, uJ, uJ] [.int 0] d (rV q)) ∧ ((((d 11 l1.toNatClampNeg) >>> (l2 &&& 31)) &&& 1) = 1 → (vp_in l1 160 ∧ ((¬ (((d 11 l1.toNatClampNeg) >>> (l3 &&& 31)) &&& 1) = 1 → Ev SM MX5_crosses 55 [.ref 0, .int l1, .int l2, .int l3, uJ, uJ] [.int 0] d (rV q)) ∧ ((((d 11 l1.toNatClampNeg) >>> (l3 &&& 31)) &&& 1) = 1 → Ev SM MX5_crosses 55 [.ref 0, .int l1, .int l2, .int l3, uJ, uJ] [.int 1] d (rV q)))))))))) : Ev SM MX5_crosses 14 [.ref 0, .int l1, .int l2, .int l3, uJ, uJ] [] d (rV q) := by
  refine ev_iload_n dX5_crosses_14 rfl ?_
  refine ev_aload_n dX5_crosses_15 rfl ?_
  refine ev_get 1 dX5_crosses_16 sM_0 ck5 (Nat.le_of_ble_eq_true rfl) rfl w767 ?_
  refine ev_icmp_ge (M := MX5_crosses) (tgt := 168) dX5_crosses_19 rfl (fun c1 => ?_) (fun c1 => ?_)
  · have h := h.1 c1
    refine ev_iinc (M := MX5_crosses) (ls2 := [.ref 0, .int l1, .int (l2 + 1), .int l3, uJ, uJ]) dX5_crosses_168 rfl (iin ci_1) (Nat.le_of_ble_eq_true rfl) rfl ?_
    refine ev_goto (M := MX5_crosses) (tgt := 2) dX5_crosses_171 rfl ?_
    refine Ev.forget (ls2 := [.ref 0, .int l1, .int (l2 + 1), uJ, uJ, uJ]) ?_ (fun i v hi hv => lsub_of (bs := [false, false, false, true, false, false]) rfl i v hi hv)
    exact h
  · have h := h.2 c1
    refine ev_aload_n dX5_crosses_22 rfl ?_
    refine ev_getr (M := MX5_crosses) (r := 11) 25 dX5_crosses_23 sM_0 ck5 (Nat.le_of_ble_eq_true rfl) rfl w791 ?_
    refine ev_iload_n dX5_crosses_26 rfl ?_
    obtain ⟨g, h⟩ := h
    refine ev_iald dX5_crosses_27 sM_11 g ?_
    refine ev_iload_n dX5_crosses_28 rfl ?_
    refine ev_ishr dX5_crosses_29 ?_
    refine ev_iconst dX5_crosses_30 ci_1 ?_
    refine ev_iand dX5_crosses_31 ?_
    refine ev_iconst dX5_crosses_32 ci_1 ?_
    refine ev_icmp_ne (M := MX5_crosses) (tgt := 54) dX5_crosses_33 rfl (fun c2 => ?_) (fun c2 => ?_)
    · have h := h.1 c2
      refine ev_iconst dX5_crosses_54 ci_0 ?_
      exact h
    · have h := h.2 c2
      refine ev_aload_n dX5_crosses_36 rfl ?_
      refine ev_getr (M := MX5_crosses) (r := 11) 25 dX5_crosses_37 sM_0 ck5 (Nat.le_of_ble_eq_true rfl) rfl w791 ?_
      refine ev_iload_n dX5_crosses_40 rfl ?_
      obtain ⟨g, h⟩ := h
      refine ev_iald dX5_crosses_41 sM_11 g ?_
      refine ev_iload_n dX5_crosses_42 rfl ?_
      refine ev_ishr dX5_crosses_43 ?_
      refine ev_iconst dX5_crosses_44 ci_1 ?_
      refine ev_iand dX5_crosses_45 ?_
      refine ev_iconst dX5_crosses_46 ci_1 ?_
      refine ev_icmp_ne (M := MX5_crosses) (tgt := 54) dX5_crosses_47 rfl (fun c3 => ?_) (fun c3 => ?_)
      · have h := h.1 c3
        refine ev_iconst dX5_crosses_54 ci_0 ?_
        exact h
      · have h := h.2 c3
        refine ev_iconst dX5_crosses_50 ci_1 ?_
        refine ev_goto (M := MX5_crosses) (tgt := 55) dX5_crosses_51 rfl ?_
        exact h
set_option maxRecDepth 4000 in
theorem bk_X5_crosses_55 {q : DD → Prop} {d : DD} {l1 : Int32} {l2 : Int32} {l3 : Int32} {k0 : Int32} (h : ((k0 = 0 → Ev SM MX5_crosses 14 [.ref 0, .int l1, .int l2, .int (l3 + 1), uJ, uJ] [] d (rV q)) ∧ (¬ k0 = 0 → (vp_in l2 350 ∧ (Cn SM MX5_noteBy [.ref 0, .int l2, .int (d 1 l2.toNatClampNeg), .int l1] d (rI fun r3 d2 => (vp_in l3 350 ∧ (Cn SM MX5_noteBy [.ref 0, .int l3, .int (d2 1 l3.toNatClampNeg), .int l1] d2 (rI fun r5 d4 => ((¬ r3 = r5 → Ev SM MX5_crosses 14 [.ref 0, .int l1, .int l2, .int (l3 + 1), uJ, uJ] [] d4 (rV q)) ∧ (r3 = r5 → Ev SM MX5_crosses 92 [.ref 0, .int l1, .int l2, .int l3, .int k0, .int 0] [] d4 (rV q)))))))))))) : Ev SM MX5_crosses 55 [.ref 0, .int l1, .int l2, .int l3, uJ, uJ] [.int k0] d (rV q) := by
  refine ev_istore (M := MX5_crosses) (ls2 := [.ref 0, .int l1, .int l2, .int l3, .int k0, uJ]) dX5_crosses_55 (Nat.le_of_ble_eq_true rfl) rfl ?_
  refine ev_iload dX5_crosses_57 rfl ?_
  refine ev_if_eq (M := MX5_crosses) (tgt := 162) dX5_crosses_59 rfl (fun c1 => ?_) (fun c1 => ?_)
  · have h := h.1 c1
    refine ev_iinc (M := MX5_crosses) (ls2 := [.ref 0, .int l1, .int l2, .int (l3 + 1), .int k0, uJ]) dX5_crosses_162 rfl (iin ci_1) (Nat.le_of_ble_eq_true rfl) rfl ?_
    refine ev_goto (M := MX5_crosses) (tgt := 14) dX5_crosses_165 rfl ?_
    refine Ev.forget (ls2 := [.ref 0, .int l1, .int l2, .int (l3 + 1), uJ, uJ]) ?_ (fun i v hi hv => lsub_of (bs := [false, false, false, false, true, false]) rfl i v hi hv)
    exact h
  · have h := h.2 c1
    refine ev_aload_n dX5_crosses_62 rfl ?_
    refine ev_iload_n dX5_crosses_63 rfl ?_
    refine ev_aload_n dX5_crosses_64 rfl ?_
    refine ev_getr (M := MX5_crosses) (r := 1) 0 dX5_crosses_65 sM_0 ck5 (Nat.le_of_ble_eq_true rfl) rfl w766 ?_
    refine ev_iload_n dX5_crosses_68 rfl ?_
    obtain ⟨g, h⟩ := h
    refine ev_iald dX5_crosses_69 sM_1 g ?_
    refine ev_iload_n dX5_crosses_70 rfl ?_
    refine ev_callVi (M := MX5_crosses) (M2 := MX5_noteBy) (As := [.int l2, .int (d 1 l2.toNatClampNeg), .int l1]) (rest := []) dX5_crosses_71 sM_0 ck5 rfl w976 moX5_noteBy rfl ⟨Nat.le_of_ble_eq_true rfl, Nat.le_of_ble_eq_true rfl⟩ rfl rfl (Nat.le_of_ble_eq_true rfl) h (fun r3 d2 h => ?_)
    have h := rI_dn h
    refine ev_aload_n dX5_crosses_74 rfl ?_
    refine ev_iload_n dX5_crosses_75 rfl ?_
    refine ev_aload_n dX5_crosses_76 rfl ?_
    refine ev_getr (M := MX5_crosses) (r := 1) 0 dX5_crosses_77 sM_0 ck5 (Nat.le_of_ble_eq_true rfl) rfl w766 ?_
    refine ev_iload_n dX5_crosses_80 rfl ?_
    obtain ⟨g, h⟩ := h
    refine ev_iald dX5_crosses_81 sM_1 g ?_
    refine ev_iload_n dX5_crosses_82 rfl ?_
    refine ev_callVi (M := MX5_crosses) (M2 := MX5_noteBy) (As := [.int l3, .int (d2 1 l3.toNatClampNeg), .int l1]) (rest := [.int r3]) dX5_crosses_83 sM_0 ck5 rfl w976 moX5_noteBy rfl ⟨Nat.le_of_ble_eq_true rfl, Nat.le_of_ble_eq_true rfl⟩ rfl rfl (Nat.le_of_ble_eq_true rfl) h (fun r5 d4 h => ?_)
    have h := rI_dn h
    refine ev_icmp_ne (M := MX5_crosses) (tgt := 162) dX5_crosses_86 rfl (fun c6 => ?_) (fun c6 => ?_)
    · have h := h.1 c6
      refine ev_iinc (M := MX5_crosses) (ls2 := [.ref 0, .int l1, .int l2, .int (l3 + 1), .int k0, uJ]) dX5_crosses_162 rfl (iin ci_1) (Nat.le_of_ble_eq_true rfl) rfl ?_
      refine ev_goto (M := MX5_crosses) (tgt := 14) dX5_crosses_165 rfl ?_
      refine Ev.forget (ls2 := [.ref 0, .int l1, .int l2, .int (l3 + 1), uJ, uJ]) ?_ (fun i v hi hv => lsub_of (bs := [false, false, false, false, true, false]) rfl i v hi hv)
      exact h
    · have h := h.2 c6
      refine ev_iconst dX5_crosses_89 ci_0 ?_
      refine ev_istore (M := MX5_crosses) (ls2 := [.ref 0, .int l1, .int l2, .int l3, .int k0, .int 0]) dX5_crosses_90 (Nat.le_of_ble_eq_true rfl) rfl ?_
      exact h
set_option maxRecDepth 4000 in
theorem bk_X5_crosses_92 {q : DD → Prop} {d : DD} {l1 : Int32} {l2 : Int32} {l3 : Int32} {l4 : Int32} {l5 : Int32} (h : (((d 0 1) ≤ l5 → Ev SM MX5_crosses 145 [.ref 0, .int l1, .int l2, .int l3, .int l4, .int l5] [] d (rV q)) ∧ (¬ (d 0 1) ≤ l5 → ((l5 = l2 → Ev SM MX5_crosses 92 [.ref 0, .int l1, .int l2, .int l3, .int l4, .int (l5 + 1)] [] d (rV q)) ∧ (¬ l5 = l2 → ((l5 = l3 → Ev SM MX5_crosses 92 [.ref 0, .int l1, .int l2, .int l3, .int l4, .int (l5 + 1)] [] d (rV q)) ∧ (¬ l5 = l3 → (vp_in l1 160 ∧ (((((d 11 l1.toNatClampNeg) >>> (l5 &&& 31)) &&& 1) = 0 → Ev SM MX5_crosses 92 [.ref 0, .int l1, .int l2, .int l3, .int l4, .int (l5 + 1)] [] d (rV q)) ∧ (¬ (((d 11 l1.toNatClampNeg) >>> (l5 &&& 31)) &&& 1) = 0 → (vp_in l5 4 ∧ (((d 8 l5.toNatClampNeg) = (-4) → Ev SM MX5_crosses 145 [.ref 0, .int l1, .int l2, .int l3, .int l4, .int l5] [] d (rV q)) ∧ (¬ (d 8 l5.toNatClampNeg) = (-4) → Ev SM MX5_crosses 92 [.ref 0, .int l1, .int l2, .int l3, .int l4, .int (l5 + 1)] [] d (rV q)))))))))))))) : Ev SM MX5_crosses 92 [.ref 0, .int l1, .int l2, .int l3, .int l4, .int l5] [] d (rV q) := by
  refine ev_iload dX5_crosses_92 rfl ?_
  refine ev_aload_n dX5_crosses_94 rfl ?_
  refine ev_get 1 dX5_crosses_95 sM_0 ck5 (Nat.le_of_ble_eq_true rfl) rfl w767 ?_
  refine ev_icmp_ge (M := MX5_crosses) (tgt := 145) dX5_crosses_98 rfl (fun c1 => ?_) (fun c1 => ?_)
  · have h := h.1 c1
    exact h
  · have h := h.2 c1
    refine ev_iload dX5_crosses_101 rfl ?_
    refine ev_iload_n dX5_crosses_103 rfl ?_
    refine ev_icmp_eq (M := MX5_crosses) (tgt := 139) dX5_crosses_104 rfl (fun c2 => ?_) (fun c2 => ?_)
    · have h := h.1 c2
      refine ev_iinc (M := MX5_crosses) (ls2 := [.ref 0, .int l1, .int l2, .int l3, .int l4, .int (l5 + 1)]) dX5_crosses_139 rfl (iin ci_1) (Nat.le_of_ble_eq_true rfl) rfl ?_
      refine ev_goto (M := MX5_crosses) (tgt := 92) dX5_crosses_142 rfl ?_
      exact h
    · have h := h.2 c2
      refine ev_iload dX5_crosses_107 rfl ?_
      refine ev_iload_n dX5_crosses_109 rfl ?_
      refine ev_icmp_eq (M := MX5_crosses) (tgt := 139) dX5_crosses_110 rfl (fun c3 => ?_) (fun c3 => ?_)
      · have h := h.1 c3
        refine ev_iinc (M := MX5_crosses) (ls2 := [.ref 0, .int l1, .int l2, .int l3, .int l4, .int (l5 + 1)]) dX5_crosses_139 rfl (iin ci_1) (Nat.le_of_ble_eq_true rfl) rfl ?_
        refine ev_goto (M := MX5_crosses) (tgt := 92) dX5_crosses_142 rfl ?_
        exact h
      · have h := h.2 c3
        refine ev_aload_n dX5_crosses_113 rfl ?_
        refine ev_getr (M := MX5_crosses) (r := 11) 25 dX5_crosses_114 sM_0 ck5 (Nat.le_of_ble_eq_true rfl) rfl w791 ?_
        refine ev_iload_n dX5_crosses_117 rfl ?_
        obtain ⟨g, h⟩ := h
        refine ev_iald dX5_crosses_118 sM_11 g ?_
        refine ev_iload dX5_crosses_119 rfl ?_
        refine ev_ishr dX5_crosses_121 ?_
        refine ev_iconst dX5_crosses_122 ci_1 ?_
        refine ev_iand dX5_crosses_123 ?_
        refine ev_if_eq (M := MX5_crosses) (tgt := 139) dX5_crosses_124 rfl (fun c4 => ?_) (fun c4 => ?_)
        · have h := h.1 c4
          refine ev_iinc (M := MX5_crosses) (ls2 := [.ref 0, .int l1, .int l2, .int l3, .int l4, .int (l5 + 1)]) dX5_crosses_139 rfl (iin ci_1) (Nat.le_of_ble_eq_true rfl) rfl ?_
          refine ev_goto (M := MX5_crosses) (tgt := 92) dX5_crosses_142 rfl ?_
          exact h
        · have h := h.2 c4
          refine ev_aload_n dX5_crosses_127 rfl ?_
          refine ev_getr (M := MX5_crosses) (r := 8) 22 dX5_crosses_128 sM_0 ck5 (Nat.le_of_ble_eq_true rfl) rfl w788 ?_
          refine ev_iload dX5_crosses_131 rfl ?_
          obtain ⟨g, h⟩ := h
          refine ev_iald dX5_crosses_133 sM_8 g ?_
          refine ev_bipush dX5_crosses_134 cb_m4 ?_
          refine ev_icmp_eq (M := MX5_crosses) (tgt := 145) dX5_crosses_136 rfl (fun c5 => ?_) (fun c5 => ?_)
          · have h := h.1 c5
            exact h
          · have h := h.2 c5
            refine ev_iinc (M := MX5_crosses) (ls2 := [.ref 0, .int l1, .int l2, .int l3, .int l4, .int (l5 + 1)]) dX5_crosses_139 rfl (iin ci_1) (Nat.le_of_ble_eq_true rfl) rfl ?_
            refine ev_goto (M := MX5_crosses) (tgt := 92) dX5_crosses_142 rfl ?_
            exact h
set_option maxRecDepth 4000 in
theorem bk_X5_crosses_145 {q : DD → Prop} {d : DD} {l1 : Int32} {l2 : Int32} {l3 : Int32} {l4 : Int32} {l5 : Int32} (h : (((d 0 1) ≤ l5 → Ev SM MX5_crosses 14 [.ref 0, .int l1, .int l2, .int (l3 + 1), uJ, uJ] [] d (rV q)) ∧ (¬ (d 0 1) ≤ l5 → (Cn SM MX5_ends [.ref 0, .int l5, .int l1, .int 3] d (rV fun d2 => Ev SM MX5_crosses 14 [.ref 0, .int l1, .int l2, .int (l3 + 1), uJ, uJ] [] d2 (rV q)))))) : Ev SM MX5_crosses 145 [.ref 0, .int l1, .int l2, .int l3, .int l4, .int l5] [] d (rV q) := by
  refine ev_iload dX5_crosses_145 rfl ?_
  refine ev_aload_n dX5_crosses_147 rfl ?_
  refine ev_get 1 dX5_crosses_148 sM_0 ck5 (Nat.le_of_ble_eq_true rfl) rfl w767 ?_
  refine ev_icmp_ge (M := MX5_crosses) (tgt := 162) dX5_crosses_151 rfl (fun c1 => ?_) (fun c1 => ?_)
  · have h := h.1 c1
    refine ev_iinc (M := MX5_crosses) (ls2 := [.ref 0, .int l1, .int l2, .int (l3 + 1), .int l4, .int l5]) dX5_crosses_162 rfl (iin ci_1) (Nat.le_of_ble_eq_true rfl) rfl ?_
    refine ev_goto (M := MX5_crosses) (tgt := 14) dX5_crosses_165 rfl ?_
    refine Ev.forget (ls2 := [.ref 0, .int l1, .int l2, .int (l3 + 1), uJ, uJ]) ?_ (fun i v hi hv => lsub_of (bs := [false, false, false, false, true, true]) rfl i v hi hv)
    exact h
  · have h := h.2 c1
    refine ev_aload_n dX5_crosses_154 rfl ?_
    refine ev_iload dX5_crosses_155 rfl ?_
    refine ev_iload_n dX5_crosses_157 rfl ?_
    refine ev_iconst dX5_crosses_158 ci_3 ?_
    refine ev_callVv (M := MX5_crosses) (M2 := MX5_ends) (As := [.int l5, .int l1, .int 3]) (rest := []) dX5_crosses_159 sM_0 ck5 rfl w1039 moX5_ends rfl ⟨Nat.le_of_ble_eq_true rfl, Nat.le_of_ble_eq_true rfl⟩ rfl rfl (Nat.le_of_ble_eq_true rfl) h (fun d2 h => ?_)
    have h := rV_dn h
    refine ev_iinc (M := MX5_crosses) (ls2 := [.ref 0, .int l1, .int l2, .int (l3 + 1), .int l4, .int l5]) dX5_crosses_162 rfl (iin ci_1) (Nat.le_of_ble_eq_true rfl) rfl ?_
    refine ev_goto (M := MX5_crosses) (tgt := 14) dX5_crosses_165 rfl ?_
    refine Ev.forget (ls2 := [.ref 0, .int l1, .int l2, .int (l3 + 1), uJ, uJ]) ?_ (fun i v hi hv => lsub_of (bs := [false, false, false, false, true, true]) rfl i v hi hv)
    exact h
-- X5_playing
set_option maxRecDepth 4000 in
theorem cn_X5_playing {q : DD → Prop} {d : DD}  (h : Ev SM MX5_playing 2 [.ref 0, .int 0, uJ] [] d (rV q)) : Cn SM MX5_playing [.ref 0] d (rV q) := by
  refine cn_of (ls := [.ref 0, uJ, uJ]) (by decide) rfl rfl (Nat.le_of_ble_eq_true rfl) ?_
  refine ev_iconst dX5_playing_0 ci_0 ?_
  refine ev_istore_n (M := MX5_playing) (ls2 := [.ref 0, .int 0, uJ]) 1 dX5_playing_1 rfl (Nat.le_of_ble_eq_true rfl) rfl ?_
  exact h
set_option maxRecDepth 4000 in
theorem bk_X5_playing_2 {q : DD → Prop} {d : DD} {l1 : Int32} (h : ((4 ≤ l1 → Ev SM MX5_playing 59 [.ref 0, .int 0, uJ] [] d (rV q)) ∧ (¬ 4 ≤ l1 → (vp_in (52 + l1) 350 ∧ (vp_in l1 4 ∧ (∀ d2 : DD, d2 = (up d 6 l1.toNatClampNeg (d 1 (52 + l1).toNatClampNeg)) → (vp_in l1 4 ∧ (∀ d3 : DD, d3 = (up d2 7 l1.toNatClampNeg 0) → (vp_in l1 4 ∧ (∀ d4 : DD, d4 = (up d3 8 l1.toNatClampNeg (-4)) → (vp_in l1 4 ∧ (∀ d5 : DD, d5 = (up d4 9 l1.toNatClampNeg 0) → (vp_in l1 4 ∧ (∀ d6 : DD, d6 = (up d5 10 l1.toNatClampNeg 0) → Ev SM MX5_playing 2 [.ref 0, .int (l1 + 1), uJ] [] d6 (rV q))))))))))))))) : Ev SM MX5_playing 2 [.ref 0, .int l1, uJ] [] d (rV q) := by
  refine ev_iload_n dX5_playing_2 rfl ?_
  refine ev_iconst dX5_playing_3 ci_4 ?_
  refine ev_icmp_ge (M := MX5_playing) (tgt := 57) dX5_playing_4 rfl (fun c1 => ?_) (fun c1 => ?_)
  · have h := h.1 c1
    refine ev_iconst dX5_playing_57 ci_0 ?_
    refine ev_istore_n (M := MX5_playing) (ls2 := [.ref 0, .int 0, uJ]) 1 dX5_playing_58 rfl (Nat.le_of_ble_eq_true rfl) rfl ?_
    exact h
  · have h := h.2 c1
    refine ev_aload_n dX5_playing_7 rfl ?_
    refine ev_getr (M := MX5_playing) (r := 6) 20 dX5_playing_8 sM_0 ck5 (Nat.le_of_ble_eq_true rfl) rfl w786 ?_
    refine ev_iload_n dX5_playing_11 rfl ?_
    refine ev_aload_n dX5_playing_12 rfl ?_
    refine ev_getr (M := MX5_playing) (r := 1) 0 dX5_playing_13 sM_0 ck5 (Nat.le_of_ble_eq_true rfl) rfl w766 ?_
    refine ev_bipush dX5_playing_16 cb_52 ?_
    refine ev_iload_n dX5_playing_18 rfl ?_
    refine ev_iadd dX5_playing_19 ?_
    obtain ⟨g, h⟩ := h
    refine ev_iald dX5_playing_20 sM_1 g ?_
    obtain ⟨g, h⟩ := h
    refine ev_iast dX5_playing_21 sM_6 g ?_
    refine ev_topd (fun d2 ed2 => ?_)
    have h := h d2 ed2
    refine ev_aload_n dX5_playing_22 rfl ?_
    refine ev_getr (M := MX5_playing) (r := 7) 21 dX5_playing_23 sM_0 ck5 (Nat.le_of_ble_eq_true rfl) rfl w787 ?_
    refine ev_iload_n dX5_playing_26 rfl ?_
    refine ev_iconst dX5_playing_27 ci_0 ?_
    obtain ⟨g, h⟩ := h
    refine ev_iast dX5_playing_28 sM_7 g ?_
    refine ev_topd (fun d3 ed3 => ?_)
    have h := h d3 ed3
    refine ev_aload_n dX5_playing_29 rfl ?_
    refine ev_getr (M := MX5_playing) (r := 8) 22 dX5_playing_30 sM_0 ck5 (Nat.le_of_ble_eq_true rfl) rfl w788 ?_
    refine ev_iload_n dX5_playing_33 rfl ?_
    refine ev_bipush dX5_playing_34 cb_m4 ?_
    obtain ⟨g, h⟩ := h
    refine ev_iast dX5_playing_36 sM_8 g ?_
    refine ev_topd (fun d4 ed4 => ?_)
    have h := h d4 ed4
    refine ev_aload_n dX5_playing_37 rfl ?_
    refine ev_getr (M := MX5_playing) (r := 9) 23 dX5_playing_38 sM_0 ck5 (Nat.le_of_ble_eq_true rfl) rfl w789 ?_
    refine ev_iload_n dX5_playing_41 rfl ?_
    refine ev_iconst dX5_playing_42 ci_0 ?_
    obtain ⟨g, h⟩ := h
    refine ev_iast dX5_playing_43 sM_9 g ?_
    refine ev_topd (fun d5 ed5 => ?_)
    have h := h d5 ed5
    refine ev_aload_n dX5_playing_44 rfl ?_
    refine ev_getr (M := MX5_playing) (r := 10) 24 dX5_playing_45 sM_0 ck5 (Nat.le_of_ble_eq_true rfl) rfl w790 ?_
    refine ev_iload_n dX5_playing_48 rfl ?_
    refine ev_iconst dX5_playing_49 ci_0 ?_
    obtain ⟨g, h⟩ := h
    refine ev_iast dX5_playing_50 sM_10 g ?_
    refine ev_topd (fun d6 ed6 => ?_)
    have h := h d6 ed6
    refine ev_iinc (M := MX5_playing) (ls2 := [.ref 0, .int (l1 + 1), uJ]) dX5_playing_51 rfl (iin ci_1) (Nat.le_of_ble_eq_true rfl) rfl ?_
    refine ev_goto (M := MX5_playing) (tgt := 2) dX5_playing_54 rfl ?_
    exact h
set_option maxRecDepth 4000 in
theorem bk_X5_playing_59 {q : DD → Prop} {d : DD} {l1 : Int32} (h : ((159 < l1 → q d) ∧ (¬ 159 < l1 → (vp_in l1 160 ∧ (∀ d2 : DD, d2 = (up d 11 l1.toNatClampNeg 0) → Ev SM MX5_playing 75 [.ref 0, .int l1, .int 0] [] d2 (rV q)))))) : Ev SM MX5_playing 59 [.ref 0, .int l1, uJ] [] d (rV q) := by
  refine ev_iload_n dX5_playing_59 rfl ?_
  refine ev_sipush dX5_playing_60 cs_159 ?_
  refine ev_icmp_gt (M := MX5_playing) (tgt := 125) dX5_playing_63 rfl (fun c1 => ?_) (fun c1 => ?_)
  · have h := h.1 c1
    exact ev_ret (M := MX5_playing) dX5_playing_125 rfl rfl h
  · have h := h.2 c1
    refine ev_aload_n dX5_playing_66 rfl ?_
    refine ev_getr (M := MX5_playing) (r := 11) 25 dX5_playing_67 sM_0 ck5 (Nat.le_of_ble_eq_true rfl) rfl w791 ?_
    refine ev_iload_n dX5_playing_70 rfl ?_
    refine ev_iconst dX5_playing_71 ci_0 ?_
    obtain ⟨g, h⟩ := h
    refine ev_iast dX5_playing_72 sM_11 g ?_
    refine ev_topd (fun d2 ed2 => ?_)
    have h := h d2 ed2
    refine ev_iconst dX5_playing_73 ci_0 ?_
    refine ev_istore_n (M := MX5_playing) (ls2 := [.ref 0, .int l1, .int 0]) 2 dX5_playing_74 rfl (Nat.le_of_ble_eq_true rfl) rfl ?_
    exact h
set_option maxRecDepth 4000 in
theorem bk_X5_playing_75 {q : DD → Prop} {d : DD} {l1 : Int32} {l2 : Int32} (h : (((d 0 1) ≤ l2 → (Cn SM MX5_crosses [.ref 0, .int l1] d (rV fun d2 => Ev SM MX5_playing 59 [.ref 0, .int (l1 + 1), uJ] [] d2 (rV q)))) ∧ (¬ (d 0 1) ≤ l2 → (vp_in l1 160 ∧ (Cn SM MX5_doesSound [.ref 0, .int l2, .int l1] d (rI fun r4 d3 => ((r4 = 0 → (vp_in l1 160 ∧ (∀ d6 : DD, d6 = (up d3 11 l1.toNatClampNeg ((d 11 l1.toNatClampNeg) ||| 0)) → Ev SM MX5_playing 75 [.ref 0, .int l1, .int (l2 + 1)] [] d6 (rV q)))) ∧ (¬ r4 = 0 → (vp_in l1 160 ∧ (∀ d7 : DD, d7 = (up d3 11 l1.toNatClampNeg ((d 11 l1.toNatClampNeg) ||| (1 <<< (l2 &&& 31)))) → Ev SM MX5_playing 75 [.ref 0, .int l1, .int (l2 + 1)] [] d7 (rV q))))))))))) : Ev SM MX5_playing 75 [.ref 0, .int l1, .int l2] [] d (rV q) := by
  refine ev_iload_n dX5_playing_75 rfl ?_
  refine ev_aload_n dX5_playing_76 rfl ?_
  refine ev_get 1 dX5_playing_77 sM_0 ck5 (Nat.le_of_ble_eq_true rfl) rfl w767 ?_
  refine ev_icmp_ge (M := MX5_playing) (tgt := 114) dX5_playing_80 rfl (fun c1 => ?_) (fun c1 => ?_)
  · have h := h.1 c1
    refine ev_aload_n dX5_playing_114 rfl ?_
    refine ev_iload_n dX5_playing_115 rfl ?_
    refine ev_callVv (M := MX5_playing) (M2 := MX5_crosses) (As := [.int l1]) (rest := []) dX5_playing_116 sM_0 ck5 rfl w1047 moX5_crosses rfl ⟨Nat.le_of_ble_eq_true rfl, Nat.le_of_ble_eq_true rfl⟩ rfl rfl (Nat.le_of_ble_eq_true rfl) h (fun d2 h => ?_)
    have h := rV_dn h
    refine ev_iinc (M := MX5_playing) (ls2 := [.ref 0, .int (l1 + 1), .int l2]) dX5_playing_119 rfl (iin ci_1) (Nat.le_of_ble_eq_true rfl) rfl ?_
    refine ev_goto (M := MX5_playing) (tgt := 59) dX5_playing_122 rfl ?_
    refine Ev.forget (ls2 := [.ref 0, .int (l1 + 1), uJ]) ?_ (fun i v hi hv => lsub_of (bs := [false, false, true]) rfl i v hi hv)
    exact h
  · have h := h.2 c1
    refine ev_aload_n dX5_playing_83 rfl ?_
    refine ev_getr (M := MX5_playing) (r := 11) 25 dX5_playing_84 sM_0 ck5 (Nat.le_of_ble_eq_true rfl) rfl w791 ?_
    refine ev_iload_n dX5_playing_87 rfl ?_
    refine ev_dup2 dX5_playing_88 rfl rfl ?_
    obtain ⟨g, h⟩ := h
    refine ev_iald dX5_playing_89 sM_11 g ?_
    refine ev_aload_n dX5_playing_90 rfl ?_
    refine ev_iload_n dX5_playing_91 rfl ?_
    refine ev_iload_n dX5_playing_92 rfl ?_
    refine ev_callVi (M := MX5_playing) (M2 := MX5_doesSound) (As := [.int l2, .int l1]) (rest := [.int (d 11 l1.toNatClampNeg), .int l1, .ref 11]) dX5_playing_93 sM_0 ck5 rfl w1035 moX5_doesSound rfl ⟨Nat.le_of_ble_eq_true rfl, Nat.le_of_ble_eq_true rfl⟩ rfl rfl (Nat.le_of_ble_eq_true rfl) h (fun r4 d3 h => ?_)
    have h := rI_dn h
    refine ev_if_eq (M := MX5_playing) (tgt := 105) dX5_playing_96 rfl (fun c5 => ?_) (fun c5 => ?_)
    · have h := h.1 c5
      refine ev_iconst dX5_playing_105 ci_0 ?_
      refine ev_ior dX5_playing_106 ?_
      obtain ⟨g, h⟩ := h
      refine ev_iast dX5_playing_107 sM_11 g ?_
      refine ev_topd (fun d6 ed6 => ?_)
      have h := h d6 ed6
      refine ev_iinc (M := MX5_playing) (ls2 := [.ref 0, .int l1, .int (l2 + 1)]) dX5_playing_108 rfl (iin ci_1) (Nat.le_of_ble_eq_true rfl) rfl ?_
      refine ev_goto (M := MX5_playing) (tgt := 75) dX5_playing_111 rfl ?_
      exact h
    · have h := h.2 c5
      refine ev_iconst dX5_playing_99 ci_1 ?_
      refine ev_iload_n dX5_playing_100 rfl ?_
      refine ev_ishl dX5_playing_101 ?_
      refine ev_goto (M := MX5_playing) (tgt := 106) dX5_playing_102 rfl ?_
      refine ev_ior dX5_playing_106 ?_
      obtain ⟨g, h⟩ := h
      refine ev_iast dX5_playing_107 sM_11 g ?_
      refine ev_topd (fun d7 ed7 => ?_)
      have h := h d7 ed7
      refine ev_iinc (M := MX5_playing) (ls2 := [.ref 0, .int l1, .int (l2 + 1)]) dX5_playing_108 rfl (iin ci_1) (Nat.le_of_ble_eq_true rfl) rfl ?_
      refine ev_goto (M := MX5_playing) (tgt := 75) dX5_playing_111 rfl ?_
      exact h
-- X5_away
theorem cn_X5_away {q : Int32 → DD → Prop} {d : DD}  (h : Ev SM MX5_away 4 [.ref 0, .int 0, .int 0] [] d (rI q)) : Cn SM MX5_away [.ref 0] d (rI q) := by
  refine cn_of (ls := [.ref 0, uJ, uJ]) (by decide) rfl rfl (Nat.le_of_ble_eq_true rfl) ?_
  refine ev_iconst dX5_away_0 ci_0 ?_
  refine ev_istore_n (M := MX5_away) (ls2 := [.ref 0, .int 0, uJ]) 1 dX5_away_1 rfl (Nat.le_of_ble_eq_true rfl) rfl ?_
  refine ev_iconst dX5_away_2 ci_0 ?_
  refine ev_istore_n (M := MX5_away) (ls2 := [.ref 0, .int 0, .int 0]) 2 dX5_away_3 rfl (Nat.le_of_ble_eq_true rfl) rfl ?_
  exact h
theorem bk_X5_away_4 {q : Int32 → DD → Prop} {d : DD} {l1 : Int32} {l2 : Int32} (h : (((d 0 3) ≤ l2 → q l1 d) ∧ (¬ (d 0 3) ≤ l2 → (vp_in (64 + l2) 350 ∧ (vp_in (d 1 (64 + l2).toNatClampNeg) 4 ∧ (((d 9 (d 1 (64 + l2).toNatClampNeg).toNatClampNeg) = 0 → Ev SM MX5_away 4 [.ref 0, .int (l1 ||| 0), .int (l2 + 1)] [] d (rI q)) ∧ (¬ (d 9 (d 1 (64 + l2).toNatClampNeg).toNatClampNeg) = 0 → (∀ x3 : Int32, x3 = (l1 ||| (1 <<< (l2 &&& 31))) → Ev SM MX5_away 4 [.ref 0, .int x3, .int (l2 + 1)] [] d (rI q))))))))) : Ev SM MX5_away 4 [.ref 0, .int l1, .int l2] [] d (rI q) := by
  refine ev_iload_n dX5_away_4 rfl ?_
  refine ev_aload_n dX5_away_5 rfl ?_
  refine ev_get 3 dX5_away_6 sM_0 ck5 (Nat.le_of_ble_eq_true rfl) rfl w769 ?_
  refine ev_icmp_ge (M := MX5_away) (tgt := 45) dX5_away_9 rfl (fun c1 => ?_) (fun c1 => ?_)
  · have h := h.1 c1
    refine ev_iload_n dX5_away_45 rfl ?_
    exact ev_ireti (M := MX5_away) (ty := .int) dX5_away_46 rfl rfl rfl h
  · have h := h.2 c1
    refine ev_iload_n dX5_away_12 rfl ?_
    refine ev_aload_n dX5_away_13 rfl ?_
    refine ev_getr (M := MX5_away) (r := 9) 23 dX5_away_14 sM_0 ck5 (Nat.le_of_ble_eq_true rfl) rfl w789 ?_
    refine ev_aload_n dX5_away_17 rfl ?_
    refine ev_getr (M := MX5_away) (r := 1) 0 dX5_away_18 sM_0 ck5 (Nat.le_of_ble_eq_true rfl) rfl w766 ?_
    refine ev_bipush dX5_away_21 cb_64 ?_
    refine ev_iload_n dX5_away_23 rfl ?_
    refine ev_iadd dX5_away_24 ?_
    obtain ⟨g, h⟩ := h
    refine ev_iald dX5_away_25 sM_1 g ?_
    obtain ⟨g, h⟩ := h
    refine ev_iald dX5_away_26 sM_9 g ?_
    refine ev_if_eq (M := MX5_away) (tgt := 36) dX5_away_27 rfl (fun c2 => ?_) (fun c2 => ?_)
    · have h := h.1 c2
      refine ev_iconst dX5_away_36 ci_0 ?_
      refine ev_ior dX5_away_37 ?_
      refine ev_istore_n (M := MX5_away) (ls2 := [.ref 0, .int (l1 ||| 0), .int l2]) 1 dX5_away_38 rfl (Nat.le_of_ble_eq_true rfl) rfl ?_
      refine ev_iinc (M := MX5_away) (ls2 := [.ref 0, .int (l1 ||| 0), .int (l2 + 1)]) dX5_away_39 rfl (iin ci_1) (Nat.le_of_ble_eq_true rfl) rfl ?_
      refine ev_goto (M := MX5_away) (tgt := 4) dX5_away_42 rfl ?_
      exact h
    · have h := h.2 c2
      refine ev_iconst dX5_away_30 ci_1 ?_
      refine ev_iload_n dX5_away_31 rfl ?_
      refine ev_ishl dX5_away_32 ?_
      refine ev_goto (M := MX5_away) (tgt := 37) dX5_away_33 rfl ?_
      refine ev_ior dX5_away_37 ?_
      refine ev_topi (fun x3 ex3 => ?_)
      have h := h x3 ex3
      refine ev_istore_n (M := MX5_away) (ls2 := [.ref 0, .int x3, .int l2]) 1 dX5_away_38 rfl (Nat.le_of_ble_eq_true rfl) rfl ?_
      refine ev_iinc (M := MX5_away) (ls2 := [.ref 0, .int x3, .int (l2 + 1)]) dX5_away_39 rfl (iin ci_1) (Nat.le_of_ble_eq_true rfl) rfl ?_
      refine ev_goto (M := MX5_away) (tgt := 4) dX5_away_42 rfl ?_
      exact h
-- X5_bitsOf
theorem cn_X5_bitsOf {q : Int32 → DD → Prop} {d : DD} {p0 : Int32} (h : Ev SM MX5_bitsOf 4 [.int p0, .int 0, .int 0] [] d (rI q)) : Cn SM MX5_bitsOf [.int p0] d (rI q) := by
  refine cn_of (ls := [.int p0, uJ, uJ]) (by decide) rfl rfl (Nat.le_of_ble_eq_true rfl) ?_
  refine ev_iconst dX5_bitsOf_0 ci_0 ?_
  refine ev_istore_n (M := MX5_bitsOf) (ls2 := [.int p0, .int 0, uJ]) 1 dX5_bitsOf_1 rfl (Nat.le_of_ble_eq_true rfl) rfl ?_
  refine ev_iconst dX5_bitsOf_2 ci_0 ?_
  refine ev_istore_n (M := MX5_bitsOf) (ls2 := [.int p0, .int 0, .int 0]) 2 dX5_bitsOf_3 rfl (Nat.le_of_ble_eq_true rfl) rfl ?_
  exact h
theorem bk_X5_bitsOf_4 {q : Int32 → DD → Prop} {d : DD} {l0 : Int32} {l1 : Int32} {l2 : Int32} (h : ((6 ≤ l2 → q l1 d) ∧ (¬ 6 ≤ l2 → (∀ x2 : Int32, x2 = (l1 + ((l0 >>> (l2 &&& 31)) &&& 1)) → Ev SM MX5_bitsOf 4 [.int l0, .int x2, .int (l2 + 1)] [] d (rI q))))) : Ev SM MX5_bitsOf 4 [.int l0, .int l1, .int l2] [] d (rI q) := by
  refine ev_iload_n dX5_bitsOf_4 rfl ?_
  refine ev_bipush dX5_bitsOf_5 cb_6 ?_
  refine ev_icmp_ge (M := MX5_bitsOf) (tgt := 24) dX5_bitsOf_7 rfl (fun c1 => ?_) (fun c1 => ?_)
  · have h := h.1 c1
    refine ev_iload_n dX5_bitsOf_24 rfl ?_
    exact ev_ireti (M := MX5_bitsOf) (ty := .int) dX5_bitsOf_25 rfl rfl rfl h
  · have h := h.2 c1
    refine ev_iload_n dX5_bitsOf_10 rfl ?_
    refine ev_iload_n dX5_bitsOf_11 rfl ?_
    refine ev_iload_n dX5_bitsOf_12 rfl ?_
    refine ev_ishr dX5_bitsOf_13 ?_
    refine ev_iconst dX5_bitsOf_14 ci_1 ?_
    refine ev_iand dX5_bitsOf_15 ?_
    refine ev_iadd dX5_bitsOf_16 ?_
    refine ev_topi (fun x2 ex2 => ?_)
    have h := h x2 ex2
    refine ev_istore_n (M := MX5_bitsOf) (ls2 := [.int l0, .int x2, .int l2]) 1 dX5_bitsOf_17 rfl (Nat.le_of_ble_eq_true rfl) rfl ?_
    refine ev_iinc (M := MX5_bitsOf) (ls2 := [.int l0, .int x2, .int (l2 + 1)]) dX5_bitsOf_18 rfl (iin ci_1) (Nat.le_of_ble_eq_true rfl) rfl ?_
    refine ev_goto (M := MX5_bitsOf) (tgt := 4) dX5_bitsOf_21 rfl ?_
    exact h
-- X5_awayMany
theorem cn_X5_awayMany {q : Int32 → DD → Prop} {d : DD}  (h : (Cn SM MX5_playing [.ref 0] d (rV fun d1 => (Cn SM MX5_away [.ref 0] d1 (rI fun r3 d2 => (Cn SM MX5_bitsOf [.int r3] d2 (rI fun r5 d4 => q r5 d4))))))) : Cn SM MX5_awayMany [.ref 0] d (rI q) := by
  refine cn_of (ls := [.ref 0]) (by decide) rfl rfl (Nat.le_of_ble_eq_true rfl) ?_
  refine ev_aload_n dX5_awayMany_0 rfl ?_
  refine ev_callVv (M := MX5_awayMany) (M2 := MX5_playing) (As := []) (rest := []) dX5_awayMany_1 sM_0 ck5 rfl w1031 moX5_playing rfl ⟨Nat.le_of_ble_eq_true rfl, Nat.le_of_ble_eq_true rfl⟩ rfl rfl (Nat.le_of_ble_eq_true rfl) h (fun d1 h => ?_)
  have h := rV_dn h
  refine ev_aload_n dX5_awayMany_4 rfl ?_
  refine ev_callVi (M := MX5_awayMany) (M2 := MX5_away) (As := []) (rest := []) dX5_awayMany_5 sM_0 ck5 rfl w1068 moX5_away rfl ⟨Nat.le_of_ble_eq_true rfl, Nat.le_of_ble_eq_true rfl⟩ rfl rfl (Nat.le_of_ble_eq_true rfl) h (fun r3 d2 h => ?_)
  have h := rI_dn h
  refine ev_callSi (M := MX5_awayMany) (M2 := MX5_bitsOf) (As := [.int r3]) (rest := []) dX5_awayMany_8 w1072 moX5_bitsOf rfl ⟨Nat.le_of_ble_eq_true rfl, Nat.le_of_ble_eq_true rfl⟩ rfl rfl (Nat.le_of_ble_eq_true rfl) h (fun r5 d4 h => ?_)
  have h := rI_dn h
  exact ev_ireti (M := MX5_awayMany) (ty := .int) dX5_awayMany_11 rfl rfl rfl h
-- X5_cost
theorem cn_X5_cost {q : Int32 → DD → Prop} {d : DD}  (h : Ev SM MX5_cost 4 [.ref 0, .int 0, .int 0] [] d (rI q)) : Cn SM MX5_cost [.ref 0] d (rI q) := by
  refine cn_of (ls := [.ref 0, uJ, uJ]) (by decide) rfl rfl (Nat.le_of_ble_eq_true rfl) ?_
  refine ev_iconst dX5_cost_0 ci_0 ?_
  refine ev_istore_n (M := MX5_cost) (ls2 := [.ref 0, .int 0, uJ]) 1 dX5_cost_1 rfl (Nat.le_of_ble_eq_true rfl) rfl ?_
  refine ev_iconst dX5_cost_2 ci_0 ?_
  refine ev_istore_n (M := MX5_cost) (ls2 := [.ref 0, .int 0, .int 0]) 2 dX5_cost_3 rfl (Nat.le_of_ble_eq_true rfl) rfl ?_
  exact h
theorem bk_X5_cost_4 {q : Int32 → DD → Prop} {d : DD} {l1 : Int32} {l2 : Int32} (h : (((d 0 2) ≤ l2 → q l1 d) ∧ (¬ (d 0 2) ≤ l2 → (vp_in l2 4 ∧ (vp_in (56 + l2) 350 ∧ (∀ x2 : Int32, x2 = (l1 + ((d 7 l2.toNatClampNeg) * (d 1 (56 + l2).toNatClampNeg))) → Ev SM MX5_cost 4 [.ref 0, .int x2, .int (l2 + 1)] [] d (rI q))))))) : Ev SM MX5_cost 4 [.ref 0, .int l1, .int l2] [] d (rI q) := by
  refine ev_iload_n dX5_cost_4 rfl ?_
  refine ev_aload_n dX5_cost_5 rfl ?_
  refine ev_get 2 dX5_cost_6 sM_0 ck5 (Nat.le_of_ble_eq_true rfl) rfl w768 ?_
  refine ev_icmp_ge (M := MX5_cost) (tgt := 37) dX5_cost_9 rfl (fun c1 => ?_) (fun c1 => ?_)
  · have h := h.1 c1
    refine ev_iload_n dX5_cost_37 rfl ?_
    exact ev_ireti (M := MX5_cost) (ty := .int) dX5_cost_38 rfl rfl rfl h
  · have h := h.2 c1
    refine ev_iload_n dX5_cost_12 rfl ?_
    refine ev_aload_n dX5_cost_13 rfl ?_
    refine ev_getr (M := MX5_cost) (r := 7) 21 dX5_cost_14 sM_0 ck5 (Nat.le_of_ble_eq_true rfl) rfl w787 ?_
    refine ev_iload_n dX5_cost_17 rfl ?_
    obtain ⟨g, h⟩ := h
    refine ev_iald dX5_cost_18 sM_7 g ?_
    refine ev_aload_n dX5_cost_19 rfl ?_
    refine ev_getr (M := MX5_cost) (r := 1) 0 dX5_cost_20 sM_0 ck5 (Nat.le_of_ble_eq_true rfl) rfl w766 ?_
    refine ev_bipush dX5_cost_23 cb_56 ?_
    refine ev_iload_n dX5_cost_25 rfl ?_
    refine ev_iadd dX5_cost_26 ?_
    obtain ⟨g, h⟩ := h
    refine ev_iald dX5_cost_27 sM_1 g ?_
    refine ev_imul dX5_cost_28 ?_
    refine ev_iadd dX5_cost_29 ?_
    refine ev_topi (fun x2 ex2 => ?_)
    have h := h x2 ex2
    refine ev_istore_n (M := MX5_cost) (ls2 := [.ref 0, .int x2, .int l2]) 1 dX5_cost_30 rfl (Nat.le_of_ble_eq_true rfl) rfl ?_
    refine ev_iinc (M := MX5_cost) (ls2 := [.ref 0, .int x2, .int (l2 + 1)]) dX5_cost_31 rfl (iin ci_1) (Nat.le_of_ble_eq_true rfl) rfl ?_
    refine ev_goto (M := MX5_cost) (tgt := 4) dX5_cost_34 rfl ?_
    exact h
-- X5_out
theorem cn_X5_out {q : Int32 → DD → Prop} {d : DD} {p0 : Int32} {p1 : Int32} (h : (Cn SM MX5_isBound [.ref 0, .int p0] d (rI fun r2 d1 => ((r2 = 0 → q (-1) d1) ∧ (¬ r2 = 0 → (Cn SM MX5_in [.long p1.toInt64, .long 0, .long 1] d1 (rI fun r5 d4 => ((¬ r5 = 0 → (Cn SM MX5_playing [.ref 0] d4 (rV fun d7 => (vp_in (64 + p0) 350 ∧ (∀ x8 : Int32, x8 = (d7 1 (64 + p0).toNatClampNeg) → ((¬ p1 = 0 → (vp_in x8 4 ∧ q (d7 9 x8.toNatClampNeg) d7)) ∧ (p1 = 0 → (vp_in x8 4 ∧ q (d7 8 x8.toNatClampNeg) d7)))))))) ∧ (r5 = 0 → q (-1) d4))))))))) : Cn SM MX5_out [.ref 0, .int p0, .int p1] d (rI q) := by
  refine cn_of (ls := [.ref 0, .int p0, .int p1, uJ]) (by decide) rfl rfl (Nat.le_of_ble_eq_true rfl) ?_
  refine ev_aload_n dX5_out_0 rfl ?_
  refine ev_iload_n dX5_out_1 rfl ?_
  refine ev_callVi (M := MX5_out) (M2 := MX5_isBound) (As := [.int p0]) (rest := []) dX5_out_2 sM_0 ck5 rfl w993 moX5_isBound rfl ⟨Nat.le_of_ble_eq_true rfl, Nat.le_of_ble_eq_true rfl⟩ rfl rfl (Nat.le_of_ble_eq_true rfl) h (fun r2 d1 h => ?_)
  have h := rI_dn h
  refine ev_if_eq (M := MX5_out) (tgt := 18) dX5_out_5 rfl (fun c3 => ?_) (fun c3 => ?_)
  · have h := h.1 c3
    refine ev_iconst dX5_out_18 ci_m1 ?_
    exact ev_ireti (M := MX5_out) (ty := .int) dX5_out_19 rfl rfl rfl h
  · have h := h.2 c3
    refine ev_iload_n dX5_out_8 rfl ?_
    refine ev_i2l dX5_out_9 ?_
    refine ev_lconst (M := MX5_out) (v := 0) dX5_out_10 rfl ?_
    refine ev_lconst (M := MX5_out) (v := 1) dX5_out_11 rfl ?_
    refine ev_callSi (M := MX5_out) (M2 := MX5_in) (As := [.long p1.toInt64, .long 0, .long 1]) (rest := []) dX5_out_12 w877 moX5_in rfl ⟨Nat.le_of_ble_eq_true rfl, Nat.le_of_ble_eq_true rfl⟩ rfl rfl (Nat.le_of_ble_eq_true rfl) h (fun r5 d4 h => ?_)
    have h := rI_dn h
    refine ev_if_ne (M := MX5_out) (tgt := 20) dX5_out_15 rfl (fun c6 => ?_) (fun c6 => ?_)
    · have h := h.1 c6
      refine ev_aload_n dX5_out_20 rfl ?_
      refine ev_callVv (M := MX5_out) (M2 := MX5_playing) (As := []) (rest := []) dX5_out_21 sM_0 ck5 rfl w1031 moX5_playing rfl ⟨Nat.le_of_ble_eq_true rfl, Nat.le_of_ble_eq_true rfl⟩ rfl rfl (Nat.le_of_ble_eq_true rfl) h (fun d7 h => ?_)
      have h := rV_dn h
      refine ev_aload_n dX5_out_24 rfl ?_
      refine ev_getr (M := MX5_out) (r := 1) 0 dX5_out_25 sM_0 ck5 (Nat.le_of_ble_eq_true rfl) rfl w766 ?_
      refine ev_bipush dX5_out_28 cb_64 ?_
      refine ev_iload_n dX5_out_30 rfl ?_
      refine ev_iadd dX5_out_31 ?_
      obtain ⟨g, h⟩ := h
      refine ev_iald dX5_out_32 sM_1 g ?_
      refine ev_topi (fun x8 ex8 => ?_)
      have h := h x8 ex8
      refine ev_istore_n (M := MX5_out) (ls2 := [.ref 0, .int p0, .int p1, .int x8]) 3 dX5_out_33 rfl (Nat.le_of_ble_eq_true rfl) rfl ?_
      refine ev_iload_n dX5_out_34 rfl ?_
      refine ev_if_ne (M := MX5_out) (tgt := 47) dX5_out_35 rfl (fun c9 => ?_) (fun c9 => ?_)
      · have h := h.1 c9
        refine ev_aload_n dX5_out_47 rfl ?_
        refine ev_getr (M := MX5_out) (r := 9) 23 dX5_out_48 sM_0 ck5 (Nat.le_of_ble_eq_true rfl) rfl w789 ?_
        refine ev_iload_n dX5_out_51 rfl ?_
        obtain ⟨g, h⟩ := h
        refine ev_iald dX5_out_52 sM_9 g ?_
        exact ev_ireti (M := MX5_out) (ty := .int) dX5_out_53 rfl rfl rfl h
      · have h := h.2 c9
        refine ev_aload_n dX5_out_38 rfl ?_
        refine ev_getr (M := MX5_out) (r := 8) 22 dX5_out_39 sM_0 ck5 (Nat.le_of_ble_eq_true rfl) rfl w788 ?_
        refine ev_iload_n dX5_out_42 rfl ?_
        obtain ⟨g, h⟩ := h
        refine ev_iald dX5_out_43 sM_8 g ?_
        refine ev_goto (M := MX5_out) (tgt := 53) dX5_out_44 rfl ?_
        exact ev_ireti (M := MX5_out) (ty := .int) dX5_out_53 rfl rfl rfl h
    · have h := h.2 c6
      refine ev_iconst dX5_out_18 ci_m1 ?_
      exact ev_ireti (M := MX5_out) (ty := .int) dX5_out_19 rfl rfl rfl h
-- X5_over
theorem cn_X5_over {q : Int32 → DD → Prop} {d : DD} {p0 : Int32} {p1 : Int32} (h : (Cn SM MX5_isTune [.ref 0, .int p0] d (rI fun r2 d1 => ((r2 = 0 → q (-1) d1) ∧ (¬ r2 = 0 → (Cn SM MX5_in [.long p1.toInt64, .long 0, .long 2] d1 (rI fun r5 d4 => ((¬ r5 = 0 → (Cn SM MX5_playing [.ref 0] d4 (rV fun d7 => ((¬ p1 = 0 → ((¬ p1 = 1 → (vp_in p0 4 ∧ q (d7 10 p0.toNatClampNeg) d7)) ∧ (p1 = 1 → (vp_in p0 4 ∧ q (d7 9 p0.toNatClampNeg) d7)))) ∧ (p1 = 0 → (vp_in p0 4 ∧ q (d7 8 p0.toNatClampNeg) d7)))))) ∧ (r5 = 0 → q (-1) d4))))))))) : Cn SM MX5_over [.ref 0, .int p0, .int p1] d (rI q) := by
  refine cn_of (ls := [.ref 0, .int p0, .int p1]) (by decide) rfl rfl (Nat.le_of_ble_eq_true rfl) ?_
  refine ev_aload_n dX5_over_0 rfl ?_
  refine ev_iload_n dX5_over_1 rfl ?_
  refine ev_callVi (M := MX5_over) (M2 := MX5_isTune) (As := [.int p0]) (rest := []) dX5_over_2 sM_0 ck5 rfl w941 moX5_isTune rfl ⟨Nat.le_of_ble_eq_true rfl, Nat.le_of_ble_eq_true rfl⟩ rfl rfl (Nat.le_of_ble_eq_true rfl) h (fun r2 d1 h => ?_)
  have h := rI_dn h
  refine ev_if_eq (M := MX5_over) (tgt := 20) dX5_over_5 rfl (fun c3 => ?_) (fun c3 => ?_)
  · have h := h.1 c3
    refine ev_iconst dX5_over_20 ci_m1 ?_
    exact ev_ireti (M := MX5_over) (ty := .int) dX5_over_21 rfl rfl rfl h
  · have h := h.2 c3
    refine ev_iload_n dX5_over_8 rfl ?_
    refine ev_i2l dX5_over_9 ?_
    refine ev_lconst (M := MX5_over) (v := 0) dX5_over_10 rfl ?_
    refine ev_ldc2 dX5_over_11 w1055 ?_
    refine ev_callSi (M := MX5_over) (M2 := MX5_in) (As := [.long p1.toInt64, .long 0, .long 2]) (rest := []) dX5_over_14 w877 moX5_in rfl ⟨Nat.le_of_ble_eq_true rfl, Nat.le_of_ble_eq_true rfl⟩ rfl rfl (Nat.le_of_ble_eq_true rfl) h (fun r5 d4 h => ?_)
    have h := rI_dn h
    refine ev_if_ne (M := MX5_over) (tgt := 22) dX5_over_17 rfl (fun c6 => ?_) (fun c6 => ?_)
    · have h := h.1 c6
      refine ev_aload_n dX5_over_22 rfl ?_
      refine ev_callVv (M := MX5_over) (M2 := MX5_playing) (As := []) (rest := []) dX5_over_23 sM_0 ck5 rfl w1031 moX5_playing rfl ⟨Nat.le_of_ble_eq_true rfl, Nat.le_of_ble_eq_true rfl⟩ rfl rfl (Nat.le_of_ble_eq_true rfl) h (fun d7 h => ?_)
      have h := rV_dn h
      refine ev_iload_n dX5_over_26 rfl ?_
      refine ev_if_ne (M := MX5_over) (tgt := 39) dX5_over_27 rfl (fun c8 => ?_) (fun c8 => ?_)
      · have h := h.1 c8
        refine ev_iload_n dX5_over_39 rfl ?_
        refine ev_iconst dX5_over_40 ci_1 ?_
        refine ev_icmp_ne (M := MX5_over) (tgt := 53) dX5_over_41 rfl (fun c9 => ?_) (fun c9 => ?_)
        · have h := h.1 c9
          refine ev_aload_n dX5_over_53 rfl ?_
          refine ev_getr (M := MX5_over) (r := 10) 24 dX5_over_54 sM_0 ck5 (Nat.le_of_ble_eq_true rfl) rfl w790 ?_
          refine ev_iload_n dX5_over_57 rfl ?_
          obtain ⟨g, h⟩ := h
          refine ev_iald dX5_over_58 sM_10 g ?_
          exact ev_ireti (M := MX5_over) (ty := .int) dX5_over_59 rfl rfl rfl h
        · have h := h.2 c9
          refine ev_aload_n dX5_over_44 rfl ?_
          refine ev_getr (M := MX5_over) (r := 9) 23 dX5_over_45 sM_0 ck5 (Nat.le_of_ble_eq_true rfl) rfl w789 ?_
          refine ev_iload_n dX5_over_48 rfl ?_
          obtain ⟨g, h⟩ := h
          refine ev_iald dX5_over_49 sM_9 g ?_
          refine ev_goto (M := MX5_over) (tgt := 59) dX5_over_50 rfl ?_
          exact ev_ireti (M := MX5_over) (ty := .int) dX5_over_59 rfl rfl rfl h
      · have h := h.2 c8
        refine ev_aload_n dX5_over_30 rfl ?_
        refine ev_getr (M := MX5_over) (r := 8) 22 dX5_over_31 sM_0 ck5 (Nat.le_of_ble_eq_true rfl) rfl w788 ?_
        refine ev_iload_n dX5_over_34 rfl ?_
        obtain ⟨g, h⟩ := h
        refine ev_iald dX5_over_35 sM_8 g ?_
        refine ev_goto (M := MX5_over) (tgt := 59) dX5_over_36 rfl ?_
        exact ev_ireti (M := MX5_over) (ty := .int) dX5_over_59 rfl rfl rfl h
    · have h := h.2 c6
      refine ev_iconst dX5_over_20 ci_m1 ?_
      exact ev_ireti (M := MX5_over) (ty := .int) dX5_over_21 rfl rfl rfl h
-- X5_plays
theorem cn_X5_plays {q : Int32 → DD → Prop} {d : DD} {p0 : Int32} (h : (Cn SM MX5_isPlayer [.ref 0, .int p0] d (rI fun r2 d1 => ((¬ r2 = 0 → (Cn SM MX5_playing [.ref 0] d1 (rV fun d4 => (vp_in p0 4 ∧ q (d4 7 p0.toNatClampNeg) d4)))) ∧ (r2 = 0 → q (-1) d1))))) : Cn SM MX5_plays [.ref 0, .int p0] d (rI q) := by
  refine cn_of (ls := [.ref 0, .int p0]) (by decide) rfl rfl (Nat.le_of_ble_eq_true rfl) ?_
  refine ev_aload_n dX5_plays_0 rfl ?_
  refine ev_iload_n dX5_plays_1 rfl ?_
  refine ev_callVi (M := MX5_plays) (M2 := MX5_isPlayer) (As := [.int p0]) (rest := []) dX5_plays_2 sM_0 ck5 rfl w984 moX5_isPlayer rfl ⟨Nat.le_of_ble_eq_true rfl, Nat.le_of_ble_eq_true rfl⟩ rfl rfl (Nat.le_of_ble_eq_true rfl) h (fun r2 d1 h => ?_)
  have h := rI_dn h
  refine ev_if_ne (M := MX5_plays) (tgt := 10) dX5_plays_5 rfl (fun c3 => ?_) (fun c3 => ?_)
  · have h := h.1 c3
    refine ev_aload_n dX5_plays_10 rfl ?_
    refine ev_callVv (M := MX5_plays) (M2 := MX5_playing) (As := []) (rest := []) dX5_plays_11 sM_0 ck5 rfl w1031 moX5_playing rfl ⟨Nat.le_of_ble_eq_true rfl, Nat.le_of_ble_eq_true rfl⟩ rfl rfl (Nat.le_of_ble_eq_true rfl) h (fun d4 h => ?_)
    have h := rV_dn h
    refine ev_aload_n dX5_plays_14 rfl ?_
    refine ev_getr (M := MX5_plays) (r := 7) 21 dX5_plays_15 sM_0 ck5 (Nat.le_of_ble_eq_true rfl) rfl w787 ?_
    refine ev_iload_n dX5_plays_18 rfl ?_
    obtain ⟨g, h⟩ := h
    refine ev_iald dX5_plays_19 sM_7 g ?_
    exact ev_ireti (M := MX5_plays) (ty := .int) dX5_plays_20 rfl rfl rfl h
  · have h := h.2 c3
    refine ev_iconst dX5_plays_8 ci_m1 ?_
    exact ev_ireti (M := MX5_plays) (ty := .int) dX5_plays_9 rfl rfl rfl h
-- X5_sounds
theorem cn_X5_sounds {q : Int32 → DD → Prop} {d : DD} {p0 : Int32} (h : (Cn SM MX5_isMinute [.int p0] d (rI fun r2 d1 => ((¬ r2 = 0 → (Cn SM MX5_playing [.ref 0] d1 (rV fun d4 => (vp_in p0 160 ∧ q (d4 11 p0.toNatClampNeg) d4)))) ∧ (r2 = 0 → q (-1) d1))))) : Cn SM MX5_sounds [.ref 0, .int p0] d (rI q) := by
  refine cn_of (ls := [.ref 0, .int p0]) (by decide) rfl rfl (Nat.le_of_ble_eq_true rfl) ?_
  refine ev_iload_n dX5_sounds_0 rfl ?_
  refine ev_callSi (M := MX5_sounds) (M2 := MX5_isMinute) (As := [.int p0]) (rest := []) dX5_sounds_1 w972 moX5_isMinute rfl ⟨Nat.le_of_ble_eq_true rfl, Nat.le_of_ble_eq_true rfl⟩ rfl rfl (Nat.le_of_ble_eq_true rfl) h (fun r2 d1 h => ?_)
  have h := rI_dn h
  refine ev_if_ne (M := MX5_sounds) (tgt := 9) dX5_sounds_4 rfl (fun c3 => ?_) (fun c3 => ?_)
  · have h := h.1 c3
    refine ev_aload_n dX5_sounds_9 rfl ?_
    refine ev_callVv (M := MX5_sounds) (M2 := MX5_playing) (As := []) (rest := []) dX5_sounds_10 sM_0 ck5 rfl w1031 moX5_playing rfl ⟨Nat.le_of_ble_eq_true rfl, Nat.le_of_ble_eq_true rfl⟩ rfl rfl (Nat.le_of_ble_eq_true rfl) h (fun d4 h => ?_)
    have h := rV_dn h
    refine ev_aload_n dX5_sounds_13 rfl ?_
    refine ev_getr (M := MX5_sounds) (r := 11) 25 dX5_sounds_14 sM_0 ck5 (Nat.le_of_ble_eq_true rfl) rfl w791 ?_
    refine ev_iload_n dX5_sounds_17 rfl ?_
    obtain ⟨g, h⟩ := h
    refine ev_iald dX5_sounds_18 sM_11 g ?_
    exact ev_ireti (M := MX5_sounds) (ty := .int) dX5_sounds_19 rfl rfl rfl h
  · have h := h.2 c3
    refine ev_iconst dX5_sounds_7 ci_m1 ?_
    exact ev_ireti (M := MX5_sounds) (ty := .int) dX5_sounds_8 rfl rfl rfl h
-- X5_sum
set_option maxRecDepth 4000 in
theorem cn_X5_sum {q : Int32 → DD → Prop} {d : DD} {p0 : Int32} (h : (Cn SM MX5_in [.long p0.toInt64, .long 0, .long 3] d (rI fun r2 d1 => ((¬ r2 = 0 → (Cn SM MX5_playing [.ref 0] d1 (rV fun d4 => Ev SM MX5_sum 25 [.ref 0, .int p0, .int 0, .int 0, .int 0] [] d4 (rI q)))) ∧ (r2 = 0 → q (-1) d1))))) : Cn SM MX5_sum [.ref 0, .int p0] d (rI q) := by
  refine cn_of (ls := [.ref 0, .int p0, uJ, uJ, uJ]) (by decide) rfl rfl (Nat.le_of_ble_eq_true rfl) ?_
  refine ev_iload_n dX5_sum_0 rfl ?_
  refine ev_i2l dX5_sum_1 ?_
  refine ev_lconst (M := MX5_sum) (v := 0) dX5_sum_2 rfl ?_
  refine ev_ldc2 dX5_sum_3 w988 ?_
  refine ev_callSi (M := MX5_sum) (M2 := MX5_in) (As := [.long p0.toInt64, .long 0, .long 3]) (rest := []) dX5_sum_6 w877 moX5_in rfl ⟨Nat.le_of_ble_eq_true rfl, Nat.le_of_ble_eq_true rfl⟩ rfl rfl (Nat.le_of_ble_eq_true rfl) h (fun r2 d1 h => ?_)
  have h := rI_dn h
  refine ev_if_ne (M := MX5_sum) (tgt := 14) dX5_sum_9 rfl (fun c3 => ?_) (fun c3 => ?_)
  · have h := h.1 c3
    refine ev_aload_n dX5_sum_14 rfl ?_
    refine ev_callVv (M := MX5_sum) (M2 := MX5_playing) (As := []) (rest := []) dX5_sum_15 sM_0 ck5 rfl w1031 moX5_playing rfl ⟨Nat.le_of_ble_eq_true rfl, Nat.le_of_ble_eq_true rfl⟩ rfl rfl (Nat.le_of_ble_eq_true rfl) h (fun d4 h => ?_)
    have h := rV_dn h
    refine ev_iconst dX5_sum_18 ci_0 ?_
    refine ev_istore_n (M := MX5_sum) (ls2 := [.ref 0, .int p0, .int 0, uJ, uJ]) 2 dX5_sum_19 rfl (Nat.le_of_ble_eq_true rfl) rfl ?_
    refine ev_iconst dX5_sum_20 ci_0 ?_
    refine ev_istore_n (M := MX5_sum) (ls2 := [.ref 0, .int p0, .int 0, .int 0, uJ]) 3 dX5_sum_21 rfl (Nat.le_of_ble_eq_true rfl) rfl ?_
    refine ev_iconst dX5_sum_22 ci_0 ?_
    refine ev_istore (M := MX5_sum) (ls2 := [.ref 0, .int p0, .int 0, .int 0, .int 0]) dX5_sum_23 (Nat.le_of_ble_eq_true rfl) rfl ?_
    exact h
  · have h := h.2 c3
    refine ev_iconst dX5_sum_12 ci_m1 ?_
    exact ev_ireti (M := MX5_sum) (ty := .int) dX5_sum_13 rfl rfl rfl h
set_option maxRecDepth 4000 in
theorem bk_X5_sum_25 {q : Int32 → DD → Prop} {d : DD} {l1 : Int32} {l2 : Int32} {l3 : Int32} {l4 : Int32} (h : (((d 0 1) ≤ l4 → ((¬ l1 = 0 → ((¬ l1 = 1 → ((¬ l1 = 2 → q l3 d) ∧ (l1 = 2 → q l2 d))) ∧ (l1 = 1 → (Cn SM MX5_cost [.ref 0] d (rI fun r6 d5 => q r6 d5))))) ∧ (l1 = 0 → (Cn SM MX5_away [.ref 0] d (rI fun r8 d7 => (Cn SM MX5_bitsOf [.int r8] d7 (rI fun r10 d9 => q r10 d9))))))) ∧ (¬ (d 0 1) ≤ l4 → (vp_in l4 4 ∧ (((d 8 l4.toNatClampNeg) ≤ l2 → Ev SM MX5_sum 56 [.ref 0, .int l1, .int l2, .int l3, .int l4] [.int l2] d (rI q)) ∧ (¬ (d 8 l4.toNatClampNeg) ≤ l2 → (vp_in l4 4 ∧ Ev SM MX5_sum 56 [.ref 0, .int l1, .int l2, .int l3, .int l4] [.int (d 8 l4.toNatClampNeg)] d (rI q)))))))) : Ev SM MX5_sum 25 [.ref 0, .int l1, .int l2, .int l3, .int l4] [] d (rI q) := by
  refine ev_iload dX5_sum_25 rfl ?_
  refine ev_aload_n dX5_sum_27 rfl ?_
  refine ev_get 1 dX5_sum_28 sM_0 ck5 (Nat.le_of_ble_eq_true rfl) rfl w767 ?_
  refine ev_icmp_ge (M := MX5_sum) (tgt := 82) dX5_sum_31 rfl (fun c1 => ?_) (fun c1 => ?_)
  · have h := h.1 c1
    refine ev_iload_n dX5_sum_82 rfl ?_
    refine ev_if_ne (M := MX5_sum) (tgt := 96) dX5_sum_83 rfl (fun c2 => ?_) (fun c2 => ?_)
    · have h := h.1 c2
      refine ev_iload_n dX5_sum_96 rfl ?_
      refine ev_iconst dX5_sum_97 ci_1 ?_
      refine ev_icmp_ne (M := MX5_sum) (tgt := 108) dX5_sum_98 rfl (fun c3 => ?_) (fun c3 => ?_)
      · have h := h.1 c3
        refine ev_iload_n dX5_sum_108 rfl ?_
        refine ev_iconst dX5_sum_109 ci_2 ?_
        refine ev_icmp_ne (M := MX5_sum) (tgt := 117) dX5_sum_110 rfl (fun c4 => ?_) (fun c4 => ?_)
        · have h := h.1 c4
          refine ev_iload_n dX5_sum_117 rfl ?_
          exact ev_ireti (M := MX5_sum) (ty := .int) dX5_sum_118 rfl rfl rfl h
        · have h := h.2 c4
          refine ev_iload_n dX5_sum_113 rfl ?_
          refine ev_goto (M := MX5_sum) (tgt := 118) dX5_sum_114 rfl ?_
          exact ev_ireti (M := MX5_sum) (ty := .int) dX5_sum_118 rfl rfl rfl h
      · have h := h.2 c3
        refine ev_aload_n dX5_sum_101 rfl ?_
        refine ev_callVi (M := MX5_sum) (M2 := MX5_cost) (As := []) (rest := []) dX5_sum_102 sM_0 ck5 rfl w1075 moX5_cost rfl ⟨Nat.le_of_ble_eq_true rfl, Nat.le_of_ble_eq_true rfl⟩ rfl rfl (Nat.le_of_ble_eq_true rfl) h (fun r6 d5 h => ?_)
        have h := rI_dn h
        refine ev_goto (M := MX5_sum) (tgt := 118) dX5_sum_105 rfl ?_
        exact ev_ireti (M := MX5_sum) (ty := .int) dX5_sum_118 rfl rfl rfl h
    · have h := h.2 c2
      refine ev_aload_n dX5_sum_86 rfl ?_
      refine ev_callVi (M := MX5_sum) (M2 := MX5_away) (As := []) (rest := []) dX5_sum_87 sM_0 ck5 rfl w1068 moX5_away rfl ⟨Nat.le_of_ble_eq_true rfl, Nat.le_of_ble_eq_true rfl⟩ rfl rfl (Nat.le_of_ble_eq_true rfl) h (fun r8 d7 h => ?_)
      have h := rI_dn h
      refine ev_callSi (M := MX5_sum) (M2 := MX5_bitsOf) (As := [.int r8]) (rest := []) dX5_sum_90 w1072 moX5_bitsOf rfl ⟨Nat.le_of_ble_eq_true rfl, Nat.le_of_ble_eq_true rfl⟩ rfl rfl (Nat.le_of_ble_eq_true rfl) h (fun r10 d9 h => ?_)
      have h := rI_dn h
      refine ev_goto (M := MX5_sum) (tgt := 118) dX5_sum_93 rfl ?_
      exact ev_ireti (M := MX5_sum) (ty := .int) dX5_sum_118 rfl rfl rfl h
  · have h := h.2 c1
    refine ev_aload_n dX5_sum_34 rfl ?_
    refine ev_getr (M := MX5_sum) (r := 8) 22 dX5_sum_35 sM_0 ck5 (Nat.le_of_ble_eq_true rfl) rfl w788 ?_
    refine ev_iload dX5_sum_38 rfl ?_
    obtain ⟨g, h⟩ := h
    refine ev_iald dX5_sum_40 sM_8 g ?_
    refine ev_iload_n dX5_sum_41 rfl ?_
    refine ev_icmp_le (M := MX5_sum) (tgt := 55) dX5_sum_42 rfl (fun c11 => ?_) (fun c11 => ?_)
    · have h := h.1 c11
      refine ev_iload_n dX5_sum_55 rfl ?_
      exact h
    · have h := h.2 c11
      refine ev_aload_n dX5_sum_45 rfl ?_
      refine ev_getr (M := MX5_sum) (r := 8) 22 dX5_sum_46 sM_0 ck5 (Nat.le_of_ble_eq_true rfl) rfl w788 ?_
      refine ev_iload dX5_sum_49 rfl ?_
      obtain ⟨g, h⟩ := h
      refine ev_iald dX5_sum_51 sM_8 g ?_
      refine ev_goto (M := MX5_sum) (tgt := 56) dX5_sum_52 rfl ?_
      exact h
set_option maxRecDepth 4000 in
theorem bk_X5_sum_56 {q : Int32 → DD → Prop} {d : DD} {l1 : Int32} {l2 : Int32} {l3 : Int32} {l4 : Int32} {k0 : Int32} (h : (vp_in l4 4 ∧ ((¬ (d 9 l4.toNatClampNeg) = 3 → Ev SM MX5_sum 25 [.ref 0, .int l1, .int k0, .int (l3 + 0), .int (l4 + 1)] [] d (rI q)) ∧ ((d 9 l4.toNatClampNeg) = 3 → Ev SM MX5_sum 25 [.ref 0, .int l1, .int k0, .int (l3 + 1), .int (l4 + 1)] [] d (rI q))))) : Ev SM MX5_sum 56 [.ref 0, .int l1, .int l2, .int l3, .int l4] [.int k0] d (rI q) := by
  refine ev_istore_n (M := MX5_sum) (ls2 := [.ref 0, .int l1, .int k0, .int l3, .int l4]) 2 dX5_sum_56 rfl (Nat.le_of_ble_eq_true rfl) rfl ?_
  refine ev_iload_n dX5_sum_57 rfl ?_
  refine ev_aload_n dX5_sum_58 rfl ?_
  refine ev_getr (M := MX5_sum) (r := 9) 23 dX5_sum_59 sM_0 ck5 (Nat.le_of_ble_eq_true rfl) rfl w789 ?_
  refine ev_iload dX5_sum_62 rfl ?_
  obtain ⟨g, h⟩ := h
  refine ev_iald dX5_sum_64 sM_9 g ?_
  refine ev_iconst dX5_sum_65 ci_3 ?_
  refine ev_icmp_ne (M := MX5_sum) (tgt := 73) dX5_sum_66 rfl (fun c1 => ?_) (fun c1 => ?_)
  · have h := h.1 c1
    refine ev_iconst dX5_sum_73 ci_0 ?_
    refine ev_iadd dX5_sum_74 ?_
    refine ev_istore_n (M := MX5_sum) (ls2 := [.ref 0, .int l1, .int k0, .int (l3 + 0), .int l4]) 3 dX5_sum_75 rfl (Nat.le_of_ble_eq_true rfl) rfl ?_
    refine ev_iinc (M := MX5_sum) (ls2 := [.ref 0, .int l1, .int k0, .int (l3 + 0), .int (l4 + 1)]) dX5_sum_76 rfl (iin ci_1) (Nat.le_of_ble_eq_true rfl) rfl ?_
    refine ev_goto (M := MX5_sum) (tgt := 25) dX5_sum_79 rfl ?_
    exact h
  · have h := h.2 c1
    refine ev_iconst dX5_sum_69 ci_1 ?_
    refine ev_goto (M := MX5_sum) (tgt := 74) dX5_sum_70 rfl ?_
    refine ev_iadd dX5_sum_74 ?_
    refine ev_istore_n (M := MX5_sum) (ls2 := [.ref 0, .int l1, .int k0, .int (l3 + 1), .int l4]) 3 dX5_sum_75 rfl (Nat.le_of_ble_eq_true rfl) rfl ?_
    refine ev_iinc (M := MX5_sum) (ls2 := [.ref 0, .int l1, .int k0, .int (l3 + 1), .int (l4 + 1)]) dX5_sum_76 rfl (iin ci_1) (Nat.le_of_ble_eq_true rfl) rfl ?_
    refine ev_goto (M := MX5_sum) (tgt := 25) dX5_sum_79 rfl ?_
    exact h
-- X5_first
set_option maxRecDepth 4000 in
theorem cn_X5_first {q : Int32 → DD → Prop} {d : DD} {p0 : Int32} (h : (Cn SM MX5_in [.long p0.toInt64, .long 0, .long 1] d (rI fun r2 d1 => ((¬ r2 = 0 → (Cn SM MX5_playing [.ref 0] d1 (rV fun d4 => Ev SM MX5_first 25 [.ref 0, .int p0, .int 1000000, .int (-4), .int 0, uJ, uJ] [] d4 (rI q)))) ∧ (r2 = 0 → q (-1) d1))))) : Cn SM MX5_first [.ref 0, .int p0] d (rI q) := by
  refine cn_of (ls := [.ref 0, .int p0, uJ, uJ, uJ, uJ, uJ]) (by decide) rfl rfl (Nat.le_of_ble_eq_true rfl) ?_
  refine ev_iload_n dX5_first_0 rfl ?_
  refine ev_i2l dX5_first_1 ?_
  refine ev_lconst (M := MX5_first) (v := 0) dX5_first_2 rfl ?_
  refine ev_lconst (M := MX5_first) (v := 1) dX5_first_3 rfl ?_
  refine ev_callSi (M := MX5_first) (M2 := MX5_in) (As := [.long p0.toInt64, .long 0, .long 1]) (rest := []) dX5_first_4 w877 moX5_in rfl ⟨Nat.le_of_ble_eq_true rfl, Nat.le_of_ble_eq_true rfl⟩ rfl rfl (Nat.le_of_ble_eq_true rfl) h (fun r2 d1 h => ?_)
  have h := rI_dn h
  refine ev_if_ne (M := MX5_first) (tgt := 12) dX5_first_7 rfl (fun c3 => ?_) (fun c3 => ?_)
  · have h := h.1 c3
    refine ev_aload_n dX5_first_12 rfl ?_
    refine ev_callVv (M := MX5_first) (M2 := MX5_playing) (As := []) (rest := []) dX5_first_13 sM_0 ck5 rfl w1031 moX5_playing rfl ⟨Nat.le_of_ble_eq_true rfl, Nat.le_of_ble_eq_true rfl⟩ rfl rfl (Nat.le_of_ble_eq_true rfl) h (fun d4 h => ?_)
    have h := rV_dn h
    refine ev_ldc dX5_first_16 w1083 ?_
    refine ev_istore_n (M := MX5_first) (ls2 := [.ref 0, .int p0, .int 1000000, uJ, uJ, uJ, uJ]) 2 dX5_first_18 rfl (Nat.le_of_ble_eq_true rfl) rfl ?_
    refine ev_bipush dX5_first_19 cb_m4 ?_
    refine ev_istore_n (M := MX5_first) (ls2 := [.ref 0, .int p0, .int 1000000, .int (-4), uJ, uJ, uJ]) 3 dX5_first_21 rfl (Nat.le_of_ble_eq_true rfl) rfl ?_
    refine ev_iconst dX5_first_22 ci_0 ?_
    refine ev_istore (M := MX5_first) (ls2 := [.ref 0, .int p0, .int 1000000, .int (-4), .int 0, uJ, uJ]) dX5_first_23 (Nat.le_of_ble_eq_true rfl) rfl ?_
    exact h
  · have h := h.2 c3
    refine ev_iconst dX5_first_10 ci_m1 ?_
    exact ev_ireti (M := MX5_first) (ty := .int) dX5_first_11 rfl rfl rfl h
set_option maxRecDepth 4000 in
theorem bk_X5_first_25 {q : Int32 → DD → Prop} {d : DD} {l1 : Int32} {l2 : Int32} {l3 : Int32} {l4 : Int32} (h : (((d 0 3) ≤ l4 → ((l3 = (-4) → q l3 d) ∧ (¬ l3 = (-4) → ((¬ l1 = 1 → q l2 d) ∧ (l1 = 1 → q l3 d))))) ∧ (¬ (d 0 3) ≤ l4 → (vp_in (64 + l4) 350 ∧ (∀ x4 : Int32, x4 = (d 1 (64 + l4).toNatClampNeg) → (vp_in x4 4 ∧ (((d 9 x4.toNatClampNeg) = 0 → Ev SM MX5_first 85 [.ref 0, .int l1, .int l2, .int l3, .int l4, .int x4, .int 0] [.int l3] d (rI q)) ∧ (¬ (d 9 x4.toNatClampNeg) = 0 → (vp_in x4 4 ∧ ((l2 ≤ (d 8 x4.toNatClampNeg) → Ev SM MX5_first 85 [.ref 0, .int l1, .int l2, .int l3, .int l4, .int x4, .int 0] [.int l3] d (rI q)) ∧ (¬ l2 ≤ (d 8 x4.toNatClampNeg) → Ev SM MX5_first 85 [.ref 0, .int l1, .int l2, .int l3, .int l4, .int x4, .int 1] [.int l4] d (rI q)))))))))))) : Ev SM MX5_first 25 [.ref 0, .int l1, .int l2, .int l3, .int l4, uJ, uJ] [] d (rI q) := by
  refine ev_iload dX5_first_25 rfl ?_
  refine ev_aload_n dX5_first_27 rfl ?_
  refine ev_get 3 dX5_first_28 sM_0 ck5 (Nat.le_of_ble_eq_true rfl) rfl w769 ?_
  refine ev_icmp_ge (M := MX5_first) (tgt := 109) dX5_first_31 rfl (fun c1 => ?_) (fun c1 => ?_)
  · have h := h.1 c1
    refine ev_iload_n dX5_first_109 rfl ?_
    refine ev_bipush dX5_first_110 cb_m4 ?_
    refine ev_icmp_eq (M := MX5_first) (tgt := 120) dX5_first_112 rfl (fun c2 => ?_) (fun c2 => ?_)
    · have h := h.1 c2
      refine ev_iload_n dX5_first_120 rfl ?_
      refine ev_goto (M := MX5_first) (tgt := 125) dX5_first_121 rfl ?_
      exact ev_ireti (M := MX5_first) (ty := .int) dX5_first_125 rfl rfl rfl h
    · have h := h.2 c2
      refine ev_iload_n dX5_first_115 rfl ?_
      refine ev_iconst dX5_first_116 ci_1 ?_
      refine ev_icmp_ne (M := MX5_first) (tgt := 124) dX5_first_117 rfl (fun c3 => ?_) (fun c3 => ?_)
      · have h := h.1 c3
        refine ev_iload_n dX5_first_124 rfl ?_
        exact ev_ireti (M := MX5_first) (ty := .int) dX5_first_125 rfl rfl rfl h
      · have h := h.2 c3
        refine ev_iload_n dX5_first_120 rfl ?_
        refine ev_goto (M := MX5_first) (tgt := 125) dX5_first_121 rfl ?_
        exact ev_ireti (M := MX5_first) (ty := .int) dX5_first_125 rfl rfl rfl h
  · have h := h.2 c1
    refine ev_aload_n dX5_first_34 rfl ?_
    refine ev_getr (M := MX5_first) (r := 1) 0 dX5_first_35 sM_0 ck5 (Nat.le_of_ble_eq_true rfl) rfl w766 ?_
    refine ev_bipush dX5_first_38 cb_64 ?_
    refine ev_iload dX5_first_40 rfl ?_
    refine ev_iadd dX5_first_42 ?_
    obtain ⟨g, h⟩ := h
    refine ev_iald dX5_first_43 sM_1 g ?_
    refine ev_topi (fun x4 ex4 => ?_)
    have h := h x4 ex4
    refine ev_istore (M := MX5_first) (ls2 := [.ref 0, .int l1, .int l2, .int l3, .int l4, .int x4, uJ]) dX5_first_44 (Nat.le_of_ble_eq_true rfl) rfl ?_
    refine ev_aload_n dX5_first_46 rfl ?_
    refine ev_getr (M := MX5_first) (r := 9) 23 dX5_first_47 sM_0 ck5 (Nat.le_of_ble_eq_true rfl) rfl w789 ?_
    refine ev_iload dX5_first_50 rfl ?_
    obtain ⟨g, h⟩ := h
    refine ev_iald dX5_first_52 sM_9 g ?_
    refine ev_if_eq (M := MX5_first) (tgt := 71) dX5_first_53 rfl (fun c5 => ?_) (fun c5 => ?_)
    · have h := h.1 c5
      refine ev_iconst dX5_first_71 ci_0 ?_
      refine ev_istore (M := MX5_first) (ls2 := [.ref 0, .int l1, .int l2, .int l3, .int l4, .int x4, .int 0]) dX5_first_72 (Nat.le_of_ble_eq_true rfl) rfl ?_
      refine ev_iload dX5_first_74 rfl ?_
      refine ev_if_eq (M := MX5_first) (tgt := 84) dX5_first_76 rfl (fun _ => ?_) (fun z => absurd z (by decide))
      refine ev_iload_n dX5_first_84 rfl ?_
      exact h
    · have h := h.2 c5
      refine ev_aload_n dX5_first_56 rfl ?_
      refine ev_getr (M := MX5_first) (r := 8) 22 dX5_first_57 sM_0 ck5 (Nat.le_of_ble_eq_true rfl) rfl w788 ?_
      refine ev_iload dX5_first_60 rfl ?_
      obtain ⟨g, h⟩ := h
      refine ev_iald dX5_first_62 sM_8 g ?_
      refine ev_iload_n dX5_first_63 rfl ?_
      refine ev_icmp_ge (M := MX5_first) (tgt := 71) dX5_first_64 rfl (fun c6 => ?_) (fun c6 => ?_)
      · have h := h.1 c6
        refine ev_iconst dX5_first_71 ci_0 ?_
        refine ev_istore (M := MX5_first) (ls2 := [.ref 0, .int l1, .int l2, .int l3, .int l4, .int x4, .int 0]) dX5_first_72 (Nat.le_of_ble_eq_true rfl) rfl ?_
        refine ev_iload dX5_first_74 rfl ?_
        refine ev_if_eq (M := MX5_first) (tgt := 84) dX5_first_76 rfl (fun _ => ?_) (fun z => absurd z (by decide))
        refine ev_iload_n dX5_first_84 rfl ?_
        exact h
      · have h := h.2 c6
        refine ev_iconst dX5_first_67 ci_1 ?_
        refine ev_goto (M := MX5_first) (tgt := 72) dX5_first_68 rfl ?_
        refine ev_istore (M := MX5_first) (ls2 := [.ref 0, .int l1, .int l2, .int l3, .int l4, .int x4, .int 1]) dX5_first_72 (Nat.le_of_ble_eq_true rfl) rfl ?_
        refine ev_iload dX5_first_74 rfl ?_
        refine ev_if_eq (M := MX5_first) (tgt := 84) dX5_first_76 rfl (fun z => absurd z (by decide)) (fun _ => ?_)
        refine ev_iload dX5_first_79 rfl ?_
        refine ev_goto (M := MX5_first) (tgt := 85) dX5_first_81 rfl ?_
        exact h
set_option maxRecDepth 4000 in
theorem bk_X5_first_85 {q : Int32 → DD → Prop} {d : DD} {l1 : Int32} {l2 : Int32} {l3 : Int32} {l4 : Int32} {l5 : Int32} {l6 : Int32} {k0 : Int32} (h : ((l6 = 0 → Ev SM MX5_first 25 [.ref 0, .int l1, .int l2, .int k0, .int (l4 + 1), uJ, uJ] [] d (rI q)) ∧ (¬ l6 = 0 → (vp_in l5 4 ∧ (∀ x2 : Int32, x2 = (d 8 l5.toNatClampNeg) → Ev SM MX5_first 25 [.ref 0, .int l1, .int x2, .int k0, .int (l4 + 1), uJ, uJ] [] d (rI q)))))) : Ev SM MX5_first 85 [.ref 0, .int l1, .int l2, .int l3, .int l4, .int l5, .int l6] [.int k0] d (rI q) := by
  refine ev_istore_n (M := MX5_first) (ls2 := [.ref 0, .int l1, .int l2, .int k0, .int l4, .int l5, .int l6]) 3 dX5_first_85 rfl (Nat.le_of_ble_eq_true rfl) rfl ?_
  refine ev_iload dX5_first_86 rfl ?_
  refine ev_if_eq (M := MX5_first) (tgt := 101) dX5_first_88 rfl (fun c1 => ?_) (fun c1 => ?_)
  · have h := h.1 c1
    refine ev_iload_n dX5_first_101 rfl ?_
    refine ev_istore_n (M := MX5_first) (ls2 := [.ref 0, .int l1, .int l2, .int k0, .int l4, .int l5, .int l6]) 2 dX5_first_102 rfl (Nat.le_of_ble_eq_true rfl) rfl ?_
    refine ev_iinc (M := MX5_first) (ls2 := [.ref 0, .int l1, .int l2, .int k0, .int (l4 + 1), .int l5, .int l6]) dX5_first_103 rfl (iin ci_1) (Nat.le_of_ble_eq_true rfl) rfl ?_
    refine ev_goto (M := MX5_first) (tgt := 25) dX5_first_106 rfl ?_
    refine Ev.forget (ls2 := [.ref 0, .int l1, .int l2, .int k0, .int (l4 + 1), uJ, uJ]) ?_ (fun i v hi hv => lsub_of (bs := [false, false, false, false, false, true, true]) rfl i v hi hv)
    exact h
  · have h := h.2 c1
    refine ev_aload_n dX5_first_91 rfl ?_
    refine ev_getr (M := MX5_first) (r := 8) 22 dX5_first_92 sM_0 ck5 (Nat.le_of_ble_eq_true rfl) rfl w788 ?_
    refine ev_iload dX5_first_95 rfl ?_
    obtain ⟨g, h⟩ := h
    refine ev_iald dX5_first_97 sM_8 g ?_
    refine ev_goto (M := MX5_first) (tgt := 102) dX5_first_98 rfl ?_
    refine ev_topi (fun x2 ex2 => ?_)
    have h := h x2 ex2
    refine ev_istore_n (M := MX5_first) (ls2 := [.ref 0, .int l1, .int x2, .int k0, .int l4, .int l5, .int l6]) 2 dX5_first_102 rfl (Nat.le_of_ble_eq_true rfl) rfl ?_
    refine ev_iinc (M := MX5_first) (ls2 := [.ref 0, .int l1, .int x2, .int k0, .int (l4 + 1), .int l5, .int l6]) dX5_first_103 rfl (iin ci_1) (Nat.le_of_ble_eq_true rfl) rfl ?_
    refine ev_goto (M := MX5_first) (tgt := 25) dX5_first_106 rfl ?_
    refine Ev.forget (ls2 := [.ref 0, .int l1, .int x2, .int k0, .int (l4 + 1), uJ, uJ]) ?_ (fun i v hi hv => lsub_of (bs := [false, false, false, false, false, true, true]) rfl i v hi hv)
    exact h
-- X5_copies
theorem cn_X5_copies {q : DD → Prop} {d : DD} {p0 : Int32} {p1 : Int32} (h : Ev SM MX5_copies 2 [.ref 0, .int p0, .int p1, .int 0] [] d (rV q)) : Cn SM MX5_copies [.ref 0, .int p0, .int p1] d (rV q) := by
  refine cn_of (ls := [.ref 0, .int p0, .int p1, uJ]) (by decide) rfl rfl (Nat.le_of_ble_eq_true rfl) ?_
  refine ev_iconst dX5_copies_0 ci_0 ?_
  refine ev_istore_n (M := MX5_copies) (ls2 := [.ref 0, .int p0, .int p1, .int 0]) 3 dX5_copies_1 rfl (Nat.le_of_ble_eq_true rfl) rfl ?_
  exact h
theorem bk_X5_copies_2 {q : DD → Prop} {d : DD} {l1 : Int32} {l2 : Int32} {l3 : Int32} (h : ((70 ≤ l3 → q d) ∧ (¬ 70 ≤ l3 → (vp_in (l1 + l3) 350 ∧ (vp_in (l2 + l3) 350 ∧ (∀ d2 : DD, d2 = (up d 1 (l2 + l3).toNatClampNeg (d 1 (l1 + l3).toNatClampNeg)) → Ev SM MX5_copies 2 [.ref 0, .int l1, .int l2, .int (l3 + 1)] [] d2 (rV q))))))) : Ev SM MX5_copies 2 [.ref 0, .int l1, .int l2, .int l3] [] d (rV q) := by
  refine ev_iload_n dX5_copies_2 rfl ?_
  refine ev_bipush dX5_copies_3 cb_70 ?_
  refine ev_icmp_ge (M := MX5_copies) (tgt := 30) dX5_copies_5 rfl (fun c1 => ?_) (fun c1 => ?_)
  · have h := h.1 c1
    exact ev_ret (M := MX5_copies) dX5_copies_30 rfl rfl h
  · have h := h.2 c1
    refine ev_aload_n dX5_copies_8 rfl ?_
    refine ev_getr (M := MX5_copies) (r := 1) 0 dX5_copies_9 sM_0 ck5 (Nat.le_of_ble_eq_true rfl) rfl w766 ?_
    refine ev_iload_n dX5_copies_12 rfl ?_
    refine ev_iload_n dX5_copies_13 rfl ?_
    refine ev_iadd dX5_copies_14 ?_
    refine ev_aload_n dX5_copies_15 rfl ?_
    refine ev_getr (M := MX5_copies) (r := 1) 0 dX5_copies_16 sM_0 ck5 (Nat.le_of_ble_eq_true rfl) rfl w766 ?_
    refine ev_iload_n dX5_copies_19 rfl ?_
    refine ev_iload_n dX5_copies_20 rfl ?_
    refine ev_iadd dX5_copies_21 ?_
    obtain ⟨g, h⟩ := h
    refine ev_iald dX5_copies_22 sM_1 g ?_
    obtain ⟨g, h⟩ := h
    refine ev_iast dX5_copies_23 sM_1 g ?_
    refine ev_topd (fun d2 ed2 => ?_)
    have h := h d2 ed2
    refine ev_iinc (M := MX5_copies) (ls2 := [.ref 0, .int l1, .int l2, .int (l3 + 1)]) dX5_copies_24 rfl (iin ci_1) (Nat.le_of_ble_eq_true rfl) rfl ?_
    refine ev_goto (M := MX5_copies) (tgt := 2) dX5_copies_27 rfl ?_
    exact h
-- X5_laysFigures
theorem cn_X5_laysFigures {q : DD → Prop} {d : DD} {p0 : Int32} {p1 : Int32} {p2 : Int32} {p3 : Int32} (h : Ev SM MX5_laysFigures 9 [.ref 0, .int p0, .int p1, .int p2, .int p3, .int p0, .int (p3 - 1)] [] d (rV q)) : Cn SM MX5_laysFigures [.ref 0, .int p0, .int p1, .int p2, .int p3] d (rV q) := by
  refine cn_of (ls := [.ref 0, .int p0, .int p1, .int p2, .int p3, uJ, uJ]) (by decide) rfl rfl (Nat.le_of_ble_eq_true rfl) ?_
  refine ev_iload_n dX5_laysFigures_0 rfl ?_
  refine ev_istore (M := MX5_laysFigures) (ls2 := [.ref 0, .int p0, .int p1, .int p2, .int p3, .int p0, uJ]) dX5_laysFigures_1 (Nat.le_of_ble_eq_true rfl) rfl ?_
  refine ev_iload dX5_laysFigures_3 rfl ?_
  refine ev_iconst dX5_laysFigures_5 ci_1 ?_
  refine ev_isub dX5_laysFigures_6 ?_
  refine ev_istore (M := MX5_laysFigures) (ls2 := [.ref 0, .int p0, .int p1, .int p2, .int p3, .int p0, .int (p3 - 1)]) dX5_laysFigures_7 (Nat.le_of_ble_eq_true rfl) rfl ?_
  exact h
theorem bk_X5_laysFigures_9 {q : DD → Prop} {d : DD} {l1 : Int32} {l2 : Int32} {l3 : Int32} {l4 : Int32} {l5 : Int32} {l6 : Int32} (h : ((l6 < 0 → q d) ∧ (¬ l6 < 0 → ((¬ l2 = 0) ∧ (vp_in (l3 + l6) 350 ∧ (∀ d2 : DD, d2 = (up d 1 (l3 + l6).toNatClampNeg (jrem l5 l2)) → ((¬ l2 = 0) ∧ Ev SM MX5_laysFigures 9 [.ref 0, .int l1, .int l2, .int l3, .int l4, .int (l5 / l2), .int (l6 + (-1))] [] d2 (rV q)))))))) : Ev SM MX5_laysFigures 9 [.ref 0, .int l1, .int l2, .int l3, .int l4, .int l5, .int l6] [] d (rV q) := by
  refine ev_iload dX5_laysFigures_9 rfl ?_
  refine ev_if_lt (M := MX5_laysFigures) (tgt := 39) dX5_laysFigures_11 rfl (fun c1 => ?_) (fun c1 => ?_)
  · have h := h.1 c1
    exact ev_ret (M := MX5_laysFigures) dX5_laysFigures_39 rfl rfl h
  · have h := h.2 c1
    refine ev_aload_n dX5_laysFigures_14 rfl ?_
    refine ev_getr (M := MX5_laysFigures) (r := 1) 0 dX5_laysFigures_15 sM_0 ck5 (Nat.le_of_ble_eq_true rfl) rfl w766 ?_
    refine ev_iload_n dX5_laysFigures_18 rfl ?_
    refine ev_iload dX5_laysFigures_19 rfl ?_
    refine ev_iadd dX5_laysFigures_21 ?_
    refine ev_iload dX5_laysFigures_22 rfl ?_
    refine ev_iload_n dX5_laysFigures_24 rfl ?_
    obtain ⟨g, h⟩ := h
    refine ev_irem dX5_laysFigures_25 g ?_
    obtain ⟨g, h⟩ := h
    refine ev_iast dX5_laysFigures_26 sM_1 g ?_
    refine ev_topd (fun d2 ed2 => ?_)
    have h := h d2 ed2
    refine ev_iload dX5_laysFigures_27 rfl ?_
    refine ev_iload_n dX5_laysFigures_29 rfl ?_
    obtain ⟨g, h⟩ := h
    refine ev_idiv dX5_laysFigures_30 g ?_
    refine ev_istore (M := MX5_laysFigures) (ls2 := [.ref 0, .int l1, .int l2, .int l3, .int l4, .int (l5 / l2), .int l6]) dX5_laysFigures_31 (Nat.le_of_ble_eq_true rfl) rfl ?_
    refine ev_iinc (M := MX5_laysFigures) (ls2 := [.ref 0, .int l1, .int l2, .int l3, .int l4, .int (l5 / l2), .int (l6 + (-1))]) dX5_laysFigures_33 rfl (iin ci_m1) (Nat.le_of_ble_eq_true rfl) rfl ?_
    refine ev_goto (M := MX5_laysFigures) (tgt := 9) dX5_laysFigures_36 rfl ?_
    exact h
-- X5_powerOf
theorem cn_X5_powerOf {q : Int32 → DD → Prop} {d : DD} {p0 : Int32} {p1 : Int32} (h : Ev SM MX5_powerOf 4 [.int p0, .int p1, .int 1, .int 0] [] d (rI q)) : Cn SM MX5_powerOf [.int p0, .int p1] d (rI q) := by
  refine cn_of (ls := [.int p0, .int p1, uJ, uJ]) (by decide) rfl rfl (Nat.le_of_ble_eq_true rfl) ?_
  refine ev_iconst dX5_powerOf_0 ci_1 ?_
  refine ev_istore_n (M := MX5_powerOf) (ls2 := [.int p0, .int p1, .int 1, uJ]) 2 dX5_powerOf_1 rfl (Nat.le_of_ble_eq_true rfl) rfl ?_
  refine ev_iconst dX5_powerOf_2 ci_0 ?_
  refine ev_istore_n (M := MX5_powerOf) (ls2 := [.int p0, .int p1, .int 1, .int 0]) 3 dX5_powerOf_3 rfl (Nat.le_of_ble_eq_true rfl) rfl ?_
  exact h
theorem bk_X5_powerOf_4 {q : Int32 → DD → Prop} {d : DD} {l0 : Int32} {l1 : Int32} {l2 : Int32} {l3 : Int32} (h : ((l1 ≤ l3 → q l2 d) ∧ (¬ l1 ≤ l3 → Ev SM MX5_powerOf 4 [.int l0, .int l1, .int (l2 * l0), .int (l3 + 1)] [] d (rI q)))) : Ev SM MX5_powerOf 4 [.int l0, .int l1, .int l2, .int l3] [] d (rI q) := by
  refine ev_iload_n dX5_powerOf_4 rfl ?_
  refine ev_iload_n dX5_powerOf_5 rfl ?_
  refine ev_icmp_ge (M := MX5_powerOf) (tgt := 19) dX5_powerOf_6 rfl (fun c1 => ?_) (fun c1 => ?_)
  · have h := h.1 c1
    refine ev_iload_n dX5_powerOf_19 rfl ?_
    exact ev_ireti (M := MX5_powerOf) (ty := .int) dX5_powerOf_20 rfl rfl rfl h
  · have h := h.2 c1
    refine ev_iload_n dX5_powerOf_9 rfl ?_
    refine ev_iload_n dX5_powerOf_10 rfl ?_
    refine ev_imul dX5_powerOf_11 ?_
    refine ev_istore_n (M := MX5_powerOf) (ls2 := [.int l0, .int l1, .int (l2 * l0), .int l3]) 2 dX5_powerOf_12 rfl (Nat.le_of_ble_eq_true rfl) rfl ?_
    refine ev_iinc (M := MX5_powerOf) (ls2 := [.int l0, .int l1, .int (l2 * l0), .int (l3 + 1)]) dX5_powerOf_13 rfl (iin ci_1) (Nat.le_of_ble_eq_true rfl) rfl ?_
    refine ev_goto (M := MX5_powerOf) (tgt := 4) dX5_powerOf_16 rfl ?_
    exact h
-- X5_best
set_option maxRecDepth 4000 in
theorem cn_X5_best {q : Int32 → DD → Prop} {d : DD} {p0 : Int32} (h : (Cn SM MX5_in [.long p0.toInt64, .long 0, .long 1] d (rI fun r2 d1 => ((¬ r2 = 0 → Ev SM MX5_best 31 [.ref 0, .int p0, uJ, uJ, uJ, uJ, uJ, uJ] [] d1 (rI q)) ∧ (r2 = 0 → (Cn SM MX5_in [.long p0.toInt64, .long 10, .long (9 + (d1 0 2)).toInt64] d1 (rI fun r5 d4 => ((¬ r5 = 0 → Ev SM MX5_best 31 [.ref 0, .int p0, uJ, uJ, uJ, uJ, uJ, uJ] [] d4 (rI q)) ∧ (r5 = 0 → q (-1) d4))))))))) : Cn SM MX5_best [.ref 0, .int p0] d (rI q) := by
  refine cn_of (ls := [.ref 0, .int p0, uJ, uJ, uJ, uJ, uJ, uJ]) (by decide) rfl rfl (Nat.le_of_ble_eq_true rfl) ?_
  refine ev_iload_n dX5_best_0 rfl ?_
  refine ev_i2l dX5_best_1 ?_
  refine ev_lconst (M := MX5_best) (v := 0) dX5_best_2 rfl ?_
  refine ev_lconst (M := MX5_best) (v := 1) dX5_best_3 rfl ?_
  refine ev_callSi (M := MX5_best) (M2 := MX5_in) (As := [.long p0.toInt64, .long 0, .long 1]) (rest := []) dX5_best_4 w877 moX5_in rfl ⟨Nat.le_of_ble_eq_true rfl, Nat.le_of_ble_eq_true rfl⟩ rfl rfl (Nat.le_of_ble_eq_true rfl) h (fun r2 d1 h => ?_)
  have h := rI_dn h
  refine ev_if_ne (M := MX5_best) (tgt := 31) dX5_best_7 rfl (fun c3 => ?_) (fun c3 => ?_)
  · have h := h.1 c3
    exact h
  · have h := h.2 c3
    refine ev_iload_n dX5_best_10 rfl ?_
    refine ev_i2l dX5_best_11 ?_
    refine ev_ldc2 dX5_best_12 w1088 ?_
    refine ev_bipush dX5_best_15 cb_9 ?_
    refine ev_aload_n dX5_best_17 rfl ?_
    refine ev_get 2 dX5_best_18 sM_0 ck5 (Nat.le_of_ble_eq_true rfl) rfl w768 ?_
    refine ev_iadd dX5_best_21 ?_
    refine ev_i2l dX5_best_22 ?_
    refine ev_callSi (M := MX5_best) (M2 := MX5_in) (As := [.long p0.toInt64, .long 10, .long (9 + (d1 0 2)).toInt64]) (rest := []) dX5_best_23 w877 moX5_in rfl ⟨Nat.le_of_ble_eq_true rfl, Nat.le_of_ble_eq_true rfl⟩ rfl rfl (Nat.le_of_ble_eq_true rfl) h (fun r5 d4 h => ?_)
    have h := rI_dn h
    refine ev_if_ne (M := MX5_best) (tgt := 31) dX5_best_26 rfl (fun c6 => ?_) (fun c6 => ?_)
    · have h := h.1 c6
      exact h
    · have h := h.2 c6
      refine ev_iconst dX5_best_29 ci_m1 ?_
      exact ev_ireti (M := MX5_best) (ty := .int) dX5_best_30 rfl rfl rfl h
set_option maxRecDepth 4000 in
theorem bk_X5_best_31 {q : Int32 → DD → Prop} {d : DD} {l1 : Int32} (h : ((¬ (d 0 1) = 0 → (Cn SM MX5_copies [.ref 0, .int 0, .int 280] d (rV fun d2 => Ev SM MX5_best 61 [.ref 0, .int l1, .int 1000000, .int 1000000, .int 0, .int 0, uJ, uJ] [] d2 (rI q)))) ∧ ((d 0 1) = 0 → q (-2) d))) : Ev SM MX5_best 31 [.ref 0, .int l1, uJ, uJ, uJ, uJ, uJ, uJ] [] d (rI q) := by
  refine ev_aload_n dX5_best_31 rfl ?_
  refine ev_get 1 dX5_best_32 sM_0 ck5 (Nat.le_of_ble_eq_true rfl) rfl w767 ?_
  refine ev_if_ne (M := MX5_best) (tgt := 41) dX5_best_35 rfl (fun c1 => ?_) (fun c1 => ?_)
  · have h := h.1 c1
    refine ev_ldc dX5_best_41 w1083 ?_
    refine ev_istore_n (M := MX5_best) (ls2 := [.ref 0, .int l1, .int 1000000, uJ, uJ, uJ, uJ, uJ]) 2 dX5_best_43 rfl (Nat.le_of_ble_eq_true rfl) rfl ?_
    refine ev_ldc dX5_best_44 w1083 ?_
    refine ev_istore_n (M := MX5_best) (ls2 := [.ref 0, .int l1, .int 1000000, .int 1000000, uJ, uJ, uJ, uJ]) 3 dX5_best_46 rfl (Nat.le_of_ble_eq_true rfl) rfl ?_
    refine ev_iconst dX5_best_47 ci_0 ?_
    refine ev_istore (M := MX5_best) (ls2 := [.ref 0, .int l1, .int 1000000, .int 1000000, .int 0, uJ, uJ, uJ]) dX5_best_48 (Nat.le_of_ble_eq_true rfl) rfl ?_
    refine ev_aload_n dX5_best_50 rfl ?_
    refine ev_iconst dX5_best_51 ci_0 ?_
    refine ev_sipush dX5_best_52 cs_280 ?_
    refine ev_callVv (M := MX5_best) (M2 := MX5_copies) (As := [.int 0, .int 280]) (rest := []) dX5_best_55 sM_0 ck5 rfl w1089 moX5_copies rfl ⟨Nat.le_of_ble_eq_true rfl, Nat.le_of_ble_eq_true rfl⟩ rfl rfl (Nat.le_of_ble_eq_true rfl) h (fun d2 h => ?_)
    have h := rV_dn h
    refine ev_iconst dX5_best_58 ci_0 ?_
    refine ev_istore (M := MX5_best) (ls2 := [.ref 0, .int l1, .int 1000000, .int 1000000, .int 0, .int 0, uJ, uJ]) dX5_best_59 (Nat.le_of_ble_eq_true rfl) rfl ?_
    exact h
  · have h := h.2 c1
    refine ev_bipush dX5_best_38 cb_m2 ?_
    exact ev_ireti (M := MX5_best) (ty := .int) dX5_best_40 rfl rfl rfl h
set_option maxRecDepth 4000 in
theorem bk_X5_best_61 {q : Int32 → DD → Prop} {d : DD} {l1 : Int32} {l2 : Int32} {l3 : Int32} {l4 : Int32} {l5 : Int32} (h : (Cn SM MX5_powerOf [.int (d 0 1), .int (d 0 2)] d (rI fun r2 d1 => ((r2 ≤ l5 → (Cn SM MX5_laysFigures [.ref 0, .int l4, .int (d1 0 1), .int 60, .int (d1 0 2)] d1 (rV fun d4 => ((¬ l1 = 0 → ((¬ l1 = 1 → (vp_in ((60 + l1) - 10) 350 ∧ (∀ x7 : Int32, x7 = (d4 1 ((60 + l1) - 10).toNatClampNeg) → (Cn SM MX5_copies [.ref 0, .int 280, .int 0] d4 (rV fun d8 => q x7 d8))))) ∧ (l1 = 1 → (Cn SM MX5_copies [.ref 0, .int 280, .int 0] d4 (rV fun d9 => q l3 d9))))) ∧ (l1 = 0 → (Cn SM MX5_copies [.ref 0, .int 280, .int 0] d4 (rV fun d10 => q l2 d10))))))) ∧ (¬ r2 ≤ l5 → (Cn SM MX5_laysFigures [.ref 0, .int l5, .int (d1 0 1), .int 60, .int (d1 0 2)] d1 (rV fun d11 => (Cn SM MX5_awayMany [.ref 0] d11 (rI fun r13 d12 => ((r13 < l2 → Ev SM MX5_best 138 [.ref 0, .int l1, .int l2, .int l3, .int l4, .int l5, .int r13, .int 1] [.int l5] d12 (rI q)) ∧ (¬ r13 < l2 → ((¬ r13 = l2 → Ev SM MX5_best 138 [.ref 0, .int l1, .int l2, .int l3, .int l4, .int l5, .int r13, .int 0] [.int l4] d12 (rI q)) ∧ (r13 = l2 → (Cn SM MX5_cost [.ref 0] d12 (rI fun r17 d16 => ((l3 ≤ r17 → Ev SM MX5_best 138 [.ref 0, .int l1, .int l2, .int l3, .int l4, .int l5, .int r13, .int 0] [.int l4] d16 (rI q)) ∧ (¬ l3 ≤ r17 → Ev SM MX5_best 138 [.ref 0, .int l1, .int l2, .int l3, .int l4, .int l5, .int r13, .int 1] [.int l5] d16 (rI q)))))))))))))))))) : Ev SM MX5_best 61 [.ref 0, .int l1, .int l2, .int l3, .int l4, .int l5, uJ, uJ] [] d (rI q) := by
  refine ev_iload dX5_best_61 rfl ?_
  refine ev_aload_n dX5_best_63 rfl ?_
  refine ev_get 1 dX5_best_64 sM_0 ck5 (Nat.le_of_ble_eq_true rfl) rfl w767 ?_
  refine ev_aload_n dX5_best_67 rfl ?_
  refine ev_get 2 dX5_best_68 sM_0 ck5 (Nat.le_of_ble_eq_true rfl) rfl w768 ?_
  refine ev_callSi (M := MX5_best) (M2 := MX5_powerOf) (As := [.int (d 0 1), .int (d 0 2)]) (rest := [.int l5]) dX5_best_71 w1093 moX5_powerOf rfl ⟨Nat.le_of_ble_eq_true rfl, Nat.le_of_ble_eq_true rfl⟩ rfl rfl (Nat.le_of_ble_eq_true rfl) h (fun r2 d1 h => ?_)
  have h := rI_dn h
  refine ev_icmp_ge (M := MX5_best) (tgt := 172) dX5_best_74 rfl (fun c3 => ?_) (fun c3 => ?_)
  · have h := h.1 c3
    refine ev_aload_n dX5_best_172 rfl ?_
    refine ev_iload dX5_best_173 rfl ?_
    refine ev_aload_n dX5_best_175 rfl ?_
    refine ev_get 1 dX5_best_176 sM_0 ck5 (Nat.le_of_ble_eq_true rfl) rfl w767 ?_
    refine ev_bipush dX5_best_179 cb_60 ?_
    refine ev_aload_n dX5_best_181 rfl ?_
    refine ev_get 2 dX5_best_182 sM_0 ck5 (Nat.le_of_ble_eq_true rfl) rfl w768 ?_
    refine ev_callVv (M := MX5_best) (M2 := MX5_laysFigures) (As := [.int l4, .int (d1 0 1), .int 60, .int (d1 0 2)]) (rest := []) dX5_best_185 sM_0 ck5 rfl w1096 moX5_laysFigures rfl ⟨Nat.le_of_ble_eq_true rfl, Nat.le_of_ble_eq_true rfl⟩ rfl rfl (Nat.le_of_ble_eq_true rfl) h (fun d4 h => ?_)
    have h := rV_dn h
    refine ev_iload_n dX5_best_188 rfl ?_
    refine ev_if_ne (M := MX5_best) (tgt := 196) dX5_best_189 rfl (fun c5 => ?_) (fun c5 => ?_)
    · have h := h.1 c5
      refine ev_iload_n dX5_best_196 rfl ?_
      refine ev_iconst dX5_best_197 ci_1 ?_
      refine ev_icmp_ne (M := MX5_best) (tgt := 205) dX5_best_198 rfl (fun c6 => ?_) (fun c6 => ?_)
      · have h := h.1 c6
        refine ev_aload_n dX5_best_205 rfl ?_
        refine ev_getr (M := MX5_best) (r := 1) 0 dX5_best_206 sM_0 ck5 (Nat.le_of_ble_eq_true rfl) rfl w766 ?_
        refine ev_bipush dX5_best_209 cb_60 ?_
        refine ev_iload_n dX5_best_211 rfl ?_
        refine ev_iadd dX5_best_212 ?_
        refine ev_bipush dX5_best_213 cb_10 ?_
        refine ev_isub dX5_best_215 ?_
        obtain ⟨g, h⟩ := h
        refine ev_iald dX5_best_216 sM_1 g ?_
        refine ev_topi (fun x7 ex7 => ?_)
        have h := h x7 ex7
        refine ev_istore (M := MX5_best) (ls2 := [.ref 0, .int l1, .int l2, .int l3, .int l4, .int x7, uJ, uJ]) dX5_best_217 (Nat.le_of_ble_eq_true rfl) rfl ?_
        refine ev_aload_n dX5_best_219 rfl ?_
        refine ev_sipush dX5_best_220 cs_280 ?_
        refine ev_iconst dX5_best_223 ci_0 ?_
        refine ev_callVv (M := MX5_best) (M2 := MX5_copies) (As := [.int 280, .int 0]) (rest := []) dX5_best_224 sM_0 ck5 rfl w1089 moX5_copies rfl ⟨Nat.le_of_ble_eq_true rfl, Nat.le_of_ble_eq_true rfl⟩ rfl rfl (Nat.le_of_ble_eq_true rfl) h (fun d8 h => ?_)
        have h := rV_dn h
        refine ev_iload dX5_best_227 rfl ?_
        exact ev_ireti (M := MX5_best) (ty := .int) dX5_best_229 rfl rfl rfl h
      · have h := h.2 c6
        refine ev_iload_n dX5_best_201 rfl ?_
        refine ev_goto (M := MX5_best) (tgt := 217) dX5_best_202 rfl ?_
        refine ev_istore (M := MX5_best) (ls2 := [.ref 0, .int l1, .int l2, .int l3, .int l4, .int l3, uJ, uJ]) dX5_best_217 (Nat.le_of_ble_eq_true rfl) rfl ?_
        refine ev_aload_n dX5_best_219 rfl ?_
        refine ev_sipush dX5_best_220 cs_280 ?_
        refine ev_iconst dX5_best_223 ci_0 ?_
        refine ev_callVv (M := MX5_best) (M2 := MX5_copies) (As := [.int 280, .int 0]) (rest := []) dX5_best_224 sM_0 ck5 rfl w1089 moX5_copies rfl ⟨Nat.le_of_ble_eq_true rfl, Nat.le_of_ble_eq_true rfl⟩ rfl rfl (Nat.le_of_ble_eq_true rfl) h (fun d9 h => ?_)
        have h := rV_dn h
        refine ev_iload dX5_best_227 rfl ?_
        exact ev_ireti (M := MX5_best) (ty := .int) dX5_best_229 rfl rfl rfl h
    · have h := h.2 c5
      refine ev_iload_n dX5_best_192 rfl ?_
      refine ev_goto (M := MX5_best) (tgt := 217) dX5_best_193 rfl ?_
      refine ev_istore (M := MX5_best) (ls2 := [.ref 0, .int l1, .int l2, .int l3, .int l4, .int l2, uJ, uJ]) dX5_best_217 (Nat.le_of_ble_eq_true rfl) rfl ?_
      refine ev_aload_n dX5_best_219 rfl ?_
      refine ev_sipush dX5_best_220 cs_280 ?_
      refine ev_iconst dX5_best_223 ci_0 ?_
      refine ev_callVv (M := MX5_best) (M2 := MX5_copies) (As := [.int 280, .int 0]) (rest := []) dX5_best_224 sM_0 ck5 rfl w1089 moX5_copies rfl ⟨Nat.le_of_ble_eq_true rfl, Nat.le_of_ble_eq_true rfl⟩ rfl rfl (Nat.le_of_ble_eq_true rfl) h (fun d10 h => ?_)
      have h := rV_dn h
      refine ev_iload dX5_best_227 rfl ?_
      exact ev_ireti (M := MX5_best) (ty := .int) dX5_best_229 rfl rfl rfl h
  · have h := h.2 c3
    refine ev_aload_n dX5_best_77 rfl ?_
    refine ev_iload dX5_best_78 rfl ?_
    refine ev_aload_n dX5_best_80 rfl ?_
    refine ev_get 1 dX5_best_81 sM_0 ck5 (Nat.le_of_ble_eq_true rfl) rfl w767 ?_
    refine ev_bipush dX5_best_84 cb_60 ?_
    refine ev_aload_n dX5_best_86 rfl ?_
    refine ev_get 2 dX5_best_87 sM_0 ck5 (Nat.le_of_ble_eq_true rfl) rfl w768 ?_
    refine ev_callVv (M := MX5_best) (M2 := MX5_laysFigures) (As := [.int l5, .int (d1 0 1), .int 60, .int (d1 0 2)]) (rest := []) dX5_best_90 sM_0 ck5 rfl w1096 moX5_laysFigures rfl ⟨Nat.le_of_ble_eq_true rfl, Nat.le_of_ble_eq_true rfl⟩ rfl rfl (Nat.le_of_ble_eq_true rfl) h (fun d11 h => ?_)
    have h := rV_dn h
    refine ev_aload_n dX5_best_93 rfl ?_
    refine ev_callVi (M := MX5_best) (M2 := MX5_awayMany) (As := []) (rest := []) dX5_best_94 sM_0 ck5 rfl w1100 moX5_awayMany rfl ⟨Nat.le_of_ble_eq_true rfl, Nat.le_of_ble_eq_true rfl⟩ rfl rfl (Nat.le_of_ble_eq_true rfl) h (fun r13 d12 h => ?_)
    have h := rI_dn h
    refine ev_istore (M := MX5_best) (ls2 := [.ref 0, .int l1, .int l2, .int l3, .int l4, .int l5, .int r13, uJ]) dX5_best_97 (Nat.le_of_ble_eq_true rfl) rfl ?_
    refine ev_iload dX5_best_99 rfl ?_
    refine ev_iload_n dX5_best_101 rfl ?_
    refine ev_icmp_lt (M := MX5_best) (tgt := 119) dX5_best_102 rfl (fun c14 => ?_) (fun c14 => ?_)
    · have h := h.1 c14
      refine ev_iconst dX5_best_119 ci_1 ?_
      refine ev_goto (M := MX5_best) (tgt := 124) dX5_best_120 rfl ?_
      refine ev_istore (M := MX5_best) (ls2 := [.ref 0, .int l1, .int l2, .int l3, .int l4, .int l5, .int r13, .int 1]) dX5_best_124 (Nat.le_of_ble_eq_true rfl) rfl ?_
      refine ev_iload dX5_best_126 rfl ?_
      refine ev_if_eq (M := MX5_best) (tgt := 136) dX5_best_128 rfl (fun z => absurd z (by decide)) (fun _ => ?_)
      refine ev_iload dX5_best_131 rfl ?_
      refine ev_goto (M := MX5_best) (tgt := 138) dX5_best_133 rfl ?_
      exact h
    · have h := h.2 c14
      refine ev_iload dX5_best_105 rfl ?_
      refine ev_iload_n dX5_best_107 rfl ?_
      refine ev_icmp_ne (M := MX5_best) (tgt := 123) dX5_best_108 rfl (fun c15 => ?_) (fun c15 => ?_)
      · have h := h.1 c15
        refine ev_iconst dX5_best_123 ci_0 ?_
        refine ev_istore (M := MX5_best) (ls2 := [.ref 0, .int l1, .int l2, .int l3, .int l4, .int l5, .int r13, .int 0]) dX5_best_124 (Nat.le_of_ble_eq_true rfl) rfl ?_
        refine ev_iload dX5_best_126 rfl ?_
        refine ev_if_eq (M := MX5_best) (tgt := 136) dX5_best_128 rfl (fun _ => ?_) (fun z => absurd z (by decide))
        refine ev_iload dX5_best_136 rfl ?_
        exact h
      · have h := h.2 c15
        refine ev_aload_n dX5_best_111 rfl ?_
        refine ev_callVi (M := MX5_best) (M2 := MX5_cost) (As := []) (rest := []) dX5_best_112 sM_0 ck5 rfl w1075 moX5_cost rfl ⟨Nat.le_of_ble_eq_true rfl, Nat.le_of_ble_eq_true rfl⟩ rfl rfl (Nat.le_of_ble_eq_true rfl) h (fun r17 d16 h => ?_)
        have h := rI_dn h
        refine ev_iload_n dX5_best_115 rfl ?_
        refine ev_icmp_ge (M := MX5_best) (tgt := 123) dX5_best_116 rfl (fun c18 => ?_) (fun c18 => ?_)
        · have h := h.1 c18
          refine ev_iconst dX5_best_123 ci_0 ?_
          refine ev_istore (M := MX5_best) (ls2 := [.ref 0, .int l1, .int l2, .int l3, .int l4, .int l5, .int r13, .int 0]) dX5_best_124 (Nat.le_of_ble_eq_true rfl) rfl ?_
          refine ev_iload dX5_best_126 rfl ?_
          refine ev_if_eq (M := MX5_best) (tgt := 136) dX5_best_128 rfl (fun _ => ?_) (fun z => absurd z (by decide))
          refine ev_iload dX5_best_136 rfl ?_
          exact h
        · have h := h.2 c18
          refine ev_iconst dX5_best_119 ci_1 ?_
          refine ev_goto (M := MX5_best) (tgt := 124) dX5_best_120 rfl ?_
          refine ev_istore (M := MX5_best) (ls2 := [.ref 0, .int l1, .int l2, .int l3, .int l4, .int l5, .int r13, .int 1]) dX5_best_124 (Nat.le_of_ble_eq_true rfl) rfl ?_
          refine ev_iload dX5_best_126 rfl ?_
          refine ev_if_eq (M := MX5_best) (tgt := 136) dX5_best_128 rfl (fun z => absurd z (by decide)) (fun _ => ?_)
          refine ev_iload dX5_best_131 rfl ?_
          refine ev_goto (M := MX5_best) (tgt := 138) dX5_best_133 rfl ?_
          exact h
set_option maxRecDepth 4000 in
theorem bk_X5_best_138 {q : Int32 → DD → Prop} {d : DD} {l1 : Int32} {l2 : Int32} {l3 : Int32} {l4 : Int32} {l5 : Int32} {l6 : Int32} {l7 : Int32} {k0 : Int32} (h : ((l7 = 0 → ((l7 = 0 → Ev SM MX5_best 61 [.ref 0, .int l1, .int l2, .int l3, .int k0, .int (l5 + 1), uJ, uJ] [] d (rI q)) ∧ (¬ l7 = 0 → Ev SM MX5_best 61 [.ref 0, .int l1, .int l6, .int l3, .int k0, .int (l5 + 1), uJ, uJ] [] d (rI q)))) ∧ (¬ l7 = 0 → (Cn SM MX5_cost [.ref 0] d (rI fun r4 d3 => ((l7 = 0 → Ev SM MX5_best 61 [.ref 0, .int l1, .int l2, .int r4, .int k0, .int (l5 + 1), uJ, uJ] [] d3 (rI q)) ∧ (¬ l7 = 0 → Ev SM MX5_best 61 [.ref 0, .int l1, .int l6, .int r4, .int k0, .int (l5 + 1), uJ, uJ] [] d3 (rI q)))))))) : Ev SM MX5_best 138 [.ref 0, .int l1, .int l2, .int l3, .int l4, .int l5, .int l6, .int l7] [.int k0] d (rI q) := by
  refine ev_istore (M := MX5_best) (ls2 := [.ref 0, .int l1, .int l2, .int l3, .int k0, .int l5, .int l6, .int l7]) dX5_best_138 (Nat.le_of_ble_eq_true rfl) rfl ?_
  refine ev_iload dX5_best_140 rfl ?_
  refine ev_if_eq (M := MX5_best) (tgt := 152) dX5_best_142 rfl (fun c1 => ?_) (fun c1 => ?_)
  · have h := h.1 c1
    refine ev_iload_n dX5_best_152 rfl ?_
    refine ev_istore_n (M := MX5_best) (ls2 := [.ref 0, .int l1, .int l2, .int l3, .int k0, .int l5, .int l6, .int l7]) 3 dX5_best_153 rfl (Nat.le_of_ble_eq_true rfl) rfl ?_
    refine ev_iload dX5_best_154 rfl ?_
    refine ev_if_eq (M := MX5_best) (tgt := 164) dX5_best_156 rfl (fun c2 => ?_) (fun c2 => ?_)
    · have h := h.1 c2
      refine ev_iload_n dX5_best_164 rfl ?_
      refine ev_istore_n (M := MX5_best) (ls2 := [.ref 0, .int l1, .int l2, .int l3, .int k0, .int l5, .int l6, .int l7]) 2 dX5_best_165 rfl (Nat.le_of_ble_eq_true rfl) rfl ?_
      refine ev_iinc (M := MX5_best) (ls2 := [.ref 0, .int l1, .int l2, .int l3, .int k0, .int (l5 + 1), .int l6, .int l7]) dX5_best_166 rfl (iin ci_1) (Nat.le_of_ble_eq_true rfl) rfl ?_
      refine ev_goto (M := MX5_best) (tgt := 61) dX5_best_169 rfl ?_
      refine Ev.forget (ls2 := [.ref 0, .int l1, .int l2, .int l3, .int k0, .int (l5 + 1), uJ, uJ]) ?_ (fun i v hi hv => lsub_of (bs := [false, false, false, false, false, false, true, true]) rfl i v hi hv)
      exact h
    · have h := h.2 c2
      refine ev_iload dX5_best_159 rfl ?_
      refine ev_goto (M := MX5_best) (tgt := 165) dX5_best_161 rfl ?_
      refine ev_istore_n (M := MX5_best) (ls2 := [.ref 0, .int l1, .int l6, .int l3, .int k0, .int l5, .int l6, .int l7]) 2 dX5_best_165 rfl (Nat.le_of_ble_eq_true rfl) rfl ?_
      refine ev_iinc (M := MX5_best) (ls2 := [.ref 0, .int l1, .int l6, .int l3, .int k0, .int (l5 + 1), .int l6, .int l7]) dX5_best_166 rfl (iin ci_1) (Nat.le_of_ble_eq_true rfl) rfl ?_
      refine ev_goto (M := MX5_best) (tgt := 61) dX5_best_169 rfl ?_
      refine Ev.forget (ls2 := [.ref 0, .int l1, .int l6, .int l3, .int k0, .int (l5 + 1), uJ, uJ]) ?_ (fun i v hi hv => lsub_of (bs := [false, false, false, false, false, false, true, true]) rfl i v hi hv)
      exact h
  · have h := h.2 c1
    refine ev_aload_n dX5_best_145 rfl ?_
    refine ev_callVi (M := MX5_best) (M2 := MX5_cost) (As := []) (rest := []) dX5_best_146 sM_0 ck5 rfl w1075 moX5_cost rfl ⟨Nat.le_of_ble_eq_true rfl, Nat.le_of_ble_eq_true rfl⟩ rfl rfl (Nat.le_of_ble_eq_true rfl) h (fun r4 d3 h => ?_)
    have h := rI_dn h
    refine ev_goto (M := MX5_best) (tgt := 153) dX5_best_149 rfl ?_
    refine ev_istore_n (M := MX5_best) (ls2 := [.ref 0, .int l1, .int l2, .int r4, .int k0, .int l5, .int l6, .int l7]) 3 dX5_best_153 rfl (Nat.le_of_ble_eq_true rfl) rfl ?_
    refine ev_iload dX5_best_154 rfl ?_
    refine ev_if_eq (M := MX5_best) (tgt := 164) dX5_best_156 rfl (fun c5 => ?_) (fun c5 => ?_)
    · have h := h.1 c5
      refine ev_iload_n dX5_best_164 rfl ?_
      refine ev_istore_n (M := MX5_best) (ls2 := [.ref 0, .int l1, .int l2, .int r4, .int k0, .int l5, .int l6, .int l7]) 2 dX5_best_165 rfl (Nat.le_of_ble_eq_true rfl) rfl ?_
      refine ev_iinc (M := MX5_best) (ls2 := [.ref 0, .int l1, .int l2, .int r4, .int k0, .int (l5 + 1), .int l6, .int l7]) dX5_best_166 rfl (iin ci_1) (Nat.le_of_ble_eq_true rfl) rfl ?_
      refine ev_goto (M := MX5_best) (tgt := 61) dX5_best_169 rfl ?_
      refine Ev.forget (ls2 := [.ref 0, .int l1, .int l2, .int r4, .int k0, .int (l5 + 1), uJ, uJ]) ?_ (fun i v hi hv => lsub_of (bs := [false, false, false, false, false, false, true, true]) rfl i v hi hv)
      exact h
    · have h := h.2 c5
      refine ev_iload dX5_best_159 rfl ?_
      refine ev_goto (M := MX5_best) (tgt := 165) dX5_best_161 rfl ?_
      refine ev_istore_n (M := MX5_best) (ls2 := [.ref 0, .int l1, .int l6, .int r4, .int k0, .int l5, .int l6, .int l7]) 2 dX5_best_165 rfl (Nat.le_of_ble_eq_true rfl) rfl ?_
      refine ev_iinc (M := MX5_best) (ls2 := [.ref 0, .int l1, .int l6, .int r4, .int k0, .int (l5 + 1), .int l6, .int l7]) dX5_best_166 rfl (iin ci_1) (Nat.le_of_ble_eq_true rfl) rfl ?_
      refine ev_goto (M := MX5_best) (tgt := 61) dX5_best_169 rfl ?_
      refine Ev.forget (ls2 := [.ref 0, .int l1, .int l6, .int r4, .int k0, .int (l5 + 1), uJ, uJ]) ?_ (fun i v hi hv => lsub_of (bs := [false, false, false, false, false, false, true, true]) rfl i v hi hv)
      exact h
-- X5_apart
set_option maxRecDepth 4000 in
theorem cn_X5_apart {q : Int32 → DD → Prop} {d : DD} {p0 : Int32} (h : ((p0 = 0 → Ev SM MX5_apart 25 [.ref 0, .int p0, uJ, uJ, uJ, uJ] [] d (rI q)) ∧ (¬ p0 = 0 → (Cn SM MX5_in [.long p0.toInt64, .long 10, .long (9 + (d 0 1)).toInt64] d (rI fun r3 d2 => ((¬ r3 = 0 → Ev SM MX5_apart 25 [.ref 0, .int p0, uJ, uJ, uJ, uJ] [] d2 (rI q)) ∧ (r3 = 0 → q (-1) d2))))))) : Cn SM MX5_apart [.ref 0, .int p0] d (rI q) := by
  refine cn_of (ls := [.ref 0, .int p0, uJ, uJ, uJ, uJ]) (by decide) rfl rfl (Nat.le_of_ble_eq_true rfl) ?_
  refine ev_iload_n dX5_apart_0 rfl ?_
  refine ev_if_eq (M := MX5_apart) (tgt := 25) dX5_apart_1 rfl (fun c1 => ?_) (fun c1 => ?_)
  · have h := h.1 c1
    exact h
  · have h := h.2 c1
    refine ev_iload_n dX5_apart_4 rfl ?_
    refine ev_i2l dX5_apart_5 ?_
    refine ev_ldc2 dX5_apart_6 w1088 ?_
    refine ev_bipush dX5_apart_9 cb_9 ?_
    refine ev_aload_n dX5_apart_11 rfl ?_
    refine ev_get 1 dX5_apart_12 sM_0 ck5 (Nat.le_of_ble_eq_true rfl) rfl w767 ?_
    refine ev_iadd dX5_apart_15 ?_
    refine ev_i2l dX5_apart_16 ?_
    refine ev_callSi (M := MX5_apart) (M2 := MX5_in) (As := [.long p0.toInt64, .long 10, .long (9 + (d 0 1)).toInt64]) (rest := []) dX5_apart_17 w877 moX5_in rfl ⟨Nat.le_of_ble_eq_true rfl, Nat.le_of_ble_eq_true rfl⟩ rfl rfl (Nat.le_of_ble_eq_true rfl) h (fun r3 d2 h => ?_)
    have h := rI_dn h
    refine ev_if_ne (M := MX5_apart) (tgt := 25) dX5_apart_20 rfl (fun c4 => ?_) (fun c4 => ?_)
    · have h := h.1 c4
      exact h
    · have h := h.2 c4
      refine ev_iconst dX5_apart_23 ci_m1 ?_
      exact ev_ireti (M := MX5_apart) (ty := .int) dX5_apart_24 rfl rfl rfl h
set_option maxRecDepth 4000 in
theorem bk_X5_apart_25 {q : Int32 → DD → Prop} {d : DD} {l1 : Int32} (h : ((¬ (d 0 1) = 0 → (Cn SM MX5_copies [.ref 0, .int 0, .int 280] d (rV fun d2 => Ev SM MX5_apart 51 [.ref 0, .int l1, .int 1000000, .int 0, .int 0, uJ] [] d2 (rI q)))) ∧ ((d 0 1) = 0 → q (-2) d))) : Ev SM MX5_apart 25 [.ref 0, .int l1, uJ, uJ, uJ, uJ] [] d (rI q) := by
  refine ev_aload_n dX5_apart_25 rfl ?_
  refine ev_get 1 dX5_apart_26 sM_0 ck5 (Nat.le_of_ble_eq_true rfl) rfl w767 ?_
  refine ev_if_ne (M := MX5_apart) (tgt := 35) dX5_apart_29 rfl (fun c1 => ?_) (fun c1 => ?_)
  · have h := h.1 c1
    refine ev_ldc dX5_apart_35 w1083 ?_
    refine ev_istore_n (M := MX5_apart) (ls2 := [.ref 0, .int l1, .int 1000000, uJ, uJ, uJ]) 2 dX5_apart_37 rfl (Nat.le_of_ble_eq_true rfl) rfl ?_
    refine ev_iconst dX5_apart_38 ci_0 ?_
    refine ev_istore_n (M := MX5_apart) (ls2 := [.ref 0, .int l1, .int 1000000, .int 0, uJ, uJ]) 3 dX5_apart_39 rfl (Nat.le_of_ble_eq_true rfl) rfl ?_
    refine ev_aload_n dX5_apart_40 rfl ?_
    refine ev_iconst dX5_apart_41 ci_0 ?_
    refine ev_sipush dX5_apart_42 cs_280 ?_
    refine ev_callVv (M := MX5_apart) (M2 := MX5_copies) (As := [.int 0, .int 280]) (rest := []) dX5_apart_45 sM_0 ck5 rfl w1089 moX5_copies rfl ⟨Nat.le_of_ble_eq_true rfl, Nat.le_of_ble_eq_true rfl⟩ rfl rfl (Nat.le_of_ble_eq_true rfl) h (fun d2 h => ?_)
    have h := rV_dn h
    refine ev_iconst dX5_apart_48 ci_0 ?_
    refine ev_istore (M := MX5_apart) (ls2 := [.ref 0, .int l1, .int 1000000, .int 0, .int 0, uJ]) dX5_apart_49 (Nat.le_of_ble_eq_true rfl) rfl ?_
    exact h
  · have h := h.2 c1
    refine ev_bipush dX5_apart_32 cb_m2 ?_
    exact ev_ireti (M := MX5_apart) (ty := .int) dX5_apart_34 rfl rfl rfl h
set_option maxRecDepth 4000 in
theorem bk_X5_apart_51 {q : Int32 → DD → Prop} {d : DD} {l1 : Int32} {l2 : Int32} {l3 : Int32} {l4 : Int32} (h : (Cn SM MX5_powerOf [.int 4, .int (d 0 1)] d (rI fun r2 d1 => ((r2 ≤ l4 → (Cn SM MX5_laysFigures [.ref 0, .int l3, .int 4, .int 12, .int (d1 0 1)] d1 (rV fun d4 => ((¬ l1 = 0 → (vp_in ((12 + l1) - 10) 350 ∧ (∀ x6 : Int32, x6 = (d4 1 ((12 + l1) - 10).toNatClampNeg) → (Cn SM MX5_copies [.ref 0, .int 280, .int 0] d4 (rV fun d7 => q x6 d7))))) ∧ (l1 = 0 → (Cn SM MX5_copies [.ref 0, .int 280, .int 0] d4 (rV fun d8 => q l2 d8))))))) ∧ (¬ r2 ≤ l4 → (Cn SM MX5_laysFigures [.ref 0, .int l4, .int 4, .int 12, .int (d1 0 1)] d1 (rV fun d9 => (Cn SM MX5_awayMany [.ref 0] d9 (rI fun r11 d10 => ((l2 ≤ r11 → ((l2 ≤ r11 → Ev SM MX5_apart 51 [.ref 0, .int l1, .int l2, .int l3, .int (l4 + 1), uJ] [] d10 (rI q)) ∧ (¬ l2 ≤ r11 → Ev SM MX5_apart 51 [.ref 0, .int l1, .int r11, .int l3, .int (l4 + 1), uJ] [] d10 (rI q)))) ∧ (¬ l2 ≤ r11 → ((l2 ≤ r11 → Ev SM MX5_apart 51 [.ref 0, .int l1, .int l2, .int l4, .int (l4 + 1), uJ] [] d10 (rI q)) ∧ (¬ l2 ≤ r11 → Ev SM MX5_apart 51 [.ref 0, .int l1, .int r11, .int l4, .int (l4 + 1), uJ] [] d10 (rI q)))))))))))))) : Ev SM MX5_apart 51 [.ref 0, .int l1, .int l2, .int l3, .int l4, uJ] [] d (rI q) := by
  refine ev_iload dX5_apart_51 rfl ?_
  refine ev_iconst dX5_apart_53 ci_4 ?_
  refine ev_aload_n dX5_apart_54 rfl ?_
  refine ev_get 1 dX5_apart_55 sM_0 ck5 (Nat.le_of_ble_eq_true rfl) rfl w767 ?_
  refine ev_callSi (M := MX5_apart) (M2 := MX5_powerOf) (As := [.int 4, .int (d 0 1)]) (rest := [.int l4]) dX5_apart_58 w1093 moX5_powerOf rfl ⟨Nat.le_of_ble_eq_true rfl, Nat.le_of_ble_eq_true rfl⟩ rfl rfl (Nat.le_of_ble_eq_true rfl) h (fun r2 d1 h => ?_)
  have h := rI_dn h
  refine ev_icmp_ge (M := MX5_apart) (tgt := 115) dX5_apart_61 rfl (fun c3 => ?_) (fun c3 => ?_)
  · have h := h.1 c3
    refine ev_aload_n dX5_apart_115 rfl ?_
    refine ev_iload_n dX5_apart_116 rfl ?_
    refine ev_iconst dX5_apart_117 ci_4 ?_
    refine ev_bipush dX5_apart_118 cb_12 ?_
    refine ev_aload_n dX5_apart_120 rfl ?_
    refine ev_get 1 dX5_apart_121 sM_0 ck5 (Nat.le_of_ble_eq_true rfl) rfl w767 ?_
    refine ev_callVv (M := MX5_apart) (M2 := MX5_laysFigures) (As := [.int l3, .int 4, .int 12, .int (d1 0 1)]) (rest := []) dX5_apart_124 sM_0 ck5 rfl w1096 moX5_laysFigures rfl ⟨Nat.le_of_ble_eq_true rfl, Nat.le_of_ble_eq_true rfl⟩ rfl rfl (Nat.le_of_ble_eq_true rfl) h (fun d4 h => ?_)
    have h := rV_dn h
    refine ev_iload_n dX5_apart_127 rfl ?_
    refine ev_if_ne (M := MX5_apart) (tgt := 135) dX5_apart_128 rfl (fun c5 => ?_) (fun c5 => ?_)
    · have h := h.1 c5
      refine ev_aload_n dX5_apart_135 rfl ?_
      refine ev_getr (M := MX5_apart) (r := 1) 0 dX5_apart_136 sM_0 ck5 (Nat.le_of_ble_eq_true rfl) rfl w766 ?_
      refine ev_bipush dX5_apart_139 cb_12 ?_
      refine ev_iload_n dX5_apart_141 rfl ?_
      refine ev_iadd dX5_apart_142 ?_
      refine ev_bipush dX5_apart_143 cb_10 ?_
      refine ev_isub dX5_apart_145 ?_
      obtain ⟨g, h⟩ := h
      refine ev_iald dX5_apart_146 sM_1 g ?_
      refine ev_topi (fun x6 ex6 => ?_)
      have h := h x6 ex6
      refine ev_istore (M := MX5_apart) (ls2 := [.ref 0, .int l1, .int l2, .int l3, .int x6, uJ]) dX5_apart_147 (Nat.le_of_ble_eq_true rfl) rfl ?_
      refine ev_aload_n dX5_apart_149 rfl ?_
      refine ev_sipush dX5_apart_150 cs_280 ?_
      refine ev_iconst dX5_apart_153 ci_0 ?_
      refine ev_callVv (M := MX5_apart) (M2 := MX5_copies) (As := [.int 280, .int 0]) (rest := []) dX5_apart_154 sM_0 ck5 rfl w1089 moX5_copies rfl ⟨Nat.le_of_ble_eq_true rfl, Nat.le_of_ble_eq_true rfl⟩ rfl rfl (Nat.le_of_ble_eq_true rfl) h (fun d7 h => ?_)
      have h := rV_dn h
      refine ev_iload dX5_apart_157 rfl ?_
      exact ev_ireti (M := MX5_apart) (ty := .int) dX5_apart_159 rfl rfl rfl h
    · have h := h.2 c5
      refine ev_iload_n dX5_apart_131 rfl ?_
      refine ev_goto (M := MX5_apart) (tgt := 147) dX5_apart_132 rfl ?_
      refine ev_istore (M := MX5_apart) (ls2 := [.ref 0, .int l1, .int l2, .int l3, .int l2, uJ]) dX5_apart_147 (Nat.le_of_ble_eq_true rfl) rfl ?_
      refine ev_aload_n dX5_apart_149 rfl ?_
      refine ev_sipush dX5_apart_150 cs_280 ?_
      refine ev_iconst dX5_apart_153 ci_0 ?_
      refine ev_callVv (M := MX5_apart) (M2 := MX5_copies) (As := [.int 280, .int 0]) (rest := []) dX5_apart_154 sM_0 ck5 rfl w1089 moX5_copies rfl ⟨Nat.le_of_ble_eq_true rfl, Nat.le_of_ble_eq_true rfl⟩ rfl rfl (Nat.le_of_ble_eq_true rfl) h (fun d8 h => ?_)
      have h := rV_dn h
      refine ev_iload dX5_apart_157 rfl ?_
      exact ev_ireti (M := MX5_apart) (ty := .int) dX5_apart_159 rfl rfl rfl h
  · have h := h.2 c3
    refine ev_aload_n dX5_apart_64 rfl ?_
    refine ev_iload dX5_apart_65 rfl ?_
    refine ev_iconst dX5_apart_67 ci_4 ?_
    refine ev_bipush dX5_apart_68 cb_12 ?_
    refine ev_aload_n dX5_apart_70 rfl ?_
    refine ev_get 1 dX5_apart_71 sM_0 ck5 (Nat.le_of_ble_eq_true rfl) rfl w767 ?_
    refine ev_callVv (M := MX5_apart) (M2 := MX5_laysFigures) (As := [.int l4, .int 4, .int 12, .int (d1 0 1)]) (rest := []) dX5_apart_74 sM_0 ck5 rfl w1096 moX5_laysFigures rfl ⟨Nat.le_of_ble_eq_true rfl, Nat.le_of_ble_eq_true rfl⟩ rfl rfl (Nat.le_of_ble_eq_true rfl) h (fun d9 h => ?_)
    have h := rV_dn h
    refine ev_aload_n dX5_apart_77 rfl ?_
    refine ev_callVi (M := MX5_apart) (M2 := MX5_awayMany) (As := []) (rest := []) dX5_apart_78 sM_0 ck5 rfl w1100 moX5_awayMany rfl ⟨Nat.le_of_ble_eq_true rfl, Nat.le_of_ble_eq_true rfl⟩ rfl rfl (Nat.le_of_ble_eq_true rfl) h (fun r11 d10 h => ?_)
    have h := rI_dn h
    refine ev_istore (M := MX5_apart) (ls2 := [.ref 0, .int l1, .int l2, .int l3, .int l4, .int r11]) dX5_apart_81 (Nat.le_of_ble_eq_true rfl) rfl ?_
    refine ev_iload dX5_apart_83 rfl ?_
    refine ev_iload_n dX5_apart_85 rfl ?_
    refine ev_icmp_ge (M := MX5_apart) (tgt := 94) dX5_apart_86 rfl (fun c12 => ?_) (fun c12 => ?_)
    · have h := h.1 c12
      refine ev_iload_n dX5_apart_94 rfl ?_
      refine ev_istore_n (M := MX5_apart) (ls2 := [.ref 0, .int l1, .int l2, .int l3, .int l4, .int r11]) 3 dX5_apart_95 rfl (Nat.le_of_ble_eq_true rfl) rfl ?_
      refine ev_iload dX5_apart_96 rfl ?_
      refine ev_iload_n dX5_apart_98 rfl ?_
      refine ev_icmp_ge (M := MX5_apart) (tgt := 107) dX5_apart_99 rfl (fun c13 => ?_) (fun c13 => ?_)
      · have h := h.1 c13
        refine ev_iload_n dX5_apart_107 rfl ?_
        refine ev_istore_n (M := MX5_apart) (ls2 := [.ref 0, .int l1, .int l2, .int l3, .int l4, .int r11]) 2 dX5_apart_108 rfl (Nat.le_of_ble_eq_true rfl) rfl ?_
        refine ev_iinc (M := MX5_apart) (ls2 := [.ref 0, .int l1, .int l2, .int l3, .int (l4 + 1), .int r11]) dX5_apart_109 rfl (iin ci_1) (Nat.le_of_ble_eq_true rfl) rfl ?_
        refine ev_goto (M := MX5_apart) (tgt := 51) dX5_apart_112 rfl ?_
        refine Ev.forget (ls2 := [.ref 0, .int l1, .int l2, .int l3, .int (l4 + 1), uJ]) ?_ (fun i v hi hv => lsub_of (bs := [false, false, false, false, false, true]) rfl i v hi hv)
        exact h
      · have h := h.2 c13
        refine ev_iload dX5_apart_102 rfl ?_
        refine ev_goto (M := MX5_apart) (tgt := 108) dX5_apart_104 rfl ?_
        refine ev_istore_n (M := MX5_apart) (ls2 := [.ref 0, .int l1, .int r11, .int l3, .int l4, .int r11]) 2 dX5_apart_108 rfl (Nat.le_of_ble_eq_true rfl) rfl ?_
        refine ev_iinc (M := MX5_apart) (ls2 := [.ref 0, .int l1, .int r11, .int l3, .int (l4 + 1), .int r11]) dX5_apart_109 rfl (iin ci_1) (Nat.le_of_ble_eq_true rfl) rfl ?_
        refine ev_goto (M := MX5_apart) (tgt := 51) dX5_apart_112 rfl ?_
        refine Ev.forget (ls2 := [.ref 0, .int l1, .int r11, .int l3, .int (l4 + 1), uJ]) ?_ (fun i v hi hv => lsub_of (bs := [false, false, false, false, false, true]) rfl i v hi hv)
        exact h
    · have h := h.2 c12
      refine ev_iload dX5_apart_89 rfl ?_
      refine ev_goto (M := MX5_apart) (tgt := 95) dX5_apart_91 rfl ?_
      refine ev_istore_n (M := MX5_apart) (ls2 := [.ref 0, .int l1, .int l2, .int l4, .int l4, .int r11]) 3 dX5_apart_95 rfl (Nat.le_of_ble_eq_true rfl) rfl ?_
      refine ev_iload dX5_apart_96 rfl ?_
      refine ev_iload_n dX5_apart_98 rfl ?_
      refine ev_icmp_ge (M := MX5_apart) (tgt := 107) dX5_apart_99 rfl (fun c14 => ?_) (fun c14 => ?_)
      · have h := h.1 c14
        refine ev_iload_n dX5_apart_107 rfl ?_
        refine ev_istore_n (M := MX5_apart) (ls2 := [.ref 0, .int l1, .int l2, .int l4, .int l4, .int r11]) 2 dX5_apart_108 rfl (Nat.le_of_ble_eq_true rfl) rfl ?_
        refine ev_iinc (M := MX5_apart) (ls2 := [.ref 0, .int l1, .int l2, .int l4, .int (l4 + 1), .int r11]) dX5_apart_109 rfl (iin ci_1) (Nat.le_of_ble_eq_true rfl) rfl ?_
        refine ev_goto (M := MX5_apart) (tgt := 51) dX5_apart_112 rfl ?_
        refine Ev.forget (ls2 := [.ref 0, .int l1, .int l2, .int l4, .int (l4 + 1), uJ]) ?_ (fun i v hi hv => lsub_of (bs := [false, false, false, false, false, true]) rfl i v hi hv)
        exact h
      · have h := h.2 c14
        refine ev_iload dX5_apart_102 rfl ?_
        refine ev_goto (M := MX5_apart) (tgt := 108) dX5_apart_104 rfl ?_
        refine ev_istore_n (M := MX5_apart) (ls2 := [.ref 0, .int l1, .int r11, .int l4, .int l4, .int r11]) 2 dX5_apart_108 rfl (Nat.le_of_ble_eq_true rfl) rfl ?_
        refine ev_iinc (M := MX5_apart) (ls2 := [.ref 0, .int l1, .int r11, .int l4, .int (l4 + 1), .int r11]) dX5_apart_109 rfl (iin ci_1) (Nat.le_of_ble_eq_true rfl) rfl ?_
        refine ev_goto (M := MX5_apart) (tgt := 51) dX5_apart_112 rfl ?_
        refine Ev.forget (ls2 := [.ref 0, .int l1, .int r11, .int l4, .int (l4 + 1), uJ]) ?_ (fun i v hi hv => lsub_of (bs := [false, false, false, false, false, true]) rfl i v hi hv)
        exact h
-- X5_compose
set_option maxRecDepth 4000 in
theorem cn_X5_compose {q : Int32 → DD → Prop} {d : DD} {p0 : Int32} {p1 : Int32} (h : (Cn SM MX5_in [.long p0.toInt64, .long 1, .long 144] d (rI fun r2 d1 => ((r2 = 0 → q (-1) d1) ∧ (¬ r2 = 0 → (Cn SM MX5_in [.long p1.toInt64, .long 0, .long 2] d1 (rI fun r5 d4 => ((¬ r5 = 0 → Ev SM MX5_compose 28 [.ref 0, .int p0, .int p1, .int 1, uJ, uJ] [] d4 (rI q)) ∧ (r5 = 0 → q (-1) d4))))))))) : Cn SM MX5_compose [.ref 0, .int p0, .int p1] d (rI q) := by
  refine cn_of (ls := [.ref 0, .int p0, .int p1, uJ, uJ, uJ]) (by decide) rfl rfl (Nat.le_of_ble_eq_true rfl) ?_
  refine ev_iload_n dX5_compose_0 rfl ?_
  refine ev_i2l dX5_compose_1 ?_
  refine ev_lconst (M := MX5_compose) (v := 1) dX5_compose_2 rfl ?_
  refine ev_ldc2 dX5_compose_3 w1112 ?_
  refine ev_callSi (M := MX5_compose) (M2 := MX5_in) (As := [.long p0.toInt64, .long 1, .long 144]) (rest := []) dX5_compose_6 w877 moX5_in rfl ⟨Nat.le_of_ble_eq_true rfl, Nat.le_of_ble_eq_true rfl⟩ rfl rfl (Nat.le_of_ble_eq_true rfl) h (fun r2 d1 h => ?_)
  have h := rI_dn h
  refine ev_if_eq (M := MX5_compose) (tgt := 24) dX5_compose_9 rfl (fun c3 => ?_) (fun c3 => ?_)
  · have h := h.1 c3
    refine ev_iconst dX5_compose_24 ci_m1 ?_
    exact ev_ireti (M := MX5_compose) (ty := .int) dX5_compose_25 rfl rfl rfl h
  · have h := h.2 c3
    refine ev_iload_n dX5_compose_12 rfl ?_
    refine ev_i2l dX5_compose_13 ?_
    refine ev_lconst (M := MX5_compose) (v := 0) dX5_compose_14 rfl ?_
    refine ev_ldc2 dX5_compose_15 w1055 ?_
    refine ev_callSi (M := MX5_compose) (M2 := MX5_in) (As := [.long p1.toInt64, .long 0, .long 2]) (rest := []) dX5_compose_18 w877 moX5_in rfl ⟨Nat.le_of_ble_eq_true rfl, Nat.le_of_ble_eq_true rfl⟩ rfl rfl (Nat.le_of_ble_eq_true rfl) h (fun r5 d4 h => ?_)
    have h := rI_dn h
    refine ev_if_ne (M := MX5_compose) (tgt := 26) dX5_compose_21 rfl (fun c6 => ?_) (fun c6 => ?_)
    · have h := h.1 c6
      refine ev_iconst dX5_compose_26 ci_1 ?_
      refine ev_istore_n (M := MX5_compose) (ls2 := [.ref 0, .int p0, .int p1, .int 1, uJ, uJ]) 3 dX5_compose_27 rfl (Nat.le_of_ble_eq_true rfl) rfl ?_
      exact h
    · have h := h.2 c6
      refine ev_iconst dX5_compose_24 ci_m1 ?_
      exact ev_ireti (M := MX5_compose) (ty := .int) dX5_compose_25 rfl rfl rfl h
set_option maxRecDepth 4000 in
theorem bk_X5_compose_28 {q : Int32 → DD → Prop} {d : DD} {l1 : Int32} {l2 : Int32} {l3 : Int32} (h : ((8 < l3 → q (-4) d) ∧ (¬ 8 < l3 → Ev SM MX5_compose 37 [.ref 0, .int l1, .int l2, .int l3, .int 0, uJ] [] d (rI q)))) : Ev SM MX5_compose 28 [.ref 0, .int l1, .int l2, .int l3, uJ, uJ] [] d (rI q) := by
  refine ev_iload_n dX5_compose_28 rfl ?_
  refine ev_bipush dX5_compose_29 cb_8 ?_
  refine ev_icmp_gt (M := MX5_compose) (tgt := 102) dX5_compose_31 rfl (fun c1 => ?_) (fun c1 => ?_)
  · have h := h.1 c1
    refine ev_bipush dX5_compose_102 cb_m4 ?_
    exact ev_ireti (M := MX5_compose) (ty := .int) dX5_compose_104 rfl rfl rfl h
  · have h := h.2 c1
    refine ev_iconst dX5_compose_34 ci_0 ?_
    refine ev_istore (M := MX5_compose) (ls2 := [.ref 0, .int l1, .int l2, .int l3, .int 0, uJ]) dX5_compose_35 (Nat.le_of_ble_eq_true rfl) rfl ?_
    exact h
set_option maxRecDepth 4000 in
theorem bk_X5_compose_37 {q : Int32 → DD → Prop} {d : DD} {l1 : Int32} {l2 : Int32} {l3 : Int32} {l4 : Int32} (h : ((4 ≤ l4 → Ev SM MX5_compose 28 [.ref 0, .int l1, .int l2, .int (l3 + 1), uJ, uJ] [] d (rI q)) ∧ (¬ 4 ≤ l4 → (Cn SM MX5_rowOf [.int l4, .int l3] d (rI fun r3 d2 => ((¬ r3 = 0) ∧ ((¬ (jrem l1 r3) = 0 → Ev SM MX5_compose 37 [.ref 0, .int l1, .int l2, .int l3, .int (l4 + 1), uJ] [] d2 (rI q)) ∧ ((jrem l1 r3) = 0 → ((¬ r3 = 0) ∧ ((9 < (l1 / r3) → Ev SM MX5_compose 37 [.ref 0, .int l1, .int l2, .int l3, .int (l4 + 1), uJ] [] d2 (rI q)) ∧ (¬ 9 < (l1 / r3) → ((¬ l2 = 0 → ((¬ l2 = 1 → ((¬ r3 = 0) ∧ q (l1 / r3) d2)) ∧ (l2 = 1 → q l4 d2))) ∧ (l2 = 0 → q l3 d2))))))))))))) : Ev SM MX5_compose 37 [.ref 0, .int l1, .int l2, .int l3, .int l4, uJ] [] d (rI q) := by
  refine ev_iload dX5_compose_37 rfl ?_
  refine ev_iconst dX5_compose_39 ci_4 ?_
  refine ev_icmp_ge (M := MX5_compose) (tgt := 96) dX5_compose_40 rfl (fun c1 => ?_) (fun c1 => ?_)
  · have h := h.1 c1
    refine ev_iinc (M := MX5_compose) (ls2 := [.ref 0, .int l1, .int l2, .int (l3 + 1), .int l4, uJ]) dX5_compose_96 rfl (iin ci_1) (Nat.le_of_ble_eq_true rfl) rfl ?_
    refine ev_goto (M := MX5_compose) (tgt := 28) dX5_compose_99 rfl ?_
    refine Ev.forget (ls2 := [.ref 0, .int l1, .int l2, .int (l3 + 1), uJ, uJ]) ?_ (fun i v hi hv => lsub_of (bs := [false, false, false, false, true, false]) rfl i v hi hv)
    exact h
  · have h := h.2 c1
    refine ev_iload dX5_compose_43 rfl ?_
    refine ev_iload_n dX5_compose_45 rfl ?_
    refine ev_callSi (M := MX5_compose) (M2 := MX5_rowOf) (As := [.int l4, .int l3]) (rest := []) dX5_compose_46 w953 moX5_rowOf rfl ⟨Nat.le_of_ble_eq_true rfl, Nat.le_of_ble_eq_true rfl⟩ rfl rfl (Nat.le_of_ble_eq_true rfl) h (fun r3 d2 h => ?_)
    have h := rI_dn h
    refine ev_istore (M := MX5_compose) (ls2 := [.ref 0, .int l1, .int l2, .int l3, .int l4, .int r3]) dX5_compose_49 (Nat.le_of_ble_eq_true rfl) rfl ?_
    refine ev_iload_n dX5_compose_51 rfl ?_
    refine ev_iload dX5_compose_52 rfl ?_
    obtain ⟨g, h⟩ := h
    refine ev_irem dX5_compose_54 g ?_
    refine ev_if_ne (M := MX5_compose) (tgt := 90) dX5_compose_55 rfl (fun c4 => ?_) (fun c4 => ?_)
    · have h := h.1 c4
      refine ev_iinc (M := MX5_compose) (ls2 := [.ref 0, .int l1, .int l2, .int l3, .int (l4 + 1), .int r3]) dX5_compose_90 rfl (iin ci_1) (Nat.le_of_ble_eq_true rfl) rfl ?_
      refine ev_goto (M := MX5_compose) (tgt := 37) dX5_compose_93 rfl ?_
      refine Ev.forget (ls2 := [.ref 0, .int l1, .int l2, .int l3, .int (l4 + 1), uJ]) ?_ (fun i v hi hv => lsub_of (bs := [false, false, false, false, false, true]) rfl i v hi hv)
      exact h
    · have h := h.2 c4
      refine ev_iload_n dX5_compose_58 rfl ?_
      refine ev_iload dX5_compose_59 rfl ?_
      obtain ⟨g, h⟩ := h
      refine ev_idiv dX5_compose_61 g ?_
      refine ev_bipush dX5_compose_62 cb_9 ?_
      refine ev_icmp_gt (M := MX5_compose) (tgt := 90) dX5_compose_64 rfl (fun c5 => ?_) (fun c5 => ?_)
      · have h := h.1 c5
        refine ev_iinc (M := MX5_compose) (ls2 := [.ref 0, .int l1, .int l2, .int l3, .int (l4 + 1), .int r3]) dX5_compose_90 rfl (iin ci_1) (Nat.le_of_ble_eq_true rfl) rfl ?_
        refine ev_goto (M := MX5_compose) (tgt := 37) dX5_compose_93 rfl ?_
        refine Ev.forget (ls2 := [.ref 0, .int l1, .int l2, .int l3, .int (l4 + 1), uJ]) ?_ (fun i v hi hv => lsub_of (bs := [false, false, false, false, false, true]) rfl i v hi hv)
        exact h
      · have h := h.2 c5
        refine ev_iload_n dX5_compose_67 rfl ?_
        refine ev_if_ne (M := MX5_compose) (tgt := 75) dX5_compose_68 rfl (fun c6 => ?_) (fun c6 => ?_)
        · have h := h.1 c6
          refine ev_iload_n dX5_compose_75 rfl ?_
          refine ev_iconst dX5_compose_76 ci_1 ?_
          refine ev_icmp_ne (M := MX5_compose) (tgt := 85) dX5_compose_77 rfl (fun c7 => ?_) (fun c7 => ?_)
          · have h := h.1 c7
            refine ev_iload_n dX5_compose_85 rfl ?_
            refine ev_iload dX5_compose_86 rfl ?_
            obtain ⟨g, h⟩ := h
            refine ev_idiv dX5_compose_88 g ?_
            exact ev_ireti (M := MX5_compose) (ty := .int) dX5_compose_89 rfl rfl rfl h
          · have h := h.2 c7
            refine ev_iload dX5_compose_80 rfl ?_
            refine ev_goto (M := MX5_compose) (tgt := 89) dX5_compose_82 rfl ?_
            exact ev_ireti (M := MX5_compose) (ty := .int) dX5_compose_89 rfl rfl rfl h
        · have h := h.2 c6
          refine ev_iload_n dX5_compose_71 rfl ?_
          refine ev_goto (M := MX5_compose) (tgt := 89) dX5_compose_72 rfl ?_
          exact ev_ireti (M := MX5_compose) (ty := .int) dX5_compose_89 rfl rfl rfl h
-- X5_bribe
set_option maxRecDepth 4000 in
theorem cn_X5_bribe {q : Int32 → DD → Prop} {d : DD} {p0 : Int32} {p1 : Int32} {p2 : Int32} (h : (Cn SM MX5_in [.long p0.toInt64, .long 0, .long ((1 <<< ((d 0 3) &&& 31)) - 1).toInt64] d (rI fun r2 d1 => ((r2 = 0 → q (-1) d1) ∧ (¬ r2 = 0 → (Cn SM MX5_isMinute [.int p1] d1 (rI fun r5 d4 => ((r5 = 0 → q (-1) d4) ∧ (¬ r5 = 0 → (Cn SM MX5_in [.long p2.toInt64, .long 0, .long 1] d4 (rI fun r8 d7 => ((¬ r8 = 0 → (∀ x10 : Int32, x10 = ((1 <<< ((d7 0 2) &&& 31)) - 1) → Ev SM MX5_bribe 51 [.ref 0, .int p0, .int p1, .int p2, .int (-4), .int x10, uJ, uJ] [] d7 (rI q))) ∧ (r8 = 0 → q (-1) d7))))))))))))) : Cn SM MX5_bribe [.ref 0, .int p0, .int p1, .int p2] d (rI q) := by
  refine cn_of (ls := [.ref 0, .int p0, .int p1, .int p2, uJ, uJ, uJ, uJ]) (by decide) rfl rfl (Nat.le_of_ble_eq_true rfl) ?_
  refine ev_iload_n dX5_bribe_0 rfl ?_
  refine ev_i2l dX5_bribe_1 ?_
  refine ev_lconst (M := MX5_bribe) (v := 0) dX5_bribe_2 rfl ?_
  refine ev_iconst dX5_bribe_3 ci_1 ?_
  refine ev_aload_n dX5_bribe_4 rfl ?_
  refine ev_get 3 dX5_bribe_5 sM_0 ck5 (Nat.le_of_ble_eq_true rfl) rfl w769 ?_
  refine ev_ishl dX5_bribe_8 ?_
  refine ev_iconst dX5_bribe_9 ci_1 ?_
  refine ev_isub dX5_bribe_10 ?_
  refine ev_i2l dX5_bribe_11 ?_
  refine ev_callSi (M := MX5_bribe) (M2 := MX5_in) (As := [.long p0.toInt64, .long 0, .long ((1 <<< ((d 0 3) &&& 31)) - 1).toInt64]) (rest := []) dX5_bribe_12 w877 moX5_in rfl ⟨Nat.le_of_ble_eq_true rfl, Nat.le_of_ble_eq_true rfl⟩ rfl rfl (Nat.le_of_ble_eq_true rfl) h (fun r2 d1 h => ?_)
  have h := rI_dn h
  refine ev_if_eq (M := MX5_bribe) (tgt := 35) dX5_bribe_15 rfl (fun c3 => ?_) (fun c3 => ?_)
  · have h := h.1 c3
    refine ev_iconst dX5_bribe_35 ci_m1 ?_
    exact ev_ireti (M := MX5_bribe) (ty := .int) dX5_bribe_36 rfl rfl rfl h
  · have h := h.2 c3
    refine ev_iload_n dX5_bribe_18 rfl ?_
    refine ev_callSi (M := MX5_bribe) (M2 := MX5_isMinute) (As := [.int p1]) (rest := []) dX5_bribe_19 w972 moX5_isMinute rfl ⟨Nat.le_of_ble_eq_true rfl, Nat.le_of_ble_eq_true rfl⟩ rfl rfl (Nat.le_of_ble_eq_true rfl) h (fun r5 d4 h => ?_)
    have h := rI_dn h
    refine ev_if_eq (M := MX5_bribe) (tgt := 35) dX5_bribe_22 rfl (fun c6 => ?_) (fun c6 => ?_)
    · have h := h.1 c6
      refine ev_iconst dX5_bribe_35 ci_m1 ?_
      exact ev_ireti (M := MX5_bribe) (ty := .int) dX5_bribe_36 rfl rfl rfl h
    · have h := h.2 c6
      refine ev_iload_n dX5_bribe_25 rfl ?_
      refine ev_i2l dX5_bribe_26 ?_
      refine ev_lconst (M := MX5_bribe) (v := 0) dX5_bribe_27 rfl ?_
      refine ev_lconst (M := MX5_bribe) (v := 1) dX5_bribe_28 rfl ?_
      refine ev_callSi (M := MX5_bribe) (M2 := MX5_in) (As := [.long p2.toInt64, .long 0, .long 1]) (rest := []) dX5_bribe_29 w877 moX5_in rfl ⟨Nat.le_of_ble_eq_true rfl, Nat.le_of_ble_eq_true rfl⟩ rfl rfl (Nat.le_of_ble_eq_true rfl) h (fun r8 d7 h => ?_)
      have h := rI_dn h
      refine ev_if_ne (M := MX5_bribe) (tgt := 37) dX5_bribe_32 rfl (fun c9 => ?_) (fun c9 => ?_)
      · have h := h.1 c9
        refine ev_bipush dX5_bribe_37 cb_m4 ?_
        refine ev_istore (M := MX5_bribe) (ls2 := [.ref 0, .int p0, .int p1, .int p2, .int (-4), uJ, uJ, uJ]) dX5_bribe_39 (Nat.le_of_ble_eq_true rfl) rfl ?_
        refine ev_iconst dX5_bribe_41 ci_1 ?_
        refine ev_aload_n dX5_bribe_42 rfl ?_
        refine ev_get 2 dX5_bribe_43 sM_0 ck5 (Nat.le_of_ble_eq_true rfl) rfl w768 ?_
        refine ev_ishl dX5_bribe_46 ?_
        refine ev_iconst dX5_bribe_47 ci_1 ?_
        refine ev_isub dX5_bribe_48 ?_
        refine ev_topi (fun x10 ex10 => ?_)
        have h := h x10 ex10
        refine ev_istore (M := MX5_bribe) (ls2 := [.ref 0, .int p0, .int p1, .int p2, .int (-4), .int x10, uJ, uJ]) dX5_bribe_49 (Nat.le_of_ble_eq_true rfl) rfl ?_
        exact h
      · have h := h.2 c9
        refine ev_iconst dX5_bribe_35 ci_m1 ?_
        exact ev_ireti (M := MX5_bribe) (ty := .int) dX5_bribe_36 rfl rfl rfl h
set_option maxRecDepth 4000 in
theorem bk_X5_bribe_51 {q : Int32 → DD → Prop} {d : DD} {l1 : Int32} {l2 : Int32} {l3 : Int32} {l4 : Int32} {l5 : Int32} (h : ((l5 < 0 → (∀ d2 : DD, d2 = (up d 0 26 0) → ((l4 = (-4) → q l4 d2) ∧ (¬ l4 = (-4) → ((¬ l3 = 1 → (Cn SM MX5_bitsOf [.int l4] d2 (rI fun r6 d5 => q r6 d5))) ∧ (l3 = 1 → q l4 d2)))))) ∧ (¬ l5 < 0 → (∀ d7 : DD, d7 = (up d 0 26 l5) → (Cn SM MX5_playing [.ref 0] d7 (rV fun d8 => Ev SM MX5_bribe 72 [.ref 0, .int l1, .int l2, .int l3, .int l4, .int l5, .int 1, .int 0] [] d8 (rI q))))))) : Ev SM MX5_bribe 51 [.ref 0, .int l1, .int l2, .int l3, .int l4, .int l5, uJ, uJ] [] d (rI q) := by
  refine ev_iload dX5_bribe_51 rfl ?_
  refine ev_if_lt (M := MX5_bribe) (tgt := 167) dX5_bribe_53 rfl (fun c1 => ?_) (fun c1 => ?_)
  · have h := h.1 c1
    refine ev_aload_n dX5_bribe_167 rfl ?_
    refine ev_iconst dX5_bribe_168 ci_0 ?_
    refine ev_put 26 dX5_bribe_169 sM_0 ck5 (Nat.le_of_ble_eq_true rfl) rfl w792 rfl rfl rfl ?_
    refine ev_topd (fun d2 ed2 => ?_)
    have h := h d2 ed2
    refine ev_iload dX5_bribe_172 rfl ?_
    refine ev_bipush dX5_bribe_174 cb_m4 ?_
    refine ev_icmp_eq (M := MX5_bribe) (tgt := 184) dX5_bribe_176 rfl (fun c3 => ?_) (fun c3 => ?_)
    · have h := h.1 c3
      refine ev_iload dX5_bribe_184 rfl ?_
      refine ev_goto (M := MX5_bribe) (tgt := 194) dX5_bribe_186 rfl ?_
      exact ev_ireti (M := MX5_bribe) (ty := .int) dX5_bribe_194 rfl rfl rfl h
    · have h := h.2 c3
      refine ev_iload_n dX5_bribe_179 rfl ?_
      refine ev_iconst dX5_bribe_180 ci_1 ?_
      refine ev_icmp_ne (M := MX5_bribe) (tgt := 189) dX5_bribe_181 rfl (fun c4 => ?_) (fun c4 => ?_)
      · have h := h.1 c4
        refine ev_iload dX5_bribe_189 rfl ?_
        refine ev_callSi (M := MX5_bribe) (M2 := MX5_bitsOf) (As := [.int l4]) (rest := []) dX5_bribe_191 w1072 moX5_bitsOf rfl ⟨Nat.le_of_ble_eq_true rfl, Nat.le_of_ble_eq_true rfl⟩ rfl rfl (Nat.le_of_ble_eq_true rfl) h (fun r6 d5 h => ?_)
        have h := rI_dn h
        exact ev_ireti (M := MX5_bribe) (ty := .int) dX5_bribe_194 rfl rfl rfl h
      · have h := h.2 c4
        refine ev_iload dX5_bribe_184 rfl ?_
        refine ev_goto (M := MX5_bribe) (tgt := 194) dX5_bribe_186 rfl ?_
        exact ev_ireti (M := MX5_bribe) (ty := .int) dX5_bribe_194 rfl rfl rfl h
  · have h := h.2 c1
    refine ev_aload_n dX5_bribe_56 rfl ?_
    refine ev_iload dX5_bribe_57 rfl ?_
    refine ev_put 26 dX5_bribe_59 sM_0 ck5 (Nat.le_of_ble_eq_true rfl) rfl w792 rfl rfl rfl ?_
    refine ev_topd (fun d7 ed7 => ?_)
    have h := h d7 ed7
    refine ev_aload_n dX5_bribe_62 rfl ?_
    refine ev_callVv (M := MX5_bribe) (M2 := MX5_playing) (As := []) (rest := []) dX5_bribe_63 sM_0 ck5 rfl w1031 moX5_playing rfl ⟨Nat.le_of_ble_eq_true rfl, Nat.le_of_ble_eq_true rfl⟩ rfl rfl (Nat.le_of_ble_eq_true rfl) h (fun d8 h => ?_)
    have h := rV_dn h
    refine ev_iconst dX5_bribe_66 ci_1 ?_
    refine ev_istore (M := MX5_bribe) (ls2 := [.ref 0, .int l1, .int l2, .int l3, .int l4, .int l5, .int 1, uJ]) dX5_bribe_67 (Nat.le_of_ble_eq_true rfl) rfl ?_
    refine ev_iconst dX5_bribe_69 ci_0 ?_
    refine ev_istore (M := MX5_bribe) (ls2 := [.ref 0, .int l1, .int l2, .int l3, .int l4, .int l5, .int 1, .int 0]) dX5_bribe_70 (Nat.le_of_ble_eq_true rfl) rfl ?_
    exact h
set_option maxRecDepth 4000 in
theorem bk_X5_bribe_72 {q : Int32 → DD → Prop} {d : DD} {l1 : Int32} {l2 : Int32} {l3 : Int32} {l4 : Int32} {l5 : Int32} {l6 : Int32} {l7 : Int32} (h : (((d 0 3) ≤ l7 → ((l6 = 0 → Ev SM MX5_bribe 51 [.ref 0, .int l1, .int l2, .int l3, .int l4, .int (l5 + (-1)), uJ, uJ] [] d (rI q)) ∧ (¬ l6 = 0 → ((l4 = (-4) → Ev SM MX5_bribe 51 [.ref 0, .int l1, .int l2, .int l3, .int l5, .int (l5 + (-1)), uJ, uJ] [] d (rI q)) ∧ (¬ l4 = (-4) → (Cn SM MX5_bitsOf [.int l5] d (rI fun r5 d4 => (Cn SM MX5_bitsOf [.int l4] d4 (rI fun r7 d6 => ((r7 < r5 → Ev SM MX5_bribe 51 [.ref 0, .int l1, .int l2, .int l3, .int l4, .int (l5 + (-1)), uJ, uJ] [] d6 (rI q)) ∧ (¬ r7 < r5 → Ev SM MX5_bribe 51 [.ref 0, .int l1, .int l2, .int l3, .int l5, .int (l5 + (-1)), uJ, uJ] [] d6 (rI q)))))))))))) ∧ (¬ (d 0 3) ≤ l7 → ((l6 = 0 → Ev SM MX5_bribe 72 [.ref 0, .int l1, .int l2, .int l3, .int l4, .int l5, .int 0, .int (l7 + 1)] [] d (rI q)) ∧ (¬ l6 = 0 → ((((l1 >>> (l7 &&& 31)) &&& 1) = 0 → Ev SM MX5_bribe 72 [.ref 0, .int l1, .int l2, .int l3, .int l4, .int l5, .int 1, .int (l7 + 1)] [] d (rI q)) ∧ (¬ ((l1 >>> (l7 &&& 31)) &&& 1) = 0 → (vp_in (64 + l7) 350 ∧ (vp_in (d 1 (64 + l7).toNatClampNeg) 4 ∧ ((l2 < (d 8 (d 1 (64 + l7).toNatClampNeg).toNatClampNeg) → Ev SM MX5_bribe 72 [.ref 0, .int l1, .int l2, .int l3, .int l4, .int l5, .int 0, .int (l7 + 1)] [] d (rI q)) ∧ (¬ l2 < (d 8 (d 1 (64 + l7).toNatClampNeg).toNatClampNeg) → Ev SM MX5_bribe 72 [.ref 0, .int l1, .int l2, .int l3, .int l4, .int l5, .int 1, .int (l7 + 1)] [] d (rI q)))))))))))) : Ev SM MX5_bribe 72 [.ref 0, .int l1, .int l2, .int l3, .int l4, .int l5, .int l6, .int l7] [] d (rI q) := by
  refine ev_iload dX5_bribe_72 rfl ?_
  refine ev_aload_n dX5_bribe_74 rfl ?_
  refine ev_get 3 dX5_bribe_75 sM_0 ck5 (Nat.le_of_ble_eq_true rfl) rfl w769 ?_
  refine ev_icmp_ge (M := MX5_bribe) (tgt := 127) dX5_bribe_78 rfl (fun c1 => ?_) (fun c1 => ?_)
  · have h := h.1 c1
    refine ev_iload dX5_bribe_127 rfl ?_
    refine ev_if_eq (M := MX5_bribe) (tgt := 157) dX5_bribe_129 rfl (fun c2 => ?_) (fun c2 => ?_)
    · have h := h.1 c2
      refine ev_iload dX5_bribe_157 rfl ?_
      refine ev_istore (M := MX5_bribe) (ls2 := [.ref 0, .int l1, .int l2, .int l3, .int l4, .int l5, .int l6, .int l7]) dX5_bribe_159 (Nat.le_of_ble_eq_true rfl) rfl ?_
      refine ev_iinc (M := MX5_bribe) (ls2 := [.ref 0, .int l1, .int l2, .int l3, .int l4, .int (l5 + (-1)), .int l6, .int l7]) dX5_bribe_161 rfl (iin ci_m1) (Nat.le_of_ble_eq_true rfl) rfl ?_
      refine ev_goto (M := MX5_bribe) (tgt := 51) dX5_bribe_164 rfl ?_
      refine Ev.forget (ls2 := [.ref 0, .int l1, .int l2, .int l3, .int l4, .int (l5 + (-1)), uJ, uJ]) ?_ (fun i v hi hv => lsub_of (bs := [false, false, false, false, false, false, true, true]) rfl i v hi hv)
      exact h
    · have h := h.2 c2
      refine ev_iload dX5_bribe_132 rfl ?_
      refine ev_bipush dX5_bribe_134 cb_m4 ?_
      refine ev_icmp_eq (M := MX5_bribe) (tgt := 152) dX5_bribe_136 rfl (fun c3 => ?_) (fun c3 => ?_)
      · have h := h.1 c3
        refine ev_iload dX5_bribe_152 rfl ?_
        refine ev_goto (M := MX5_bribe) (tgt := 159) dX5_bribe_154 rfl ?_
        refine ev_istore (M := MX5_bribe) (ls2 := [.ref 0, .int l1, .int l2, .int l3, .int l5, .int l5, .int l6, .int l7]) dX5_bribe_159 (Nat.le_of_ble_eq_true rfl) rfl ?_
        refine ev_iinc (M := MX5_bribe) (ls2 := [.ref 0, .int l1, .int l2, .int l3, .int l5, .int (l5 + (-1)), .int l6, .int l7]) dX5_bribe_161 rfl (iin ci_m1) (Nat.le_of_ble_eq_true rfl) rfl ?_
        refine ev_goto (M := MX5_bribe) (tgt := 51) dX5_bribe_164 rfl ?_
        refine Ev.forget (ls2 := [.ref 0, .int l1, .int l2, .int l3, .int l5, .int (l5 + (-1)), uJ, uJ]) ?_ (fun i v hi hv => lsub_of (bs := [false, false, false, false, false, false, true, true]) rfl i v hi hv)
        exact h
      · have h := h.2 c3
        refine ev_iload dX5_bribe_139 rfl ?_
        refine ev_callSi (M := MX5_bribe) (M2 := MX5_bitsOf) (As := [.int l5]) (rest := []) dX5_bribe_141 w1072 moX5_bitsOf rfl ⟨Nat.le_of_ble_eq_true rfl, Nat.le_of_ble_eq_true rfl⟩ rfl rfl (Nat.le_of_ble_eq_true rfl) h (fun r5 d4 h => ?_)
        have h := rI_dn h
        refine ev_iload dX5_bribe_144 rfl ?_
        refine ev_callSi (M := MX5_bribe) (M2 := MX5_bitsOf) (As := [.int l4]) (rest := [.int r5]) dX5_bribe_146 w1072 moX5_bitsOf rfl ⟨Nat.le_of_ble_eq_true rfl, Nat.le_of_ble_eq_true rfl⟩ rfl rfl (Nat.le_of_ble_eq_true rfl) h (fun r7 d6 h => ?_)
        have h := rI_dn h
        refine ev_icmp_gt (M := MX5_bribe) (tgt := 157) dX5_bribe_149 rfl (fun c8 => ?_) (fun c8 => ?_)
        · have h := h.1 c8
          refine ev_iload dX5_bribe_157 rfl ?_
          refine ev_istore (M := MX5_bribe) (ls2 := [.ref 0, .int l1, .int l2, .int l3, .int l4, .int l5, .int l6, .int l7]) dX5_bribe_159 (Nat.le_of_ble_eq_true rfl) rfl ?_
          refine ev_iinc (M := MX5_bribe) (ls2 := [.ref 0, .int l1, .int l2, .int l3, .int l4, .int (l5 + (-1)), .int l6, .int l7]) dX5_bribe_161 rfl (iin ci_m1) (Nat.le_of_ble_eq_true rfl) rfl ?_
          refine ev_goto (M := MX5_bribe) (tgt := 51) dX5_bribe_164 rfl ?_
          refine Ev.forget (ls2 := [.ref 0, .int l1, .int l2, .int l3, .int l4, .int (l5 + (-1)), uJ, uJ]) ?_ (fun i v hi hv => lsub_of (bs := [false, false, false, false, false, false, true, true]) rfl i v hi hv)
          exact h
        · have h := h.2 c8
          refine ev_iload dX5_bribe_152 rfl ?_
          refine ev_goto (M := MX5_bribe) (tgt := 159) dX5_bribe_154 rfl ?_
          refine ev_istore (M := MX5_bribe) (ls2 := [.ref 0, .int l1, .int l2, .int l3, .int l5, .int l5, .int l6, .int l7]) dX5_bribe_159 (Nat.le_of_ble_eq_true rfl) rfl ?_
          refine ev_iinc (M := MX5_bribe) (ls2 := [.ref 0, .int l1, .int l2, .int l3, .int l5, .int (l5 + (-1)), .int l6, .int l7]) dX5_bribe_161 rfl (iin ci_m1) (Nat.le_of_ble_eq_true rfl) rfl ?_
          refine ev_goto (M := MX5_bribe) (tgt := 51) dX5_bribe_164 rfl ?_
          refine Ev.forget (ls2 := [.ref 0, .int l1, .int l2, .int l3, .int l5, .int (l5 + (-1)), uJ, uJ]) ?_ (fun i v hi hv => lsub_of (bs := [false, false, false, false, false, false, true, true]) rfl i v hi hv)
          exact h
  · have h := h.2 c1
    refine ev_iload dX5_bribe_81 rfl ?_
    refine ev_if_eq (M := MX5_bribe) (tgt := 118) dX5_bribe_83 rfl (fun c9 => ?_) (fun c9 => ?_)
    · have h := h.1 c9
      refine ev_iconst dX5_bribe_118 ci_0 ?_
      refine ev_istore (M := MX5_bribe) (ls2 := [.ref 0, .int l1, .int l2, .int l3, .int l4, .int l5, .int 0, .int l7]) dX5_bribe_119 (Nat.le_of_ble_eq_true rfl) rfl ?_
      refine ev_iinc (M := MX5_bribe) (ls2 := [.ref 0, .int l1, .int l2, .int l3, .int l4, .int l5, .int 0, .int (l7 + 1)]) dX5_bribe_121 rfl (iin ci_1) (Nat.le_of_ble_eq_true rfl) rfl ?_
      refine ev_goto (M := MX5_bribe) (tgt := 72) dX5_bribe_124 rfl ?_
      exact h
    · have h := h.2 c9
      refine ev_iload_n dX5_bribe_86 rfl ?_
      refine ev_iload dX5_bribe_87 rfl ?_
      refine ev_ishr dX5_bribe_89 ?_
      refine ev_iconst dX5_bribe_90 ci_1 ?_
      refine ev_iand dX5_bribe_91 ?_
      refine ev_if_eq (M := MX5_bribe) (tgt := 114) dX5_bribe_92 rfl (fun c10 => ?_) (fun c10 => ?_)
      · have h := h.1 c10
        refine ev_iconst dX5_bribe_114 ci_1 ?_
        refine ev_goto (M := MX5_bribe) (tgt := 119) dX5_bribe_115 rfl ?_
        refine ev_istore (M := MX5_bribe) (ls2 := [.ref 0, .int l1, .int l2, .int l3, .int l4, .int l5, .int 1, .int l7]) dX5_bribe_119 (Nat.le_of_ble_eq_true rfl) rfl ?_
        refine ev_iinc (M := MX5_bribe) (ls2 := [.ref 0, .int l1, .int l2, .int l3, .int l4, .int l5, .int 1, .int (l7 + 1)]) dX5_bribe_121 rfl (iin ci_1) (Nat.le_of_ble_eq_true rfl) rfl ?_
        refine ev_goto (M := MX5_bribe) (tgt := 72) dX5_bribe_124 rfl ?_
        exact h
      · have h := h.2 c10
        refine ev_aload_n dX5_bribe_95 rfl ?_
        refine ev_getr (M := MX5_bribe) (r := 8) 22 dX5_bribe_96 sM_0 ck5 (Nat.le_of_ble_eq_true rfl) rfl w788 ?_
        refine ev_aload_n dX5_bribe_99 rfl ?_
        refine ev_getr (M := MX5_bribe) (r := 1) 0 dX5_bribe_100 sM_0 ck5 (Nat.le_of_ble_eq_true rfl) rfl w766 ?_
        refine ev_bipush dX5_bribe_103 cb_64 ?_
        refine ev_iload dX5_bribe_105 rfl ?_
        refine ev_iadd dX5_bribe_107 ?_
        obtain ⟨g, h⟩ := h
        refine ev_iald dX5_bribe_108 sM_1 g ?_
        obtain ⟨g, h⟩ := h
        refine ev_iald dX5_bribe_109 sM_8 g ?_
        refine ev_iload_n dX5_bribe_110 rfl ?_
        refine ev_icmp_gt (M := MX5_bribe) (tgt := 118) dX5_bribe_111 rfl (fun c11 => ?_) (fun c11 => ?_)
        · have h := h.1 c11
          refine ev_iconst dX5_bribe_118 ci_0 ?_
          refine ev_istore (M := MX5_bribe) (ls2 := [.ref 0, .int l1, .int l2, .int l3, .int l4, .int l5, .int 0, .int l7]) dX5_bribe_119 (Nat.le_of_ble_eq_true rfl) rfl ?_
          refine ev_iinc (M := MX5_bribe) (ls2 := [.ref 0, .int l1, .int l2, .int l3, .int l4, .int l5, .int 0, .int (l7 + 1)]) dX5_bribe_121 rfl (iin ci_1) (Nat.le_of_ble_eq_true rfl) rfl ?_
          refine ev_goto (M := MX5_bribe) (tgt := 72) dX5_bribe_124 rfl ?_
          exact h
        · have h := h.2 c11
          refine ev_iconst dX5_bribe_114 ci_1 ?_
          refine ev_goto (M := MX5_bribe) (tgt := 119) dX5_bribe_115 rfl ?_
          refine ev_istore (M := MX5_bribe) (ls2 := [.ref 0, .int l1, .int l2, .int l3, .int l4, .int l5, .int 1, .int l7]) dX5_bribe_119 (Nat.le_of_ble_eq_true rfl) rfl ?_
          refine ev_iinc (M := MX5_bribe) (ls2 := [.ref 0, .int l1, .int l2, .int l3, .int l4, .int l5, .int 1, .int (l7 + 1)]) dX5_bribe_121 rfl (iin ci_1) (Nat.le_of_ble_eq_true rfl) rfl ?_
          refine ev_goto (M := MX5_bribe) (tgt := 72) dX5_bribe_124 rfl ?_
          exact h
-- X5_teach
set_option maxRecDepth 4000 in
theorem cn_X5_teach {q : Int32 → DD → Prop} {d : DD} {p0 : Int32} (h : (Cn SM MX5_in [.long p0.toInt64, .long 0, .long 1] d (rI fun r2 d1 => ((¬ r2 = 0 → (Cn SM MX5_awayMany [.ref 0] d1 (rI fun r5 d4 => Ev SM MX5_teach 23 [.ref 0, .int p0, .int r5, .int (-4), .int 0, uJ, uJ] [] d4 (rI q)))) ∧ (r2 = 0 → q (-1) d1))))) : Cn SM MX5_teach [.ref 0, .int p0] d (rI q) := by
  refine cn_of (ls := [.ref 0, .int p0, uJ, uJ, uJ, uJ, uJ]) (by decide) rfl rfl (Nat.le_of_ble_eq_true rfl) ?_
  refine ev_iload_n dX5_teach_0 rfl ?_
  refine ev_i2l dX5_teach_1 ?_
  refine ev_lconst (M := MX5_teach) (v := 0) dX5_teach_2 rfl ?_
  refine ev_lconst (M := MX5_teach) (v := 1) dX5_teach_3 rfl ?_
  refine ev_callSi (M := MX5_teach) (M2 := MX5_in) (As := [.long p0.toInt64, .long 0, .long 1]) (rest := []) dX5_teach_4 w877 moX5_in rfl ⟨Nat.le_of_ble_eq_true rfl, Nat.le_of_ble_eq_true rfl⟩ rfl rfl (Nat.le_of_ble_eq_true rfl) h (fun r2 d1 h => ?_)
  have h := rI_dn h
  refine ev_if_ne (M := MX5_teach) (tgt := 12) dX5_teach_7 rfl (fun c3 => ?_) (fun c3 => ?_)
  · have h := h.1 c3
    refine ev_aload_n dX5_teach_12 rfl ?_
    refine ev_callVi (M := MX5_teach) (M2 := MX5_awayMany) (As := []) (rest := []) dX5_teach_13 sM_0 ck5 rfl w1100 moX5_awayMany rfl ⟨Nat.le_of_ble_eq_true rfl, Nat.le_of_ble_eq_true rfl⟩ rfl rfl (Nat.le_of_ble_eq_true rfl) h (fun r5 d4 h => ?_)
    have h := rI_dn h
    refine ev_istore_n (M := MX5_teach) (ls2 := [.ref 0, .int p0, .int r5, uJ, uJ, uJ, uJ]) 2 dX5_teach_16 rfl (Nat.le_of_ble_eq_true rfl) rfl ?_
    refine ev_bipush dX5_teach_17 cb_m4 ?_
    refine ev_istore_n (M := MX5_teach) (ls2 := [.ref 0, .int p0, .int r5, .int (-4), uJ, uJ, uJ]) 3 dX5_teach_19 rfl (Nat.le_of_ble_eq_true rfl) rfl ?_
    refine ev_iconst dX5_teach_20 ci_0 ?_
    refine ev_istore (M := MX5_teach) (ls2 := [.ref 0, .int p0, .int r5, .int (-4), .int 0, uJ, uJ]) dX5_teach_21 (Nat.le_of_ble_eq_true rfl) rfl ?_
    exact h
  · have h := h.2 c3
    refine ev_iconst dX5_teach_10 ci_m1 ?_
    exact ev_ireti (M := MX5_teach) (ty := .int) dX5_teach_11 rfl rfl rfl h
set_option maxRecDepth 4000 in
theorem bk_X5_teach_23 {q : Int32 → DD → Prop} {d : DD} {l1 : Int32} {l2 : Int32} {l3 : Int32} {l4 : Int32} (h : (((d 0 2) ≤ l4 → ((l3 = (-4) → q l3 d) ∧ (¬ l3 = (-4) → ((¬ l1 = 0 → q l2 d) ∧ (l1 = 0 → q l3 d))))) ∧ (¬ (d 0 2) ≤ l4 → (vp_in (48 + l4) 350 ∧ (∀ x4 : Int32, x4 = (d 1 (48 + l4).toNatClampNeg) → (vp_in (48 + l4) 350 ∧ (∀ d5 : DD, d5 = (up d 1 (48 + l4).toNatClampNeg 9) → (Cn SM MX5_awayMany [.ref 0] d5 (rI fun r7 d6 => (vp_in (48 + l4) 350 ∧ (∀ d8 : DD, d8 = (up d6 1 (48 + l4).toNatClampNeg x4) → ((l2 ≤ r7 → ((l2 ≤ r7 → Ev SM MX5_teach 23 [.ref 0, .int l1, .int l2, .int l3, .int (l4 + 1), uJ, uJ] [] d8 (rI q)) ∧ (¬ l2 ≤ r7 → Ev SM MX5_teach 23 [.ref 0, .int l1, .int r7, .int l3, .int (l4 + 1), uJ, uJ] [] d8 (rI q)))) ∧ (¬ l2 ≤ r7 → ((l2 ≤ r7 → Ev SM MX5_teach 23 [.ref 0, .int l1, .int l2, .int l4, .int (l4 + 1), uJ, uJ] [] d8 (rI q)) ∧ (¬ l2 ≤ r7 → Ev SM MX5_teach 23 [.ref 0, .int l1, .int r7, .int l4, .int (l4 + 1), uJ, uJ] [] d8 (rI q)))))))))))))))) : Ev SM MX5_teach 23 [.ref 0, .int l1, .int l2, .int l3, .int l4, uJ, uJ] [] d (rI q) := by
  refine ev_iload dX5_teach_23 rfl ?_
  refine ev_aload_n dX5_teach_25 rfl ?_
  refine ev_get 2 dX5_teach_26 sM_0 ck5 (Nat.le_of_ble_eq_true rfl) rfl w768 ?_
  refine ev_icmp_ge (M := MX5_teach) (tgt := 106) dX5_teach_29 rfl (fun c1 => ?_) (fun c1 => ?_)
  · have h := h.1 c1
    refine ev_iload_n dX5_teach_106 rfl ?_
    refine ev_bipush dX5_teach_107 cb_m4 ?_
    refine ev_icmp_eq (M := MX5_teach) (tgt := 116) dX5_teach_109 rfl (fun c2 => ?_) (fun c2 => ?_)
    · have h := h.1 c2
      refine ev_iload_n dX5_teach_116 rfl ?_
      refine ev_goto (M := MX5_teach) (tgt := 121) dX5_teach_117 rfl ?_
      exact ev_ireti (M := MX5_teach) (ty := .int) dX5_teach_121 rfl rfl rfl h
    · have h := h.2 c2
      refine ev_iload_n dX5_teach_112 rfl ?_
      refine ev_if_ne (M := MX5_teach) (tgt := 120) dX5_teach_113 rfl (fun c3 => ?_) (fun c3 => ?_)
      · have h := h.1 c3
        refine ev_iload_n dX5_teach_120 rfl ?_
        exact ev_ireti (M := MX5_teach) (ty := .int) dX5_teach_121 rfl rfl rfl h
      · have h := h.2 c3
        refine ev_iload_n dX5_teach_116 rfl ?_
        refine ev_goto (M := MX5_teach) (tgt := 121) dX5_teach_117 rfl ?_
        exact ev_ireti (M := MX5_teach) (ty := .int) dX5_teach_121 rfl rfl rfl h
  · have h := h.2 c1
    refine ev_aload_n dX5_teach_32 rfl ?_
    refine ev_getr (M := MX5_teach) (r := 1) 0 dX5_teach_33 sM_0 ck5 (Nat.le_of_ble_eq_true rfl) rfl w766 ?_
    refine ev_bipush dX5_teach_36 cb_48 ?_
    refine ev_iload dX5_teach_38 rfl ?_
    refine ev_iadd dX5_teach_40 ?_
    obtain ⟨g, h⟩ := h
    refine ev_iald dX5_teach_41 sM_1 g ?_
    refine ev_topi (fun x4 ex4 => ?_)
    have h := h x4 ex4
    refine ev_istore (M := MX5_teach) (ls2 := [.ref 0, .int l1, .int l2, .int l3, .int l4, .int x4, uJ]) dX5_teach_42 (Nat.le_of_ble_eq_true rfl) rfl ?_
    refine ev_aload_n dX5_teach_44 rfl ?_
    refine ev_getr (M := MX5_teach) (r := 1) 0 dX5_teach_45 sM_0 ck5 (Nat.le_of_ble_eq_true rfl) rfl w766 ?_
    refine ev_bipush dX5_teach_48 cb_48 ?_
    refine ev_iload dX5_teach_50 rfl ?_
    refine ev_iadd dX5_teach_52 ?_
    refine ev_bipush dX5_teach_53 cb_9 ?_
    obtain ⟨g, h⟩ := h
    refine ev_iast dX5_teach_55 sM_1 g ?_
    refine ev_topd (fun d5 ed5 => ?_)
    have h := h d5 ed5
    refine ev_aload_n dX5_teach_56 rfl ?_
    refine ev_callVi (M := MX5_teach) (M2 := MX5_awayMany) (As := []) (rest := []) dX5_teach_57 sM_0 ck5 rfl w1100 moX5_awayMany rfl ⟨Nat.le_of_ble_eq_true rfl, Nat.le_of_ble_eq_true rfl⟩ rfl rfl (Nat.le_of_ble_eq_true rfl) h (fun r7 d6 h => ?_)
    have h := rI_dn h
    refine ev_istore (M := MX5_teach) (ls2 := [.ref 0, .int l1, .int l2, .int l3, .int l4, .int x4, .int r7]) dX5_teach_60 (Nat.le_of_ble_eq_true rfl) rfl ?_
    refine ev_aload_n dX5_teach_62 rfl ?_
    refine ev_getr (M := MX5_teach) (r := 1) 0 dX5_teach_63 sM_0 ck5 (Nat.le_of_ble_eq_true rfl) rfl w766 ?_
    refine ev_bipush dX5_teach_66 cb_48 ?_
    refine ev_iload dX5_teach_68 rfl ?_
    refine ev_iadd dX5_teach_70 ?_
    refine ev_iload dX5_teach_71 rfl ?_
    obtain ⟨g, h⟩ := h
    refine ev_iast dX5_teach_73 sM_1 g ?_
    refine ev_topd (fun d8 ed8 => ?_)
    have h := h d8 ed8
    refine ev_iload dX5_teach_74 rfl ?_
    refine ev_iload_n dX5_teach_76 rfl ?_
    refine ev_icmp_ge (M := MX5_teach) (tgt := 85) dX5_teach_77 rfl (fun c9 => ?_) (fun c9 => ?_)
    · have h := h.1 c9
      refine ev_iload_n dX5_teach_85 rfl ?_
      refine ev_istore_n (M := MX5_teach) (ls2 := [.ref 0, .int l1, .int l2, .int l3, .int l4, .int x4, .int r7]) 3 dX5_teach_86 rfl (Nat.le_of_ble_eq_true rfl) rfl ?_
      refine ev_iload dX5_teach_87 rfl ?_
      refine ev_iload_n dX5_teach_89 rfl ?_
      refine ev_icmp_ge (M := MX5_teach) (tgt := 98) dX5_teach_90 rfl (fun c10 => ?_) (fun c10 => ?_)
      · have h := h.1 c10
        refine ev_iload_n dX5_teach_98 rfl ?_
        refine ev_istore_n (M := MX5_teach) (ls2 := [.ref 0, .int l1, .int l2, .int l3, .int l4, .int x4, .int r7]) 2 dX5_teach_99 rfl (Nat.le_of_ble_eq_true rfl) rfl ?_
        refine ev_iinc (M := MX5_teach) (ls2 := [.ref 0, .int l1, .int l2, .int l3, .int (l4 + 1), .int x4, .int r7]) dX5_teach_100 rfl (iin ci_1) (Nat.le_of_ble_eq_true rfl) rfl ?_
        refine ev_goto (M := MX5_teach) (tgt := 23) dX5_teach_103 rfl ?_
        refine Ev.forget (ls2 := [.ref 0, .int l1, .int l2, .int l3, .int (l4 + 1), uJ, uJ]) ?_ (fun i v hi hv => lsub_of (bs := [false, false, false, false, false, true, true]) rfl i v hi hv)
        exact h
      · have h := h.2 c10
        refine ev_iload dX5_teach_93 rfl ?_
        refine ev_goto (M := MX5_teach) (tgt := 99) dX5_teach_95 rfl ?_
        refine ev_istore_n (M := MX5_teach) (ls2 := [.ref 0, .int l1, .int r7, .int l3, .int l4, .int x4, .int r7]) 2 dX5_teach_99 rfl (Nat.le_of_ble_eq_true rfl) rfl ?_
        refine ev_iinc (M := MX5_teach) (ls2 := [.ref 0, .int l1, .int r7, .int l3, .int (l4 + 1), .int x4, .int r7]) dX5_teach_100 rfl (iin ci_1) (Nat.le_of_ble_eq_true rfl) rfl ?_
        refine ev_goto (M := MX5_teach) (tgt := 23) dX5_teach_103 rfl ?_
        refine Ev.forget (ls2 := [.ref 0, .int l1, .int r7, .int l3, .int (l4 + 1), uJ, uJ]) ?_ (fun i v hi hv => lsub_of (bs := [false, false, false, false, false, true, true]) rfl i v hi hv)
        exact h
    · have h := h.2 c9
      refine ev_iload dX5_teach_80 rfl ?_
      refine ev_goto (M := MX5_teach) (tgt := 86) dX5_teach_82 rfl ?_
      refine ev_istore_n (M := MX5_teach) (ls2 := [.ref 0, .int l1, .int l2, .int l4, .int l4, .int x4, .int r7]) 3 dX5_teach_86 rfl (Nat.le_of_ble_eq_true rfl) rfl ?_
      refine ev_iload dX5_teach_87 rfl ?_
      refine ev_iload_n dX5_teach_89 rfl ?_
      refine ev_icmp_ge (M := MX5_teach) (tgt := 98) dX5_teach_90 rfl (fun c11 => ?_) (fun c11 => ?_)
      · have h := h.1 c11
        refine ev_iload_n dX5_teach_98 rfl ?_
        refine ev_istore_n (M := MX5_teach) (ls2 := [.ref 0, .int l1, .int l2, .int l4, .int l4, .int x4, .int r7]) 2 dX5_teach_99 rfl (Nat.le_of_ble_eq_true rfl) rfl ?_
        refine ev_iinc (M := MX5_teach) (ls2 := [.ref 0, .int l1, .int l2, .int l4, .int (l4 + 1), .int x4, .int r7]) dX5_teach_100 rfl (iin ci_1) (Nat.le_of_ble_eq_true rfl) rfl ?_
        refine ev_goto (M := MX5_teach) (tgt := 23) dX5_teach_103 rfl ?_
        refine Ev.forget (ls2 := [.ref 0, .int l1, .int l2, .int l4, .int (l4 + 1), uJ, uJ]) ?_ (fun i v hi hv => lsub_of (bs := [false, false, false, false, false, true, true]) rfl i v hi hv)
        exact h
      · have h := h.2 c11
        refine ev_iload dX5_teach_93 rfl ?_
        refine ev_goto (M := MX5_teach) (tgt := 99) dX5_teach_95 rfl ?_
        refine ev_istore_n (M := MX5_teach) (ls2 := [.ref 0, .int l1, .int r7, .int l4, .int l4, .int x4, .int r7]) 2 dX5_teach_99 rfl (Nat.le_of_ble_eq_true rfl) rfl ?_
        refine ev_iinc (M := MX5_teach) (ls2 := [.ref 0, .int l1, .int r7, .int l4, .int (l4 + 1), .int x4, .int r7]) dX5_teach_100 rfl (iin ci_1) (Nat.le_of_ble_eq_true rfl) rfl ?_
        refine ev_goto (M := MX5_teach) (tgt := 23) dX5_teach_103 rfl ?_
        refine Ev.forget (ls2 := [.ref 0, .int l1, .int r7, .int l4, .int (l4 + 1), uJ, uJ]) ?_ (fun i v hi hv => lsub_of (bs := [false, false, false, false, false, true, true]) rfl i v hi hv)
        exact h
-- X5_lowest
theorem cn_X5_lowest {q : Int64 → DD → Prop} {d : DD} {p0 : Int64} {p1 : Int64} {p2 : Int32} (h : Ev SM MX5_lowest 6 [.long p0, uJ, .long p1, uJ, .int p2, .long p0, uJ, .long p1, uJ, uJ, uJ] [] d (rL q)) : Cn SM MX5_lowest [.long p0, .long p1, .int p2] d (rL q) := by
  refine cn_of (ls := [.long p0, uJ, .long p1, uJ, .int p2, uJ, uJ, uJ, uJ, uJ, uJ]) (by decide) rfl rfl (Nat.le_of_ble_eq_true rfl) ?_
  refine ev_lload_n dX5_lowest_0 rfl ?_
  refine ev_lstore (M := MX5_lowest) (ls2 := [.long p0, uJ, .long p1, uJ, .int p2, .long p0, uJ, uJ, uJ, uJ, uJ]) dX5_lowest_1 (Nat.le_of_ble_eq_true rfl) rfl ?_
  refine ev_lload_n dX5_lowest_3 rfl ?_
  refine ev_lstore (M := MX5_lowest) (ls2 := [.long p0, uJ, .long p1, uJ, .int p2, .long p0, uJ, .long p1, uJ, uJ, uJ]) dX5_lowest_4 (Nat.le_of_ble_eq_true rfl) rfl ?_
  exact h
theorem bk_X5_lowest_6 {q : Int64 → DD → Prop} {d : DD} {l0 : Int64} {l2 : Int64} {l4 : Int32} {l5 : Int64} {l7 : Int64} (h : (((lg_cmp l7 0) = 0 → ((¬ l4 = 0 → ((¬ l5 = 0) ∧ q (l2 / l5) d)) ∧ (l4 = 0 → ((¬ l5 = 0) ∧ q (l0 / l5) d)))) ∧ (¬ (lg_cmp l7 0) = 0 → ((¬ l7 = 0) ∧ (∀ x3 : Int64, x3 = (jreml l5 l7) → Ev SM MX5_lowest 6 [.long l0, uJ, .long l2, uJ, .int l4, .long l7, uJ, .long x3, uJ, uJ, uJ] [] d (rL q)))))) : Ev SM MX5_lowest 6 [.long l0, uJ, .long l2, uJ, .int l4, .long l5, uJ, .long l7, uJ, uJ, uJ] [] d (rL q) := by
  refine ev_lload dX5_lowest_6 rfl ?_
  refine ev_lconst (M := MX5_lowest) (v := 0) dX5_lowest_8 rfl ?_
  refine ev_lcmp dX5_lowest_9 ?_
  refine ev_if_eq (M := MX5_lowest) (tgt := 31) dX5_lowest_10 rfl (fun c1 => ?_) (fun c1 => ?_)
  · have h := h.1 c1
    refine ev_iload dX5_lowest_31 rfl ?_
    refine ev_if_ne (M := MX5_lowest) (tgt := 40) dX5_lowest_33 rfl (fun c2 => ?_) (fun c2 => ?_)
    · have h := h.1 c2
      refine ev_lload_n dX5_lowest_40 rfl ?_
      refine ev_lload dX5_lowest_41 rfl ?_
      obtain ⟨g, h⟩ := h
      refine ev_ldiv dX5_lowest_43 g ?_
      exact ev_lreti (M := MX5_lowest) dX5_lowest_44 rfl rfl h
    · have h := h.2 c2
      refine ev_lload_n dX5_lowest_36 rfl ?_
      refine ev_goto (M := MX5_lowest) (tgt := 41) dX5_lowest_37 rfl ?_
      refine ev_lload dX5_lowest_41 rfl ?_
      obtain ⟨g, h⟩ := h
      refine ev_ldiv dX5_lowest_43 g ?_
      exact ev_lreti (M := MX5_lowest) dX5_lowest_44 rfl rfl h
  · have h := h.2 c1
    refine ev_lload dX5_lowest_13 rfl ?_
    refine ev_lload dX5_lowest_15 rfl ?_
    obtain ⟨g, h⟩ := h
    refine ev_lrem dX5_lowest_17 g ?_
    refine ev_topl (fun x3 ex3 => ?_)
    have h := h x3 ex3
    refine ev_lstore (M := MX5_lowest) (ls2 := [.long l0, uJ, .long l2, uJ, .int l4, .long l5, uJ, .long l7, uJ, .long x3, uJ]) dX5_lowest_18 (Nat.le_of_ble_eq_true rfl) rfl ?_
    refine ev_lload dX5_lowest_20 rfl ?_
    refine ev_lstore (M := MX5_lowest) (ls2 := [.long l0, uJ, .long l2, uJ, .int l4, .long l7, uJ, .long l7, uJ, .long x3, uJ]) dX5_lowest_22 (Nat.le_of_ble_eq_true rfl) rfl ?_
    refine ev_lload dX5_lowest_24 rfl ?_
    refine ev_lstore (M := MX5_lowest) (ls2 := [.long l0, uJ, .long l2, uJ, .int l4, .long l7, uJ, .long x3, uJ, .long x3, uJ]) dX5_lowest_26 (Nat.le_of_ble_eq_true rfl) rfl ?_
    refine ev_goto (M := MX5_lowest) (tgt := 6) dX5_lowest_28 rfl ?_
    refine Ev.forget (ls2 := [.long l0, uJ, .long l2, uJ, .int l4, .long l7, uJ, .long x3, uJ, uJ, uJ]) ?_ (fun i v hi hv => lsub_of (bs := [false, false, false, false, false, false, false, false, false, true, false]) rfl i v hi hv)
    exact h
-- X5_byStrings
set_option maxRecDepth 4000 in
theorem cn_X5_byStrings {q : Int64 → DD → Prop} {d : DD} {p0 : Int32} {p1 : Int32} {p2 : Int32} (h : Ev SM MX5_byStrings 9 [.ref 0, .int p0, .int p1, .int p2, .long 0, uJ, .long 1, uJ, .int 0, uJ, uJ, uJ] [] d (rL q)) : Cn SM MX5_byStrings [.ref 0, .int p0, .int p1, .int p2] d (rL q) := by
  refine cn_of (ls := [.ref 0, .int p0, .int p1, .int p2, uJ, uJ, uJ, uJ, uJ, uJ, uJ, uJ]) (by decide) rfl rfl (Nat.le_of_ble_eq_true rfl) ?_
  refine ev_lconst (M := MX5_byStrings) (v := 0) dX5_byStrings_0 rfl ?_
  refine ev_lstore (M := MX5_byStrings) (ls2 := [.ref 0, .int p0, .int p1, .int p2, .long 0, uJ, uJ, uJ, uJ, uJ, uJ, uJ]) dX5_byStrings_1 (Nat.le_of_ble_eq_true rfl) rfl ?_
  refine ev_lconst (M := MX5_byStrings) (v := 1) dX5_byStrings_3 rfl ?_
  refine ev_lstore (M := MX5_byStrings) (ls2 := [.ref 0, .int p0, .int p1, .int p2, .long 0, uJ, .long 1, uJ, uJ, uJ, uJ, uJ]) dX5_byStrings_4 (Nat.le_of_ble_eq_true rfl) rfl ?_
  refine ev_iconst dX5_byStrings_6 ci_0 ?_
  refine ev_istore (M := MX5_byStrings) (ls2 := [.ref 0, .int p0, .int p1, .int p2, .long 0, uJ, .long 1, uJ, .int 0, uJ, uJ, uJ]) dX5_byStrings_7 (Nat.le_of_ble_eq_true rfl) rfl ?_
  exact h
set_option maxRecDepth 4000 in
theorem bk_X5_byStrings_9 {q : Int64 → DD → Prop} {d : DD} {l1 : Int32} {l2 : Int32} {l3 : Int32} {l4 : Int64} {l6 : Int64} {l8 : Int32} (h : (((d 0 2) ≤ l8 → Ev SM MX5_byStrings 35 [.ref 0, .int l1, .int l2, .int l3, .long l4, uJ, .long l6, uJ, .int 0, uJ, uJ, uJ] [] d (rL q)) ∧ (¬ (d 0 2) ≤ l8 → Ev SM MX5_byStrings 9 [.ref 0, .int l1, .int l2, .int l3, .long l4, uJ, .long (l6 * 10), uJ, .int (l8 + 1), uJ, uJ, uJ] [] d (rL q)))) : Ev SM MX5_byStrings 9 [.ref 0, .int l1, .int l2, .int l3, .long l4, uJ, .long l6, uJ, .int l8, uJ, uJ, uJ] [] d (rL q) := by
  refine ev_iload dX5_byStrings_9 rfl ?_
  refine ev_aload_n dX5_byStrings_11 rfl ?_
  refine ev_get 2 dX5_byStrings_12 sM_0 ck5 (Nat.le_of_ble_eq_true rfl) rfl w768 ?_
  refine ev_icmp_ge (M := MX5_byStrings) (tgt := 32) dX5_byStrings_15 rfl (fun c1 => ?_) (fun c1 => ?_)
  · have h := h.1 c1
    refine ev_iconst dX5_byStrings_32 ci_0 ?_
    refine ev_istore (M := MX5_byStrings) (ls2 := [.ref 0, .int l1, .int l2, .int l3, .long l4, uJ, .long l6, uJ, .int 0, uJ, uJ, uJ]) dX5_byStrings_33 (Nat.le_of_ble_eq_true rfl) rfl ?_
    exact h
  · have h := h.2 c1
    refine ev_lload dX5_byStrings_18 rfl ?_
    refine ev_ldc2 dX5_byStrings_20 w1088 ?_
    refine ev_lmul dX5_byStrings_23 ?_
    refine ev_lstore (M := MX5_byStrings) (ls2 := [.ref 0, .int l1, .int l2, .int l3, .long l4, uJ, .long (l6 * 10), uJ, .int l8, uJ, uJ, uJ]) dX5_byStrings_24 (Nat.le_of_ble_eq_true rfl) rfl ?_
    refine ev_iinc (M := MX5_byStrings) (ls2 := [.ref 0, .int l1, .int l2, .int l3, .long l4, uJ, .long (l6 * 10), uJ, .int (l8 + 1), uJ, uJ, uJ]) dX5_byStrings_26 rfl (iin ci_1) (Nat.le_of_ble_eq_true rfl) rfl ?_
    refine ev_goto (M := MX5_byStrings) (tgt := 9) dX5_byStrings_29 rfl ?_
    exact h
set_option maxRecDepth 4000 in
theorem bk_X5_byStrings_35 {q : Int64 → DD → Prop} {d : DD} {l1 : Int32} {l2 : Int32} {l3 : Int32} {l4 : Int64} {l6 : Int64} {l8 : Int32} (h : (((1 <<< ((d 0 2) &&& 31)) ≤ l8 → (∀ d2 : DD, d2 = (up d 0 26 0) → (Cn SM MX5_lowest [.long l4, .long l6, .int l3] d2 (rL fun r4 d3 => q r4 d3)))) ∧ (¬ (1 <<< ((d 0 2) &&& 31)) ≤ l8 → Ev SM MX5_byStrings 52 [.ref 0, .int l1, .int l2, .int l3, .long l4, uJ, .long l6, uJ, .int l8, .long 1, uJ, .int 0] [] d (rL q)))) : Ev SM MX5_byStrings 35 [.ref 0, .int l1, .int l2, .int l3, .long l4, uJ, .long l6, uJ, .int l8, uJ, uJ, uJ] [] d (rL q) := by
  refine ev_iload dX5_byStrings_35 rfl ?_
  refine ev_iconst dX5_byStrings_37 ci_1 ?_
  refine ev_aload_n dX5_byStrings_38 rfl ?_
  refine ev_get 2 dX5_byStrings_39 sM_0 ck5 (Nat.le_of_ble_eq_true rfl) rfl w768 ?_
  refine ev_ishl dX5_byStrings_42 ?_
  refine ev_icmp_ge (M := MX5_byStrings) (tgt := 141) dX5_byStrings_43 rfl (fun c1 => ?_) (fun c1 => ?_)
  · have h := h.1 c1
    refine ev_aload_n dX5_byStrings_141 rfl ?_
    refine ev_iconst dX5_byStrings_142 ci_0 ?_
    refine ev_put 26 dX5_byStrings_143 sM_0 ck5 (Nat.le_of_ble_eq_true rfl) rfl w792 rfl rfl rfl ?_
    refine ev_topd (fun d2 ed2 => ?_)
    have h := h d2 ed2
    refine ev_lload dX5_byStrings_146 rfl ?_
    refine ev_lload dX5_byStrings_148 rfl ?_
    refine ev_iload_n dX5_byStrings_150 rfl ?_
    refine ev_callSl (M := MX5_byStrings) (M2 := MX5_lowest) (As := [.long l4, .long l6, .int l3]) (rest := []) dX5_byStrings_151 w1129 moX5_lowest rfl ⟨Nat.le_of_ble_eq_true rfl, Nat.le_of_ble_eq_true rfl⟩ rfl rfl (Nat.le_of_ble_eq_true rfl) h (fun r4 d3 h => ?_)
    have h := rL_dn h
    exact ev_lreti (M := MX5_byStrings) dX5_byStrings_154 rfl rfl h
  · have h := h.2 c1
    refine ev_lconst (M := MX5_byStrings) (v := 1) dX5_byStrings_46 rfl ?_
    refine ev_lstore (M := MX5_byStrings) (ls2 := [.ref 0, .int l1, .int l2, .int l3, .long l4, uJ, .long l6, uJ, .int l8, .long 1, uJ, uJ]) dX5_byStrings_47 (Nat.le_of_ble_eq_true rfl) rfl ?_
    refine ev_iconst dX5_byStrings_49 ci_0 ?_
    refine ev_istore (M := MX5_byStrings) (ls2 := [.ref 0, .int l1, .int l2, .int l3, .long l4, uJ, .long l6, uJ, .int l8, .long 1, uJ, .int 0]) dX5_byStrings_50 (Nat.le_of_ble_eq_true rfl) rfl ?_
    exact h
set_option maxRecDepth 4000 in
theorem bk_X5_byStrings_52 {q : Int64 → DD → Prop} {d : DD} {l1 : Int32} {l2 : Int32} {l3 : Int32} {l4 : Int64} {l6 : Int64} {l8 : Int32} {l9 : Int64} {l11 : Int32} (h : (((d 0 2) ≤ l11 → (∀ d2 : DD, d2 = (up d 0 26 l8) → (Cn SM MX5_awayMany [.ref 0] d2 (rI fun r4 d3 => ((¬ l2 = (-4) → (Cn SM MX5_away [.ref 0] d3 (rI fun r7 d6 => (∀ x8 : Int64, x8 = (l4 + (l9 * (1 - ((r7 >>> (l2 &&& 31)) &&& 1)).toInt64)) → Ev SM MX5_byStrings 35 [.ref 0, .int l1, .int l2, .int l3, .long x8, uJ, .long l6, uJ, .int (l8 + 1), uJ, uJ, uJ] [] d6 (rL q))))) ∧ (l2 = (-4) → (∀ x9 : Int64, x9 = (l4 + (l9 * r4.toInt64)) → Ev SM MX5_byStrings 35 [.ref 0, .int l1, .int l2, .int l3, .long x9, uJ, .long l6, uJ, .int (l8 + 1), uJ, uJ, uJ] [] d3 (rL q)))))))) ∧ (¬ (d 0 2) ≤ l11 → ((¬ ((l8 >>> (l11 &&& 31)) &&& 1) = 1 → (∀ x11 : Int64, x11 = (l9 * (10 - l1).toInt64) → Ev SM MX5_byStrings 52 [.ref 0, .int l1, .int l2, .int l3, .long l4, uJ, .long l6, uJ, .int l8, .long x11, uJ, .int (l11 + 1)] [] d (rL q))) ∧ (((l8 >>> (l11 &&& 31)) &&& 1) = 1 → (∀ x12 : Int64, x12 = (l9 * l1.toInt64) → Ev SM MX5_byStrings 52 [.ref 0, .int l1, .int l2, .int l3, .long l4, uJ, .long l6, uJ, .int l8, .long x12, uJ, .int (l11 + 1)] [] d (rL q))))))) : Ev SM MX5_byStrings 52 [.ref 0, .int l1, .int l2, .int l3, .long l4, uJ, .long l6, uJ, .int l8, .long l9, uJ, .int l11] [] d (rL q) := by
  refine ev_iload dX5_byStrings_52 rfl ?_
  refine ev_aload_n dX5_byStrings_54 rfl ?_
  refine ev_get 2 dX5_byStrings_55 sM_0 ck5 (Nat.le_of_ble_eq_true rfl) rfl w768 ?_
  refine ev_icmp_ge (M := MX5_byStrings) (tgt := 93) dX5_byStrings_58 rfl (fun c1 => ?_) (fun c1 => ?_)
  · have h := h.1 c1
    refine ev_aload_n dX5_byStrings_93 rfl ?_
    refine ev_iload dX5_byStrings_94 rfl ?_
    refine ev_put 26 dX5_byStrings_96 sM_0 ck5 (Nat.le_of_ble_eq_true rfl) rfl w792 rfl rfl rfl ?_
    refine ev_topd (fun d2 ed2 => ?_)
    have h := h d2 ed2
    refine ev_aload_n dX5_byStrings_99 rfl ?_
    refine ev_callVi (M := MX5_byStrings) (M2 := MX5_awayMany) (As := []) (rest := []) dX5_byStrings_100 sM_0 ck5 rfl w1100 moX5_awayMany rfl ⟨Nat.le_of_ble_eq_true rfl, Nat.le_of_ble_eq_true rfl⟩ rfl rfl (Nat.le_of_ble_eq_true rfl) h (fun r4 d3 h => ?_)
    have h := rI_dn h
    refine ev_istore (M := MX5_byStrings) (ls2 := [.ref 0, .int l1, .int l2, .int l3, .long l4, uJ, .long l6, uJ, .int l8, .long l9, uJ, .int r4]) dX5_byStrings_103 (Nat.le_of_ble_eq_true rfl) rfl ?_
    refine ev_lload dX5_byStrings_105 rfl ?_
    refine ev_lload dX5_byStrings_107 rfl ?_
    refine ev_iload_n dX5_byStrings_109 rfl ?_
    refine ev_bipush dX5_byStrings_110 cb_m4 ?_
    refine ev_icmp_ne (M := MX5_byStrings) (tgt := 120) dX5_byStrings_112 rfl (fun c5 => ?_) (fun c5 => ?_)
    · have h := h.1 c5
      refine ev_iconst dX5_byStrings_120 ci_1 ?_
      refine ev_aload_n dX5_byStrings_121 rfl ?_
      refine ev_callVi (M := MX5_byStrings) (M2 := MX5_away) (As := []) (rest := [.int 1, .long l9, .long l4]) dX5_byStrings_122 sM_0 ck5 rfl w1068 moX5_away rfl ⟨Nat.le_of_ble_eq_true rfl, Nat.le_of_ble_eq_true rfl⟩ rfl rfl (Nat.le_of_ble_eq_true rfl) h (fun r7 d6 h => ?_)
      have h := rI_dn h
      refine ev_iload_n dX5_byStrings_125 rfl ?_
      refine ev_ishr dX5_byStrings_126 ?_
      refine ev_iconst dX5_byStrings_127 ci_1 ?_
      refine ev_iand dX5_byStrings_128 ?_
      refine ev_isub dX5_byStrings_129 ?_
      refine ev_i2l dX5_byStrings_130 ?_
      refine ev_lmul dX5_byStrings_131 ?_
      refine ev_ladd dX5_byStrings_132 ?_
      refine ev_topl (fun x8 ex8 => ?_)
      have h := h x8 ex8
      refine ev_lstore (M := MX5_byStrings) (ls2 := [.ref 0, .int l1, .int l2, .int l3, .long x8, uJ, .long l6, uJ, .int l8, .long l9, uJ, .int r4]) dX5_byStrings_133 (Nat.le_of_ble_eq_true rfl) rfl ?_
      refine ev_iinc (M := MX5_byStrings) (ls2 := [.ref 0, .int l1, .int l2, .int l3, .long x8, uJ, .long l6, uJ, .int (l8 + 1), .long l9, uJ, .int r4]) dX5_byStrings_135 rfl (iin ci_1) (Nat.le_of_ble_eq_true rfl) rfl ?_
      refine ev_goto (M := MX5_byStrings) (tgt := 35) dX5_byStrings_138 rfl ?_
      refine Ev.forget (ls2 := [.ref 0, .int l1, .int l2, .int l3, .long x8, uJ, .long l6, uJ, .int (l8 + 1), uJ, uJ, uJ]) ?_ (fun i v hi hv => lsub_of (bs := [false, false, false, false, false, false, false, false, false, true, false, true]) rfl i v hi hv)
      exact h
    · have h := h.2 c5
      refine ev_iload dX5_byStrings_115 rfl ?_
      refine ev_goto (M := MX5_byStrings) (tgt := 130) dX5_byStrings_117 rfl ?_
      refine ev_i2l dX5_byStrings_130 ?_
      refine ev_lmul dX5_byStrings_131 ?_
      refine ev_ladd dX5_byStrings_132 ?_
      refine ev_topl (fun x9 ex9 => ?_)
      have h := h x9 ex9
      refine ev_lstore (M := MX5_byStrings) (ls2 := [.ref 0, .int l1, .int l2, .int l3, .long x9, uJ, .long l6, uJ, .int l8, .long l9, uJ, .int r4]) dX5_byStrings_133 (Nat.le_of_ble_eq_true rfl) rfl ?_
      refine ev_iinc (M := MX5_byStrings) (ls2 := [.ref 0, .int l1, .int l2, .int l3, .long x9, uJ, .long l6, uJ, .int (l8 + 1), .long l9, uJ, .int r4]) dX5_byStrings_135 rfl (iin ci_1) (Nat.le_of_ble_eq_true rfl) rfl ?_
      refine ev_goto (M := MX5_byStrings) (tgt := 35) dX5_byStrings_138 rfl ?_
      refine Ev.forget (ls2 := [.ref 0, .int l1, .int l2, .int l3, .long x9, uJ, .long l6, uJ, .int (l8 + 1), uJ, uJ, uJ]) ?_ (fun i v hi hv => lsub_of (bs := [false, false, false, false, false, false, false, false, false, true, false, true]) rfl i v hi hv)
      exact h
  · have h := h.2 c1
    refine ev_lload dX5_byStrings_61 rfl ?_
    refine ev_iload dX5_byStrings_63 rfl ?_
    refine ev_iload dX5_byStrings_65 rfl ?_
    refine ev_ishr dX5_byStrings_67 ?_
    refine ev_iconst dX5_byStrings_68 ci_1 ?_
    refine ev_iand dX5_byStrings_69 ?_
    refine ev_iconst dX5_byStrings_70 ci_1 ?_
    refine ev_icmp_ne (M := MX5_byStrings) (tgt := 79) dX5_byStrings_71 rfl (fun c10 => ?_) (fun c10 => ?_)
    · have h := h.1 c10
      refine ev_bipush dX5_byStrings_79 cb_10 ?_
      refine ev_iload_n dX5_byStrings_81 rfl ?_
      refine ev_isub dX5_byStrings_82 ?_
      refine ev_i2l dX5_byStrings_83 ?_
      refine ev_lmul dX5_byStrings_84 ?_
      refine ev_topl (fun x11 ex11 => ?_)
      have h := h x11 ex11
      refine ev_lstore (M := MX5_byStrings) (ls2 := [.ref 0, .int l1, .int l2, .int l3, .long l4, uJ, .long l6, uJ, .int l8, .long x11, uJ, .int l11]) dX5_byStrings_85 (Nat.le_of_ble_eq_true rfl) rfl ?_
      refine ev_iinc (M := MX5_byStrings) (ls2 := [.ref 0, .int l1, .int l2, .int l3, .long l4, uJ, .long l6, uJ, .int l8, .long x11, uJ, .int (l11 + 1)]) dX5_byStrings_87 rfl (iin ci_1) (Nat.le_of_ble_eq_true rfl) rfl ?_
      refine ev_goto (M := MX5_byStrings) (tgt := 52) dX5_byStrings_90 rfl ?_
      exact h
    · have h := h.2 c10
      refine ev_iload_n dX5_byStrings_74 rfl ?_
      refine ev_i2l dX5_byStrings_75 ?_
      refine ev_goto (M := MX5_byStrings) (tgt := 84) dX5_byStrings_76 rfl ?_
      refine ev_lmul dX5_byStrings_84 ?_
      refine ev_topl (fun x12 ex12 => ?_)
      have h := h x12 ex12
      refine ev_lstore (M := MX5_byStrings) (ls2 := [.ref 0, .int l1, .int l2, .int l3, .long l4, uJ, .long l6, uJ, .int l8, .long x12, uJ, .int l11]) dX5_byStrings_85 (Nat.le_of_ble_eq_true rfl) rfl ?_
      refine ev_iinc (M := MX5_byStrings) (ls2 := [.ref 0, .int l1, .int l2, .int l3, .long l4, uJ, .long l6, uJ, .int l8, .long x12, uJ, .int (l11 + 1)]) dX5_byStrings_87 rfl (iin ci_1) (Nat.le_of_ble_eq_true rfl) rfl ?_
      refine ev_goto (M := MX5_byStrings) (tgt := 52) dX5_byStrings_90 rfl ?_
      exact h
-- X5_mean
theorem cn_X5_mean {q : Int64 → DD → Prop} {d : DD} {p0 : Int32} {p1 : Int32} (h : (Cn SM MX5_in [.long p0.toInt64, .long 0, .long 10] d (rI fun r2 d1 => ((r2 = 0 → q (-1) d1) ∧ (¬ r2 = 0 → (Cn SM MX5_in [.long p1.toInt64, .long 0, .long 1] d1 (rI fun r5 d4 => ((r5 = 0 → q (-1) d4) ∧ (¬ r5 = 0 → (Cn SM MX5_byStrings [.ref 0, .int p0, .int (-4), .int p1] d4 (rL fun r8 d7 => q r8 d7))))))))))) : Cn SM MX5_mean [.ref 0, .int p0, .int p1] d (rL q) := by
  refine cn_of (ls := [.ref 0, .int p0, .int p1]) (by decide) rfl rfl (Nat.le_of_ble_eq_true rfl) ?_
  refine ev_iload_n dX5_mean_0 rfl ?_
  refine ev_i2l dX5_mean_1 ?_
  refine ev_lconst (M := MX5_mean) (v := 0) dX5_mean_2 rfl ?_
  refine ev_ldc2 dX5_mean_3 w1088 ?_
  refine ev_callSi (M := MX5_mean) (M2 := MX5_in) (As := [.long p0.toInt64, .long 0, .long 10]) (rest := []) dX5_mean_6 w877 moX5_in rfl ⟨Nat.le_of_ble_eq_true rfl, Nat.le_of_ble_eq_true rfl⟩ rfl rfl (Nat.le_of_ble_eq_true rfl) h (fun r2 d1 h => ?_)
  have h := rI_dn h
  refine ev_if_eq (M := MX5_mean) (tgt := 33) dX5_mean_9 rfl (fun c3 => ?_) (fun c3 => ?_)
  · have h := h.1 c3
    refine ev_ldc2 dX5_mean_33 w1132 ?_
    exact ev_lreti (M := MX5_mean) dX5_mean_36 rfl rfl h
  · have h := h.2 c3
    refine ev_iload_n dX5_mean_12 rfl ?_
    refine ev_i2l dX5_mean_13 ?_
    refine ev_lconst (M := MX5_mean) (v := 0) dX5_mean_14 rfl ?_
    refine ev_lconst (M := MX5_mean) (v := 1) dX5_mean_15 rfl ?_
    refine ev_callSi (M := MX5_mean) (M2 := MX5_in) (As := [.long p1.toInt64, .long 0, .long 1]) (rest := []) dX5_mean_16 w877 moX5_in rfl ⟨Nat.le_of_ble_eq_true rfl, Nat.le_of_ble_eq_true rfl⟩ rfl rfl (Nat.le_of_ble_eq_true rfl) h (fun r5 d4 h => ?_)
    have h := rI_dn h
    refine ev_if_eq (M := MX5_mean) (tgt := 33) dX5_mean_19 rfl (fun c6 => ?_) (fun c6 => ?_)
    · have h := h.1 c6
      refine ev_ldc2 dX5_mean_33 w1132 ?_
      exact ev_lreti (M := MX5_mean) dX5_mean_36 rfl rfl h
    · have h := h.2 c6
      refine ev_aload_n dX5_mean_22 rfl ?_
      refine ev_iload_n dX5_mean_23 rfl ?_
      refine ev_bipush dX5_mean_24 cb_m4 ?_
      refine ev_iload_n dX5_mean_26 rfl ?_
      refine ev_callVl (M := MX5_mean) (M2 := MX5_byStrings) (As := [.int p0, .int (-4), .int p1]) (rest := []) dX5_mean_27 sM_0 ck5 rfl w1125 moX5_byStrings rfl ⟨Nat.le_of_ble_eq_true rfl, Nat.le_of_ble_eq_true rfl⟩ rfl rfl (Nat.le_of_ble_eq_true rfl) h (fun r8 d7 h => ?_)
      have h := rL_dn h
      refine ev_goto (M := MX5_mean) (tgt := 36) dX5_mean_30 rfl ?_
      exact ev_lreti (M := MX5_mean) dX5_mean_36 rfl rfl h
-- X5_luck
theorem cn_X5_luck {q : Int64 → DD → Prop} {d : DD} {p0 : Int32} {p1 : Int32} {p2 : Int32} (h : (Cn SM MX5_in [.long p0.toInt64, .long 0, .long 10] d (rI fun r2 d1 => ((r2 = 0 → q (-1) d1) ∧ (¬ r2 = 0 → (Cn SM MX5_isBound [.ref 0, .int p1] d1 (rI fun r5 d4 => ((r5 = 0 → q (-1) d4) ∧ (¬ r5 = 0 → (Cn SM MX5_in [.long p2.toInt64, .long 0, .long 1] d4 (rI fun r8 d7 => ((r8 = 0 → q (-1) d7) ∧ (¬ r8 = 0 → (Cn SM MX5_byStrings [.ref 0, .int p0, .int p1, .int p2] d7 (rL fun r11 d10 => q r11 d10))))))))))))))) : Cn SM MX5_luck [.ref 0, .int p0, .int p1, .int p2] d (rL q) := by
  refine cn_of (ls := [.ref 0, .int p0, .int p1, .int p2]) (by decide) rfl rfl (Nat.le_of_ble_eq_true rfl) ?_
  refine ev_iload_n dX5_luck_0 rfl ?_
  refine ev_i2l dX5_luck_1 ?_
  refine ev_lconst (M := MX5_luck) (v := 0) dX5_luck_2 rfl ?_
  refine ev_ldc2 dX5_luck_3 w1088 ?_
  refine ev_callSi (M := MX5_luck) (M2 := MX5_in) (As := [.long p0.toInt64, .long 0, .long 10]) (rest := []) dX5_luck_6 w877 moX5_in rfl ⟨Nat.le_of_ble_eq_true rfl, Nat.le_of_ble_eq_true rfl⟩ rfl rfl (Nat.le_of_ble_eq_true rfl) h (fun r2 d1 h => ?_)
  have h := rI_dn h
  refine ev_if_eq (M := MX5_luck) (tgt := 40) dX5_luck_9 rfl (fun c3 => ?_) (fun c3 => ?_)
  · have h := h.1 c3
    refine ev_ldc2 dX5_luck_40 w1132 ?_
    exact ev_lreti (M := MX5_luck) dX5_luck_43 rfl rfl h
  · have h := h.2 c3
    refine ev_aload_n dX5_luck_12 rfl ?_
    refine ev_iload_n dX5_luck_13 rfl ?_
    refine ev_callVi (M := MX5_luck) (M2 := MX5_isBound) (As := [.int p1]) (rest := []) dX5_luck_14 sM_0 ck5 rfl w993 moX5_isBound rfl ⟨Nat.le_of_ble_eq_true rfl, Nat.le_of_ble_eq_true rfl⟩ rfl rfl (Nat.le_of_ble_eq_true rfl) h (fun r5 d4 h => ?_)
    have h := rI_dn h
    refine ev_if_eq (M := MX5_luck) (tgt := 40) dX5_luck_17 rfl (fun c6 => ?_) (fun c6 => ?_)
    · have h := h.1 c6
      refine ev_ldc2 dX5_luck_40 w1132 ?_
      exact ev_lreti (M := MX5_luck) dX5_luck_43 rfl rfl h
    · have h := h.2 c6
      refine ev_iload_n dX5_luck_20 rfl ?_
      refine ev_i2l dX5_luck_21 ?_
      refine ev_lconst (M := MX5_luck) (v := 0) dX5_luck_22 rfl ?_
      refine ev_lconst (M := MX5_luck) (v := 1) dX5_luck_23 rfl ?_
      refine ev_callSi (M := MX5_luck) (M2 := MX5_in) (As := [.long p2.toInt64, .long 0, .long 1]) (rest := []) dX5_luck_24 w877 moX5_in rfl ⟨Nat.le_of_ble_eq_true rfl, Nat.le_of_ble_eq_true rfl⟩ rfl rfl (Nat.le_of_ble_eq_true rfl) h (fun r8 d7 h => ?_)
      have h := rI_dn h
      refine ev_if_eq (M := MX5_luck) (tgt := 40) dX5_luck_27 rfl (fun c9 => ?_) (fun c9 => ?_)
      · have h := h.1 c9
        refine ev_ldc2 dX5_luck_40 w1132 ?_
        exact ev_lreti (M := MX5_luck) dX5_luck_43 rfl rfl h
      · have h := h.2 c9
        refine ev_aload_n dX5_luck_30 rfl ?_
        refine ev_iload_n dX5_luck_31 rfl ?_
        refine ev_iload_n dX5_luck_32 rfl ?_
        refine ev_iload_n dX5_luck_33 rfl ?_
        refine ev_callVl (M := MX5_luck) (M2 := MX5_byStrings) (As := [.int p0, .int p1, .int p2]) (rest := []) dX5_luck_34 sM_0 ck5 rfl w1125 moX5_byStrings rfl ⟨Nat.le_of_ble_eq_true rfl, Nat.le_of_ble_eq_true rfl⟩ rfl rfl (Nat.le_of_ble_eq_true rfl) h (fun r11 d10 h => ?_)
        have h := rL_dn h
        refine ev_goto (M := MX5_luck) (tgt := 43) dX5_luck_37 rfl ?_
        exact ev_lreti (M := MX5_luck) dX5_luck_43 rfl rfl h
-- X5_see
set_option maxRecDepth 4000 in
theorem cn_X5_see {q : Int32 → DD → Prop} {d : DD} {p0 : Int32} {p1 : Int32} {p2 : Int32} (h : (Cn SM MX5_isTune [.ref 0, .int p0] d (rI fun r2 d1 => ((r2 = 0 → q (-1) d1) ∧ (¬ r2 = 0 → (Cn SM MX5_isMinute [.int p1] d1 (rI fun r5 d4 => ((r5 = 0 → q (-1) d4) ∧ (¬ r5 = 0 → ((p2 = (-4) → Ev SM MX5_see 35 [.ref 0, .int p0, .int p1, .int p2] [] d4 (rI q)) ∧ (¬ p2 = (-4) → (Cn SM MX5_in [.long p2.toInt64, .long 0, .long 9] d4 (rI fun r9 d8 => ((¬ r9 = 0 → Ev SM MX5_see 35 [.ref 0, .int p0, .int p1, .int p2] [] d8 (rI q)) ∧ (r9 = 0 → q (-1) d8))))))))))))))) : Cn SM MX5_see [.ref 0, .int p0, .int p1, .int p2] d (rI q) := by
  refine cn_of (ls := [.ref 0, .int p0, .int p1, .int p2]) (by decide) rfl rfl (Nat.le_of_ble_eq_true rfl) ?_
  refine ev_aload_n dX5_see_0 rfl ?_
  refine ev_iload_n dX5_see_1 rfl ?_
  refine ev_callVi (M := MX5_see) (M2 := MX5_isTune) (As := [.int p0]) (rest := []) dX5_see_2 sM_0 ck5 rfl w941 moX5_isTune rfl ⟨Nat.le_of_ble_eq_true rfl, Nat.le_of_ble_eq_true rfl⟩ rfl rfl (Nat.le_of_ble_eq_true rfl) h (fun r2 d1 h => ?_)
  have h := rI_dn h
  refine ev_if_eq (M := MX5_see) (tgt := 33) dX5_see_5 rfl (fun c3 => ?_) (fun c3 => ?_)
  · have h := h.1 c3
    refine ev_iconst dX5_see_33 ci_m1 ?_
    exact ev_ireti (M := MX5_see) (ty := .int) dX5_see_34 rfl rfl rfl h
  · have h := h.2 c3
    refine ev_iload_n dX5_see_8 rfl ?_
    refine ev_callSi (M := MX5_see) (M2 := MX5_isMinute) (As := [.int p1]) (rest := []) dX5_see_9 w972 moX5_isMinute rfl ⟨Nat.le_of_ble_eq_true rfl, Nat.le_of_ble_eq_true rfl⟩ rfl rfl (Nat.le_of_ble_eq_true rfl) h (fun r5 d4 h => ?_)
    have h := rI_dn h
    refine ev_if_eq (M := MX5_see) (tgt := 33) dX5_see_12 rfl (fun c6 => ?_) (fun c6 => ?_)
    · have h := h.1 c6
      refine ev_iconst dX5_see_33 ci_m1 ?_
      exact ev_ireti (M := MX5_see) (ty := .int) dX5_see_34 rfl rfl rfl h
    · have h := h.2 c6
      refine ev_iload_n dX5_see_15 rfl ?_
      refine ev_bipush dX5_see_16 cb_m4 ?_
      refine ev_icmp_eq (M := MX5_see) (tgt := 35) dX5_see_18 rfl (fun c7 => ?_) (fun c7 => ?_)
      · have h := h.1 c7
        exact h
      · have h := h.2 c7
        refine ev_iload_n dX5_see_21 rfl ?_
        refine ev_i2l dX5_see_22 ?_
        refine ev_lconst (M := MX5_see) (v := 0) dX5_see_23 rfl ?_
        refine ev_ldc2 dX5_see_24 w1001 ?_
        refine ev_callSi (M := MX5_see) (M2 := MX5_in) (As := [.long p2.toInt64, .long 0, .long 9]) (rest := []) dX5_see_27 w877 moX5_in rfl ⟨Nat.le_of_ble_eq_true rfl, Nat.le_of_ble_eq_true rfl⟩ rfl rfl (Nat.le_of_ble_eq_true rfl) h (fun r9 d8 h => ?_)
        have h := rI_dn h
        refine ev_if_ne (M := MX5_see) (tgt := 35) dX5_see_30 rfl (fun c10 => ?_) (fun c10 => ?_)
        · have h := h.1 c10
          exact h
        · have h := h.2 c10
          refine ev_iconst dX5_see_33 ci_m1 ?_
          exact ev_ireti (M := MX5_see) (ty := .int) dX5_see_34 rfl rfl rfl h
set_option maxRecDepth 4000 in
theorem bk_X5_see_35 {q : Int32 → DD → Prop} {d : DD} {l1 : Int32} {l2 : Int32} {l3 : Int32} (h : ((¬ (d 0 28) = 6 → (vp_in (3 * (d 0 28)) 18 ∧ (∀ d2 : DD, d2 = (up d 12 (3 * (d 0 28)).toNatClampNeg l1) → (vp_in ((3 * (d2 0 28)) + 1) 18 ∧ (∀ d3 : DD, d3 = (up d2 12 ((3 * (d2 0 28)) + 1).toNatClampNeg l2) → (vp_in ((3 * (d3 0 28)) + 2) 18 ∧ (∀ d4 : DD, d4 = (up d3 12 ((3 * (d3 0 28)) + 2).toNatClampNeg l3) → (∀ d5 : DD, d5 = (up d4 0 28 ((d4 0 28) + 1)) → q (d5 0 28) d5)))))))) ∧ ((d 0 28) = 6 → q (-3) d))) : Ev SM MX5_see 35 [.ref 0, .int l1, .int l2, .int l3] [] d (rI q) := by
  refine ev_aload_n dX5_see_35 rfl ?_
  refine ev_get 28 dX5_see_36 sM_0 ck5 (Nat.le_of_ble_eq_true rfl) rfl w794 ?_
  refine ev_bipush dX5_see_39 cb_6 ?_
  refine ev_icmp_ne (M := MX5_see) (tgt := 47) dX5_see_41 rfl (fun c1 => ?_) (fun c1 => ?_)
  · have h := h.1 c1
    refine ev_aload_n dX5_see_47 rfl ?_
    refine ev_getr (M := MX5_see) (r := 12) 27 dX5_see_48 sM_0 ck5 (Nat.le_of_ble_eq_true rfl) rfl w793 ?_
    refine ev_iconst dX5_see_51 ci_3 ?_
    refine ev_aload_n dX5_see_52 rfl ?_
    refine ev_get 28 dX5_see_53 sM_0 ck5 (Nat.le_of_ble_eq_true rfl) rfl w794 ?_
    refine ev_imul dX5_see_56 ?_
    refine ev_iload_n dX5_see_57 rfl ?_
    obtain ⟨g, h⟩ := h
    refine ev_iast dX5_see_58 sM_12 g ?_
    refine ev_topd (fun d2 ed2 => ?_)
    have h := h d2 ed2
    refine ev_aload_n dX5_see_59 rfl ?_
    refine ev_getr (M := MX5_see) (r := 12) 27 dX5_see_60 sM_0 ck5 (Nat.le_of_ble_eq_true rfl) rfl w793 ?_
    refine ev_iconst dX5_see_63 ci_3 ?_
    refine ev_aload_n dX5_see_64 rfl ?_
    refine ev_get 28 dX5_see_65 sM_0 ck5 (Nat.le_of_ble_eq_true rfl) rfl w794 ?_
    refine ev_imul dX5_see_68 ?_
    refine ev_iconst dX5_see_69 ci_1 ?_
    refine ev_iadd dX5_see_70 ?_
    refine ev_iload_n dX5_see_71 rfl ?_
    obtain ⟨g, h⟩ := h
    refine ev_iast dX5_see_72 sM_12 g ?_
    refine ev_topd (fun d3 ed3 => ?_)
    have h := h d3 ed3
    refine ev_aload_n dX5_see_73 rfl ?_
    refine ev_getr (M := MX5_see) (r := 12) 27 dX5_see_74 sM_0 ck5 (Nat.le_of_ble_eq_true rfl) rfl w793 ?_
    refine ev_iconst dX5_see_77 ci_3 ?_
    refine ev_aload_n dX5_see_78 rfl ?_
    refine ev_get 28 dX5_see_79 sM_0 ck5 (Nat.le_of_ble_eq_true rfl) rfl w794 ?_
    refine ev_imul dX5_see_82 ?_
    refine ev_iconst dX5_see_83 ci_2 ?_
    refine ev_iadd dX5_see_84 ?_
    refine ev_iload_n dX5_see_85 rfl ?_
    obtain ⟨g, h⟩ := h
    refine ev_iast dX5_see_86 sM_12 g ?_
    refine ev_topd (fun d4 ed4 => ?_)
    have h := h d4 ed4
    refine ev_aload_n dX5_see_87 rfl ?_
    refine ev_dup dX5_see_88 rfl ?_
    refine ev_get 28 dX5_see_89 sM_0 ck5 (Nat.le_of_ble_eq_true rfl) rfl w794 ?_
    refine ev_iconst dX5_see_92 ci_1 ?_
    refine ev_iadd dX5_see_93 ?_
    refine ev_put 28 dX5_see_94 sM_0 ck5 (Nat.le_of_ble_eq_true rfl) rfl w794 rfl rfl rfl ?_
    refine ev_topd (fun d5 ed5 => ?_)
    have h := h d5 ed5
    refine ev_aload_n dX5_see_97 rfl ?_
    refine ev_get 28 dX5_see_98 sM_0 ck5 (Nat.le_of_ble_eq_true rfl) rfl w794 ?_
    exact ev_ireti (M := MX5_see) (ty := .int) dX5_see_101 rfl rfl rfl h
  · have h := h.2 c1
    refine ev_bipush dX5_see_44 cb_m3 ?_
    exact ev_ireti (M := MX5_see) (ty := .int) dX5_see_46 rfl rfl rfl h
-- X5_forget
theorem cn_X5_forget {q : Int32 → DD → Prop} {d : DD} {p0 : Int32} (h : (Cn SM MX5_in [.long p0.toInt64, .long 0, .long (d 0 28).toInt64] d (rI fun r2 d1 => ((¬ r2 = 0 → (∀ d4 : DD, d4 = (up d1 0 28 p0) → q (d1 0 28) d4)) ∧ (r2 = 0 → q (-1) d1))))) : Cn SM MX5_forget [.ref 0, .int p0] d (rI q) := by
  refine cn_of (ls := [.ref 0, .int p0, uJ]) (by decide) rfl rfl (Nat.le_of_ble_eq_true rfl) ?_
  refine ev_iload_n dX5_forget_0 rfl ?_
  refine ev_i2l dX5_forget_1 ?_
  refine ev_lconst (M := MX5_forget) (v := 0) dX5_forget_2 rfl ?_
  refine ev_aload_n dX5_forget_3 rfl ?_
  refine ev_get 28 dX5_forget_4 sM_0 ck5 (Nat.le_of_ble_eq_true rfl) rfl w794 ?_
  refine ev_i2l dX5_forget_7 ?_
  refine ev_callSi (M := MX5_forget) (M2 := MX5_in) (As := [.long p0.toInt64, .long 0, .long (d 0 28).toInt64]) (rest := []) dX5_forget_8 w877 moX5_in rfl ⟨Nat.le_of_ble_eq_true rfl, Nat.le_of_ble_eq_true rfl⟩ rfl rfl (Nat.le_of_ble_eq_true rfl) h (fun r2 d1 h => ?_)
  have h := rI_dn h
  refine ev_if_ne (M := MX5_forget) (tgt := 16) dX5_forget_11 rfl (fun c3 => ?_) (fun c3 => ?_)
  · have h := h.1 c3
    refine ev_aload_n dX5_forget_16 rfl ?_
    refine ev_get 28 dX5_forget_17 sM_0 ck5 (Nat.le_of_ble_eq_true rfl) rfl w794 ?_
    refine ev_istore_n (M := MX5_forget) (ls2 := [.ref 0, .int p0, .int (d1 0 28)]) 2 dX5_forget_20 rfl (Nat.le_of_ble_eq_true rfl) rfl ?_
    refine ev_aload_n dX5_forget_21 rfl ?_
    refine ev_iload_n dX5_forget_22 rfl ?_
    refine ev_put 28 dX5_forget_23 sM_0 ck5 (Nat.le_of_ble_eq_true rfl) rfl w794 rfl rfl rfl ?_
    refine ev_topd (fun d4 ed4 => ?_)
    have h := h d4 ed4
    refine ev_iload_n dX5_forget_26 rfl ?_
    exact ev_ireti (M := MX5_forget) (ty := .int) dX5_forget_27 rfl rfl rfl h
  · have h := h.2 c3
    refine ev_iconst dX5_forget_14 ci_m1 ?_
    exact ev_ireti (M := MX5_forget) (ty := .int) dX5_forget_15 rfl rfl rfl h
-- X5_kindsOf
set_option maxRecDepth 4000 in
theorem cn_X5_kindsOf {q : Int32 → DD → Prop} {d : DD} {p0 : Int32} (h : Ev SM MX5_kindsOf 4 [.ref 0, .int p0, .int 0, .int 0, uJ, uJ] [] d (rI q)) : Cn SM MX5_kindsOf [.ref 0, .int p0] d (rI q) := by
  refine cn_of (ls := [.ref 0, .int p0, uJ, uJ, uJ, uJ]) (by decide) rfl rfl (Nat.le_of_ble_eq_true rfl) ?_
  refine ev_iconst dX5_kindsOf_0 ci_0 ?_
  refine ev_istore_n (M := MX5_kindsOf) (ls2 := [.ref 0, .int p0, .int 0, uJ, uJ, uJ]) 2 dX5_kindsOf_1 rfl (Nat.le_of_ble_eq_true rfl) rfl ?_
  refine ev_iconst dX5_kindsOf_2 ci_0 ?_
  refine ev_istore_n (M := MX5_kindsOf) (ls2 := [.ref 0, .int p0, .int 0, .int 0, uJ, uJ]) 3 dX5_kindsOf_3 rfl (Nat.le_of_ble_eq_true rfl) rfl ?_
  exact h
set_option maxRecDepth 4000 in
theorem bk_X5_kindsOf_4 {q : Int32 → DD → Prop} {d : DD} {l1 : Int32} {l2 : Int32} {l3 : Int32} (h : ((4 ≤ l3 → q l2 d) ∧ (¬ 4 ≤ l3 → Ev SM MX5_kindsOf 15 [.ref 0, .int l1, .int l2, .int l3, .int 1, .int 0] [] d (rI q)))) : Ev SM MX5_kindsOf 4 [.ref 0, .int l1, .int l2, .int l3, uJ, uJ] [] d (rI q) := by
  refine ev_iload_n dX5_kindsOf_4 rfl ?_
  refine ev_iconst dX5_kindsOf_5 ci_4 ?_
  refine ev_icmp_ge (M := MX5_kindsOf) (tgt := 107) dX5_kindsOf_6 rfl (fun c1 => ?_) (fun c1 => ?_)
  · have h := h.1 c1
    refine ev_iload_n dX5_kindsOf_107 rfl ?_
    exact ev_ireti (M := MX5_kindsOf) (ty := .int) dX5_kindsOf_108 rfl rfl rfl h
  · have h := h.2 c1
    refine ev_iconst dX5_kindsOf_9 ci_1 ?_
    refine ev_istore (M := MX5_kindsOf) (ls2 := [.ref 0, .int l1, .int l2, .int l3, .int 1, uJ]) dX5_kindsOf_10 (Nat.le_of_ble_eq_true rfl) rfl ?_
    refine ev_iconst dX5_kindsOf_12 ci_0 ?_
    refine ev_istore (M := MX5_kindsOf) (ls2 := [.ref 0, .int l1, .int l2, .int l3, .int 1, .int 0]) dX5_kindsOf_13 (Nat.le_of_ble_eq_true rfl) rfl ?_
    exact h
set_option maxRecDepth 4000 in
theorem bk_X5_kindsOf_15 {q : Int32 → DD → Prop} {d : DD} {l1 : Int32} {l2 : Int32} {l3 : Int32} {l4 : Int32} {l5 : Int32} (h : (((d 0 28) ≤ l5 → ((l4 = 0 → Ev SM MX5_kindsOf 4 [.ref 0, .int l1, .int (l2 ||| 0), .int (l3 + 1), uJ, uJ] [] d (rI q)) ∧ (¬ l4 = 0 → (∀ x3 : Int32, x3 = (l2 ||| (1 <<< (l3 &&& 31))) → Ev SM MX5_kindsOf 4 [.ref 0, .int l1, .int x3, .int (l3 + 1), uJ, uJ] [] d (rI q))))) ∧ (¬ (d 0 28) ≤ l5 → ((l4 = 0 → Ev SM MX5_kindsOf 15 [.ref 0, .int l1, .int l2, .int l3, .int 0, .int (l5 + 1)] [] d (rI q)) ∧ (¬ l4 = 0 → (vp_in (3 * l5) 18 ∧ ((¬ (d 12 (3 * l5).toNatClampNeg) = l1 → Ev SM MX5_kindsOf 15 [.ref 0, .int l1, .int l2, .int l3, .int 1, .int (l5 + 1)] [] d (rI q)) ∧ ((d 12 (3 * l5).toNatClampNeg) = l1 → (vp_in ((3 * l5) + 1) 18 ∧ (Cn SM MX5_noteBy [.ref 0, .int l1, .int l3, .int (d 12 ((3 * l5) + 1).toNatClampNeg)] d (rI fun r7 d6 => (vp_in ((3 * l5) + 2) 18 ∧ ((¬ r7 = (d6 12 ((3 * l5) + 2).toNatClampNeg) → Ev SM MX5_kindsOf 15 [.ref 0, .int l1, .int l2, .int l3, .int 0, .int (l5 + 1)] [] d6 (rI q)) ∧ (r7 = (d6 12 ((3 * l5) + 2).toNatClampNeg) → Ev SM MX5_kindsOf 15 [.ref 0, .int l1, .int l2, .int l3, .int 1, .int (l5 + 1)] [] d6 (rI q))))))))))))))) : Ev SM MX5_kindsOf 15 [.ref 0, .int l1, .int l2, .int l3, .int l4, .int l5] [] d (rI q) := by
  refine ev_iload dX5_kindsOf_15 rfl ?_
  refine ev_aload_n dX5_kindsOf_17 rfl ?_
  refine ev_get 28 dX5_kindsOf_18 sM_0 ck5 (Nat.le_of_ble_eq_true rfl) rfl w794 ?_
  refine ev_icmp_ge (M := MX5_kindsOf) (tgt := 86) dX5_kindsOf_21 rfl (fun c1 => ?_) (fun c1 => ?_)
  · have h := h.1 c1
    refine ev_iload_n dX5_kindsOf_86 rfl ?_
    refine ev_iload dX5_kindsOf_87 rfl ?_
    refine ev_if_eq (M := MX5_kindsOf) (tgt := 98) dX5_kindsOf_89 rfl (fun c2 => ?_) (fun c2 => ?_)
    · have h := h.1 c2
      refine ev_iconst dX5_kindsOf_98 ci_0 ?_
      refine ev_ior dX5_kindsOf_99 ?_
      refine ev_istore_n (M := MX5_kindsOf) (ls2 := [.ref 0, .int l1, .int (l2 ||| 0), .int l3, .int l4, .int l5]) 2 dX5_kindsOf_100 rfl (Nat.le_of_ble_eq_true rfl) rfl ?_
      refine ev_iinc (M := MX5_kindsOf) (ls2 := [.ref 0, .int l1, .int (l2 ||| 0), .int (l3 + 1), .int l4, .int l5]) dX5_kindsOf_101 rfl (iin ci_1) (Nat.le_of_ble_eq_true rfl) rfl ?_
      refine ev_goto (M := MX5_kindsOf) (tgt := 4) dX5_kindsOf_104 rfl ?_
      refine Ev.forget (ls2 := [.ref 0, .int l1, .int (l2 ||| 0), .int (l3 + 1), uJ, uJ]) ?_ (fun i v hi hv => lsub_of (bs := [false, false, false, false, true, true]) rfl i v hi hv)
      exact h
    · have h := h.2 c2
      refine ev_iconst dX5_kindsOf_92 ci_1 ?_
      refine ev_iload_n dX5_kindsOf_93 rfl ?_
      refine ev_ishl dX5_kindsOf_94 ?_
      refine ev_goto (M := MX5_kindsOf) (tgt := 99) dX5_kindsOf_95 rfl ?_
      refine ev_ior dX5_kindsOf_99 ?_
      refine ev_topi (fun x3 ex3 => ?_)
      have h := h x3 ex3
      refine ev_istore_n (M := MX5_kindsOf) (ls2 := [.ref 0, .int l1, .int x3, .int l3, .int l4, .int l5]) 2 dX5_kindsOf_100 rfl (Nat.le_of_ble_eq_true rfl) rfl ?_
      refine ev_iinc (M := MX5_kindsOf) (ls2 := [.ref 0, .int l1, .int x3, .int (l3 + 1), .int l4, .int l5]) dX5_kindsOf_101 rfl (iin ci_1) (Nat.le_of_ble_eq_true rfl) rfl ?_
      refine ev_goto (M := MX5_kindsOf) (tgt := 4) dX5_kindsOf_104 rfl ?_
      refine Ev.forget (ls2 := [.ref 0, .int l1, .int x3, .int (l3 + 1), uJ, uJ]) ?_ (fun i v hi hv => lsub_of (bs := [false, false, false, false, true, true]) rfl i v hi hv)
      exact h
  · have h := h.2 c1
    refine ev_iload dX5_kindsOf_24 rfl ?_
    refine ev_if_eq (M := MX5_kindsOf) (tgt := 77) dX5_kindsOf_26 rfl (fun c4 => ?_) (fun c4 => ?_)
    · have h := h.1 c4
      refine ev_iconst dX5_kindsOf_77 ci_0 ?_
      refine ev_istore (M := MX5_kindsOf) (ls2 := [.ref 0, .int l1, .int l2, .int l3, .int 0, .int l5]) dX5_kindsOf_78 (Nat.le_of_ble_eq_true rfl) rfl ?_
      refine ev_iinc (M := MX5_kindsOf) (ls2 := [.ref 0, .int l1, .int l2, .int l3, .int 0, .int (l5 + 1)]) dX5_kindsOf_80 rfl (iin ci_1) (Nat.le_of_ble_eq_true rfl) rfl ?_
      refine ev_goto (M := MX5_kindsOf) (tgt := 15) dX5_kindsOf_83 rfl ?_
      exact h
    · have h := h.2 c4
      refine ev_aload_n dX5_kindsOf_29 rfl ?_
      refine ev_getr (M := MX5_kindsOf) (r := 12) 27 dX5_kindsOf_30 sM_0 ck5 (Nat.le_of_ble_eq_true rfl) rfl w793 ?_
      refine ev_iconst dX5_kindsOf_33 ci_3 ?_
      refine ev_iload dX5_kindsOf_34 rfl ?_
      refine ev_imul dX5_kindsOf_36 ?_
      obtain ⟨g, h⟩ := h
      refine ev_iald dX5_kindsOf_37 sM_12 g ?_
      refine ev_iload_n dX5_kindsOf_38 rfl ?_
      refine ev_icmp_ne (M := MX5_kindsOf) (tgt := 73) dX5_kindsOf_39 rfl (fun c5 => ?_) (fun c5 => ?_)
      · have h := h.1 c5
        refine ev_iconst dX5_kindsOf_73 ci_1 ?_
        refine ev_goto (M := MX5_kindsOf) (tgt := 78) dX5_kindsOf_74 rfl ?_
        refine ev_istore (M := MX5_kindsOf) (ls2 := [.ref 0, .int l1, .int l2, .int l3, .int 1, .int l5]) dX5_kindsOf_78 (Nat.le_of_ble_eq_true rfl) rfl ?_
        refine ev_iinc (M := MX5_kindsOf) (ls2 := [.ref 0, .int l1, .int l2, .int l3, .int 1, .int (l5 + 1)]) dX5_kindsOf_80 rfl (iin ci_1) (Nat.le_of_ble_eq_true rfl) rfl ?_
        refine ev_goto (M := MX5_kindsOf) (tgt := 15) dX5_kindsOf_83 rfl ?_
        exact h
      · have h := h.2 c5
        refine ev_aload_n dX5_kindsOf_42 rfl ?_
        refine ev_iload_n dX5_kindsOf_43 rfl ?_
        refine ev_iload_n dX5_kindsOf_44 rfl ?_
        refine ev_aload_n dX5_kindsOf_45 rfl ?_
        refine ev_getr (M := MX5_kindsOf) (r := 12) 27 dX5_kindsOf_46 sM_0 ck5 (Nat.le_of_ble_eq_true rfl) rfl w793 ?_
        refine ev_iconst dX5_kindsOf_49 ci_3 ?_
        refine ev_iload dX5_kindsOf_50 rfl ?_
        refine ev_imul dX5_kindsOf_52 ?_
        refine ev_iconst dX5_kindsOf_53 ci_1 ?_
        refine ev_iadd dX5_kindsOf_54 ?_
        obtain ⟨g, h⟩ := h
        refine ev_iald dX5_kindsOf_55 sM_12 g ?_
        refine ev_callVi (M := MX5_kindsOf) (M2 := MX5_noteBy) (As := [.int l1, .int l3, .int (d 12 ((3 * l5) + 1).toNatClampNeg)]) (rest := []) dX5_kindsOf_56 sM_0 ck5 rfl w976 moX5_noteBy rfl ⟨Nat.le_of_ble_eq_true rfl, Nat.le_of_ble_eq_true rfl⟩ rfl rfl (Nat.le_of_ble_eq_true rfl) h (fun r7 d6 h => ?_)
        have h := rI_dn h
        refine ev_aload_n dX5_kindsOf_59 rfl ?_
        refine ev_getr (M := MX5_kindsOf) (r := 12) 27 dX5_kindsOf_60 sM_0 ck5 (Nat.le_of_ble_eq_true rfl) rfl w793 ?_
        refine ev_iconst dX5_kindsOf_63 ci_3 ?_
        refine ev_iload dX5_kindsOf_64 rfl ?_
        refine ev_imul dX5_kindsOf_66 ?_
        refine ev_iconst dX5_kindsOf_67 ci_2 ?_
        refine ev_iadd dX5_kindsOf_68 ?_
        obtain ⟨g, h⟩ := h
        refine ev_iald dX5_kindsOf_69 sM_12 g ?_
        refine ev_icmp_ne (M := MX5_kindsOf) (tgt := 77) dX5_kindsOf_70 rfl (fun c8 => ?_) (fun c8 => ?_)
        · have h := h.1 c8
          refine ev_iconst dX5_kindsOf_77 ci_0 ?_
          refine ev_istore (M := MX5_kindsOf) (ls2 := [.ref 0, .int l1, .int l2, .int l3, .int 0, .int l5]) dX5_kindsOf_78 (Nat.le_of_ble_eq_true rfl) rfl ?_
          refine ev_iinc (M := MX5_kindsOf) (ls2 := [.ref 0, .int l1, .int l2, .int l3, .int 0, .int (l5 + 1)]) dX5_kindsOf_80 rfl (iin ci_1) (Nat.le_of_ble_eq_true rfl) rfl ?_
          refine ev_goto (M := MX5_kindsOf) (tgt := 15) dX5_kindsOf_83 rfl ?_
          exact h
        · have h := h.2 c8
          refine ev_iconst dX5_kindsOf_73 ci_1 ?_
          refine ev_goto (M := MX5_kindsOf) (tgt := 78) dX5_kindsOf_74 rfl ?_
          refine ev_istore (M := MX5_kindsOf) (ls2 := [.ref 0, .int l1, .int l2, .int l3, .int 1, .int l5]) dX5_kindsOf_78 (Nat.le_of_ble_eq_true rfl) rfl ?_
          refine ev_iinc (M := MX5_kindsOf) (ls2 := [.ref 0, .int l1, .int l2, .int l3, .int 1, .int (l5 + 1)]) dX5_kindsOf_80 rfl (iin ci_1) (Nat.le_of_ble_eq_true rfl) rfl ?_
          refine ev_goto (M := MX5_kindsOf) (tgt := 15) dX5_kindsOf_83 rfl ?_
          exact h
-- X5_fits
theorem cn_X5_fits {q : Int32 → DD → Prop} {d : DD} {p0 : Int32} (h : (Cn SM MX5_isTune [.ref 0, .int p0] d (rI fun r2 d1 => ((r2 = 0 → q (-1) d1) ∧ (¬ r2 = 0 → (Cn SM MX5_kindsOf [.ref 0, .int p0] d1 (rI fun r5 d4 => q r5 d4))))))) : Cn SM MX5_fits [.ref 0, .int p0] d (rI q) := by
  refine cn_of (ls := [.ref 0, .int p0]) (by decide) rfl rfl (Nat.le_of_ble_eq_true rfl) ?_
  refine ev_aload_n dX5_fits_0 rfl ?_
  refine ev_iload_n dX5_fits_1 rfl ?_
  refine ev_callVi (M := MX5_fits) (M2 := MX5_isTune) (As := [.int p0]) (rest := []) dX5_fits_2 sM_0 ck5 rfl w941 moX5_isTune rfl ⟨Nat.le_of_ble_eq_true rfl, Nat.le_of_ble_eq_true rfl⟩ rfl rfl (Nat.le_of_ble_eq_true rfl) h (fun r2 d1 h => ?_)
  have h := rI_dn h
  refine ev_if_eq (M := MX5_fits) (tgt := 16) dX5_fits_5 rfl (fun c3 => ?_) (fun c3 => ?_)
  · have h := h.1 c3
    refine ev_iconst dX5_fits_16 ci_m1 ?_
    exact ev_ireti (M := MX5_fits) (ty := .int) dX5_fits_17 rfl rfl rfl h
  · have h := h.2 c3
    refine ev_aload_n dX5_fits_8 rfl ?_
    refine ev_iload_n dX5_fits_9 rfl ?_
    refine ev_callVi (M := MX5_fits) (M2 := MX5_kindsOf) (As := [.int p0]) (rest := []) dX5_fits_10 sM_0 ck5 rfl w1149 moX5_kindsOf rfl ⟨Nat.le_of_ble_eq_true rfl, Nat.le_of_ble_eq_true rfl⟩ rfl rfl (Nat.le_of_ble_eq_true rfl) h (fun r5 d4 h => ?_)
    have h := rI_dn h
    refine ev_goto (M := MX5_fits) (tgt := 17) dX5_fits_13 rfl ?_
    exact ev_ireti (M := MX5_fits) (ty := .int) dX5_fits_17 rfl rfl rfl h
-- X5_listen
set_option maxRecDepth 4000 in
theorem cn_X5_listen {q : Int32 → DD → Prop} {d : DD} {p0 : Int32} {p1 : Int32} (h : (Cn SM MX5_isTune [.ref 0, .int p0] d (rI fun r2 d1 => ((r2 = 0 → q (-1) d1) ∧ (¬ r2 = 0 → (Cn SM MX5_in [.long p1.toInt64, .long 0, .long 1] d1 (rI fun r5 d4 => ((¬ r5 = 0 → (Cn SM MX5_kindsOf [.ref 0, .int p0] d4 (rI fun r8 d7 => (Cn SM MX5_bitsOf [.int r8] d7 (rI fun r10 d9 => Ev SM MX5_listen 39 [.ref 0, .int p0, .int p1, .int r8, .int r10, .int (-4), .int 0, uJ, uJ, uJ, uJ] [] d9 (rI q)))))) ∧ (r5 = 0 → q (-1) d4))))))))) : Cn SM MX5_listen [.ref 0, .int p0, .int p1] d (rI q) := by
  refine cn_of (ls := [.ref 0, .int p0, .int p1, uJ, uJ, uJ, uJ, uJ, uJ, uJ, uJ]) (by decide) rfl rfl (Nat.le_of_ble_eq_true rfl) ?_
  refine ev_aload_n dX5_listen_0 rfl ?_
  refine ev_iload_n dX5_listen_1 rfl ?_
  refine ev_callVi (M := MX5_listen) (M2 := MX5_isTune) (As := [.int p0]) (rest := []) dX5_listen_2 sM_0 ck5 rfl w941 moX5_isTune rfl ⟨Nat.le_of_ble_eq_true rfl, Nat.le_of_ble_eq_true rfl⟩ rfl rfl (Nat.le_of_ble_eq_true rfl) h (fun r2 d1 h => ?_)
  have h := rI_dn h
  refine ev_if_eq (M := MX5_listen) (tgt := 18) dX5_listen_5 rfl (fun c3 => ?_) (fun c3 => ?_)
  · have h := h.1 c3
    refine ev_iconst dX5_listen_18 ci_m1 ?_
    exact ev_ireti (M := MX5_listen) (ty := .int) dX5_listen_19 rfl rfl rfl h
  · have h := h.2 c3
    refine ev_iload_n dX5_listen_8 rfl ?_
    refine ev_i2l dX5_listen_9 ?_
    refine ev_lconst (M := MX5_listen) (v := 0) dX5_listen_10 rfl ?_
    refine ev_lconst (M := MX5_listen) (v := 1) dX5_listen_11 rfl ?_
    refine ev_callSi (M := MX5_listen) (M2 := MX5_in) (As := [.long p1.toInt64, .long 0, .long 1]) (rest := []) dX5_listen_12 w877 moX5_in rfl ⟨Nat.le_of_ble_eq_true rfl, Nat.le_of_ble_eq_true rfl⟩ rfl rfl (Nat.le_of_ble_eq_true rfl) h (fun r5 d4 h => ?_)
    have h := rI_dn h
    refine ev_if_ne (M := MX5_listen) (tgt := 20) dX5_listen_15 rfl (fun c6 => ?_) (fun c6 => ?_)
    · have h := h.1 c6
      refine ev_aload_n dX5_listen_20 rfl ?_
      refine ev_iload_n dX5_listen_21 rfl ?_
      refine ev_callVi (M := MX5_listen) (M2 := MX5_kindsOf) (As := [.int p0]) (rest := []) dX5_listen_22 sM_0 ck5 rfl w1149 moX5_kindsOf rfl ⟨Nat.le_of_ble_eq_true rfl, Nat.le_of_ble_eq_true rfl⟩ rfl rfl (Nat.le_of_ble_eq_true rfl) h (fun r8 d7 h => ?_)
      have h := rI_dn h
      refine ev_istore_n (M := MX5_listen) (ls2 := [.ref 0, .int p0, .int p1, .int r8, uJ, uJ, uJ, uJ, uJ, uJ, uJ]) 3 dX5_listen_25 rfl (Nat.le_of_ble_eq_true rfl) rfl ?_
      refine ev_iload_n dX5_listen_26 rfl ?_
      refine ev_callSi (M := MX5_listen) (M2 := MX5_bitsOf) (As := [.int r8]) (rest := []) dX5_listen_27 w1072 moX5_bitsOf rfl ⟨Nat.le_of_ble_eq_true rfl, Nat.le_of_ble_eq_true rfl⟩ rfl rfl (Nat.le_of_ble_eq_true rfl) h (fun r10 d9 h => ?_)
      have h := rI_dn h
      refine ev_istore (M := MX5_listen) (ls2 := [.ref 0, .int p0, .int p1, .int r8, .int r10, uJ, uJ, uJ, uJ, uJ, uJ]) dX5_listen_30 (Nat.le_of_ble_eq_true rfl) rfl ?_
      refine ev_bipush dX5_listen_32 cb_m4 ?_
      refine ev_istore (M := MX5_listen) (ls2 := [.ref 0, .int p0, .int p1, .int r8, .int r10, .int (-4), uJ, uJ, uJ, uJ, uJ]) dX5_listen_34 (Nat.le_of_ble_eq_true rfl) rfl ?_
      refine ev_iconst dX5_listen_36 ci_0 ?_
      refine ev_istore (M := MX5_listen) (ls2 := [.ref 0, .int p0, .int p1, .int r8, .int r10, .int (-4), .int 0, uJ, uJ, uJ, uJ]) dX5_listen_37 (Nat.le_of_ble_eq_true rfl) rfl ?_
      exact h
    · have h := h.2 c6
      refine ev_iconst dX5_listen_18 ci_m1 ?_
      exact ev_ireti (M := MX5_listen) (ty := .int) dX5_listen_19 rfl rfl rfl h
set_option maxRecDepth 4000 in
theorem bk_X5_listen_39 {q : Int32 → DD → Prop} {d : DD} {l1 : Int32} {l2 : Int32} {l3 : Int32} {l4 : Int32} {l5 : Int32} {l6 : Int32} (h : ((159 < l6 → ((l5 = (-4) → q l5 d) ∧ (¬ l5 = (-4) → ((¬ l2 = 0 → q l4 d) ∧ (l2 = 0 → q l5 d))))) ∧ (¬ 159 < l6 → Ev SM MX5_listen 53 [.ref 0, .int l1, .int l2, .int l3, .int l4, .int l5, .int l6, .int 0, .int 0, uJ, uJ] [] d (rI q)))) : Ev SM MX5_listen 39 [.ref 0, .int l1, .int l2, .int l3, .int l4, .int l5, .int l6, uJ, uJ, uJ, uJ] [] d (rI q) := by
  refine ev_iload dX5_listen_39 rfl ?_
  refine ev_sipush dX5_listen_41 cs_159 ?_
  refine ev_icmp_gt (M := MX5_listen) (tgt := 188) dX5_listen_44 rfl (fun c1 => ?_) (fun c1 => ?_)
  · have h := h.1 c1
    refine ev_iload dX5_listen_188 rfl ?_
    refine ev_bipush dX5_listen_190 cb_m4 ?_
    refine ev_icmp_eq (M := MX5_listen) (tgt := 199) dX5_listen_192 rfl (fun c2 => ?_) (fun c2 => ?_)
    · have h := h.1 c2
      refine ev_iload dX5_listen_199 rfl ?_
      refine ev_goto (M := MX5_listen) (tgt := 206) dX5_listen_201 rfl ?_
      exact ev_ireti (M := MX5_listen) (ty := .int) dX5_listen_206 rfl rfl rfl h
    · have h := h.2 c2
      refine ev_iload_n dX5_listen_195 rfl ?_
      refine ev_if_ne (M := MX5_listen) (tgt := 204) dX5_listen_196 rfl (fun c3 => ?_) (fun c3 => ?_)
      · have h := h.1 c3
        refine ev_iload dX5_listen_204 rfl ?_
        exact ev_ireti (M := MX5_listen) (ty := .int) dX5_listen_206 rfl rfl rfl h
      · have h := h.2 c3
        refine ev_iload dX5_listen_199 rfl ?_
        refine ev_goto (M := MX5_listen) (tgt := 206) dX5_listen_201 rfl ?_
        exact ev_ireti (M := MX5_listen) (ty := .int) dX5_listen_206 rfl rfl rfl h
  · have h := h.2 c1
    refine ev_iconst dX5_listen_47 ci_0 ?_
    refine ev_istore (M := MX5_listen) (ls2 := [.ref 0, .int l1, .int l2, .int l3, .int l4, .int l5, .int l6, .int 0, uJ, uJ, uJ]) dX5_listen_48 (Nat.le_of_ble_eq_true rfl) rfl ?_
    refine ev_iconst dX5_listen_50 ci_0 ?_
    refine ev_istore (M := MX5_listen) (ls2 := [.ref 0, .int l1, .int l2, .int l3, .int l4, .int l5, .int l6, .int 0, .int 0, uJ, uJ]) dX5_listen_51 (Nat.le_of_ble_eq_true rfl) rfl ?_
    exact h
set_option maxRecDepth 4000 in
theorem bk_X5_listen_53 {q : Int32 → DD → Prop} {d : DD} {l1 : Int32} {l2 : Int32} {l3 : Int32} {l4 : Int32} {l5 : Int32} {l6 : Int32} {l7 : Int32} {l8 : Int32} (h : ((4 ≤ l8 → ((l4 ≤ l7 → ((l4 ≤ l7 → Ev SM MX5_listen 39 [.ref 0, .int l1, .int l2, .int l3, .int l4, .int l5, .int (l6 + 1), uJ, uJ, uJ, uJ] [] d (rI q)) ∧ (¬ l4 ≤ l7 → Ev SM MX5_listen 39 [.ref 0, .int l1, .int l2, .int l3, .int l7, .int l5, .int (l6 + 1), uJ, uJ, uJ, uJ] [] d (rI q)))) ∧ (¬ l4 ≤ l7 → ((l4 ≤ l7 → Ev SM MX5_listen 39 [.ref 0, .int l1, .int l2, .int l3, .int l4, .int l6, .int (l6 + 1), uJ, uJ, uJ, uJ] [] d (rI q)) ∧ (¬ l4 ≤ l7 → Ev SM MX5_listen 39 [.ref 0, .int l1, .int l2, .int l3, .int l7, .int l6, .int (l6 + 1), uJ, uJ, uJ, uJ] [] d (rI q)))))) ∧ (¬ 4 ≤ l8 → Ev SM MX5_listen 65 [.ref 0, .int l1, .int l2, .int l3, .int l4, .int l5, .int l6, .int l7, .int l8, .int 0, .int 0] [] d (rI q)))) : Ev SM MX5_listen 53 [.ref 0, .int l1, .int l2, .int l3, .int l4, .int l5, .int l6, .int l7, .int l8, uJ, uJ] [] d (rI q) := by
  refine ev_iload dX5_listen_53 rfl ?_
  refine ev_iconst dX5_listen_55 ci_4 ?_
  refine ev_icmp_ge (M := MX5_listen) (tgt := 150) dX5_listen_56 rfl (fun c1 => ?_) (fun c1 => ?_)
  · have h := h.1 c1
    refine ev_iload dX5_listen_150 rfl ?_
    refine ev_iload dX5_listen_152 rfl ?_
    refine ev_icmp_ge (M := MX5_listen) (tgt := 162) dX5_listen_154 rfl (fun c2 => ?_) (fun c2 => ?_)
    · have h := h.1 c2
      refine ev_iload dX5_listen_162 rfl ?_
      refine ev_istore (M := MX5_listen) (ls2 := [.ref 0, .int l1, .int l2, .int l3, .int l4, .int l5, .int l6, .int l7, .int l8, uJ, uJ]) dX5_listen_164 (Nat.le_of_ble_eq_true rfl) rfl ?_
      refine ev_iload dX5_listen_166 rfl ?_
      refine ev_iload dX5_listen_168 rfl ?_
      refine ev_icmp_ge (M := MX5_listen) (tgt := 178) dX5_listen_170 rfl (fun c3 => ?_) (fun c3 => ?_)
      · have h := h.1 c3
        refine ev_iload dX5_listen_178 rfl ?_
        refine ev_istore (M := MX5_listen) (ls2 := [.ref 0, .int l1, .int l2, .int l3, .int l4, .int l5, .int l6, .int l7, .int l8, uJ, uJ]) dX5_listen_180 (Nat.le_of_ble_eq_true rfl) rfl ?_
        refine ev_iinc (M := MX5_listen) (ls2 := [.ref 0, .int l1, .int l2, .int l3, .int l4, .int l5, .int (l6 + 1), .int l7, .int l8, uJ, uJ]) dX5_listen_182 rfl (iin ci_1) (Nat.le_of_ble_eq_true rfl) rfl ?_
        refine ev_goto (M := MX5_listen) (tgt := 39) dX5_listen_185 rfl ?_
        refine Ev.forget (ls2 := [.ref 0, .int l1, .int l2, .int l3, .int l4, .int l5, .int (l6 + 1), uJ, uJ, uJ, uJ]) ?_ (fun i v hi hv => lsub_of (bs := [false, false, false, false, false, false, false, true, true, false, false]) rfl i v hi hv)
        exact h
      · have h := h.2 c3
        refine ev_iload dX5_listen_173 rfl ?_
        refine ev_goto (M := MX5_listen) (tgt := 180) dX5_listen_175 rfl ?_
        refine ev_istore (M := MX5_listen) (ls2 := [.ref 0, .int l1, .int l2, .int l3, .int l7, .int l5, .int l6, .int l7, .int l8, uJ, uJ]) dX5_listen_180 (Nat.le_of_ble_eq_true rfl) rfl ?_
        refine ev_iinc (M := MX5_listen) (ls2 := [.ref 0, .int l1, .int l2, .int l3, .int l7, .int l5, .int (l6 + 1), .int l7, .int l8, uJ, uJ]) dX5_listen_182 rfl (iin ci_1) (Nat.le_of_ble_eq_true rfl) rfl ?_
        refine ev_goto (M := MX5_listen) (tgt := 39) dX5_listen_185 rfl ?_
        refine Ev.forget (ls2 := [.ref 0, .int l1, .int l2, .int l3, .int l7, .int l5, .int (l6 + 1), uJ, uJ, uJ, uJ]) ?_ (fun i v hi hv => lsub_of (bs := [false, false, false, false, false, false, false, true, true, false, false]) rfl i v hi hv)
        exact h
    · have h := h.2 c2
      refine ev_iload dX5_listen_157 rfl ?_
      refine ev_goto (M := MX5_listen) (tgt := 164) dX5_listen_159 rfl ?_
      refine ev_istore (M := MX5_listen) (ls2 := [.ref 0, .int l1, .int l2, .int l3, .int l4, .int l6, .int l6, .int l7, .int l8, uJ, uJ]) dX5_listen_164 (Nat.le_of_ble_eq_true rfl) rfl ?_
      refine ev_iload dX5_listen_166 rfl ?_
      refine ev_iload dX5_listen_168 rfl ?_
      refine ev_icmp_ge (M := MX5_listen) (tgt := 178) dX5_listen_170 rfl (fun c4 => ?_) (fun c4 => ?_)
      · have h := h.1 c4
        refine ev_iload dX5_listen_178 rfl ?_
        refine ev_istore (M := MX5_listen) (ls2 := [.ref 0, .int l1, .int l2, .int l3, .int l4, .int l6, .int l6, .int l7, .int l8, uJ, uJ]) dX5_listen_180 (Nat.le_of_ble_eq_true rfl) rfl ?_
        refine ev_iinc (M := MX5_listen) (ls2 := [.ref 0, .int l1, .int l2, .int l3, .int l4, .int l6, .int (l6 + 1), .int l7, .int l8, uJ, uJ]) dX5_listen_182 rfl (iin ci_1) (Nat.le_of_ble_eq_true rfl) rfl ?_
        refine ev_goto (M := MX5_listen) (tgt := 39) dX5_listen_185 rfl ?_
        refine Ev.forget (ls2 := [.ref 0, .int l1, .int l2, .int l3, .int l4, .int l6, .int (l6 + 1), uJ, uJ, uJ, uJ]) ?_ (fun i v hi hv => lsub_of (bs := [false, false, false, false, false, false, false, true, true, false, false]) rfl i v hi hv)
        exact h
      · have h := h.2 c4
        refine ev_iload dX5_listen_173 rfl ?_
        refine ev_goto (M := MX5_listen) (tgt := 180) dX5_listen_175 rfl ?_
        refine ev_istore (M := MX5_listen) (ls2 := [.ref 0, .int l1, .int l2, .int l3, .int l7, .int l6, .int l6, .int l7, .int l8, uJ, uJ]) dX5_listen_180 (Nat.le_of_ble_eq_true rfl) rfl ?_
        refine ev_iinc (M := MX5_listen) (ls2 := [.ref 0, .int l1, .int l2, .int l3, .int l7, .int l6, .int (l6 + 1), .int l7, .int l8, uJ, uJ]) dX5_listen_182 rfl (iin ci_1) (Nat.le_of_ble_eq_true rfl) rfl ?_
        refine ev_goto (M := MX5_listen) (tgt := 39) dX5_listen_185 rfl ?_
        refine Ev.forget (ls2 := [.ref 0, .int l1, .int l2, .int l3, .int l7, .int l6, .int (l6 + 1), uJ, uJ, uJ, uJ]) ?_ (fun i v hi hv => lsub_of (bs := [false, false, false, false, false, false, false, true, true, false, false]) rfl i v hi hv)
        exact h
  · have h := h.2 c1
    refine ev_iconst dX5_listen_59 ci_0 ?_
    refine ev_istore (M := MX5_listen) (ls2 := [.ref 0, .int l1, .int l2, .int l3, .int l4, .int l5, .int l6, .int l7, .int l8, .int 0, uJ]) dX5_listen_60 (Nat.le_of_ble_eq_true rfl) rfl ?_
    refine ev_iconst dX5_listen_62 ci_0 ?_
    refine ev_istore (M := MX5_listen) (ls2 := [.ref 0, .int l1, .int l2, .int l3, .int l4, .int l5, .int l6, .int l7, .int l8, .int 0, .int 0]) dX5_listen_63 (Nat.le_of_ble_eq_true rfl) rfl ?_
    exact h
set_option maxRecDepth 4000 in
theorem bk_X5_listen_65 {q : Int32 → DD → Prop} {d : DD} {l1 : Int32} {l2 : Int32} {l3 : Int32} {l4 : Int32} {l5 : Int32} {l6 : Int32} {l7 : Int32} {l8 : Int32} {l9 : Int32} {l10 : Int32} (h : ((4 ≤ l10 → ((l9 ≤ l7 → Ev SM MX5_listen 53 [.ref 0, .int l1, .int l2, .int l3, .int l4, .int l5, .int l6, .int l7, .int (l8 + 1), uJ, uJ] [] d (rI q)) ∧ (¬ l9 ≤ l7 → Ev SM MX5_listen 53 [.ref 0, .int l1, .int l2, .int l3, .int l4, .int l5, .int l6, .int l9, .int (l8 + 1), uJ, uJ] [] d (rI q)))) ∧ (¬ 4 ≤ l10 → ((¬ ((l3 >>> (l8 &&& 31)) &&& 1) = 1 → ((l9 ≤ l7 → Ev SM MX5_listen 53 [.ref 0, .int l1, .int l2, .int l3, .int l4, .int l5, .int l6, .int l7, .int (l8 + 1), uJ, uJ] [] d (rI q)) ∧ (¬ l9 ≤ l7 → Ev SM MX5_listen 53 [.ref 0, .int l1, .int l2, .int l3, .int l4, .int l5, .int l6, .int l9, .int (l8 + 1), uJ, uJ] [] d (rI q)))) ∧ (((l3 >>> (l8 &&& 31)) &&& 1) = 1 → ((¬ ((l3 >>> (l10 &&& 31)) &&& 1) = 1 → Ev SM MX5_listen 65 [.ref 0, .int l1, .int l2, .int l3, .int l4, .int l5, .int l6, .int l7, .int l8, .int (l9 + 0), .int (l10 + 1)] [] d (rI q)) ∧ (((l3 >>> (l10 &&& 31)) &&& 1) = 1 → (Cn SM MX5_noteBy [.ref 0, .int l1, .int l8, .int l6] d (rI fun r7 d6 => (Cn SM MX5_noteBy [.ref 0, .int l1, .int l10, .int l6] d6 (rI fun r9 d8 => ((¬ r7 = r9 → Ev SM MX5_listen 65 [.ref 0, .int l1, .int l2, .int l3, .int l4, .int l5, .int l6, .int l7, .int l8, .int (l9 + 0), .int (l10 + 1)] [] d8 (rI q)) ∧ (r7 = r9 → Ev SM MX5_listen 65 [.ref 0, .int l1, .int l2, .int l3, .int l4, .int l5, .int l6, .int l7, .int l8, .int (l9 + 1), .int (l10 + 1)] [] d8 (rI q)))))))))))))) : Ev SM MX5_listen 65 [.ref 0, .int l1, .int l2, .int l3, .int l4, .int l5, .int l6, .int l7, .int l8, .int l9, .int l10] [] d (rI q) := by
  refine ev_iload dX5_listen_65 rfl ?_
  refine ev_iconst dX5_listen_67 ci_4 ?_
  refine ev_icmp_ge (M := MX5_listen) (tgt := 128) dX5_listen_68 rfl (fun c1 => ?_) (fun c1 => ?_)
  · have h := h.1 c1
    refine ev_iload dX5_listen_128 rfl ?_
    refine ev_iload dX5_listen_130 rfl ?_
    refine ev_icmp_le (M := MX5_listen) (tgt := 140) dX5_listen_132 rfl (fun c2 => ?_) (fun c2 => ?_)
    · have h := h.1 c2
      refine ev_iload dX5_listen_140 rfl ?_
      refine ev_istore (M := MX5_listen) (ls2 := [.ref 0, .int l1, .int l2, .int l3, .int l4, .int l5, .int l6, .int l7, .int l8, .int l9, .int l10]) dX5_listen_142 (Nat.le_of_ble_eq_true rfl) rfl ?_
      refine ev_iinc (M := MX5_listen) (ls2 := [.ref 0, .int l1, .int l2, .int l3, .int l4, .int l5, .int l6, .int l7, .int (l8 + 1), .int l9, .int l10]) dX5_listen_144 rfl (iin ci_1) (Nat.le_of_ble_eq_true rfl) rfl ?_
      refine ev_goto (M := MX5_listen) (tgt := 53) dX5_listen_147 rfl ?_
      refine Ev.forget (ls2 := [.ref 0, .int l1, .int l2, .int l3, .int l4, .int l5, .int l6, .int l7, .int (l8 + 1), uJ, uJ]) ?_ (fun i v hi hv => lsub_of (bs := [false, false, false, false, false, false, false, false, false, true, true]) rfl i v hi hv)
      exact h
    · have h := h.2 c2
      refine ev_iload dX5_listen_135 rfl ?_
      refine ev_goto (M := MX5_listen) (tgt := 142) dX5_listen_137 rfl ?_
      refine ev_istore (M := MX5_listen) (ls2 := [.ref 0, .int l1, .int l2, .int l3, .int l4, .int l5, .int l6, .int l9, .int l8, .int l9, .int l10]) dX5_listen_142 (Nat.le_of_ble_eq_true rfl) rfl ?_
      refine ev_iinc (M := MX5_listen) (ls2 := [.ref 0, .int l1, .int l2, .int l3, .int l4, .int l5, .int l6, .int l9, .int (l8 + 1), .int l9, .int l10]) dX5_listen_144 rfl (iin ci_1) (Nat.le_of_ble_eq_true rfl) rfl ?_
      refine ev_goto (M := MX5_listen) (tgt := 53) dX5_listen_147 rfl ?_
      refine Ev.forget (ls2 := [.ref 0, .int l1, .int l2, .int l3, .int l4, .int l5, .int l6, .int l9, .int (l8 + 1), uJ, uJ]) ?_ (fun i v hi hv => lsub_of (bs := [false, false, false, false, false, false, false, false, false, true, true]) rfl i v hi hv)
      exact h
  · have h := h.2 c1
    refine ev_iload_n dX5_listen_71 rfl ?_
    refine ev_iload dX5_listen_72 rfl ?_
    refine ev_ishr dX5_listen_74 ?_
    refine ev_iconst dX5_listen_75 ci_1 ?_
    refine ev_iand dX5_listen_76 ?_
    refine ev_iconst dX5_listen_77 ci_1 ?_
    refine ev_icmp_ne (M := MX5_listen) (tgt := 128) dX5_listen_78 rfl (fun c3 => ?_) (fun c3 => ?_)
    · have h := h.1 c3
      refine ev_iload dX5_listen_128 rfl ?_
      refine ev_iload dX5_listen_130 rfl ?_
      refine ev_icmp_le (M := MX5_listen) (tgt := 140) dX5_listen_132 rfl (fun c4 => ?_) (fun c4 => ?_)
      · have h := h.1 c4
        refine ev_iload dX5_listen_140 rfl ?_
        refine ev_istore (M := MX5_listen) (ls2 := [.ref 0, .int l1, .int l2, .int l3, .int l4, .int l5, .int l6, .int l7, .int l8, .int l9, .int l10]) dX5_listen_142 (Nat.le_of_ble_eq_true rfl) rfl ?_
        refine ev_iinc (M := MX5_listen) (ls2 := [.ref 0, .int l1, .int l2, .int l3, .int l4, .int l5, .int l6, .int l7, .int (l8 + 1), .int l9, .int l10]) dX5_listen_144 rfl (iin ci_1) (Nat.le_of_ble_eq_true rfl) rfl ?_
        refine ev_goto (M := MX5_listen) (tgt := 53) dX5_listen_147 rfl ?_
        refine Ev.forget (ls2 := [.ref 0, .int l1, .int l2, .int l3, .int l4, .int l5, .int l6, .int l7, .int (l8 + 1), uJ, uJ]) ?_ (fun i v hi hv => lsub_of (bs := [false, false, false, false, false, false, false, false, false, true, true]) rfl i v hi hv)
        exact h
      · have h := h.2 c4
        refine ev_iload dX5_listen_135 rfl ?_
        refine ev_goto (M := MX5_listen) (tgt := 142) dX5_listen_137 rfl ?_
        refine ev_istore (M := MX5_listen) (ls2 := [.ref 0, .int l1, .int l2, .int l3, .int l4, .int l5, .int l6, .int l9, .int l8, .int l9, .int l10]) dX5_listen_142 (Nat.le_of_ble_eq_true rfl) rfl ?_
        refine ev_iinc (M := MX5_listen) (ls2 := [.ref 0, .int l1, .int l2, .int l3, .int l4, .int l5, .int l6, .int l9, .int (l8 + 1), .int l9, .int l10]) dX5_listen_144 rfl (iin ci_1) (Nat.le_of_ble_eq_true rfl) rfl ?_
        refine ev_goto (M := MX5_listen) (tgt := 53) dX5_listen_147 rfl ?_
        refine Ev.forget (ls2 := [.ref 0, .int l1, .int l2, .int l3, .int l4, .int l5, .int l6, .int l9, .int (l8 + 1), uJ, uJ]) ?_ (fun i v hi hv => lsub_of (bs := [false, false, false, false, false, false, false, false, false, true, true]) rfl i v hi hv)
        exact h
    · have h := h.2 c3
      refine ev_iload dX5_listen_81 rfl ?_
      refine ev_iload_n dX5_listen_83 rfl ?_
      refine ev_iload dX5_listen_84 rfl ?_
      refine ev_ishr dX5_listen_86 ?_
      refine ev_iconst dX5_listen_87 ci_1 ?_
      refine ev_iand dX5_listen_88 ?_
      refine ev_iconst dX5_listen_89 ci_1 ?_
      refine ev_icmp_ne (M := MX5_listen) (tgt := 118) dX5_listen_90 rfl (fun c5 => ?_) (fun c5 => ?_)
      · have h := h.1 c5
        refine ev_iconst dX5_listen_118 ci_0 ?_
        refine ev_iadd dX5_listen_119 ?_
        refine ev_istore (M := MX5_listen) (ls2 := [.ref 0, .int l1, .int l2, .int l3, .int l4, .int l5, .int l6, .int l7, .int l8, .int (l9 + 0), .int l10]) dX5_listen_120 (Nat.le_of_ble_eq_true rfl) rfl ?_
        refine ev_iinc (M := MX5_listen) (ls2 := [.ref 0, .int l1, .int l2, .int l3, .int l4, .int l5, .int l6, .int l7, .int l8, .int (l9 + 0), .int (l10 + 1)]) dX5_listen_122 rfl (iin ci_1) (Nat.le_of_ble_eq_true rfl) rfl ?_
        refine ev_goto (M := MX5_listen) (tgt := 65) dX5_listen_125 rfl ?_
        exact h
      · have h := h.2 c5
        refine ev_aload_n dX5_listen_93 rfl ?_
        refine ev_iload_n dX5_listen_94 rfl ?_
        refine ev_iload dX5_listen_95 rfl ?_
        refine ev_iload dX5_listen_97 rfl ?_
        refine ev_callVi (M := MX5_listen) (M2 := MX5_noteBy) (As := [.int l1, .int l8, .int l6]) (rest := [.int l9]) dX5_listen_99 sM_0 ck5 rfl w976 moX5_noteBy rfl ⟨Nat.le_of_ble_eq_true rfl, Nat.le_of_ble_eq_true rfl⟩ rfl rfl (Nat.le_of_ble_eq_true rfl) h (fun r7 d6 h => ?_)
        have h := rI_dn h
        refine ev_aload_n dX5_listen_102 rfl ?_
        refine ev_iload_n dX5_listen_103 rfl ?_
        refine ev_iload dX5_listen_104 rfl ?_
        refine ev_iload dX5_listen_106 rfl ?_
        refine ev_callVi (M := MX5_listen) (M2 := MX5_noteBy) (As := [.int l1, .int l10, .int l6]) (rest := [.int r7, .int l9]) dX5_listen_108 sM_0 ck5 rfl w976 moX5_noteBy rfl ⟨Nat.le_of_ble_eq_true rfl, Nat.le_of_ble_eq_true rfl⟩ rfl rfl (Nat.le_of_ble_eq_true rfl) h (fun r9 d8 h => ?_)
        have h := rI_dn h
        refine ev_icmp_ne (M := MX5_listen) (tgt := 118) dX5_listen_111 rfl (fun c10 => ?_) (fun c10 => ?_)
        · have h := h.1 c10
          refine ev_iconst dX5_listen_118 ci_0 ?_
          refine ev_iadd dX5_listen_119 ?_
          refine ev_istore (M := MX5_listen) (ls2 := [.ref 0, .int l1, .int l2, .int l3, .int l4, .int l5, .int l6, .int l7, .int l8, .int (l9 + 0), .int l10]) dX5_listen_120 (Nat.le_of_ble_eq_true rfl) rfl ?_
          refine ev_iinc (M := MX5_listen) (ls2 := [.ref 0, .int l1, .int l2, .int l3, .int l4, .int l5, .int l6, .int l7, .int l8, .int (l9 + 0), .int (l10 + 1)]) dX5_listen_122 rfl (iin ci_1) (Nat.le_of_ble_eq_true rfl) rfl ?_
          refine ev_goto (M := MX5_listen) (tgt := 65) dX5_listen_125 rfl ?_
          exact h
        · have h := h.2 c10
          refine ev_iconst dX5_listen_114 ci_1 ?_
          refine ev_goto (M := MX5_listen) (tgt := 119) dX5_listen_115 rfl ?_
          refine ev_iadd dX5_listen_119 ?_
          refine ev_istore (M := MX5_listen) (ls2 := [.ref 0, .int l1, .int l2, .int l3, .int l4, .int l5, .int l6, .int l7, .int l8, .int (l9 + 1), .int l10]) dX5_listen_120 (Nat.le_of_ble_eq_true rfl) rfl ?_
          refine ev_iinc (M := MX5_listen) (ls2 := [.ref 0, .int l1, .int l2, .int l3, .int l4, .int l5, .int l6, .int l7, .int l8, .int (l9 + 1), .int (l10 + 1)]) dX5_listen_122 rfl (iin ci_1) (Nat.le_of_ble_eq_true rfl) rfl ?_
          refine ev_goto (M := MX5_listen) (tgt := 65) dX5_listen_125 rfl ?_
          exact h
-- X5_draws
theorem cn_X5_draws {q : Int32 → DD → Prop} {d : DD}  (h : (∀ d1 : DD, d1 = (up d 0 29 (((d 0 29) * 1103515245) + 12345)) → q (((d1 0 29) >>> (16 &&& 31)) &&& 32767) d1)) : Cn SM MX5_draws [.ref 0] d (rI q) := by
  refine cn_of (ls := [.ref 0]) (by decide) rfl rfl (Nat.le_of_ble_eq_true rfl) ?_
  refine ev_aload_n dX5_draws_0 rfl ?_
  refine ev_aload_n dX5_draws_1 rfl ?_
  refine ev_get 29 dX5_draws_2 sM_0 ck5 (Nat.le_of_ble_eq_true rfl) rfl w795 ?_
  refine ev_ldcw dX5_draws_5 w1166 ?_
  refine ev_imul dX5_draws_8 ?_
  refine ev_sipush dX5_draws_9 cs_12345 ?_
  refine ev_iadd dX5_draws_12 ?_
  refine ev_put 29 dX5_draws_13 sM_0 ck5 (Nat.le_of_ble_eq_true rfl) rfl w795 rfl rfl rfl ?_
  refine ev_topd (fun d1 ed1 => ?_)
  have h := h d1 ed1
  refine ev_aload_n dX5_draws_16 rfl ?_
  refine ev_get 29 dX5_draws_17 sM_0 ck5 (Nat.le_of_ble_eq_true rfl) rfl w795 ?_
  refine ev_bipush dX5_draws_20 cb_16 ?_
  refine ev_ishr dX5_draws_22 ?_
  refine ev_sipush dX5_draws_23 cs_32767 ?_
  refine ev_iand dX5_draws_26 ?_
  exact ev_ireti (M := MX5_draws) (ty := .int) dX5_draws_27 rfl rfl rfl h
-- X5_drift
set_option maxRecDepth 4000 in
theorem cn_X5_drift {q : Int32 → DD → Prop} {d : DD} {p0 : Int32} {p1 : Int32} {p2 : Int32} (h : (Cn SM MX5_in [.long p1.toInt64, .long 1, .long 20] d (rI fun r2 d1 => ((r2 = 0 → q (-1) d1) ∧ (¬ r2 = 0 → (Cn SM MX5_in [.long p2.toInt64, .long 0, .long 1] d1 (rI fun r5 d4 => ((¬ r5 = 0 → ((¬ (d4 0 1) = 0 → (Cn SM MX5_copies [.ref 0, .int 0, .int 280] d4 (rV fun d8 => (∀ d9 : DD, d9 = (up d8 0 29 p0) → Ev SM MX5_drift 56 [.ref 0, .int p0, .int p1, .int p2, .int 0, .int 0, .int 0, uJ, uJ, uJ] [] d9 (rI q))))) ∧ ((d4 0 1) = 0 → q (-2) d4))) ∧ (r5 = 0 → q (-1) d4))))))))) : Cn SM MX5_drift [.ref 0, .int p0, .int p1, .int p2] d (rI q) := by
  refine cn_of (ls := [.ref 0, .int p0, .int p1, .int p2, uJ, uJ, uJ, uJ, uJ, uJ]) (by decide) rfl rfl (Nat.le_of_ble_eq_true rfl) ?_
  refine ev_iload_n dX5_drift_0 rfl ?_
  refine ev_i2l dX5_drift_1 ?_
  refine ev_lconst (M := MX5_drift) (v := 1) dX5_drift_2 rfl ?_
  refine ev_ldc2 dX5_drift_3 w1161 ?_
  refine ev_callSi (M := MX5_drift) (M2 := MX5_in) (As := [.long p1.toInt64, .long 1, .long 20]) (rest := []) dX5_drift_6 w877 moX5_in rfl ⟨Nat.le_of_ble_eq_true rfl, Nat.le_of_ble_eq_true rfl⟩ rfl rfl (Nat.le_of_ble_eq_true rfl) h (fun r2 d1 h => ?_)
  have h := rI_dn h
  refine ev_if_eq (M := MX5_drift) (tgt := 22) dX5_drift_9 rfl (fun c3 => ?_) (fun c3 => ?_)
  · have h := h.1 c3
    refine ev_iconst dX5_drift_22 ci_m1 ?_
    exact ev_ireti (M := MX5_drift) (ty := .int) dX5_drift_23 rfl rfl rfl h
  · have h := h.2 c3
    refine ev_iload_n dX5_drift_12 rfl ?_
    refine ev_i2l dX5_drift_13 ?_
    refine ev_lconst (M := MX5_drift) (v := 0) dX5_drift_14 rfl ?_
    refine ev_lconst (M := MX5_drift) (v := 1) dX5_drift_15 rfl ?_
    refine ev_callSi (M := MX5_drift) (M2 := MX5_in) (As := [.long p2.toInt64, .long 0, .long 1]) (rest := []) dX5_drift_16 w877 moX5_in rfl ⟨Nat.le_of_ble_eq_true rfl, Nat.le_of_ble_eq_true rfl⟩ rfl rfl (Nat.le_of_ble_eq_true rfl) h (fun r5 d4 h => ?_)
    have h := rI_dn h
    refine ev_if_ne (M := MX5_drift) (tgt := 24) dX5_drift_19 rfl (fun c6 => ?_) (fun c6 => ?_)
    · have h := h.1 c6
      refine ev_aload_n dX5_drift_24 rfl ?_
      refine ev_get 1 dX5_drift_25 sM_0 ck5 (Nat.le_of_ble_eq_true rfl) rfl w767 ?_
      refine ev_if_ne (M := MX5_drift) (tgt := 34) dX5_drift_28 rfl (fun c7 => ?_) (fun c7 => ?_)
      · have h := h.1 c7
        refine ev_iconst dX5_drift_34 ci_0 ?_
        refine ev_istore (M := MX5_drift) (ls2 := [.ref 0, .int p0, .int p1, .int p2, .int 0, uJ, uJ, uJ, uJ, uJ]) dX5_drift_35 (Nat.le_of_ble_eq_true rfl) rfl ?_
        refine ev_iconst dX5_drift_37 ci_0 ?_
        refine ev_istore (M := MX5_drift) (ls2 := [.ref 0, .int p0, .int p1, .int p2, .int 0, .int 0, uJ, uJ, uJ, uJ]) dX5_drift_38 (Nat.le_of_ble_eq_true rfl) rfl ?_
        refine ev_aload_n dX5_drift_40 rfl ?_
        refine ev_iconst dX5_drift_41 ci_0 ?_
        refine ev_sipush dX5_drift_42 cs_280 ?_
        refine ev_callVv (M := MX5_drift) (M2 := MX5_copies) (As := [.int 0, .int 280]) (rest := []) dX5_drift_45 sM_0 ck5 rfl w1089 moX5_copies rfl ⟨Nat.le_of_ble_eq_true rfl, Nat.le_of_ble_eq_true rfl⟩ rfl rfl (Nat.le_of_ble_eq_true rfl) h (fun d8 h => ?_)
        have h := rV_dn h
        refine ev_aload_n dX5_drift_48 rfl ?_
        refine ev_iload_n dX5_drift_49 rfl ?_
        refine ev_put 29 dX5_drift_50 sM_0 ck5 (Nat.le_of_ble_eq_true rfl) rfl w795 rfl rfl rfl ?_
        refine ev_topd (fun d9 ed9 => ?_)
        have h := h d9 ed9
        refine ev_iconst dX5_drift_53 ci_0 ?_
        refine ev_istore (M := MX5_drift) (ls2 := [.ref 0, .int p0, .int p1, .int p2, .int 0, .int 0, .int 0, uJ, uJ, uJ]) dX5_drift_54 (Nat.le_of_ble_eq_true rfl) rfl ?_
        exact h
      · have h := h.2 c7
        refine ev_bipush dX5_drift_31 cb_m2 ?_
        exact ev_ireti (M := MX5_drift) (ty := .int) dX5_drift_33 rfl rfl rfl h
    · have h := h.2 c6
      refine ev_iconst dX5_drift_22 ci_m1 ?_
      exact ev_ireti (M := MX5_drift) (ty := .int) dX5_drift_23 rfl rfl rfl h
set_option maxRecDepth 4000 in
theorem bk_X5_drift_56 {q : Int32 → DD → Prop} {d : DD} {l1 : Int32} {l2 : Int32} {l3 : Int32} {l4 : Int32} {l5 : Int32} {l6 : Int32} (h : ((l2 ≤ l6 → (Cn SM MX5_copies [.ref 0, .int 280, .int 0] d (rV fun d2 => ((¬ l3 = 0 → q l5 d2) ∧ (l3 = 0 → q l4 d2))))) ∧ (¬ l2 ≤ l6 → (Cn SM MX5_draws [.ref 0] d (rI fun r5 d4 => ((¬ (d4 0 1) = 0) ∧ (∀ x6 : Int32, x6 = (jrem r5 (d4 0 1)) → (Cn SM MX5_draws [.ref 0] d4 (rI fun r8 d7 => (vp_in (4 + x6) 350 ∧ ((¬ (d7 1 (4 + x6).toNatClampNeg) = 0) ∧ (vp_in ((16 + (8 * x6)) + (jrem r8 (d7 1 (4 + x6).toNatClampNeg))) 350 ∧ (∀ d9 : DD, d9 = (up d7 1 ((16 + (8 * x6)) + (jrem r8 (d7 1 (4 + x6).toNatClampNeg))).toNatClampNeg (jrem (r8 / 10) 10)) → (Cn SM MX5_awayMany [.ref 0] d9 (rI fun r11 d10 => ((r11 ≤ l4 → (Cn SM MX5_cost [.ref 0] d10 (rI fun r14 d13 => Ev SM MX5_drift 56 [.ref 0, .int l1, .int l2, .int l3, .int l4, .int (l5 + r14), .int (l6 + 1), uJ, uJ, uJ] [] d13 (rI q)))) ∧ (¬ r11 ≤ l4 → (Cn SM MX5_cost [.ref 0] d10 (rI fun r16 d15 => Ev SM MX5_drift 56 [.ref 0, .int l1, .int l2, .int l3, .int r11, .int (l5 + r16), .int (l6 + 1), uJ, uJ, uJ] [] d15 (rI q)))))))))))))))))))) : Ev SM MX5_drift 56 [.ref 0, .int l1, .int l2, .int l3, .int l4, .int l5, .int l6, uJ, uJ, uJ] [] d (rI q) := by
  refine ev_iload dX5_drift_56 rfl ?_
  refine ev_iload_n dX5_drift_58 rfl ?_
  refine ev_icmp_ge (M := MX5_drift) (tgt := 150) dX5_drift_59 rfl (fun c1 => ?_) (fun c1 => ?_)
  · have h := h.1 c1
    refine ev_aload_n dX5_drift_150 rfl ?_
    refine ev_sipush dX5_drift_151 cs_280 ?_
    refine ev_iconst dX5_drift_154 ci_0 ?_
    refine ev_callVv (M := MX5_drift) (M2 := MX5_copies) (As := [.int 280, .int 0]) (rest := []) dX5_drift_155 sM_0 ck5 rfl w1089 moX5_copies rfl ⟨Nat.le_of_ble_eq_true rfl, Nat.le_of_ble_eq_true rfl⟩ rfl rfl (Nat.le_of_ble_eq_true rfl) h (fun d2 h => ?_)
    have h := rV_dn h
    refine ev_iload_n dX5_drift_158 rfl ?_
    refine ev_if_ne (M := MX5_drift) (tgt := 167) dX5_drift_159 rfl (fun c3 => ?_) (fun c3 => ?_)
    · have h := h.1 c3
      refine ev_iload dX5_drift_167 rfl ?_
      exact ev_ireti (M := MX5_drift) (ty := .int) dX5_drift_169 rfl rfl rfl h
    · have h := h.2 c3
      refine ev_iload dX5_drift_162 rfl ?_
      refine ev_goto (M := MX5_drift) (tgt := 169) dX5_drift_164 rfl ?_
      exact ev_ireti (M := MX5_drift) (ty := .int) dX5_drift_169 rfl rfl rfl h
  · have h := h.2 c1
    refine ev_aload_n dX5_drift_62 rfl ?_
    refine ev_callVi (M := MX5_drift) (M2 := MX5_draws) (As := []) (rest := []) dX5_drift_63 sM_0 ck5 rfl w1162 moX5_draws rfl ⟨Nat.le_of_ble_eq_true rfl, Nat.le_of_ble_eq_true rfl⟩ rfl rfl (Nat.le_of_ble_eq_true rfl) h (fun r5 d4 h => ?_)
    have h := rI_dn h
    refine ev_aload_n dX5_drift_66 rfl ?_
    refine ev_get 1 dX5_drift_67 sM_0 ck5 (Nat.le_of_ble_eq_true rfl) rfl w767 ?_
    obtain ⟨g, h⟩ := h
    refine ev_irem dX5_drift_70 g ?_
    refine ev_topi (fun x6 ex6 => ?_)
    have h := h x6 ex6
    refine ev_istore (M := MX5_drift) (ls2 := [.ref 0, .int l1, .int l2, .int l3, .int l4, .int l5, .int l6, .int x6, uJ, uJ]) dX5_drift_71 (Nat.le_of_ble_eq_true rfl) rfl ?_
    refine ev_aload_n dX5_drift_73 rfl ?_
    refine ev_callVi (M := MX5_drift) (M2 := MX5_draws) (As := []) (rest := []) dX5_drift_74 sM_0 ck5 rfl w1162 moX5_draws rfl ⟨Nat.le_of_ble_eq_true rfl, Nat.le_of_ble_eq_true rfl⟩ rfl rfl (Nat.le_of_ble_eq_true rfl) h (fun r8 d7 h => ?_)
    have h := rI_dn h
    refine ev_istore (M := MX5_drift) (ls2 := [.ref 0, .int l1, .int l2, .int l3, .int l4, .int l5, .int l6, .int x6, .int r8, uJ]) dX5_drift_77 (Nat.le_of_ble_eq_true rfl) rfl ?_
    refine ev_aload_n dX5_drift_79 rfl ?_
    refine ev_getr (M := MX5_drift) (r := 1) 0 dX5_drift_80 sM_0 ck5 (Nat.le_of_ble_eq_true rfl) rfl w766 ?_
    refine ev_bipush dX5_drift_83 cb_16 ?_
    refine ev_bipush dX5_drift_85 cb_8 ?_
    refine ev_iload dX5_drift_87 rfl ?_
    refine ev_imul dX5_drift_89 ?_
    refine ev_iadd dX5_drift_90 ?_
    refine ev_iload dX5_drift_91 rfl ?_
    refine ev_aload_n dX5_drift_93 rfl ?_
    refine ev_getr (M := MX5_drift) (r := 1) 0 dX5_drift_94 sM_0 ck5 (Nat.le_of_ble_eq_true rfl) rfl w766 ?_
    refine ev_iconst dX5_drift_97 ci_4 ?_
    refine ev_iload dX5_drift_98 rfl ?_
    refine ev_iadd dX5_drift_100 ?_
    obtain ⟨g, h⟩ := h
    refine ev_iald dX5_drift_101 sM_1 g ?_
    obtain ⟨g, h⟩ := h
    refine ev_irem dX5_drift_102 g ?_
    refine ev_iadd dX5_drift_103 ?_
    refine ev_iload dX5_drift_104 rfl ?_
    refine ev_bipush dX5_drift_106 cb_10 ?_
    refine ev_idiv dX5_drift_108 (by decide) ?_
    refine ev_bipush dX5_drift_109 cb_10 ?_
    refine ev_irem dX5_drift_111 (by decide) ?_
    obtain ⟨g, h⟩ := h
    refine ev_iast dX5_drift_112 sM_1 g ?_
    refine ev_topd (fun d9 ed9 => ?_)
    have h := h d9 ed9
    refine ev_aload_n dX5_drift_113 rfl ?_
    refine ev_callVi (M := MX5_drift) (M2 := MX5_awayMany) (As := []) (rest := []) dX5_drift_114 sM_0 ck5 rfl w1100 moX5_awayMany rfl ⟨Nat.le_of_ble_eq_true rfl, Nat.le_of_ble_eq_true rfl⟩ rfl rfl (Nat.le_of_ble_eq_true rfl) h (fun r11 d10 h => ?_)
    have h := rI_dn h
    refine ev_istore (M := MX5_drift) (ls2 := [.ref 0, .int l1, .int l2, .int l3, .int l4, .int l5, .int l6, .int x6, .int r8, .int r11]) dX5_drift_117 (Nat.le_of_ble_eq_true rfl) rfl ?_
    refine ev_iload dX5_drift_119 rfl ?_
    refine ev_iload dX5_drift_121 rfl ?_
    refine ev_icmp_le (M := MX5_drift) (tgt := 131) dX5_drift_123 rfl (fun c12 => ?_) (fun c12 => ?_)
    · have h := h.1 c12
      refine ev_iload dX5_drift_131 rfl ?_
      refine ev_istore (M := MX5_drift) (ls2 := [.ref 0, .int l1, .int l2, .int l3, .int l4, .int l5, .int l6, .int x6, .int r8, .int r11]) dX5_drift_133 (Nat.le_of_ble_eq_true rfl) rfl ?_
      refine ev_iload dX5_drift_135 rfl ?_
      refine ev_aload_n dX5_drift_137 rfl ?_
      refine ev_callVi (M := MX5_drift) (M2 := MX5_cost) (As := []) (rest := [.int l5]) dX5_drift_138 sM_0 ck5 rfl w1075 moX5_cost rfl ⟨Nat.le_of_ble_eq_true rfl, Nat.le_of_ble_eq_true rfl⟩ rfl rfl (Nat.le_of_ble_eq_true rfl) h (fun r14 d13 h => ?_)
      have h := rI_dn h
      refine ev_iadd dX5_drift_141 ?_
      refine ev_istore (M := MX5_drift) (ls2 := [.ref 0, .int l1, .int l2, .int l3, .int l4, .int (l5 + r14), .int l6, .int x6, .int r8, .int r11]) dX5_drift_142 (Nat.le_of_ble_eq_true rfl) rfl ?_
      refine ev_iinc (M := MX5_drift) (ls2 := [.ref 0, .int l1, .int l2, .int l3, .int l4, .int (l5 + r14), .int (l6 + 1), .int x6, .int r8, .int r11]) dX5_drift_144 rfl (iin ci_1) (Nat.le_of_ble_eq_true rfl) rfl ?_
      refine ev_goto (M := MX5_drift) (tgt := 56) dX5_drift_147 rfl ?_
      refine Ev.forget (ls2 := [.ref 0, .int l1, .int l2, .int l3, .int l4, .int (l5 + r14), .int (l6 + 1), uJ, uJ, uJ]) ?_ (fun i v hi hv => lsub_of (bs := [false, false, false, false, false, false, false, true, true, true]) rfl i v hi hv)
      exact h
    · have h := h.2 c12
      refine ev_iload dX5_drift_126 rfl ?_
      refine ev_goto (M := MX5_drift) (tgt := 133) dX5_drift_128 rfl ?_
      refine ev_istore (M := MX5_drift) (ls2 := [.ref 0, .int l1, .int l2, .int l3, .int r11, .int l5, .int l6, .int x6, .int r8, .int r11]) dX5_drift_133 (Nat.le_of_ble_eq_true rfl) rfl ?_
      refine ev_iload dX5_drift_135 rfl ?_
      refine ev_aload_n dX5_drift_137 rfl ?_
      refine ev_callVi (M := MX5_drift) (M2 := MX5_cost) (As := []) (rest := [.int l5]) dX5_drift_138 sM_0 ck5 rfl w1075 moX5_cost rfl ⟨Nat.le_of_ble_eq_true rfl, Nat.le_of_ble_eq_true rfl⟩ rfl rfl (Nat.le_of_ble_eq_true rfl) h (fun r16 d15 h => ?_)
      have h := rI_dn h
      refine ev_iadd dX5_drift_141 ?_
      refine ev_istore (M := MX5_drift) (ls2 := [.ref 0, .int l1, .int l2, .int l3, .int r11, .int (l5 + r16), .int l6, .int x6, .int r8, .int r11]) dX5_drift_142 (Nat.le_of_ble_eq_true rfl) rfl ?_
      refine ev_iinc (M := MX5_drift) (ls2 := [.ref 0, .int l1, .int l2, .int l3, .int r11, .int (l5 + r16), .int (l6 + 1), .int x6, .int r8, .int r11]) dX5_drift_144 rfl (iin ci_1) (Nat.le_of_ble_eq_true rfl) rfl ?_
      refine ev_goto (M := MX5_drift) (tgt := 56) dX5_drift_147 rfl ?_
      refine Ev.forget (ls2 := [.ref 0, .int l1, .int l2, .int l3, .int r11, .int (l5 + r16), .int (l6 + 1), uJ, uJ, uJ]) ?_ (fun i v hi hv => lsub_of (bs := [false, false, false, false, false, false, false, true, true, true]) rfl i v hi hv)
      exact h
-- X5_noteMany
theorem cn_X5_noteMany {q : Int32 → DD → Prop} {d : DD}  (h : Ev SM MX5_noteMany 4 [.ref 0, .int 0, .int 0] [] d (rI q)) : Cn SM MX5_noteMany [.ref 0] d (rI q) := by
  refine cn_of (ls := [.ref 0, uJ, uJ]) (by decide) rfl rfl (Nat.le_of_ble_eq_true rfl) ?_
  refine ev_iconst dX5_noteMany_0 ci_0 ?_
  refine ev_istore_n (M := MX5_noteMany) (ls2 := [.ref 0, .int 0, uJ]) 1 dX5_noteMany_1 rfl (Nat.le_of_ble_eq_true rfl) rfl ?_
  refine ev_iconst dX5_noteMany_2 ci_0 ?_
  refine ev_istore_n (M := MX5_noteMany) (ls2 := [.ref 0, .int 0, .int 0]) 2 dX5_noteMany_3 rfl (Nat.le_of_ble_eq_true rfl) rfl ?_
  exact h
theorem bk_X5_noteMany_4 {q : Int32 → DD → Prop} {d : DD} {l1 : Int32} {l2 : Int32} (h : (((d 0 1) ≤ l2 → q l1 d) ∧ (¬ (d 0 1) ≤ l2 → (vp_in (4 + l2) 350 ∧ (∀ x2 : Int32, x2 = (l1 + (d 1 (4 + l2).toNatClampNeg)) → Ev SM MX5_noteMany 4 [.ref 0, .int x2, .int (l2 + 1)] [] d (rI q)))))) : Ev SM MX5_noteMany 4 [.ref 0, .int l1, .int l2] [] d (rI q) := by
  refine ev_iload_n dX5_noteMany_4 rfl ?_
  refine ev_aload_n dX5_noteMany_5 rfl ?_
  refine ev_get 1 dX5_noteMany_6 sM_0 ck5 (Nat.le_of_ble_eq_true rfl) rfl w767 ?_
  refine ev_icmp_ge (M := MX5_noteMany) (tgt := 29) dX5_noteMany_9 rfl (fun c1 => ?_) (fun c1 => ?_)
  · have h := h.1 c1
    refine ev_iload_n dX5_noteMany_29 rfl ?_
    exact ev_ireti (M := MX5_noteMany) (ty := .int) dX5_noteMany_30 rfl rfl rfl h
  · have h := h.2 c1
    refine ev_iload_n dX5_noteMany_12 rfl ?_
    refine ev_aload_n dX5_noteMany_13 rfl ?_
    refine ev_getr (M := MX5_noteMany) (r := 1) 0 dX5_noteMany_14 sM_0 ck5 (Nat.le_of_ble_eq_true rfl) rfl w766 ?_
    refine ev_iconst dX5_noteMany_17 ci_4 ?_
    refine ev_iload_n dX5_noteMany_18 rfl ?_
    refine ev_iadd dX5_noteMany_19 ?_
    obtain ⟨g, h⟩ := h
    refine ev_iald dX5_noteMany_20 sM_1 g ?_
    refine ev_iadd dX5_noteMany_21 ?_
    refine ev_topi (fun x2 ex2 => ?_)
    have h := h x2 ex2
    refine ev_istore_n (M := MX5_noteMany) (ls2 := [.ref 0, .int x2, .int l2]) 1 dX5_noteMany_22 rfl (Nat.le_of_ble_eq_true rfl) rfl ?_
    refine ev_iinc (M := MX5_noteMany) (ls2 := [.ref 0, .int x2, .int (l2 + 1)]) dX5_noteMany_23 rfl (iin ci_1) (Nat.le_of_ble_eq_true rfl) rfl ?_
    refine ev_goto (M := MX5_noteMany) (tgt := 4) dX5_noteMany_26 rfl ?_
    exact h
-- X5_keep
theorem cn_X5_keep {q : Int32 → DD → Prop} {d : DD} {p0 : Int32} (h : (Cn SM MX5_in [.long p0.toInt64, .long 0, .long 1] d (rI fun r2 d1 => ((¬ r2 = 0 → (Cn SM MX5_copies [.ref 0, .int 0, .int (70 * (p0 + 1))] d1 (rV fun d4 => (vp_in p0 2 ∧ (((d4 13 p0.toNatClampNeg) = 0 → (vp_in p0 2 ∧ (∀ d6 : DD, d6 = (up d4 13 p0.toNatClampNeg 1) → q 0 d6))) ∧ (¬ (d4 13 p0.toNatClampNeg) = 0 → (vp_in p0 2 ∧ (∀ d7 : DD, d7 = (up d4 13 p0.toNatClampNeg 1) → q 1 d7)))))))) ∧ (r2 = 0 → q (-1) d1))))) : Cn SM MX5_keep [.ref 0, .int p0] d (rI q) := by
  refine cn_of (ls := [.ref 0, .int p0, uJ]) (by decide) rfl rfl (Nat.le_of_ble_eq_true rfl) ?_
  refine ev_iload_n dX5_keep_0 rfl ?_
  refine ev_i2l dX5_keep_1 ?_
  refine ev_lconst (M := MX5_keep) (v := 0) dX5_keep_2 rfl ?_
  refine ev_lconst (M := MX5_keep) (v := 1) dX5_keep_3 rfl ?_
  refine ev_callSi (M := MX5_keep) (M2 := MX5_in) (As := [.long p0.toInt64, .long 0, .long 1]) (rest := []) dX5_keep_4 w877 moX5_in rfl ⟨Nat.le_of_ble_eq_true rfl, Nat.le_of_ble_eq_true rfl⟩ rfl rfl (Nat.le_of_ble_eq_true rfl) h (fun r2 d1 h => ?_)
  have h := rI_dn h
  refine ev_if_ne (M := MX5_keep) (tgt := 12) dX5_keep_7 rfl (fun c3 => ?_) (fun c3 => ?_)
  · have h := h.1 c3
    refine ev_aload_n dX5_keep_12 rfl ?_
    refine ev_iconst dX5_keep_13 ci_0 ?_
    refine ev_bipush dX5_keep_14 cb_70 ?_
    refine ev_iload_n dX5_keep_16 rfl ?_
    refine ev_iconst dX5_keep_17 ci_1 ?_
    refine ev_iadd dX5_keep_18 ?_
    refine ev_imul dX5_keep_19 ?_
    refine ev_callVv (M := MX5_keep) (M2 := MX5_copies) (As := [.int 0, .int (70 * (p0 + 1))]) (rest := []) dX5_keep_20 sM_0 ck5 rfl w1089 moX5_copies rfl ⟨Nat.le_of_ble_eq_true rfl, Nat.le_of_ble_eq_true rfl⟩ rfl rfl (Nat.le_of_ble_eq_true rfl) h (fun d4 h => ?_)
    have h := rV_dn h
    refine ev_aload_n dX5_keep_23 rfl ?_
    refine ev_getr (M := MX5_keep) (r := 13) 30 dX5_keep_24 sM_0 ck5 (Nat.le_of_ble_eq_true rfl) rfl w796 ?_
    refine ev_iload_n dX5_keep_27 rfl ?_
    obtain ⟨g, h⟩ := h
    refine ev_zald dX5_keep_28 sM_13 g ?_
    refine ev_if_eq (M := MX5_keep) (tgt := 36) dX5_keep_29 rfl (fun c5 => ?_) (fun c5 => ?_)
    · have h := h.1 c5
      refine ev_iconst dX5_keep_36 ci_0 ?_
      refine ev_istore_n (M := MX5_keep) (ls2 := [.ref 0, .int p0, .int 0]) 2 dX5_keep_37 rfl (Nat.le_of_ble_eq_true rfl) rfl ?_
      refine ev_aload_n dX5_keep_38 rfl ?_
      refine ev_getr (M := MX5_keep) (r := 13) 30 dX5_keep_39 sM_0 ck5 (Nat.le_of_ble_eq_true rfl) rfl w796 ?_
      refine ev_iload_n dX5_keep_42 rfl ?_
      refine ev_iconst dX5_keep_43 ci_1 ?_
      obtain ⟨g, h⟩ := h
      refine ev_zast (M := MX5_keep) (y := 1) dX5_keep_44 sM_13 g rfl ?_
      refine ev_topd (fun d6 ed6 => ?_)
      have h := h d6 ed6
      refine ev_iload_n dX5_keep_45 rfl ?_
      exact ev_ireti (M := MX5_keep) (ty := .int) dX5_keep_46 rfl rfl rfl h
    · have h := h.2 c5
      refine ev_iconst dX5_keep_32 ci_1 ?_
      refine ev_goto (M := MX5_keep) (tgt := 37) dX5_keep_33 rfl ?_
      refine ev_istore_n (M := MX5_keep) (ls2 := [.ref 0, .int p0, .int 1]) 2 dX5_keep_37 rfl (Nat.le_of_ble_eq_true rfl) rfl ?_
      refine ev_aload_n dX5_keep_38 rfl ?_
      refine ev_getr (M := MX5_keep) (r := 13) 30 dX5_keep_39 sM_0 ck5 (Nat.le_of_ble_eq_true rfl) rfl w796 ?_
      refine ev_iload_n dX5_keep_42 rfl ?_
      refine ev_iconst dX5_keep_43 ci_1 ?_
      obtain ⟨g, h⟩ := h
      refine ev_zast (M := MX5_keep) (y := 1) dX5_keep_44 sM_13 g rfl ?_
      refine ev_topd (fun d7 ed7 => ?_)
      have h := h d7 ed7
      refine ev_iload_n dX5_keep_45 rfl ?_
      exact ev_ireti (M := MX5_keep) (ty := .int) dX5_keep_46 rfl rfl rfl h
  · have h := h.2 c3
    refine ev_iconst dX5_keep_10 ci_m1 ?_
    exact ev_ireti (M := MX5_keep) (ty := .int) dX5_keep_11 rfl rfl rfl h
-- X5_back
theorem cn_X5_back {q : Int32 → DD → Prop} {d : DD} {p0 : Int32} (h : (Cn SM MX5_in [.long p0.toInt64, .long 0, .long 1] d (rI fun r2 d1 => ((¬ r2 = 0 → (vp_in p0 2 ∧ ((¬ (d1 13 p0.toNatClampNeg) = 0 → (Cn SM MX5_copies [.ref 0, .int (70 * (p0 + 1)), .int 0] d1 (rV fun d5 => (Cn SM MX5_noteMany [.ref 0] d5 (rI fun r7 d6 => q r7 d6))))) ∧ ((d1 13 p0.toNatClampNeg) = 0 → q (-2) d1)))) ∧ (r2 = 0 → q (-1) d1))))) : Cn SM MX5_back [.ref 0, .int p0] d (rI q) := by
  refine cn_of (ls := [.ref 0, .int p0]) (by decide) rfl rfl (Nat.le_of_ble_eq_true rfl) ?_
  refine ev_iload_n dX5_back_0 rfl ?_
  refine ev_i2l dX5_back_1 ?_
  refine ev_lconst (M := MX5_back) (v := 0) dX5_back_2 rfl ?_
  refine ev_lconst (M := MX5_back) (v := 1) dX5_back_3 rfl ?_
  refine ev_callSi (M := MX5_back) (M2 := MX5_in) (As := [.long p0.toInt64, .long 0, .long 1]) (rest := []) dX5_back_4 w877 moX5_in rfl ⟨Nat.le_of_ble_eq_true rfl, Nat.le_of_ble_eq_true rfl⟩ rfl rfl (Nat.le_of_ble_eq_true rfl) h (fun r2 d1 h => ?_)
  have h := rI_dn h
  refine ev_if_ne (M := MX5_back) (tgt := 12) dX5_back_7 rfl (fun c3 => ?_) (fun c3 => ?_)
  · have h := h.1 c3
    refine ev_aload_n dX5_back_12 rfl ?_
    refine ev_getr (M := MX5_back) (r := 13) 30 dX5_back_13 sM_0 ck5 (Nat.le_of_ble_eq_true rfl) rfl w796 ?_
    refine ev_iload_n dX5_back_16 rfl ?_
    obtain ⟨g, h⟩ := h
    refine ev_zald dX5_back_17 sM_13 g ?_
    refine ev_if_ne (M := MX5_back) (tgt := 24) dX5_back_18 rfl (fun c4 => ?_) (fun c4 => ?_)
    · have h := h.1 c4
      refine ev_aload_n dX5_back_24 rfl ?_
      refine ev_bipush dX5_back_25 cb_70 ?_
      refine ev_iload_n dX5_back_27 rfl ?_
      refine ev_iconst dX5_back_28 ci_1 ?_
      refine ev_iadd dX5_back_29 ?_
      refine ev_imul dX5_back_30 ?_
      refine ev_iconst dX5_back_31 ci_0 ?_
      refine ev_callVv (M := MX5_back) (M2 := MX5_copies) (As := [.int (70 * (p0 + 1)), .int 0]) (rest := []) dX5_back_32 sM_0 ck5 rfl w1089 moX5_copies rfl ⟨Nat.le_of_ble_eq_true rfl, Nat.le_of_ble_eq_true rfl⟩ rfl rfl (Nat.le_of_ble_eq_true rfl) h (fun d5 h => ?_)
      have h := rV_dn h
      refine ev_aload_n dX5_back_35 rfl ?_
      refine ev_callVi (M := MX5_back) (M2 := MX5_noteMany) (As := []) (rest := []) dX5_back_36 sM_0 ck5 rfl w1175 moX5_noteMany rfl ⟨Nat.le_of_ble_eq_true rfl, Nat.le_of_ble_eq_true rfl⟩ rfl rfl (Nat.le_of_ble_eq_true rfl) h (fun r7 d6 h => ?_)
      have h := rI_dn h
      exact ev_ireti (M := MX5_back) (ty := .int) dX5_back_39 rfl rfl rfl h
    · have h := h.2 c4
      refine ev_bipush dX5_back_21 cb_m2 ?_
      exact ev_ireti (M := MX5_back) (ty := .int) dX5_back_23 rfl rfl rfl h
  · have h := h.2 c3
    refine ev_iconst dX5_back_10 ci_m1 ?_
    exact ev_ireti (M := MX5_back) (ty := .int) dX5_back_11 rfl rfl rfl h
-- X5_sheet
theorem cn_X5_sheet {q : Int32 → DD → Prop} {d : DD} {p0 : Int32} {p1 : Int32} {p2 : Int32} (h : (Cn SM MX5_in [.long p0.toInt64, .long 0, .long 3] d (rI fun r2 d1 => ((r2 = 0 → q (-1) d1) ∧ (¬ r2 = 0 → (Cn SM MX5_in [.long p1.toInt64, .long 0, .long 2] d1 (rI fun r5 d4 => ((r5 = 0 → q (-1) d4) ∧ (¬ r5 = 0 → ((p2 ≤ 40 → ((0 ≤ p2 → (vp_in p0 4 ∧ (∀ d9 : DD, d9 = (up d4 14 p0.toNatClampNeg p1) → (vp_in p0 4 ∧ (∀ d10 : DD, d10 = (up d9 15 p0.toNatClampNeg p2) → Ev SM MX5_sheet 56 [.ref 0, .int p0, .int p1, .int p2, .int 0] [] d10 (rI q)))))) ∧ (¬ 0 ≤ p2 → q (-14) d4))) ∧ (¬ p2 ≤ 40 → q (-1) d4))))))))))) : Cn SM MX5_sheet [.ref 0, .int p0, .int p1, .int p2] d (rI q) := by
  refine cn_of (ls := [.ref 0, .int p0, .int p1, .int p2, uJ]) (by decide) rfl rfl (Nat.le_of_ble_eq_true rfl) ?_
  refine ev_iload_n dX5_sheet_0 rfl ?_
  refine ev_i2l dX5_sheet_1 ?_
  refine ev_lconst (M := MX5_sheet) (v := 0) dX5_sheet_2 rfl ?_
  refine ev_ldc2 dX5_sheet_3 w988 ?_
  refine ev_callSi (M := MX5_sheet) (M2 := MX5_in) (As := [.long p0.toInt64, .long 0, .long 3]) (rest := []) dX5_sheet_6 w877 moX5_in rfl ⟨Nat.le_of_ble_eq_true rfl, Nat.le_of_ble_eq_true rfl⟩ rfl rfl (Nat.le_of_ble_eq_true rfl) h (fun r2 d1 h => ?_)
  have h := rI_dn h
  refine ev_if_eq (M := MX5_sheet) (tgt := 30) dX5_sheet_9 rfl (fun c3 => ?_) (fun c3 => ?_)
  · have h := h.1 c3
    refine ev_iconst dX5_sheet_30 ci_m1 ?_
    exact ev_ireti (M := MX5_sheet) (ty := .int) dX5_sheet_31 rfl rfl rfl h
  · have h := h.2 c3
    refine ev_iload_n dX5_sheet_12 rfl ?_
    refine ev_i2l dX5_sheet_13 ?_
    refine ev_lconst (M := MX5_sheet) (v := 0) dX5_sheet_14 rfl ?_
    refine ev_ldc2 dX5_sheet_15 w1055 ?_
    refine ev_callSi (M := MX5_sheet) (M2 := MX5_in) (As := [.long p1.toInt64, .long 0, .long 2]) (rest := []) dX5_sheet_18 w877 moX5_in rfl ⟨Nat.le_of_ble_eq_true rfl, Nat.le_of_ble_eq_true rfl⟩ rfl rfl (Nat.le_of_ble_eq_true rfl) h (fun r5 d4 h => ?_)
    have h := rI_dn h
    refine ev_if_eq (M := MX5_sheet) (tgt := 30) dX5_sheet_21 rfl (fun c6 => ?_) (fun c6 => ?_)
    · have h := h.1 c6
      refine ev_iconst dX5_sheet_30 ci_m1 ?_
      exact ev_ireti (M := MX5_sheet) (ty := .int) dX5_sheet_31 rfl rfl rfl h
    · have h := h.2 c6
      refine ev_iload_n dX5_sheet_24 rfl ?_
      refine ev_bipush dX5_sheet_25 cb_40 ?_
      refine ev_icmp_le (M := MX5_sheet) (tgt := 32) dX5_sheet_27 rfl (fun c7 => ?_) (fun c7 => ?_)
      · have h := h.1 c7
        refine ev_iload_n dX5_sheet_32 rfl ?_
        refine ev_if_ge (M := MX5_sheet) (tgt := 39) dX5_sheet_33 rfl (fun c8 => ?_) (fun c8 => ?_)
        · have h := h.1 c8
          refine ev_aload_n dX5_sheet_39 rfl ?_
          refine ev_getr (M := MX5_sheet) (r := 14) 31 dX5_sheet_40 sM_0 ck5 (Nat.le_of_ble_eq_true rfl) rfl w797 ?_
          refine ev_iload_n dX5_sheet_43 rfl ?_
          refine ev_iload_n dX5_sheet_44 rfl ?_
          obtain ⟨g, h⟩ := h
          refine ev_iast dX5_sheet_45 sM_14 g ?_
          refine ev_topd (fun d9 ed9 => ?_)
          have h := h d9 ed9
          refine ev_aload_n dX5_sheet_46 rfl ?_
          refine ev_getr (M := MX5_sheet) (r := 15) 32 dX5_sheet_47 sM_0 ck5 (Nat.le_of_ble_eq_true rfl) rfl w798 ?_
          refine ev_iload_n dX5_sheet_50 rfl ?_
          refine ev_iload_n dX5_sheet_51 rfl ?_
          obtain ⟨g, h⟩ := h
          refine ev_iast dX5_sheet_52 sM_15 g ?_
          refine ev_topd (fun d10 ed10 => ?_)
          have h := h d10 ed10
          refine ev_iconst dX5_sheet_53 ci_0 ?_
          refine ev_istore (M := MX5_sheet) (ls2 := [.ref 0, .int p0, .int p1, .int p2, .int 0]) dX5_sheet_54 (Nat.le_of_ble_eq_true rfl) rfl ?_
          exact h
        · have h := h.2 c8
          refine ev_bipush dX5_sheet_36 cb_m14 ?_
          exact ev_ireti (M := MX5_sheet) (ty := .int) dX5_sheet_38 rfl rfl rfl h
      · have h := h.2 c7
        refine ev_iconst dX5_sheet_30 ci_m1 ?_
        exact ev_ireti (M := MX5_sheet) (ty := .int) dX5_sheet_31 rfl rfl rfl h
theorem bk_X5_sheet_56 {q : Int32 → DD → Prop} {d : DD} {l1 : Int32} {l2 : Int32} {l3 : Int32} {l4 : Int32} (h : ((40 ≤ l4 → q 1 d) ∧ (¬ 40 ≤ l4 → (vp_in ((40 * l1) + l4) 160 ∧ (∀ d2 : DD, d2 = (up d 16 ((40 * l1) + l4).toNatClampNeg 0) → Ev SM MX5_sheet 56 [.ref 0, .int l1, .int l2, .int l3, .int (l4 + 1)] [] d2 (rI q)))))) : Ev SM MX5_sheet 56 [.ref 0, .int l1, .int l2, .int l3, .int l4] [] d (rI q) := by
  refine ev_iload dX5_sheet_56 rfl ?_
  refine ev_bipush dX5_sheet_58 cb_40 ?_
  refine ev_icmp_ge (M := MX5_sheet) (tgt := 82) dX5_sheet_60 rfl (fun c1 => ?_) (fun c1 => ?_)
  · have h := h.1 c1
    refine ev_iconst dX5_sheet_82 ci_1 ?_
    exact ev_ireti (M := MX5_sheet) (ty := .int) dX5_sheet_83 rfl rfl rfl h
  · have h := h.2 c1
    refine ev_aload_n dX5_sheet_63 rfl ?_
    refine ev_getr (M := MX5_sheet) (r := 16) 33 dX5_sheet_64 sM_0 ck5 (Nat.le_of_ble_eq_true rfl) rfl w799 ?_
    refine ev_bipush dX5_sheet_67 cb_40 ?_
    refine ev_iload_n dX5_sheet_69 rfl ?_
    refine ev_imul dX5_sheet_70 ?_
    refine ev_iload dX5_sheet_71 rfl ?_
    refine ev_iadd dX5_sheet_73 ?_
    refine ev_iconst dX5_sheet_74 ci_0 ?_
    obtain ⟨g, h⟩ := h
    refine ev_iast dX5_sheet_75 sM_16 g ?_
    refine ev_topd (fun d2 ed2 => ?_)
    have h := h d2 ed2
    refine ev_iinc (M := MX5_sheet) (ls2 := [.ref 0, .int l1, .int l2, .int l3, .int (l4 + 1)]) dX5_sheet_76 rfl (iin ci_1) (Nat.le_of_ble_eq_true rfl) rfl ?_
    refine ev_goto (M := MX5_sheet) (tgt := 56) dX5_sheet_79 rfl ?_
    exact h
-- X5_lay
set_option maxRecDepth 4000 in
theorem cn_X5_lay {q : Int32 → DD → Prop} {d : DD} {p0 : Int32} {p1 : Int32} {p2 : Int32} (h : (Cn SM MX5_in [.long p0.toInt64, .long 0, .long 3] d (rI fun r2 d1 => ((¬ r2 = 0 → (vp_in p0 4 ∧ ((¬ (d1 14 p0.toNatClampNeg) = (-4) → (vp_in p0 4 ∧ (Cn SM MX5_in [.long p1.toInt64, .long 0, .long ((d1 15 p0.toNatClampNeg) - 1).toInt64] d1 (rI fun r6 d5 => ((¬ r6 = 0 → (vp_in p0 4 ∧ ((¬ (d5 14 p0.toNatClampNeg) = 0 → (vp_in p0 4 ∧ ((¬ (d5 14 p0.toNatClampNeg) = 1 → (vp_in ((40 * p0) + p1) 160 ∧ (∀ d10 : DD, d10 = (up d5 16 ((40 * p0) + p1).toNatClampNeg p2) → q 1 d10))) ∧ ((d5 14 p0.toNatClampNeg) = 1 → (vp_in ((40 * p0) + p1) 160 ∧ (∀ d11 : DD, d11 = (up d5 16 ((40 * p0) + p1).toNatClampNeg ((p2 <<< (16 &&& 31)) >>> (16 &&& 31))) → q 1 d11)))))) ∧ ((d5 14 p0.toNatClampNeg) = 0 → (vp_in ((40 * p0) + p1) 160 ∧ (∀ d12 : DD, d12 = (up d5 16 ((40 * p0) + p1).toNatClampNeg ((p2 <<< (24 &&& 31)) >>> (24 &&& 31))) → q 1 d12)))))) ∧ (r6 = 0 → q (-12) d5)))))) ∧ ((d1 14 p0.toNatClampNeg) = (-4) → q (-11) d1)))) ∧ (r2 = 0 → q (-1) d1))))) : Cn SM MX5_lay [.ref 0, .int p0, .int p1, .int p2] d (rI q) := by
  refine cn_of (ls := [.ref 0, .int p0, .int p1, .int p2]) (by decide) rfl rfl (Nat.le_of_ble_eq_true rfl) ?_
  refine ev_iload_n dX5_lay_0 rfl ?_
  refine ev_i2l dX5_lay_1 ?_
  refine ev_lconst (M := MX5_lay) (v := 0) dX5_lay_2 rfl ?_
  refine ev_ldc2 dX5_lay_3 w988 ?_
  refine ev_callSi (M := MX5_lay) (M2 := MX5_in) (As := [.long p0.toInt64, .long 0, .long 3]) (rest := []) dX5_lay_6 w877 moX5_in rfl ⟨Nat.le_of_ble_eq_true rfl, Nat.le_of_ble_eq_true rfl⟩ rfl rfl (Nat.le_of_ble_eq_true rfl) h (fun r2 d1 h => ?_)
  have h := rI_dn h
  refine ev_if_ne (M := MX5_lay) (tgt := 14) dX5_lay_9 rfl (fun c3 => ?_) (fun c3 => ?_)
  · have h := h.1 c3
    refine ev_aload_n dX5_lay_14 rfl ?_
    refine ev_getr (M := MX5_lay) (r := 14) 31 dX5_lay_15 sM_0 ck5 (Nat.le_of_ble_eq_true rfl) rfl w797 ?_
    refine ev_iload_n dX5_lay_18 rfl ?_
    obtain ⟨g, h⟩ := h
    refine ev_iald dX5_lay_19 sM_14 g ?_
    refine ev_bipush dX5_lay_20 cb_m4 ?_
    refine ev_icmp_ne (M := MX5_lay) (tgt := 28) dX5_lay_22 rfl (fun c4 => ?_) (fun c4 => ?_)
    · have h := h.1 c4
      refine ev_iload_n dX5_lay_28 rfl ?_
      refine ev_i2l dX5_lay_29 ?_
      refine ev_lconst (M := MX5_lay) (v := 0) dX5_lay_30 rfl ?_
      refine ev_aload_n dX5_lay_31 rfl ?_
      refine ev_getr (M := MX5_lay) (r := 15) 32 dX5_lay_32 sM_0 ck5 (Nat.le_of_ble_eq_true rfl) rfl w798 ?_
      refine ev_iload_n dX5_lay_35 rfl ?_
      obtain ⟨g, h⟩ := h
      refine ev_iald dX5_lay_36 sM_15 g ?_
      refine ev_iconst dX5_lay_37 ci_1 ?_
      refine ev_isub dX5_lay_38 ?_
      refine ev_i2l dX5_lay_39 ?_
      refine ev_callSi (M := MX5_lay) (M2 := MX5_in) (As := [.long p1.toInt64, .long 0, .long ((d1 15 p0.toNatClampNeg) - 1).toInt64]) (rest := []) dX5_lay_40 w877 moX5_in rfl ⟨Nat.le_of_ble_eq_true rfl, Nat.le_of_ble_eq_true rfl⟩ rfl rfl (Nat.le_of_ble_eq_true rfl) h (fun r6 d5 h => ?_)
      have h := rI_dn h
      refine ev_if_ne (M := MX5_lay) (tgt := 49) dX5_lay_43 rfl (fun c7 => ?_) (fun c7 => ?_)
      · have h := h.1 c7
        refine ev_aload_n dX5_lay_49 rfl ?_
        refine ev_getr (M := MX5_lay) (r := 16) 33 dX5_lay_50 sM_0 ck5 (Nat.le_of_ble_eq_true rfl) rfl w799 ?_
        refine ev_bipush dX5_lay_53 cb_40 ?_
        refine ev_iload_n dX5_lay_55 rfl ?_
        refine ev_imul dX5_lay_56 ?_
        refine ev_iload_n dX5_lay_57 rfl ?_
        refine ev_iadd dX5_lay_58 ?_
        refine ev_aload_n dX5_lay_59 rfl ?_
        refine ev_getr (M := MX5_lay) (r := 14) 31 dX5_lay_60 sM_0 ck5 (Nat.le_of_ble_eq_true rfl) rfl w797 ?_
        refine ev_iload_n dX5_lay_63 rfl ?_
        obtain ⟨g, h⟩ := h
        refine ev_iald dX5_lay_64 sM_14 g ?_
        refine ev_if_ne (M := MX5_lay) (tgt := 78) dX5_lay_65 rfl (fun c8 => ?_) (fun c8 => ?_)
        · have h := h.1 c8
          refine ev_aload_n dX5_lay_78 rfl ?_
          refine ev_getr (M := MX5_lay) (r := 14) 31 dX5_lay_79 sM_0 ck5 (Nat.le_of_ble_eq_true rfl) rfl w797 ?_
          refine ev_iload_n dX5_lay_82 rfl ?_
          obtain ⟨g, h⟩ := h
          refine ev_iald dX5_lay_83 sM_14 g ?_
          refine ev_iconst dX5_lay_84 ci_1 ?_
          refine ev_icmp_ne (M := MX5_lay) (tgt := 98) dX5_lay_85 rfl (fun c9 => ?_) (fun c9 => ?_)
          · have h := h.1 c9
            refine ev_iload_n dX5_lay_98 rfl ?_
            obtain ⟨g, h⟩ := h
            refine ev_iast dX5_lay_99 sM_16 g ?_
            refine ev_topd (fun d10 ed10 => ?_)
            have h := h d10 ed10
            refine ev_iconst dX5_lay_100 ci_1 ?_
            exact ev_ireti (M := MX5_lay) (ty := .int) dX5_lay_101 rfl rfl rfl h
          · have h := h.2 c9
            refine ev_iload_n dX5_lay_88 rfl ?_
            refine ev_bipush dX5_lay_89 cb_16 ?_
            refine ev_ishl dX5_lay_91 ?_
            refine ev_bipush dX5_lay_92 cb_16 ?_
            refine ev_ishr dX5_lay_94 ?_
            refine ev_goto (M := MX5_lay) (tgt := 99) dX5_lay_95 rfl ?_
            obtain ⟨g, h⟩ := h
            refine ev_iast dX5_lay_99 sM_16 g ?_
            refine ev_topd (fun d11 ed11 => ?_)
            have h := h d11 ed11
            refine ev_iconst dX5_lay_100 ci_1 ?_
            exact ev_ireti (M := MX5_lay) (ty := .int) dX5_lay_101 rfl rfl rfl h
        · have h := h.2 c8
          refine ev_iload_n dX5_lay_68 rfl ?_
          refine ev_bipush dX5_lay_69 cb_24 ?_
          refine ev_ishl dX5_lay_71 ?_
          refine ev_bipush dX5_lay_72 cb_24 ?_
          refine ev_ishr dX5_lay_74 ?_
          refine ev_goto (M := MX5_lay) (tgt := 99) dX5_lay_75 rfl ?_
          obtain ⟨g, h⟩ := h
          refine ev_iast dX5_lay_99 sM_16 g ?_
          refine ev_topd (fun d12 ed12 => ?_)
          have h := h d12 ed12
          refine ev_iconst dX5_lay_100 ci_1 ?_
          exact ev_ireti (M := MX5_lay) (ty := .int) dX5_lay_101 rfl rfl rfl h
      · have h := h.2 c7
        refine ev_bipush dX5_lay_46 cb_m12 ?_
        exact ev_ireti (M := MX5_lay) (ty := .int) dX5_lay_48 rfl rfl rfl h
    · have h := h.2 c4
      refine ev_bipush dX5_lay_25 cb_m11 ?_
      exact ev_ireti (M := MX5_lay) (ty := .int) dX5_lay_27 rfl rfl rfl h
  · have h := h.2 c3
    refine ev_iconst dX5_lay_12 ci_m1 ?_
    exact ev_ireti (M := MX5_lay) (ty := .int) dX5_lay_13 rfl rfl rfl h
-- X5_read
set_option maxRecDepth 4000 in
theorem cn_X5_read {q : Int32 → DD → Prop} {d : DD} {p0 : Int32} {p1 : Int32} {p2 : Int32} {p3 : Int32} (h : (Cn SM MX5_in [.long p0.toInt64, .long 0, .long 3] d (rI fun r2 d1 => ((r2 = 0 → q (-1) d1) ∧ (¬ r2 = 0 → (Cn SM MX5_in [.long p1.toInt64, .long 0, .long 2] d1 (rI fun r5 d4 => ((r5 = 0 → q (-1) d4) ∧ (¬ r5 = 0 → (Cn SM MX5_in [.long p3.toInt64, .long 0, .long 20] d4 (rI fun r8 d7 => ((¬ r8 = 0 → (Cn SM MX5_copies [.ref 0, .int 0, .int 210] d7 (rV fun d10 => Ev SM MX5_read 56 [.ref 0, .int p0, .int p1, .int p2, .int p3, .int 0, .int 0, .int 0, uJ] [] d10 (rI q)))) ∧ (r8 = 0 → q (-1) d7))))))))))))) : Cn SM MX5_read [.ref 0, .int p0, .int p1, .int p2, .int p3] d (rI q) := by
  refine cn_of (ls := [.ref 0, .int p0, .int p1, .int p2, .int p3, uJ, uJ, uJ, uJ]) (by decide) rfl rfl (Nat.le_of_ble_eq_true rfl) ?_
  refine ev_iload_n dX5_read_0 rfl ?_
  refine ev_i2l dX5_read_1 ?_
  refine ev_lconst (M := MX5_read) (v := 0) dX5_read_2 rfl ?_
  refine ev_ldc2 dX5_read_3 w988 ?_
  refine ev_callSi (M := MX5_read) (M2 := MX5_in) (As := [.long p0.toInt64, .long 0, .long 3]) (rest := []) dX5_read_6 w877 moX5_in rfl ⟨Nat.le_of_ble_eq_true rfl, Nat.le_of_ble_eq_true rfl⟩ rfl rfl (Nat.le_of_ble_eq_true rfl) h (fun r2 d1 h => ?_)
  have h := rI_dn h
  refine ev_if_eq (M := MX5_read) (tgt := 37) dX5_read_9 rfl (fun c3 => ?_) (fun c3 => ?_)
  · have h := h.1 c3
    refine ev_iconst dX5_read_37 ci_m1 ?_
    exact ev_ireti (M := MX5_read) (ty := .int) dX5_read_38 rfl rfl rfl h
  · have h := h.2 c3
    refine ev_iload_n dX5_read_12 rfl ?_
    refine ev_i2l dX5_read_13 ?_
    refine ev_lconst (M := MX5_read) (v := 0) dX5_read_14 rfl ?_
    refine ev_ldc2 dX5_read_15 w1055 ?_
    refine ev_callSi (M := MX5_read) (M2 := MX5_in) (As := [.long p1.toInt64, .long 0, .long 2]) (rest := []) dX5_read_18 w877 moX5_in rfl ⟨Nat.le_of_ble_eq_true rfl, Nat.le_of_ble_eq_true rfl⟩ rfl rfl (Nat.le_of_ble_eq_true rfl) h (fun r5 d4 h => ?_)
    have h := rI_dn h
    refine ev_if_eq (M := MX5_read) (tgt := 37) dX5_read_21 rfl (fun c6 => ?_) (fun c6 => ?_)
    · have h := h.1 c6
      refine ev_iconst dX5_read_37 ci_m1 ?_
      exact ev_ireti (M := MX5_read) (ty := .int) dX5_read_38 rfl rfl rfl h
    · have h := h.2 c6
      refine ev_iload dX5_read_24 rfl ?_
      refine ev_i2l dX5_read_26 ?_
      refine ev_lconst (M := MX5_read) (v := 0) dX5_read_27 rfl ?_
      refine ev_ldc2 dX5_read_28 w1161 ?_
      refine ev_callSi (M := MX5_read) (M2 := MX5_in) (As := [.long p3.toInt64, .long 0, .long 20]) (rest := []) dX5_read_31 w877 moX5_in rfl ⟨Nat.le_of_ble_eq_true rfl, Nat.le_of_ble_eq_true rfl⟩ rfl rfl (Nat.le_of_ble_eq_true rfl) h (fun r8 d7 h => ?_)
      have h := rI_dn h
      refine ev_if_ne (M := MX5_read) (tgt := 39) dX5_read_34 rfl (fun c9 => ?_) (fun c9 => ?_)
      · have h := h.1 c9
        refine ev_aload_n dX5_read_39 rfl ?_
        refine ev_iconst dX5_read_40 ci_0 ?_
        refine ev_sipush dX5_read_41 cs_210 ?_
        refine ev_callVv (M := MX5_read) (M2 := MX5_copies) (As := [.int 0, .int 210]) (rest := []) dX5_read_44 sM_0 ck5 rfl w1089 moX5_copies rfl ⟨Nat.le_of_ble_eq_true rfl, Nat.le_of_ble_eq_true rfl⟩ rfl rfl (Nat.le_of_ble_eq_true rfl) h (fun d10 h => ?_)
        have h := rV_dn h
        refine ev_iconst dX5_read_47 ci_0 ?_
        refine ev_istore (M := MX5_read) (ls2 := [.ref 0, .int p0, .int p1, .int p2, .int p3, .int 0, uJ, uJ, uJ]) dX5_read_48 (Nat.le_of_ble_eq_true rfl) rfl ?_
        refine ev_iconst dX5_read_50 ci_0 ?_
        refine ev_istore (M := MX5_read) (ls2 := [.ref 0, .int p0, .int p1, .int p2, .int p3, .int 0, .int 0, uJ, uJ]) dX5_read_51 (Nat.le_of_ble_eq_true rfl) rfl ?_
        refine ev_iconst dX5_read_53 ci_0 ?_
        refine ev_istore (M := MX5_read) (ls2 := [.ref 0, .int p0, .int p1, .int p2, .int p3, .int 0, .int 0, .int 0, uJ]) dX5_read_54 (Nat.le_of_ble_eq_true rfl) rfl ?_
        exact h
      · have h := h.2 c9
        refine ev_iconst dX5_read_37 ci_m1 ?_
        exact ev_ireti (M := MX5_read) (ty := .int) dX5_read_38 rfl rfl rfl h
set_option maxRecDepth 4000 in
theorem bk_X5_read_56 {q : Int32 → DD → Prop} {d : DD} {l1 : Int32} {l2 : Int32} {l3 : Int32} {l4 : Int32} {l5 : Int32} {l6 : Int32} {l7 : Int32} (h : (((2 * l4) ≤ l7 → (∀ d2 : DD, d2 = (up d 0 34 l5) → q l6 d2)) ∧ (¬ (2 * l4) ≤ l7 → ((¬ l5 = 0 → (∀ d4 : DD, d4 = (up d 0 34 l5) → q l6 d4)) ∧ (l5 = 0 → (vp_in l1 4 ∧ ((¬ (d 14 l1.toNatClampNeg) = (-4) → (vp_in l1 4 ∧ (((d 14 l1.toNatClampNeg) = l2 → (vp_in l1 4 ∧ (Cn SM MX5_in [.long (l3.toInt64 + l7.toInt64), .long 0, .long ((d 15 l1.toNatClampNeg) - 1).toInt64] d (rI fun r8 d7 => ((¬ r8 = 0 → Ev SM MX5_read 126 [.ref 0, .int l1, .int l2, .int l3, .int l4, .int l5, .int l6, .int l7, uJ] [.int 0] d7 (rI q)) ∧ (r8 = 0 → Ev SM MX5_read 126 [.ref 0, .int l1, .int l2, .int l3, .int l4, .int l5, .int l6, .int l7, uJ] [.int 2] d7 (rI q))))))) ∧ (¬ (d 14 l1.toNatClampNeg) = l2 → Ev SM MX5_read 126 [.ref 0, .int l1, .int l2, .int l3, .int l4, .int l5, .int l6, .int l7, uJ] [.int 3] d (rI q))))) ∧ ((d 14 l1.toNatClampNeg) = (-4) → Ev SM MX5_read 126 [.ref 0, .int l1, .int l2, .int l3, .int l4, .int l5, .int l6, .int l7, uJ] [.int 1] d (rI q))))))))) : Ev SM MX5_read 56 [.ref 0, .int l1, .int l2, .int l3, .int l4, .int l5, .int l6, .int l7, uJ] [] d (rI q) := by
  refine ev_iload dX5_read_56 rfl ?_
  refine ev_iconst dX5_read_58 ci_2 ?_
  refine ev_iload dX5_read_59 rfl ?_
  refine ev_imul dX5_read_61 ?_
  refine ev_icmp_ge (M := MX5_read) (tgt := 198) dX5_read_62 rfl (fun c1 => ?_) (fun c1 => ?_)
  · have h := h.1 c1
    refine ev_aload_n dX5_read_198 rfl ?_
    refine ev_iload dX5_read_199 rfl ?_
    refine ev_put 34 dX5_read_201 sM_0 ck5 (Nat.le_of_ble_eq_true rfl) rfl w800 rfl rfl rfl ?_
    refine ev_topd (fun d2 ed2 => ?_)
    have h := h d2 ed2
    refine ev_iload dX5_read_204 rfl ?_
    exact ev_ireti (M := MX5_read) (ty := .int) dX5_read_206 rfl rfl rfl h
  · have h := h.2 c1
    refine ev_iload dX5_read_65 rfl ?_
    refine ev_if_ne (M := MX5_read) (tgt := 198) dX5_read_67 rfl (fun c3 => ?_) (fun c3 => ?_)
    · have h := h.1 c3
      refine ev_aload_n dX5_read_198 rfl ?_
      refine ev_iload dX5_read_199 rfl ?_
      refine ev_put 34 dX5_read_201 sM_0 ck5 (Nat.le_of_ble_eq_true rfl) rfl w800 rfl rfl rfl ?_
      refine ev_topd (fun d4 ed4 => ?_)
      have h := h d4 ed4
      refine ev_iload dX5_read_204 rfl ?_
      exact ev_ireti (M := MX5_read) (ty := .int) dX5_read_206 rfl rfl rfl h
    · have h := h.2 c3
      refine ev_aload_n dX5_read_70 rfl ?_
      refine ev_getr (M := MX5_read) (r := 14) 31 dX5_read_71 sM_0 ck5 (Nat.le_of_ble_eq_true rfl) rfl w797 ?_
      refine ev_iload_n dX5_read_74 rfl ?_
      obtain ⟨g, h⟩ := h
      refine ev_iald dX5_read_75 sM_14 g ?_
      refine ev_bipush dX5_read_76 cb_m4 ?_
      refine ev_icmp_ne (M := MX5_read) (tgt := 85) dX5_read_78 rfl (fun c5 => ?_) (fun c5 => ?_)
      · have h := h.1 c5
        refine ev_aload_n dX5_read_85 rfl ?_
        refine ev_getr (M := MX5_read) (r := 14) 31 dX5_read_86 sM_0 ck5 (Nat.le_of_ble_eq_true rfl) rfl w797 ?_
        refine ev_iload_n dX5_read_89 rfl ?_
        obtain ⟨g, h⟩ := h
        refine ev_iald dX5_read_90 sM_14 g ?_
        refine ev_iload_n dX5_read_91 rfl ?_
        refine ev_icmp_eq (M := MX5_read) (tgt := 99) dX5_read_92 rfl (fun c6 => ?_) (fun c6 => ?_)
        · have h := h.1 c6
          refine ev_iload_n dX5_read_99 rfl ?_
          refine ev_i2l dX5_read_100 ?_
          refine ev_iload dX5_read_101 rfl ?_
          refine ev_i2l dX5_read_103 ?_
          refine ev_ladd dX5_read_104 ?_
          refine ev_lconst (M := MX5_read) (v := 0) dX5_read_105 rfl ?_
          refine ev_aload_n dX5_read_106 rfl ?_
          refine ev_getr (M := MX5_read) (r := 15) 32 dX5_read_107 sM_0 ck5 (Nat.le_of_ble_eq_true rfl) rfl w798 ?_
          refine ev_iload_n dX5_read_110 rfl ?_
          obtain ⟨g, h⟩ := h
          refine ev_iald dX5_read_111 sM_15 g ?_
          refine ev_iconst dX5_read_112 ci_1 ?_
          refine ev_isub dX5_read_113 ?_
          refine ev_i2l dX5_read_114 ?_
          refine ev_callSi (M := MX5_read) (M2 := MX5_in) (As := [.long (l3.toInt64 + l7.toInt64), .long 0, .long ((d 15 l1.toNatClampNeg) - 1).toInt64]) (rest := []) dX5_read_115 w877 moX5_in rfl ⟨Nat.le_of_ble_eq_true rfl, Nat.le_of_ble_eq_true rfl⟩ rfl rfl (Nat.le_of_ble_eq_true rfl) h (fun r8 d7 h => ?_)
          have h := rI_dn h
          refine ev_if_ne (M := MX5_read) (tgt := 125) dX5_read_118 rfl (fun c9 => ?_) (fun c9 => ?_)
          · have h := h.1 c9
            refine ev_iconst dX5_read_125 ci_0 ?_
            exact h
          · have h := h.2 c9
            refine ev_iconst dX5_read_121 ci_2 ?_
            refine ev_goto (M := MX5_read) (tgt := 126) dX5_read_122 rfl ?_
            exact h
        · have h := h.2 c6
          refine ev_iconst dX5_read_95 ci_3 ?_
          refine ev_goto (M := MX5_read) (tgt := 126) dX5_read_96 rfl ?_
          exact h
      · have h := h.2 c5
        refine ev_iconst dX5_read_81 ci_1 ?_
        refine ev_goto (M := MX5_read) (tgt := 126) dX5_read_82 rfl ?_
        exact h
set_option maxRecDepth 4000 in
theorem bk_X5_read_126 {q : Int32 → DD → Prop} {d : DD} {l1 : Int32} {l2 : Int32} {l3 : Int32} {l4 : Int32} {l5 : Int32} {l6 : Int32} {l7 : Int32} {k0 : Int32} (h : ((¬ k0 = 0 → Ev SM MX5_read 56 [.ref 0, .int l1, .int l2, .int l3, .int l4, .int k0, .int l6, .int (l7 + 1), uJ] [] d (rI q)) ∧ (k0 = 0 → ((¬ (jrem l7 2) = 1 → Ev SM MX5_read 56 [.ref 0, .int l1, .int l2, .int l3, .int l4, .int k0, .int l6, .int (l7 + 1), uJ] [] d (rI q)) ∧ ((jrem l7 2) = 1 → (∀ x3 : Int32, x3 = (((40 * l1) + l3) + l7) → (vp_in (x3 - 1) 160 ∧ (vp_in x3 160 ∧ (Cn SM MX5_binds [.ref 0, .int (d 16 (x3 - 1).toNatClampNeg), .int (d 16 x3.toNatClampNeg)] d (rI fun r5 d4 => ((0 ≤ r5 → Ev SM MX5_read 56 [.ref 0, .int l1, .int l2, .int l3, .int l4, .int k0, .int (l6 + 1), .int (l7 + 1), uJ] [] d4 (rI q)) ∧ (¬ 0 ≤ r5 → (Cn SM MX5_copies [.ref 0, .int 210, .int 0] d4 (rV fun d7 => q ((-20) - l6) d7)))))))))))))) : Ev SM MX5_read 126 [.ref 0, .int l1, .int l2, .int l3, .int l4, .int l5, .int l6, .int l7, uJ] [.int k0] d (rI q) := by
  refine ev_istore (M := MX5_read) (ls2 := [.ref 0, .int l1, .int l2, .int l3, .int l4, .int k0, .int l6, .int l7, uJ]) dX5_read_126 (Nat.le_of_ble_eq_true rfl) rfl ?_
  refine ev_iload dX5_read_128 rfl ?_
  refine ev_if_ne (M := MX5_read) (tgt := 192) dX5_read_130 rfl (fun c1 => ?_) (fun c1 => ?_)
  · have h := h.1 c1
    refine ev_iinc (M := MX5_read) (ls2 := [.ref 0, .int l1, .int l2, .int l3, .int l4, .int k0, .int l6, .int (l7 + 1), uJ]) dX5_read_192 rfl (iin ci_1) (Nat.le_of_ble_eq_true rfl) rfl ?_
    refine ev_goto (M := MX5_read) (tgt := 56) dX5_read_195 rfl ?_
    exact h
  · have h := h.2 c1
    refine ev_iload dX5_read_133 rfl ?_
    refine ev_iconst dX5_read_135 ci_2 ?_
    refine ev_irem dX5_read_136 (by decide) ?_
    refine ev_iconst dX5_read_137 ci_1 ?_
    refine ev_icmp_ne (M := MX5_read) (tgt := 192) dX5_read_138 rfl (fun c2 => ?_) (fun c2 => ?_)
    · have h := h.1 c2
      refine ev_iinc (M := MX5_read) (ls2 := [.ref 0, .int l1, .int l2, .int l3, .int l4, .int k0, .int l6, .int (l7 + 1), uJ]) dX5_read_192 rfl (iin ci_1) (Nat.le_of_ble_eq_true rfl) rfl ?_
      refine ev_goto (M := MX5_read) (tgt := 56) dX5_read_195 rfl ?_
      exact h
    · have h := h.2 c2
      refine ev_bipush dX5_read_141 cb_40 ?_
      refine ev_iload_n dX5_read_143 rfl ?_
      refine ev_imul dX5_read_144 ?_
      refine ev_iload_n dX5_read_145 rfl ?_
      refine ev_iadd dX5_read_146 ?_
      refine ev_iload dX5_read_147 rfl ?_
      refine ev_iadd dX5_read_149 ?_
      refine ev_topi (fun x3 ex3 => ?_)
      have h := h x3 ex3
      refine ev_istore (M := MX5_read) (ls2 := [.ref 0, .int l1, .int l2, .int l3, .int l4, .int k0, .int l6, .int l7, .int x3]) dX5_read_150 (Nat.le_of_ble_eq_true rfl) rfl ?_
      refine ev_aload_n dX5_read_152 rfl ?_
      refine ev_aload_n dX5_read_153 rfl ?_
      refine ev_getr (M := MX5_read) (r := 16) 33 dX5_read_154 sM_0 ck5 (Nat.le_of_ble_eq_true rfl) rfl w799 ?_
      refine ev_iload dX5_read_157 rfl ?_
      refine ev_iconst dX5_read_159 ci_1 ?_
      refine ev_isub dX5_read_160 ?_
      obtain ⟨g, h⟩ := h
      refine ev_iald dX5_read_161 sM_16 g ?_
      refine ev_aload_n dX5_read_162 rfl ?_
      refine ev_getr (M := MX5_read) (r := 16) 33 dX5_read_163 sM_0 ck5 (Nat.le_of_ble_eq_true rfl) rfl w799 ?_
      refine ev_iload dX5_read_166 rfl ?_
      obtain ⟨g, h⟩ := h
      refine ev_iald dX5_read_168 sM_16 g ?_
      refine ev_callVi (M := MX5_read) (M2 := MX5_binds) (As := [.int (d 16 (x3 - 1).toNatClampNeg), .int (d 16 x3.toNatClampNeg)]) (rest := []) dX5_read_169 sM_0 ck5 rfl w1023 moX5_binds rfl ⟨Nat.le_of_ble_eq_true rfl, Nat.le_of_ble_eq_true rfl⟩ rfl rfl (Nat.le_of_ble_eq_true rfl) h (fun r5 d4 h => ?_)
      have h := rI_dn h
      refine ev_if_ge (M := MX5_read) (tgt := 189) dX5_read_172 rfl (fun c6 => ?_) (fun c6 => ?_)
      · have h := h.1 c6
        refine ev_iinc (M := MX5_read) (ls2 := [.ref 0, .int l1, .int l2, .int l3, .int l4, .int k0, .int (l6 + 1), .int l7, .int x3]) dX5_read_189 rfl (iin ci_1) (Nat.le_of_ble_eq_true rfl) rfl ?_
        refine ev_iinc (M := MX5_read) (ls2 := [.ref 0, .int l1, .int l2, .int l3, .int l4, .int k0, .int (l6 + 1), .int (l7 + 1), .int x3]) dX5_read_192 rfl (iin ci_1) (Nat.le_of_ble_eq_true rfl) rfl ?_
        refine ev_goto (M := MX5_read) (tgt := 56) dX5_read_195 rfl ?_
        refine Ev.forget (ls2 := [.ref 0, .int l1, .int l2, .int l3, .int l4, .int k0, .int (l6 + 1), .int (l7 + 1), uJ]) ?_ (fun i v hi hv => lsub_of (bs := [false, false, false, false, false, false, false, false, true]) rfl i v hi hv)
        exact h
      · have h := h.2 c6
        refine ev_aload_n dX5_read_175 rfl ?_
        refine ev_sipush dX5_read_176 cs_210 ?_
        refine ev_iconst dX5_read_179 ci_0 ?_
        refine ev_callVv (M := MX5_read) (M2 := MX5_copies) (As := [.int 210, .int 0]) (rest := []) dX5_read_180 sM_0 ck5 rfl w1089 moX5_copies rfl ⟨Nat.le_of_ble_eq_true rfl, Nat.le_of_ble_eq_true rfl⟩ rfl rfl (Nat.le_of_ble_eq_true rfl) h (fun d7 h => ?_)
        have h := rV_dn h
        refine ev_bipush dX5_read_183 cb_m20 ?_
        refine ev_iload dX5_read_185 rfl ?_
        refine ev_isub dX5_read_187 ?_
        exact ev_ireti (M := MX5_read) (ty := .int) dX5_read_188 rfl rfl rfl h
-- X5_torn
theorem cn_X5_torn {q : Int32 → DD → Prop} {d : DD}  (h : q (d 0 34) d) : Cn SM MX5_torn [.ref 0] d (rI q) := by
  refine cn_of (ls := [.ref 0]) (by decide) rfl rfl (Nat.le_of_ble_eq_true rfl) ?_
  refine ev_aload_n dX5_torn_0 rfl ?_
  refine ev_get 34 dX5_torn_1 sM_0 ck5 (Nat.le_of_ble_eq_true rfl) rfl w800 ?_
  exact ev_ireti (M := MX5_torn) (ty := .int) dX5_torn_4 rfl rfl rfl h
-- X5_count
set_option maxRecDepth 4000 in
theorem cn_X5_count {q : Int32 → DD → Prop} {d : DD} {p0 : Int32} (h : Ev SM MX5_count 4 [.ref 0, .int p0, .int 0, .int 0] [] d (rI q)) : Cn SM MX5_count [.ref 0, .int p0] d (rI q) := by
  refine cn_of (ls := [.ref 0, .int p0, uJ, uJ]) (by decide) rfl rfl (Nat.le_of_ble_eq_true rfl) ?_
  refine ev_iconst dX5_count_0 ci_0 ?_
  refine ev_istore_n (M := MX5_count) (ls2 := [.ref 0, .int p0, .int 0, uJ]) 2 dX5_count_1 rfl (Nat.le_of_ble_eq_true rfl) rfl ?_
  refine ev_iconst dX5_count_2 ci_0 ?_
  refine ev_istore_n (M := MX5_count) (ls2 := [.ref 0, .int p0, .int 0, .int 0]) 3 dX5_count_3 rfl (Nat.le_of_ble_eq_true rfl) rfl ?_
  exact h
set_option maxRecDepth 4000 in
theorem bk_X5_count_4 {q : Int32 → DD → Prop} {d : DD} {l1 : Int32} {l2 : Int32} {l3 : Int32} (h : (((d 0 1) ≤ l3 → ((l1 = 0 → q (d 0 28) d) ∧ (¬ l1 = 0 → ((l1 = 1 → (((d 13 0) = 0 → (((d 13 1) = 0 → q (0 + 0) d) ∧ (¬ (d 13 1) = 0 → q (0 + 1) d))) ∧ (¬ (d 13 0) = 0 → (((d 13 1) = 0 → q (1 + 0) d) ∧ (¬ (d 13 1) = 0 → q (1 + 1) d))))) ∧ (¬ l1 = 1 → ((l1 = 2 → q (d 0 10) d) ∧ (¬ l1 = 2 → ((l1 = 3 → ((¬ (d 14 0) = (-4) → q (d 15 0) d) ∧ ((d 14 0) = (-4) → q (-4) d))) ∧ (¬ l1 = 3 → ((l1 = 4 → (Cn SM MX5_noteMany [.ref 0] d (rI fun r12 d11 => q r12 d11))) ∧ (¬ l1 = 4 → ((l1 = 5 → q l2 d) ∧ (¬ l1 = 5 → q (-1) d))))))))))))) ∧ (¬ (d 0 1) ≤ l3 → (Cn SM MX5_lengthOf [.ref 0, .int l3] d (rI fun r15 d14 => Ev SM MX5_count 4 [.ref 0, .int l1, .int (l2 + r15), .int (l3 + 1)] [] d14 (rI q)))))) : Ev SM MX5_count 4 [.ref 0, .int l1, .int l2, .int l3] [] d (rI q) := by
  refine ev_iload_n dX5_count_4 rfl ?_
  refine ev_aload_n dX5_count_5 rfl ?_
  refine ev_get 1 dX5_count_6 sM_0 ck5 (Nat.le_of_ble_eq_true rfl) rfl w767 ?_
  refine ev_icmp_ge (M := MX5_count) (tgt := 26) dX5_count_9 rfl (fun c1 => ?_) (fun c1 => ?_)
  · have h := h.1 c1
    refine ev_iload_n dX5_count_26 rfl ?_
    by_cases c2 : l1 = 0
    · have h := h.1 c2
      refine ev_tsw (M := MX5_count) (tgt := 64) dX5_count_27 0 (sw_eq 0 c2 (by decide)) (by decide) (by decide) rfl rfl ?_
      refine ev_aload_n dX5_count_64 rfl ?_
      refine ev_get 28 dX5_count_65 sM_0 ck5 (Nat.le_of_ble_eq_true rfl) rfl w794 ?_
      exact ev_ireti (M := MX5_count) (ty := .int) dX5_count_68 rfl rfl rfl h
    · have h := h.2 c2
      by_cases c3 : l1 = 1
      · have h := h.1 c3
        refine ev_tsw (M := MX5_count) (tgt := 69) dX5_count_27 1 (sw_eq 1 c3 (by decide)) (by decide) (by decide) rfl rfl ?_
        refine ev_aload_n dX5_count_69 rfl ?_
        refine ev_getr (M := MX5_count) (r := 13) 30 dX5_count_70 sM_0 ck5 (Nat.le_of_ble_eq_true rfl) rfl w796 ?_
        refine ev_iconst dX5_count_73 ci_0 ?_
        refine ev_zald dX5_count_74 sM_13 (inb_of (by decide)) ?_
        rw [show ((0 : Int32)).toNatClampNeg = 0 from rfl]
        refine ev_if_eq (M := MX5_count) (tgt := 82) dX5_count_75 rfl (fun c4 => ?_) (fun c4 => ?_)
        · have h := h.1 c4
          refine ev_iconst dX5_count_82 ci_0 ?_
          refine ev_aload_n dX5_count_83 rfl ?_
          refine ev_getr (M := MX5_count) (r := 13) 30 dX5_count_84 sM_0 ck5 (Nat.le_of_ble_eq_true rfl) rfl w796 ?_
          refine ev_iconst dX5_count_87 ci_1 ?_
          refine ev_zald dX5_count_88 sM_13 (inb_of (by decide)) ?_
          rw [show ((1 : Int32)).toNatClampNeg = 1 from rfl]
          refine ev_if_eq (M := MX5_count) (tgt := 96) dX5_count_89 rfl (fun c5 => ?_) (fun c5 => ?_)
          · have h := h.1 c5
            refine ev_iconst dX5_count_96 ci_0 ?_
            refine ev_iadd dX5_count_97 ?_
            exact ev_ireti (M := MX5_count) (ty := .int) dX5_count_98 rfl rfl rfl h
          · have h := h.2 c5
            refine ev_iconst dX5_count_92 ci_1 ?_
            refine ev_goto (M := MX5_count) (tgt := 97) dX5_count_93 rfl ?_
            refine ev_iadd dX5_count_97 ?_
            exact ev_ireti (M := MX5_count) (ty := .int) dX5_count_98 rfl rfl rfl h
        · have h := h.2 c4
          refine ev_iconst dX5_count_78 ci_1 ?_
          refine ev_goto (M := MX5_count) (tgt := 83) dX5_count_79 rfl ?_
          refine ev_aload_n dX5_count_83 rfl ?_
          refine ev_getr (M := MX5_count) (r := 13) 30 dX5_count_84 sM_0 ck5 (Nat.le_of_ble_eq_true rfl) rfl w796 ?_
          refine ev_iconst dX5_count_87 ci_1 ?_
          refine ev_zald dX5_count_88 sM_13 (inb_of (by decide)) ?_
          rw [show ((1 : Int32)).toNatClampNeg = 1 from rfl]
          refine ev_if_eq (M := MX5_count) (tgt := 96) dX5_count_89 rfl (fun c6 => ?_) (fun c6 => ?_)
          · have h := h.1 c6
            refine ev_iconst dX5_count_96 ci_0 ?_
            refine ev_iadd dX5_count_97 ?_
            exact ev_ireti (M := MX5_count) (ty := .int) dX5_count_98 rfl rfl rfl h
          · have h := h.2 c6
            refine ev_iconst dX5_count_92 ci_1 ?_
            refine ev_goto (M := MX5_count) (tgt := 97) dX5_count_93 rfl ?_
            refine ev_iadd dX5_count_97 ?_
            exact ev_ireti (M := MX5_count) (ty := .int) dX5_count_98 rfl rfl rfl h
      · have h := h.2 c3
        by_cases c7 : l1 = 2
        · have h := h.1 c7
          refine ev_tsw (M := MX5_count) (tgt := 99) dX5_count_27 2 (sw_eq 2 c7 (by decide)) (by decide) (by decide) rfl rfl ?_
          refine ev_aload_n dX5_count_99 rfl ?_
          refine ev_get 10 dX5_count_100 sM_0 ck5 (Nat.le_of_ble_eq_true rfl) rfl w776 ?_
          exact ev_ireti (M := MX5_count) (ty := .int) dX5_count_103 rfl rfl rfl h
        · have h := h.2 c7
          by_cases c8 : l1 = 3
          · have h := h.1 c8
            refine ev_tsw (M := MX5_count) (tgt := 104) dX5_count_27 3 (sw_eq 3 c8 (by decide)) (by decide) (by decide) rfl rfl ?_
            refine ev_aload_n dX5_count_104 rfl ?_
            refine ev_getr (M := MX5_count) (r := 14) 31 dX5_count_105 sM_0 ck5 (Nat.le_of_ble_eq_true rfl) rfl w797 ?_
            refine ev_iconst dX5_count_108 ci_0 ?_
            refine ev_iald dX5_count_109 sM_14 (inb_of (by decide)) ?_
            rw [show ((0 : Int32)).toNatClampNeg = 0 from rfl]
            refine ev_bipush dX5_count_110 cb_m4 ?_
            refine ev_icmp_ne (M := MX5_count) (tgt := 120) dX5_count_112 rfl (fun c9 => ?_) (fun c9 => ?_)
            · have h := h.1 c9
              refine ev_aload_n dX5_count_120 rfl ?_
              refine ev_getr (M := MX5_count) (r := 15) 32 dX5_count_121 sM_0 ck5 (Nat.le_of_ble_eq_true rfl) rfl w798 ?_
              refine ev_iconst dX5_count_124 ci_0 ?_
              refine ev_iald dX5_count_125 sM_15 (inb_of (by decide)) ?_
              rw [show ((0 : Int32)).toNatClampNeg = 0 from rfl]
              exact ev_ireti (M := MX5_count) (ty := .int) dX5_count_126 rfl rfl rfl h
            · have h := h.2 c9
              refine ev_bipush dX5_count_115 cb_m4 ?_
              refine ev_goto (M := MX5_count) (tgt := 126) dX5_count_117 rfl ?_
              exact ev_ireti (M := MX5_count) (ty := .int) dX5_count_126 rfl rfl rfl h
          · have h := h.2 c8
            by_cases c10 : l1 = 4
            · have h := h.1 c10
              refine ev_tsw (M := MX5_count) (tgt := 127) dX5_count_27 4 (sw_eq 4 c10 (by decide)) (by decide) (by decide) rfl rfl ?_
              refine ev_aload_n dX5_count_127 rfl ?_
              refine ev_callVi (M := MX5_count) (M2 := MX5_noteMany) (As := []) (rest := []) dX5_count_128 sM_0 ck5 rfl w1175 moX5_noteMany rfl ⟨Nat.le_of_ble_eq_true rfl, Nat.le_of_ble_eq_true rfl⟩ rfl rfl (Nat.le_of_ble_eq_true rfl) h (fun r12 d11 h => ?_)
              have h := rI_dn h
              exact ev_ireti (M := MX5_count) (ty := .int) dX5_count_131 rfl rfl rfl h
            · have h := h.2 c10
              by_cases c13 : l1 = 5
              · have h := h.1 c13
                refine ev_tsw (M := MX5_count) (tgt := 132) dX5_count_27 5 (sw_eq 5 c13 (by decide)) (by decide) (by decide) rfl rfl ?_
                refine ev_iload_n dX5_count_132 rfl ?_
                exact ev_ireti (M := MX5_count) (ty := .int) dX5_count_133 rfl rfl rfl h
              · have h := h.2 c13
                have nc2 := sw_ne 0 c2 (by decide)
                have nc3 := sw_ne 1 c3 (by decide)
                have nc7 := sw_ne 2 c7 (by decide)
                have nc8 := sw_ne 3 c8 (by decide)
                have nc10 := sw_ne 4 c10 (by decide)
                have nc13 := sw_ne 5 c13 (by decide)
                refine ev_tswD (M := MX5_count) (tgt := 134) dX5_count_27 (by omega) rfl ?_
                refine ev_iconst dX5_count_134 ci_m1 ?_
                exact ev_ireti (M := MX5_count) (ty := .int) dX5_count_135 rfl rfl rfl h
  · have h := h.2 c1
    refine ev_iload_n dX5_count_12 rfl ?_
    refine ev_aload_n dX5_count_13 rfl ?_
    refine ev_iload_n dX5_count_14 rfl ?_
    refine ev_callVi (M := MX5_count) (M2 := MX5_lengthOf) (As := [.int l3]) (rest := [.int l2]) dX5_count_15 sM_0 ck5 rfl w945 moX5_lengthOf rfl ⟨Nat.le_of_ble_eq_true rfl, Nat.le_of_ble_eq_true rfl⟩ rfl rfl (Nat.le_of_ble_eq_true rfl) h (fun r15 d14 h => ?_)
    have h := rI_dn h
    refine ev_iadd dX5_count_18 ?_
    refine ev_istore_n (M := MX5_count) (ls2 := [.ref 0, .int l1, .int (l2 + r15), .int l3]) 2 dX5_count_19 rfl (Nat.le_of_ble_eq_true rfl) rfl ?_
    refine ev_iinc (M := MX5_count) (ls2 := [.ref 0, .int l1, .int (l2 + r15), .int (l3 + 1)]) dX5_count_20 rfl (iin ci_1) (Nat.le_of_ble_eq_true rfl) rfl ?_
    refine ev_goto (M := MX5_count) (tgt := 4) dX5_count_23 rfl ?_
    exact h
