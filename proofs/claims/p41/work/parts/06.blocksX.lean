-- J0_length_8abf5
theorem cn_J0_length_8abf5 {q : Int32 → DD → Prop} {d : DD} {b : Nat} (Hb : b < 6) (h : (Cn SX MJ0_coder_7d493 [.ref (1000 + b)] d (rI fun r2 d1 => q ((nI (strLen.getD b 0)) >>> (r2 &&& 31)) d1))) : Cn SX MJ0_length_8abf5 [.ref (1000 + b)] d (rI q) := by
  refine cn_of (ls := [.ref (1000 + b)]) (by decide) rfl rfl (Nat.le_of_ble_eq_true rfl) ?_
  refine ev_aload_n dJ0_length_8abf5_0 rfl ?_
  refine ev_sval Hb dJ0_length_8abf5_1 w1199 ?_
  refine ev_slen Hb dJ0_length_8abf5_4 ?_
  refine ev_aload_n dJ0_length_8abf5_5 rfl ?_
  refine ev_callTi (M := MJ0_length_8abf5) (M2 := MJ0_coder_7d493) (As := []) (i := b) (rest := [.int (nI (strLen.getD b 0))]) dJ0_length_8abf5_6 (by exact Hb) w349 moJ0_coder_7d493 rfl ⟨Nat.le_of_ble_eq_true rfl, Nat.le_of_ble_eq_true rfl⟩ rfl rfl (Nat.le_of_ble_eq_true rfl) h (fun r2 d1 h => ?_)
  have h := rI_dn h
  refine ev_ishr dJ0_length_8abf5_9 ?_
  exact ev_ireti (M := MJ0_length_8abf5) (ty := .int) dJ0_length_8abf5_10 rfl rfl rfl h
-- J0_charAt_5068e
theorem cn_J0_charAt_5068e {q : Int32 → DD → Prop} {d : DD} {b : Nat} (Hb : b < 6) {p0 : Int32} (h : (Cn SX MJ0_isLatin1_aae02 [.ref (1000 + b)] d (rI fun r2 d1 => ((r2 = 0 → False) ∧ (¬ r2 = 0 → (Cn SX MJ1_charAt_3b067 [.ref (2000 + b), .int p0] d1 (rI fun r5 d4 => (narrow .char (.int r5) = .int r5 ∧ q r5 d4)))))))) : Cn SX MJ0_charAt_5068e [.ref (1000 + b), .int p0] d (rI q) := by
  refine cn_of (ls := [.ref (1000 + b), .int p0]) (by decide) rfl rfl (Nat.le_of_ble_eq_true rfl) ?_
  refine ev_aload_n dJ0_charAt_5068e_0 rfl ?_
  refine ev_callTi (M := MJ0_charAt_5068e) (M2 := MJ0_isLatin1_aae02) (As := []) (i := b) (rest := []) dJ0_charAt_5068e_1 (by exact Hb) w359 moJ0_isLatin1_aae02 rfl ⟨Nat.le_of_ble_eq_true rfl, Nat.le_of_ble_eq_true rfl⟩ rfl rfl (Nat.le_of_ble_eq_true rfl) h (fun r2 d1 h => ?_)
  have h := rI_dn h
  refine ev_if_eq (M := MJ0_charAt_5068e) (tgt := 16) dJ0_charAt_5068e_4 rfl (fun c3 => ?_) (fun c3 => ?_)
  · have h := h.1 c3
    refine ev_aload_n dJ0_charAt_5068e_16 rfl ?_
    refine ev_sval Hb dJ0_charAt_5068e_17 w1199 ?_
    refine ev_iload_n dJ0_charAt_5068e_20 rfl ?_
    exact h.elim
  · have h := h.2 c3
    refine ev_aload_n dJ0_charAt_5068e_7 rfl ?_
    refine ev_sval Hb dJ0_charAt_5068e_8 w1199 ?_
    refine ev_iload_n dJ0_charAt_5068e_11 rfl ?_
    refine ev_callSi (M := MJ0_charAt_5068e) (M2 := MJ1_charAt_3b067) (As := [.ref (2000 + b), .int p0]) (rest := []) dJ0_charAt_5068e_12 w363 moJ1_charAt_3b067 rfl ⟨Nat.le_of_ble_eq_true rfl, Nat.le_of_ble_eq_true rfl⟩ rfl rfl (Nat.le_of_ble_eq_true rfl) h (fun r5 d4 h => ?_)
    have h := rI_dn h
    exact ev_ireti (M := MJ0_charAt_5068e) (ty := .char) dJ0_charAt_5068e_15 rfl rfl h.1 h.2
-- J0_coder_7d493
theorem cn_J0_coder_7d493 {q : Int32 → DD → Prop} {d : DD} {b : Nat} (Hb : b < 6) (h : q 0 d) : Cn SX MJ0_coder_7d493 [.ref (1000 + b)] d (rI q) := by
  refine cn_of (ls := [.ref (1000 + b)]) (by decide) rfl rfl (Nat.le_of_ble_eq_true rfl) ?_
  refine ev_gcomp dJ0_coder_7d493_0 w353 ?_
  refine ev_if_eq (M := MJ0_coder_7d493) (tgt := 13) dJ0_coder_7d493_3 rfl (fun z => absurd z (by decide)) (fun _ => ?_)
  refine ev_aload_n dJ0_coder_7d493_6 rfl ?_
  refine ev_scod Hb dJ0_coder_7d493_7 w1200 ?_
  refine ev_goto (M := MJ0_coder_7d493) (tgt := 14) dJ0_coder_7d493_10 rfl ?_
  exact ev_ireti (M := MJ0_coder_7d493) (ty := .byte) dJ0_coder_7d493_14 rfl rfl rfl h
-- J0_isLatin1_aae02
theorem cn_J0_isLatin1_aae02 {q : Int32 → DD → Prop} {d : DD} {b : Nat} (Hb : b < 6) (h : q 1 d) : Cn SX MJ0_isLatin1_aae02 [.ref (1000 + b)] d (rI q) := by
  refine cn_of (ls := [.ref (1000 + b)]) (by decide) rfl rfl (Nat.le_of_ble_eq_true rfl) ?_
  refine ev_gcomp dJ0_isLatin1_aae02_0 w353 ?_
  refine ev_if_eq (M := MJ0_isLatin1_aae02) (tgt := 17) dJ0_isLatin1_aae02_3 rfl (fun z => absurd z (by decide)) (fun _ => ?_)
  refine ev_aload_n dJ0_isLatin1_aae02_6 rfl ?_
  refine ev_scod Hb dJ0_isLatin1_aae02_7 w1200 ?_
  refine ev_if_ne (M := MJ0_isLatin1_aae02) (tgt := 17) dJ0_isLatin1_aae02_10 rfl (fun z => absurd z (by decide)) (fun _ => ?_)
  refine ev_iconst dJ0_isLatin1_aae02_13 ci_1 ?_
  refine ev_goto (M := MJ0_isLatin1_aae02) (tgt := 18) dJ0_isLatin1_aae02_14 rfl ?_
  exact ev_ireti (M := MJ0_isLatin1_aae02) (ty := .boolean) dJ0_isLatin1_aae02_18 rfl rfl rfl h
-- J0_checkIndex_df160
theorem cn_J0_checkIndex_df160 {q : DD → Prop} {d : DD} {p0 : Int32} {p1 : Int32} (h : (∀ v1 : Value, v1.category = 1 → (Cn SX MJ3_checkIndex_8e157 [.int p0, .int p1, v1] d (rI fun r3 d2 => q d2)))) : Cn SX MJ0_checkIndex_df160 [.int p0, .int p1] d (rV q) := by
  refine cn_of (ls := [.int p0, .int p1]) (by decide) rfl rfl (Nat.le_of_ble_eq_true rfl) ?_
  refine ev_iload_n dJ0_checkIndex_df160_0 rfl ?_
  refine ev_iload_n dJ0_checkIndex_df160_1 rfl ?_
  refine ev_gfmt dJ0_checkIndex_df160_2 w369 (fun v1 ev1 => ?_)
  have h := h v1 ev1
  refine ev_callSi (M := MJ0_checkIndex_df160) (M2 := MJ3_checkIndex_8e157) (As := [.int p0, .int p1, v1]) (rest := []) dJ0_checkIndex_df160_5 w371 moJ3_checkIndex_8e157 rfl ⟨Nat.le_of_ble_eq_true rfl, Nat.le_of_ble_eq_true rfl⟩ rfl rfl (Nat.le_of_ble_eq_true rfl) h (fun r3 d2 h => ?_)
  have h := rI_dn h
  refine ev_pop dJ0_checkIndex_df160_8 rfl ?_
  exact ev_ret (M := MJ0_checkIndex_df160) dJ0_checkIndex_df160_9 rfl rfl h
-- J1_charAt_3b067
theorem cn_J1_charAt_3b067 {q : Int32 → DD → Prop} {d : DD} {p0 : Nat} (Hp0 : p0 < 6) {p1 : Int32} (h : (Cn SX MJ0_checkIndex_df160 [.int p1, .int (nI (strLen.getD p0 0))] d (rV fun d1 => (vp_in p1 (strLen.getD p0 0) ∧ (narrow .char (.int ((((strByt.getD p0 []).getD p1.toNatClampNeg 0) &&& 255).toUInt32 % 65536).toInt32) = .int ((((strByt.getD p0 []).getD p1.toNatClampNeg 0) &&& 255).toUInt32 % 65536).toInt32 ∧ q ((((strByt.getD p0 []).getD p1.toNatClampNeg 0) &&& 255).toUInt32 % 65536).toInt32 d1))))) : Cn SX MJ1_charAt_3b067 [.ref (2000 + p0), .int p1] d (rI q) := by
  refine cn_of (ls := [.ref (2000 + p0), .int p1]) (by decide) rfl rfl (Nat.le_of_ble_eq_true rfl) ?_
  refine ev_iload_n dJ1_charAt_3b067_0 rfl ?_
  refine ev_aload_n dJ1_charAt_3b067_1 rfl ?_
  refine ev_slen Hp0 dJ1_charAt_3b067_2 ?_
  refine ev_callSv (M := MJ1_charAt_3b067) (M2 := MJ0_checkIndex_df160) (As := [.int p1, .int (nI (strLen.getD p0 0))]) (rest := []) dJ1_charAt_3b067_3 w366 moJ0_checkIndex_df160 rfl ⟨Nat.le_of_ble_eq_true rfl, Nat.le_of_ble_eq_true rfl⟩ rfl rfl (Nat.le_of_ble_eq_true rfl) h (fun d1 h => ?_)
  have h := rV_dn h
  refine ev_aload_n dJ1_charAt_3b067_6 rfl ?_
  refine ev_iload_n dJ1_charAt_3b067_7 rfl ?_
  obtain ⟨g, h⟩ := h
  refine ev_sbald Hp0 dJ1_charAt_3b067_8 g ?_
  refine ev_sipush dJ1_charAt_3b067_9 cs_255 ?_
  refine ev_iand dJ1_charAt_3b067_12 ?_
  refine ev_i2c dJ1_charAt_3b067_13 ?_
  exact ev_ireti (M := MJ1_charAt_3b067) (ty := .char) dJ1_charAt_3b067_14 rfl rfl h.1 h.2
-- J3_checkIndex_8e157
theorem cn_J3_checkIndex_8e157 {q : Int32 → DD → Prop} {d : DD} {p0 : Int32} {p1 : Int32} {p2 : Value} (Ep2 : p2.category = 1) (h : ((p0 < 0 → False) ∧ (¬ p0 < 0 → ((p0 < p1 → q p0 d) ∧ (¬ p0 < p1 → False))))) : Cn SX MJ3_checkIndex_8e157 [.int p0, .int p1, p2] d (rI q) := by
  refine cn_of (ls := [.int p0, .int p1, p2]) (by decide) rfl (by simp [lsArgs, Ep2, show ∀ x : Int32, (Value.int x).category = 1 from fun _ => rfl]) (by simp [lsArgs, Ep2, show ∀ x : Int32, (Value.int x).category = 1 from fun _ => rfl]) ?_
  refine ev_iload_n dJ3_checkIndex_8e157_0 rfl ?_
  refine ev_if_lt (M := MJ3_checkIndex_8e157) (tgt := 9) dJ3_checkIndex_8e157_1 rfl (fun c1 => ?_) (fun c1 => ?_)
  · have h := h.1 c1
    exact h.elim
  · have h := h.2 c1
    refine ev_iload_n dJ3_checkIndex_8e157_4 rfl ?_
    refine ev_iload_n dJ3_checkIndex_8e157_5 rfl ?_
    refine ev_icmp_lt (M := MJ3_checkIndex_8e157) (tgt := 16) dJ3_checkIndex_8e157_6 rfl (fun c2 => ?_) (fun c2 => ?_)
    · have h := h.1 c2
      refine ev_iload_n dJ3_checkIndex_8e157_16 rfl ?_
      exact ev_ireti (M := MJ3_checkIndex_8e157) (ty := .int) dJ3_checkIndex_8e157_17 rfl rfl rfl h
    · have h := h.2 c2
      exact h.elim
-- X0_clear
theorem cn_X0_clear {q : DD → Prop} {d : DD} {b : Nat} (Hb : isH b) (h : (∀ d1 : DD, d1 = (up d b 0 0) → (∀ d2 : DD, d2 = (up d1 b 1 0) → (∀ d3 : DD, d3 = (up d2 b 2 0) → q d3)))) : Cn SX MX0_clear [.ref b] d (rV q) := by
  refine cn_of (ls := [.ref b]) (by decide) rfl rfl (Nat.le_of_ble_eq_true rfl) ?_
  refine ev_aload_n dX0_clear_0 rfl ?_
  refine ev_iconst dX0_clear_1 ci_0 ?_
  refine ev_put 0 dX0_clear_2 (hH_0 Hb) ck0 (Nat.le_of_ble_eq_true rfl) rfl w81 rfl rfl rfl ?_
  refine ev_topd (fun d1 ed1 => ?_)
  have h := h d1 ed1
  refine ev_aload_n dX0_clear_5 rfl ?_
  refine ev_iconst dX0_clear_6 ci_0 ?_
  refine ev_put 1 dX0_clear_7 (hH_0 Hb) ck0 (Nat.le_of_ble_eq_true rfl) rfl w85 rfl rfl rfl ?_
  refine ev_topd (fun d2 ed2 => ?_)
  have h := h d2 ed2
  refine ev_aload_n dX0_clear_10 rfl ?_
  refine ev_iconst dX0_clear_11 ci_0 ?_
  refine ev_put 2 dX0_clear_12 (hH_0 Hb) ck0 (Nat.le_of_ble_eq_true rfl) rfl w89 rfl rfl rfl ?_
  refine ev_topd (fun d3 ed3 => ?_)
  have h := h d3 ed3
  exact ev_ret (M := MX0_clear) dX0_clear_15 rfl rfl h
-- X0_become
set_option maxRecDepth 4000 in
theorem cn_X0_become {q : DD → Prop} {d : DD} {b : Nat} (Hb : isH b) {p0 : Nat} (Hp0 : isH p0) (h : (∀ d1 : DD, d1 = (up d b 0 (d p0 0)) → (∀ d2 : DD, d2 = (up d1 b 1 (d1 p0 1)) → (∀ d3 : DD, d3 = (up d2 b 2 (d2 p0 2)) → (∀ d4 : DD, d4 = (rowset d3 (b + 1) (va_cpy (d3 (p0 + 1)) (d3 (b + 1)) 0 0 4)) → (∀ d5 : DD, d5 = (rowset d4 (b + 2) (va_cpy (d4 (p0 + 2)) (d4 (b + 2)) 0 0 4)) → (∀ d6 : DD, d6 = (rowset d5 (b + 3) (va_cpy (d5 (p0 + 3)) (d5 (b + 3)) 0 0 4)) → (∀ d7 : DD, d7 = (rowset d6 (b + 4) (va_cpy (d6 (p0 + 4)) (d6 (b + 4)) 0 0 4)) → (∀ d8 : DD, d8 = (rowset d7 (b + 5) (va_cpy (d7 (p0 + 5)) (d7 (b + 5)) 0 0 32)) → (∀ d9 : DD, d9 = (rowset d8 (b + 6) (va_cpy (d8 (p0 + 6)) (d8 (b + 6)) 0 0 4)) → (∀ d10 : DD, d10 = (rowset d9 (b + 7) (va_cpy (d9 (p0 + 7)) (d9 (b + 7)) 0 0 4)) → (∀ d11 : DD, d11 = (rowset d10 (b + 8) (va_cpy (d10 (p0 + 8)) (d10 (b + 8)) 0 0 4)) → (∀ d12 : DD, d12 = (rowset d11 (b + 9) (va_cpy (d11 (p0 + 9)) (d11 (b + 9)) 0 0 4)) → (∀ d13 : DD, d13 = (rowset d12 (b + 10) (va_cpy (d12 (p0 + 10)) (d12 (b + 10)) 0 0 6)) → q d13)))))))))))))) : Cn SX MX0_become [.ref b, .ref p0] d (rV q) := by
  refine cn_of (ls := [.ref b, .ref p0]) (by decide) rfl rfl (Nat.le_of_ble_eq_true rfl) ?_
  refine ev_aload_n dX0_become_0 rfl ?_
  refine ev_aload_n dX0_become_1 rfl ?_
  refine ev_get 0 dX0_become_2 (hH_0 Hp0) ck0 (Nat.le_of_ble_eq_true rfl) rfl w81 ?_
  refine ev_put 0 dX0_become_5 (hH_0 Hb) ck0 (Nat.le_of_ble_eq_true rfl) rfl w81 rfl rfl rfl ?_
  refine ev_topd (fun d1 ed1 => ?_)
  have h := h d1 ed1
  refine ev_aload_n dX0_become_8 rfl ?_
  refine ev_aload_n dX0_become_9 rfl ?_
  refine ev_get 1 dX0_become_10 (hH_0 Hp0) ck0 (Nat.le_of_ble_eq_true rfl) rfl w85 ?_
  refine ev_put 1 dX0_become_13 (hH_0 Hb) ck0 (Nat.le_of_ble_eq_true rfl) rfl w85 rfl rfl rfl ?_
  refine ev_topd (fun d2 ed2 => ?_)
  have h := h d2 ed2
  refine ev_aload_n dX0_become_16 rfl ?_
  refine ev_aload_n dX0_become_17 rfl ?_
  refine ev_get 2 dX0_become_18 (hH_0 Hp0) ck0 (Nat.le_of_ble_eq_true rfl) rfl w89 ?_
  refine ev_put 2 dX0_become_21 (hH_0 Hb) ck0 (Nat.le_of_ble_eq_true rfl) rfl w89 rfl rfl rfl ?_
  refine ev_topd (fun d3 ed3 => ?_)
  have h := h d3 ed3
  refine ev_aload_n dX0_become_24 rfl ?_
  refine ev_getr (M := MX0_become) (r := (p0 + 1)) 3 dX0_become_25 (hH_0 Hp0) ck0 (Nat.le_of_ble_eq_true rfl) rfl w93 ?_
  refine ev_iconst dX0_become_28 ci_0 ?_
  refine ev_aload_n dX0_become_29 rfl ?_
  refine ev_getr (M := MX0_become) (r := (b + 1)) 3 dX0_become_30 (hH_0 Hb) ck0 (Nat.le_of_ble_eq_true rfl) rfl w93 ?_
  refine ev_iconst dX0_become_33 ci_0 ?_
  refine ev_iconst dX0_become_34 ci_4 ?_
  refine ev_copy dX0_become_35 w435 w437 w436 w64 (hH_1 Hp0) (hH_1 Hb) (by decide) (by decide) (by decide) (Nat.le_of_ble_eq_true rfl) (Nat.le_of_ble_eq_true rfl) (Nat.le_of_ble_eq_true rfl) (Nat.le_of_ble_eq_true rfl) ?_
  rw [show ((0 : Int32)).toNatClampNeg = 0 from rfl, show ((4 : Int32)).toNatClampNeg = 4 from rfl]
  refine ev_topd (fun d4 ed4 => ?_)
  have h := h d4 ed4
  refine ev_aload_n dX0_become_38 rfl ?_
  refine ev_getr (M := MX0_become) (r := (p0 + 2)) 4 dX0_become_39 (hH_0 Hp0) ck0 (Nat.le_of_ble_eq_true rfl) rfl w97 ?_
  refine ev_iconst dX0_become_42 ci_0 ?_
  refine ev_aload_n dX0_become_43 rfl ?_
  refine ev_getr (M := MX0_become) (r := (b + 2)) 4 dX0_become_44 (hH_0 Hb) ck0 (Nat.le_of_ble_eq_true rfl) rfl w97 ?_
  refine ev_iconst dX0_become_47 ci_0 ?_
  refine ev_iconst dX0_become_48 ci_4 ?_
  refine ev_copy dX0_become_49 w435 w437 w436 w64 (hH_2 Hp0) (hH_2 Hb) (by decide) (by decide) (by decide) (Nat.le_of_ble_eq_true rfl) (Nat.le_of_ble_eq_true rfl) (Nat.le_of_ble_eq_true rfl) (Nat.le_of_ble_eq_true rfl) ?_
  rw [show ((0 : Int32)).toNatClampNeg = 0 from rfl, show ((4 : Int32)).toNatClampNeg = 4 from rfl]
  refine ev_topd (fun d5 ed5 => ?_)
  have h := h d5 ed5
  refine ev_aload_n dX0_become_52 rfl ?_
  refine ev_getr (M := MX0_become) (r := (p0 + 3)) 5 dX0_become_53 (hH_0 Hp0) ck0 (Nat.le_of_ble_eq_true rfl) rfl w101 ?_
  refine ev_iconst dX0_become_56 ci_0 ?_
  refine ev_aload_n dX0_become_57 rfl ?_
  refine ev_getr (M := MX0_become) (r := (b + 3)) 5 dX0_become_58 (hH_0 Hb) ck0 (Nat.le_of_ble_eq_true rfl) rfl w101 ?_
  refine ev_iconst dX0_become_61 ci_0 ?_
  refine ev_iconst dX0_become_62 ci_4 ?_
  refine ev_copy dX0_become_63 w435 w437 w436 w64 (hH_3 Hp0) (hH_3 Hb) (by decide) (by decide) (by decide) (Nat.le_of_ble_eq_true rfl) (Nat.le_of_ble_eq_true rfl) (Nat.le_of_ble_eq_true rfl) (Nat.le_of_ble_eq_true rfl) ?_
  rw [show ((0 : Int32)).toNatClampNeg = 0 from rfl, show ((4 : Int32)).toNatClampNeg = 4 from rfl]
  refine ev_topd (fun d6 ed6 => ?_)
  have h := h d6 ed6
  refine ev_aload_n dX0_become_66 rfl ?_
  refine ev_getr (M := MX0_become) (r := (p0 + 4)) 6 dX0_become_67 (hH_0 Hp0) ck0 (Nat.le_of_ble_eq_true rfl) rfl w104 ?_
  refine ev_iconst dX0_become_70 ci_0 ?_
  refine ev_aload_n dX0_become_71 rfl ?_
  refine ev_getr (M := MX0_become) (r := (b + 4)) 6 dX0_become_72 (hH_0 Hb) ck0 (Nat.le_of_ble_eq_true rfl) rfl w104 ?_
  refine ev_iconst dX0_become_75 ci_0 ?_
  refine ev_iconst dX0_become_76 ci_4 ?_
  refine ev_copy dX0_become_77 w435 w437 w436 w64 (hH_4 Hp0) (hH_4 Hb) (by decide) (by decide) (by decide) (Nat.le_of_ble_eq_true rfl) (Nat.le_of_ble_eq_true rfl) (Nat.le_of_ble_eq_true rfl) (Nat.le_of_ble_eq_true rfl) ?_
  rw [show ((0 : Int32)).toNatClampNeg = 0 from rfl, show ((4 : Int32)).toNatClampNeg = 4 from rfl]
  refine ev_topd (fun d7 ed7 => ?_)
  have h := h d7 ed7
  refine ev_aload_n dX0_become_80 rfl ?_
  refine ev_getr (M := MX0_become) (r := (p0 + 5)) 7 dX0_become_81 (hH_0 Hp0) ck0 (Nat.le_of_ble_eq_true rfl) rfl w108 ?_
  refine ev_iconst dX0_become_84 ci_0 ?_
  refine ev_aload_n dX0_become_85 rfl ?_
  refine ev_getr (M := MX0_become) (r := (b + 5)) 7 dX0_become_86 (hH_0 Hb) ck0 (Nat.le_of_ble_eq_true rfl) rfl w108 ?_
  refine ev_iconst dX0_become_89 ci_0 ?_
  refine ev_bipush dX0_become_90 cb_32 ?_
  refine ev_copy dX0_become_92 w435 w437 w436 w64 (hH_5 Hp0) (hH_5 Hb) (by decide) (by decide) (by decide) (Nat.le_of_ble_eq_true rfl) (Nat.le_of_ble_eq_true rfl) (Nat.le_of_ble_eq_true rfl) (Nat.le_of_ble_eq_true rfl) ?_
  rw [show ((0 : Int32)).toNatClampNeg = 0 from rfl, show ((32 : Int32)).toNatClampNeg = 32 from rfl]
  refine ev_topd (fun d8 ed8 => ?_)
  have h := h d8 ed8
  refine ev_aload_n dX0_become_95 rfl ?_
  refine ev_getr (M := MX0_become) (r := (p0 + 6)) 8 dX0_become_96 (hH_0 Hp0) ck0 (Nat.le_of_ble_eq_true rfl) rfl w111 ?_
  refine ev_iconst dX0_become_99 ci_0 ?_
  refine ev_aload_n dX0_become_100 rfl ?_
  refine ev_getr (M := MX0_become) (r := (b + 6)) 8 dX0_become_101 (hH_0 Hb) ck0 (Nat.le_of_ble_eq_true rfl) rfl w111 ?_
  refine ev_iconst dX0_become_104 ci_0 ?_
  refine ev_iconst dX0_become_105 ci_4 ?_
  refine ev_copy dX0_become_106 w435 w437 w436 w64 (hH_6 Hp0) (hH_6 Hb) (by decide) (by decide) (by decide) (Nat.le_of_ble_eq_true rfl) (Nat.le_of_ble_eq_true rfl) (Nat.le_of_ble_eq_true rfl) (Nat.le_of_ble_eq_true rfl) ?_
  rw [show ((0 : Int32)).toNatClampNeg = 0 from rfl, show ((4 : Int32)).toNatClampNeg = 4 from rfl]
  refine ev_topd (fun d9 ed9 => ?_)
  have h := h d9 ed9
  refine ev_aload_n dX0_become_109 rfl ?_
  refine ev_getr (M := MX0_become) (r := (p0 + 7)) 9 dX0_become_110 (hH_0 Hp0) ck0 (Nat.le_of_ble_eq_true rfl) rfl w115 ?_
  refine ev_iconst dX0_become_113 ci_0 ?_
  refine ev_aload_n dX0_become_114 rfl ?_
  refine ev_getr (M := MX0_become) (r := (b + 7)) 9 dX0_become_115 (hH_0 Hb) ck0 (Nat.le_of_ble_eq_true rfl) rfl w115 ?_
  refine ev_iconst dX0_become_118 ci_0 ?_
  refine ev_iconst dX0_become_119 ci_4 ?_
  refine ev_copy dX0_become_120 w435 w437 w436 w64 (hH_7 Hp0) (hH_7 Hb) (by decide) (by decide) (by decide) (Nat.le_of_ble_eq_true rfl) (Nat.le_of_ble_eq_true rfl) (Nat.le_of_ble_eq_true rfl) (Nat.le_of_ble_eq_true rfl) ?_
  rw [show ((0 : Int32)).toNatClampNeg = 0 from rfl, show ((4 : Int32)).toNatClampNeg = 4 from rfl]
  refine ev_topd (fun d10 ed10 => ?_)
  have h := h d10 ed10
  refine ev_aload_n dX0_become_123 rfl ?_
  refine ev_getr (M := MX0_become) (r := (p0 + 8)) 10 dX0_become_124 (hH_0 Hp0) ck0 (Nat.le_of_ble_eq_true rfl) rfl w119 ?_
  refine ev_iconst dX0_become_127 ci_0 ?_
  refine ev_aload_n dX0_become_128 rfl ?_
  refine ev_getr (M := MX0_become) (r := (b + 8)) 10 dX0_become_129 (hH_0 Hb) ck0 (Nat.le_of_ble_eq_true rfl) rfl w119 ?_
  refine ev_iconst dX0_become_132 ci_0 ?_
  refine ev_iconst dX0_become_133 ci_4 ?_
  refine ev_copy dX0_become_134 w435 w437 w436 w64 (hH_8 Hp0) (hH_8 Hb) (by decide) (by decide) (by decide) (Nat.le_of_ble_eq_true rfl) (Nat.le_of_ble_eq_true rfl) (Nat.le_of_ble_eq_true rfl) (Nat.le_of_ble_eq_true rfl) ?_
  rw [show ((0 : Int32)).toNatClampNeg = 0 from rfl, show ((4 : Int32)).toNatClampNeg = 4 from rfl]
  refine ev_topd (fun d11 ed11 => ?_)
  have h := h d11 ed11
  refine ev_aload_n dX0_become_137 rfl ?_
  refine ev_getr (M := MX0_become) (r := (p0 + 9)) 11 dX0_become_138 (hH_0 Hp0) ck0 (Nat.le_of_ble_eq_true rfl) rfl w123 ?_
  refine ev_iconst dX0_become_141 ci_0 ?_
  refine ev_aload_n dX0_become_142 rfl ?_
  refine ev_getr (M := MX0_become) (r := (b + 9)) 11 dX0_become_143 (hH_0 Hb) ck0 (Nat.le_of_ble_eq_true rfl) rfl w123 ?_
  refine ev_iconst dX0_become_146 ci_0 ?_
  refine ev_iconst dX0_become_147 ci_4 ?_
  refine ev_copy dX0_become_148 w435 w437 w436 w64 (hH_9 Hp0) (hH_9 Hb) (by decide) (by decide) (by decide) (Nat.le_of_ble_eq_true rfl) (Nat.le_of_ble_eq_true rfl) (Nat.le_of_ble_eq_true rfl) (Nat.le_of_ble_eq_true rfl) ?_
  rw [show ((0 : Int32)).toNatClampNeg = 0 from rfl, show ((4 : Int32)).toNatClampNeg = 4 from rfl]
  refine ev_topd (fun d12 ed12 => ?_)
  have h := h d12 ed12
  refine ev_aload_n dX0_become_151 rfl ?_
  refine ev_getr (M := MX0_become) (r := (p0 + 10)) 12 dX0_become_152 (hH_0 Hp0) ck0 (Nat.le_of_ble_eq_true rfl) rfl w127 ?_
  refine ev_iconst dX0_become_155 ci_0 ?_
  refine ev_aload_n dX0_become_156 rfl ?_
  refine ev_getr (M := MX0_become) (r := (b + 10)) 12 dX0_become_157 (hH_0 Hb) ck0 (Nat.le_of_ble_eq_true rfl) rfl w127 ?_
  refine ev_iconst dX0_become_160 ci_0 ?_
  refine ev_bipush dX0_become_161 cb_6 ?_
  refine ev_copy dX0_become_163 w435 w437 w436 w64 (hH_10 Hp0) (hH_10 Hb) (by decide) (by decide) (by decide) (Nat.le_of_ble_eq_true rfl) (Nat.le_of_ble_eq_true rfl) (Nat.le_of_ble_eq_true rfl) (Nat.le_of_ble_eq_true rfl) ?_
  rw [show ((0 : Int32)).toNatClampNeg = 0 from rfl, show ((6 : Int32)).toNatClampNeg = 6 from rfl]
  refine ev_topd (fun d13 ed13 => ?_)
  have h := h d13 ed13
  exact ev_ret (M := MX0_become) dX0_become_166 rfl rfl h
-- X0_hasTune
theorem cn_X0_hasTune {q : Int32 → DD → Prop} {d : DD} {b : Nat} (Hb : isH b) {p0 : Int32} (h : (Cn SX MX4_within [.int p0, .int 0, .int ((d b 0) - 1)] d (rI fun r2 d1 => (narrow .boolean (.int r2) = .int r2 ∧ q r2 d1)))) : Cn SX MX0_hasTune [.ref b, .int p0] d (rI q) := by
  refine cn_of (ls := [.ref b, .int p0]) (by decide) rfl rfl (Nat.le_of_ble_eq_true rfl) ?_
  refine ev_iload_n dX0_hasTune_0 rfl ?_
  refine ev_iconst dX0_hasTune_1 ci_0 ?_
  refine ev_aload_n dX0_hasTune_2 rfl ?_
  refine ev_get 0 dX0_hasTune_3 (hH_0 Hb) ck0 (Nat.le_of_ble_eq_true rfl) rfl w81 ?_
  refine ev_iconst dX0_hasTune_6 ci_1 ?_
  refine ev_isub dX0_hasTune_7 ?_
  refine ev_callNi (M := MX0_hasTune) (M2 := MX4_within) (As := [.int p0, .int 0, .int ((d b 0) - 1)]) (rest := []) dX0_hasTune_8 1 nest_1 moX4_within rfl ⟨Nat.le_of_ble_eq_true rfl, Nat.le_of_ble_eq_true rfl⟩ rfl rfl (Nat.le_of_ble_eq_true rfl) h (fun r2 d1 h => ?_)
  have h := rI_dn h
  exact ev_ireti (M := MX0_hasTune) (ty := .boolean) dX0_hasTune_11 rfl rfl h.1 h.2
-- X0_hasNote
theorem cn_X0_hasNote {q : Int32 → DD → Prop} {d : DD} {b : Nat} (Hb : isH b) {p0 : Int32} {p1 : Int32} (h : (Cn SX MX0_hasTune [.ref b, .int p0] d (rI fun r2 d1 => ((r2 = 0 → q 0 d1) ∧ (¬ r2 = 0 → (vp_in p0 4 ∧ (Cn SX MX4_within [.int p1, .int 0, .int ((d1 (b + 2) p0.toNatClampNeg) - 1)] d1 (rI fun r5 d4 => ((r5 = 0 → q 0 d4) ∧ (¬ r5 = 0 → q 1 d4)))))))))) : Cn SX MX0_hasNote [.ref b, .int p0, .int p1] d (rI q) := by
  refine cn_of (ls := [.ref b, .int p0, .int p1]) (by decide) rfl rfl (Nat.le_of_ble_eq_true rfl) ?_
  refine ev_aload_n dX0_hasNote_0 rfl ?_
  refine ev_iload_n dX0_hasNote_1 rfl ?_
  refine ev_callVi (M := MX0_hasNote) (M2 := MX0_hasTune) (As := [.int p0]) (rest := []) dX0_hasNote_2 (hH_0 Hb) ck0 rfl w426 moX0_hasTune rfl ⟨Nat.le_of_ble_eq_true rfl, Nat.le_of_ble_eq_true rfl⟩ rfl rfl (Nat.le_of_ble_eq_true rfl) h (fun r2 d1 h => ?_)
  have h := rI_dn h
  refine ev_if_eq (M := MX0_hasNote) (tgt := 28) dX0_hasNote_5 rfl (fun c3 => ?_) (fun c3 => ?_)
  · have h := h.1 c3
    refine ev_iconst dX0_hasNote_28 ci_0 ?_
    exact ev_ireti (M := MX0_hasNote) (ty := .boolean) dX0_hasNote_29 rfl rfl rfl h
  · have h := h.2 c3
    refine ev_iload_n dX0_hasNote_8 rfl ?_
    refine ev_iconst dX0_hasNote_9 ci_0 ?_
    refine ev_aload_n dX0_hasNote_10 rfl ?_
    refine ev_getr (M := MX0_hasNote) (r := (b + 2)) 4 dX0_hasNote_11 (hH_0 Hb) ck0 (Nat.le_of_ble_eq_true rfl) rfl w97 ?_
    refine ev_iload_n dX0_hasNote_14 rfl ?_
    obtain ⟨g, h⟩ := h
    refine ev_iald dX0_hasNote_15 (hH_2 Hb) g ?_
    refine ev_iconst dX0_hasNote_16 ci_1 ?_
    refine ev_isub dX0_hasNote_17 ?_
    refine ev_callNi (M := MX0_hasNote) (M2 := MX4_within) (As := [.int p1, .int 0, .int ((d1 (b + 2) p0.toNatClampNeg) - 1)]) (rest := []) dX0_hasNote_18 1 nest_1 moX4_within rfl ⟨Nat.le_of_ble_eq_true rfl, Nat.le_of_ble_eq_true rfl⟩ rfl rfl (Nat.le_of_ble_eq_true rfl) h (fun r5 d4 h => ?_)
    have h := rI_dn h
    refine ev_if_eq (M := MX0_hasNote) (tgt := 28) dX0_hasNote_21 rfl (fun c6 => ?_) (fun c6 => ?_)
    · have h := h.1 c6
      refine ev_iconst dX0_hasNote_28 ci_0 ?_
      exact ev_ireti (M := MX0_hasNote) (ty := .boolean) dX0_hasNote_29 rfl rfl rfl h
    · have h := h.2 c6
      refine ev_iconst dX0_hasNote_24 ci_1 ?_
      refine ev_goto (M := MX0_hasNote) (tgt := 29) dX0_hasNote_25 rfl ?_
      exact ev_ireti (M := MX0_hasNote) (ty := .boolean) dX0_hasNote_29 rfl rfl rfl h
-- X0_hasPlayer
theorem cn_X0_hasPlayer {q : Int32 → DD → Prop} {d : DD} {b : Nat} (Hb : isH b) {p0 : Int32} (h : (Cn SX MX4_within [.int p0, .int 0, .int ((d b 1) - 1)] d (rI fun r2 d1 => (narrow .boolean (.int r2) = .int r2 ∧ q r2 d1)))) : Cn SX MX0_hasPlayer [.ref b, .int p0] d (rI q) := by
  refine cn_of (ls := [.ref b, .int p0]) (by decide) rfl rfl (Nat.le_of_ble_eq_true rfl) ?_
  refine ev_iload_n dX0_hasPlayer_0 rfl ?_
  refine ev_iconst dX0_hasPlayer_1 ci_0 ?_
  refine ev_aload_n dX0_hasPlayer_2 rfl ?_
  refine ev_get 1 dX0_hasPlayer_3 (hH_0 Hb) ck0 (Nat.le_of_ble_eq_true rfl) rfl w85 ?_
  refine ev_iconst dX0_hasPlayer_6 ci_1 ?_
  refine ev_isub dX0_hasPlayer_7 ?_
  refine ev_callNi (M := MX0_hasPlayer) (M2 := MX4_within) (As := [.int p0, .int 0, .int ((d b 1) - 1)]) (rest := []) dX0_hasPlayer_8 1 nest_1 moX4_within rfl ⟨Nat.le_of_ble_eq_true rfl, Nat.le_of_ble_eq_true rfl⟩ rfl rfl (Nat.le_of_ble_eq_true rfl) h (fun r2 d1 h => ?_)
  have h := rI_dn h
  exact ev_ireti (M := MX0_hasPlayer) (ty := .boolean) dX0_hasPlayer_11 rfl rfl h.1 h.2
-- X0_hasPrisoner
theorem cn_X0_hasPrisoner {q : Int32 → DD → Prop} {d : DD} {b : Nat} (Hb : isH b) {p0 : Int32} (h : (Cn SX MX4_within [.int p0, .int 0, .int ((d b 2) - 1)] d (rI fun r2 d1 => (narrow .boolean (.int r2) = .int r2 ∧ q r2 d1)))) : Cn SX MX0_hasPrisoner [.ref b, .int p0] d (rI q) := by
  refine cn_of (ls := [.ref b, .int p0]) (by decide) rfl rfl (Nat.le_of_ble_eq_true rfl) ?_
  refine ev_iload_n dX0_hasPrisoner_0 rfl ?_
  refine ev_iconst dX0_hasPrisoner_1 ci_0 ?_
  refine ev_aload_n dX0_hasPrisoner_2 rfl ?_
  refine ev_get 2 dX0_hasPrisoner_3 (hH_0 Hb) ck0 (Nat.le_of_ble_eq_true rfl) rfl w89 ?_
  refine ev_iconst dX0_hasPrisoner_6 ci_1 ?_
  refine ev_isub dX0_hasPrisoner_7 ?_
  refine ev_callNi (M := MX0_hasPrisoner) (M2 := MX4_within) (As := [.int p0, .int 0, .int ((d b 2) - 1)]) (rest := []) dX0_hasPrisoner_8 1 nest_1 moX4_within rfl ⟨Nat.le_of_ble_eq_true rfl, Nat.le_of_ble_eq_true rfl⟩ rfl rfl (Nat.le_of_ble_eq_true rfl) h (fun r2 d1 h => ?_)
  have h := rI_dn h
  exact ev_ireti (M := MX0_hasPrisoner) (ty := .boolean) dX0_hasPrisoner_11 rfl rfl h.1 h.2
-- X0_rowLength
theorem cn_X0_rowLength {q : Int32 → DD → Prop} {d : DD} {p0 : Int32} {p1 : Int32} (h : ((p0 = 1 → q (p1 + ((p1 + 1) / 2)) d) ∧ (¬ p0 = 1 → ((p0 = 2 → q (2 * p1) d) ∧ (¬ p0 = 2 → q p1 d))))) : Cn SX MX0_rowLength [.int p0, .int p1] d (rI q) := by
  refine cn_of (ls := [.int p0, .int p1]) (by decide) rfl rfl (Nat.le_of_ble_eq_true rfl) ?_
  refine ev_iload_n dX0_rowLength_0 rfl ?_
  by_cases c1 : p0 = 1
  · have h := h.1 c1
    refine ev_lsw (M := MX0_rowLength) (tgt := 28) dX0_rowLength_1 (by decide) (by rw [sw_eq 1 c1 (by decide)]) rfl ?_
    refine ev_iload_n dX0_rowLength_28 rfl ?_
    refine ev_iload_n dX0_rowLength_29 rfl ?_
    refine ev_iconst dX0_rowLength_30 ci_1 ?_
    refine ev_iadd dX0_rowLength_31 ?_
    refine ev_iconst dX0_rowLength_32 ci_2 ?_
    refine ev_idiv dX0_rowLength_33 (by decide) ?_
    refine ev_iadd dX0_rowLength_34 ?_
    exact ev_ireti (M := MX0_rowLength) (ty := .int) dX0_rowLength_35 rfl rfl rfl h
  · have h := h.2 c1
    by_cases c2 : p0 = 2
    · have h := h.1 c2
      refine ev_lsw (M := MX0_rowLength) (tgt := 36) dX0_rowLength_1 (by decide) (by rw [sw_eq 2 c2 (by decide)]) rfl ?_
      refine ev_iconst dX0_rowLength_36 ci_2 ?_
      refine ev_iload_n dX0_rowLength_37 rfl ?_
      refine ev_imul dX0_rowLength_38 ?_
      exact ev_ireti (M := MX0_rowLength) (ty := .int) dX0_rowLength_39 rfl rfl rfl h
    · have h := h.2 c2
      have nc1 := sw_ne 1 c1 (by decide)
      have nc2 := sw_ne 2 c2 (by decide)
      refine ev_lsw (M := MX0_rowLength) (off := 39) (tgt := 40) dX0_rowLength_1 (by decide) (lsw_d2 nc1 nc2) rfl ?_
      refine ev_iload_n dX0_rowLength_40 rfl ?_
      exact ev_ireti (M := MX0_rowLength) (ty := .int) dX0_rowLength_41 rfl rfl rfl h
-- X0_lengthAs
theorem cn_X0_lengthAs {q : Int32 → DD → Prop} {d : DD} {b : Nat} (Hb : isH b) {p0 : Int32} {p1 : Int32} (h : (vp_in p0 4 ∧ (vp_in p0 4 ∧ (Cn SX MX0_rowLength [.int p1, .int (d (b + 2) p0.toNatClampNeg)] d (rI fun r2 d1 => q ((d (b + 3) p0.toNatClampNeg) * r2) d1))))) : Cn SX MX0_lengthAs [.ref b, .int p0, .int p1] d (rI q) := by
  refine cn_of (ls := [.ref b, .int p0, .int p1]) (by decide) rfl rfl (Nat.le_of_ble_eq_true rfl) ?_
  refine ev_aload_n dX0_lengthAs_0 rfl ?_
  refine ev_getr (M := MX0_lengthAs) (r := (b + 3)) 5 dX0_lengthAs_1 (hH_0 Hb) ck0 (Nat.le_of_ble_eq_true rfl) rfl w101 ?_
  refine ev_iload_n dX0_lengthAs_4 rfl ?_
  obtain ⟨g, h⟩ := h
  refine ev_iald dX0_lengthAs_5 (hH_3 Hb) g ?_
  refine ev_iload_n dX0_lengthAs_6 rfl ?_
  refine ev_aload_n dX0_lengthAs_7 rfl ?_
  refine ev_getr (M := MX0_lengthAs) (r := (b + 2)) 4 dX0_lengthAs_8 (hH_0 Hb) ck0 (Nat.le_of_ble_eq_true rfl) rfl w97 ?_
  refine ev_iload_n dX0_lengthAs_11 rfl ?_
  obtain ⟨g, h⟩ := h
  refine ev_iald dX0_lengthAs_12 (hH_2 Hb) g ?_
  refine ev_callSi (M := MX0_lengthAs) (M2 := MX0_rowLength) (As := [.int p1, .int (d (b + 2) p0.toNatClampNeg)]) (rest := [.int (d (b + 3) p0.toNatClampNeg)]) dX0_lengthAs_13 w456 moX0_rowLength rfl ⟨Nat.le_of_ble_eq_true rfl, Nat.le_of_ble_eq_true rfl⟩ rfl rfl (Nat.le_of_ble_eq_true rfl) h (fun r2 d1 h => ?_)
  have h := rI_dn h
  refine ev_imul dX0_lengthAs_16 ?_
  exact ev_ireti (M := MX0_lengthAs) (ty := .int) dX0_lengthAs_17 rfl rfl rfl h
-- X0_rowNote
theorem cn_X0_rowNote {q : Int32 → DD → Prop} {d : DD} {b : Nat} (Hb : isH b) {p0 : Int32} {p1 : Int32} {p2 : Int32} (h : (vp_in p0 4 ∧ (∀ x1 : Int32, x1 = (d (b + 2) p0.toNatClampNeg) → ((¬ p1 = 2 → ((x1 ≤ p2 → Ev SX MX0_rowNote 50 [.ref b, .int p0, .int p1, .int p2, .int x1, .int (p2 - x1), uJ] [.int (p2 - x1), .int (p0 * 8), .ref (b + 5)] d (rI q)) ∧ (¬ x1 ≤ p2 → Ev SX MX0_rowNote 50 [.ref b, .int p0, .int p1, .int p2, .int x1, .int (p2 - x1), uJ] [.int p2, .int (p0 * 8), .ref (b + 5)] d (rI q)))) ∧ (p1 = 2 → (∀ x4 : Int32, x4 = (((2 * x1) - 1) - p2) → ((x1 ≤ p2 → Ev SX MX0_rowNote 50 [.ref b, .int p0, .int p1, .int p2, .int x1, .int x4, uJ] [.int x4, .int (p0 * 8), .ref (b + 5)] d (rI q)) ∧ (¬ x1 ≤ p2 → Ev SX MX0_rowNote 50 [.ref b, .int p0, .int p1, .int p2, .int x1, .int x4, uJ] [.int p2, .int (p0 * 8), .ref (b + 5)] d (rI q))))))))) : Cn SX MX0_rowNote [.ref b, .int p0, .int p1, .int p2] d (rI q) := by
  refine cn_of (ls := [.ref b, .int p0, .int p1, .int p2, uJ, uJ, uJ]) (by decide) rfl rfl (Nat.le_of_ble_eq_true rfl) ?_
  refine ev_aload_n dX0_rowNote_0 rfl ?_
  refine ev_getr (M := MX0_rowNote) (r := (b + 2)) 4 dX0_rowNote_1 (hH_0 Hb) ck0 (Nat.le_of_ble_eq_true rfl) rfl w97 ?_
  refine ev_iload_n dX0_rowNote_4 rfl ?_
  obtain ⟨g, h⟩ := h
  refine ev_iald dX0_rowNote_5 (hH_2 Hb) g ?_
  refine ev_topi (fun x1 ex1 => ?_)
  have h := h x1 ex1
  refine ev_istore (M := MX0_rowNote) (ls2 := [.ref b, .int p0, .int p1, .int p2, .int x1, uJ, uJ]) dX0_rowNote_6 (Nat.le_of_ble_eq_true rfl) rfl ?_
  refine ev_iload_n dX0_rowNote_8 rfl ?_
  refine ev_iconst dX0_rowNote_9 ci_2 ?_
  refine ev_icmp_ne (M := MX0_rowNote) (tgt := 24) dX0_rowNote_10 rfl (fun c2 => ?_) (fun c2 => ?_)
  · have h := h.1 c2
    refine ev_iload_n dX0_rowNote_24 rfl ?_
    refine ev_iload dX0_rowNote_25 rfl ?_
    refine ev_isub dX0_rowNote_27 ?_
    refine ev_istore (M := MX0_rowNote) (ls2 := [.ref b, .int p0, .int p1, .int p2, .int x1, .int (p2 - x1), uJ]) dX0_rowNote_28 (Nat.le_of_ble_eq_true rfl) rfl ?_
    refine ev_aload_n dX0_rowNote_30 rfl ?_
    refine ev_getr (M := MX0_rowNote) (r := (b + 5)) 7 dX0_rowNote_31 (hH_0 Hb) ck0 (Nat.le_of_ble_eq_true rfl) rfl w108 ?_
    refine ev_iload_n dX0_rowNote_34 rfl ?_
    refine ev_bipush dX0_rowNote_35 cb_8 ?_
    refine ev_imul dX0_rowNote_37 ?_
    refine ev_iload_n dX0_rowNote_38 rfl ?_
    refine ev_iload dX0_rowNote_39 rfl ?_
    refine ev_icmp_ge (M := MX0_rowNote) (tgt := 48) dX0_rowNote_41 rfl (fun c3 => ?_) (fun c3 => ?_)
    · have h := h.1 c3
      refine ev_iload dX0_rowNote_48 rfl ?_
      exact h
    · have h := h.2 c3
      refine ev_iload_n dX0_rowNote_44 rfl ?_
      refine ev_goto (M := MX0_rowNote) (tgt := 50) dX0_rowNote_45 rfl ?_
      exact h
  · have h := h.2 c2
    refine ev_iconst dX0_rowNote_13 ci_2 ?_
    refine ev_iload dX0_rowNote_14 rfl ?_
    refine ev_imul dX0_rowNote_16 ?_
    refine ev_iconst dX0_rowNote_17 ci_1 ?_
    refine ev_isub dX0_rowNote_18 ?_
    refine ev_iload_n dX0_rowNote_19 rfl ?_
    refine ev_isub dX0_rowNote_20 ?_
    refine ev_goto (M := MX0_rowNote) (tgt := 28) dX0_rowNote_21 rfl ?_
    refine ev_topi (fun x4 ex4 => ?_)
    have h := h x4 ex4
    refine ev_istore (M := MX0_rowNote) (ls2 := [.ref b, .int p0, .int p1, .int p2, .int x1, .int x4, uJ]) dX0_rowNote_28 (Nat.le_of_ble_eq_true rfl) rfl ?_
    refine ev_aload_n dX0_rowNote_30 rfl ?_
    refine ev_getr (M := MX0_rowNote) (r := (b + 5)) 7 dX0_rowNote_31 (hH_0 Hb) ck0 (Nat.le_of_ble_eq_true rfl) rfl w108 ?_
    refine ev_iload_n dX0_rowNote_34 rfl ?_
    refine ev_bipush dX0_rowNote_35 cb_8 ?_
    refine ev_imul dX0_rowNote_37 ?_
    refine ev_iload_n dX0_rowNote_38 rfl ?_
    refine ev_iload dX0_rowNote_39 rfl ?_
    refine ev_icmp_ge (M := MX0_rowNote) (tgt := 48) dX0_rowNote_41 rfl (fun c5 => ?_) (fun c5 => ?_)
    · have h := h.1 c5
      refine ev_iload dX0_rowNote_48 rfl ?_
      exact h
    · have h := h.2 c5
      refine ev_iload_n dX0_rowNote_44 rfl ?_
      refine ev_goto (M := MX0_rowNote) (tgt := 50) dX0_rowNote_45 rfl ?_
      exact h
theorem bk_X0_rowNote_50 {q : Int32 → DD → Prop} {d : DD} {b : Nat} (Hb : isH b) {l1 : Int32} {l2 : Int32} {l3 : Int32} {l4 : Int32} {l5 : Int32} {k0 : Int32} {k1 : Int32} (h : (vp_in (k1 + k0) 32 ∧ (∀ x1 : Int32, x1 = (d (b + 5) (k1 + k0).toNatClampNeg) → ((¬ l2 = 3 → q x1 d) ∧ (l2 = 3 → q (if (x1 - 1) < 0 then 0 else (x1 - 1)) d))))) : Ev SX MX0_rowNote 50 [.ref b, .int l1, .int l2, .int l3, .int l4, .int l5, uJ] [.int k0, .int k1, .ref (b + 5)] d (rI q) := by
  refine ev_iadd dX0_rowNote_50 ?_
  obtain ⟨g, h⟩ := h
  refine ev_iald dX0_rowNote_51 (hH_5 Hb) g ?_
  refine ev_topi (fun x1 ex1 => ?_)
  have h := h x1 ex1
  refine ev_istore (M := MX0_rowNote) (ls2 := [.ref b, .int l1, .int l2, .int l3, .int l4, .int l5, .int x1]) dX0_rowNote_52 (Nat.le_of_ble_eq_true rfl) rfl ?_
  refine ev_iload_n dX0_rowNote_54 rfl ?_
  refine ev_iconst dX0_rowNote_55 ci_3 ?_
  refine ev_icmp_ne (M := MX0_rowNote) (tgt := 70) dX0_rowNote_56 rfl (fun c2 => ?_) (fun c2 => ?_)
  · have h := h.1 c2
    refine ev_iload dX0_rowNote_70 rfl ?_
    exact ev_ireti (M := MX0_rowNote) (ty := .int) dX0_rowNote_72 rfl rfl rfl h
  · have h := h.2 c2
    refine ev_iload dX0_rowNote_59 rfl ?_
    refine ev_iconst dX0_rowNote_61 ci_1 ?_
    refine ev_isub dX0_rowNote_62 ?_
    refine ev_iconst dX0_rowNote_63 ci_0 ?_
    refine ev_mmax dX0_rowNote_64 w483 w484 w65 w485 (Nat.le_of_ble_eq_true rfl) (Nat.le_of_ble_eq_true rfl) ?_
    refine ev_goto (M := MX0_rowNote) (tgt := 72) dX0_rowNote_67 rfl ?_
    exact ev_ireti (M := MX0_rowNote) (ty := .int) dX0_rowNote_72 rfl rfl rfl h
-- X0_noteAs
theorem cn_X0_noteAs {q : Int32 → DD → Prop} {d : DD} {b : Nat} (Hb : isH b) {p0 : Int32} {p1 : Int32} {p2 : Int32} (h : (vp_in p0 4 ∧ (Cn SX MX0_rowLength [.int p1, .int (d (b + 2) p0.toNatClampNeg)] d (rI fun r2 d1 => (vp_in p0 4 ∧ (∀ x3 : Int32, x3 = (p2 - (d1 (b + 4) p0.toNatClampNeg)) → ((r2 < 1 → q (-4) d1) ∧ (¬ r2 < 1 → ((x3 < 0 → q (-4) d1) ∧ (¬ x3 < 0 → (vp_in p0 4 ∧ ((x3 < ((d1 (b + 3) p0.toNatClampNeg) * r2) → ((¬ r2 = 0) ∧ (Cn SX MX0_rowNote [.ref b, .int p0, .int p1, .int (jrem x3 r2)] d1 (rI fun r8 d7 => q r8 d7)))) ∧ (¬ x3 < ((d1 (b + 3) p0.toNatClampNeg) * r2) → q (-4) d1))))))))))))) : Cn SX MX0_noteAs [.ref b, .int p0, .int p1, .int p2] d (rI q) := by
  refine cn_of (ls := [.ref b, .int p0, .int p1, .int p2, uJ, uJ]) (by decide) rfl rfl (Nat.le_of_ble_eq_true rfl) ?_
  refine ev_iload_n dX0_noteAs_0 rfl ?_
  refine ev_aload_n dX0_noteAs_1 rfl ?_
  refine ev_getr (M := MX0_noteAs) (r := (b + 2)) 4 dX0_noteAs_2 (hH_0 Hb) ck0 (Nat.le_of_ble_eq_true rfl) rfl w97 ?_
  refine ev_iload_n dX0_noteAs_5 rfl ?_
  obtain ⟨g, h⟩ := h
  refine ev_iald dX0_noteAs_6 (hH_2 Hb) g ?_
  refine ev_callSi (M := MX0_noteAs) (M2 := MX0_rowLength) (As := [.int p1, .int (d (b + 2) p0.toNatClampNeg)]) (rest := []) dX0_noteAs_7 w456 moX0_rowLength rfl ⟨Nat.le_of_ble_eq_true rfl, Nat.le_of_ble_eq_true rfl⟩ rfl rfl (Nat.le_of_ble_eq_true rfl) h (fun r2 d1 h => ?_)
  have h := rI_dn h
  refine ev_istore (M := MX0_noteAs) (ls2 := [.ref b, .int p0, .int p1, .int p2, .int r2, uJ]) dX0_noteAs_10 (Nat.le_of_ble_eq_true rfl) rfl ?_
  refine ev_iload_n dX0_noteAs_12 rfl ?_
  refine ev_aload_n dX0_noteAs_13 rfl ?_
  refine ev_getr (M := MX0_noteAs) (r := (b + 4)) 6 dX0_noteAs_14 (hH_0 Hb) ck0 (Nat.le_of_ble_eq_true rfl) rfl w104 ?_
  refine ev_iload_n dX0_noteAs_17 rfl ?_
  obtain ⟨g, h⟩ := h
  refine ev_iald dX0_noteAs_18 (hH_4 Hb) g ?_
  refine ev_isub dX0_noteAs_19 ?_
  refine ev_topi (fun x3 ex3 => ?_)
  have h := h x3 ex3
  refine ev_istore (M := MX0_noteAs) (ls2 := [.ref b, .int p0, .int p1, .int p2, .int r2, .int x3]) dX0_noteAs_20 (Nat.le_of_ble_eq_true rfl) rfl ?_
  refine ev_iload dX0_noteAs_22 rfl ?_
  refine ev_iconst dX0_noteAs_24 ci_1 ?_
  refine ev_icmp_lt (M := MX0_noteAs) (tgt := 47) dX0_noteAs_25 rfl (fun c4 => ?_) (fun c4 => ?_)
  · have h := h.1 c4
    refine ev_bipush dX0_noteAs_47 cb_m4 ?_
    exact ev_ireti (M := MX0_noteAs) (ty := .int) dX0_noteAs_49 rfl rfl rfl h
  · have h := h.2 c4
    refine ev_iload dX0_noteAs_28 rfl ?_
    refine ev_if_lt (M := MX0_noteAs) (tgt := 47) dX0_noteAs_30 rfl (fun c5 => ?_) (fun c5 => ?_)
    · have h := h.1 c5
      refine ev_bipush dX0_noteAs_47 cb_m4 ?_
      exact ev_ireti (M := MX0_noteAs) (ty := .int) dX0_noteAs_49 rfl rfl rfl h
    · have h := h.2 c5
      refine ev_iload dX0_noteAs_33 rfl ?_
      refine ev_aload_n dX0_noteAs_35 rfl ?_
      refine ev_getr (M := MX0_noteAs) (r := (b + 3)) 5 dX0_noteAs_36 (hH_0 Hb) ck0 (Nat.le_of_ble_eq_true rfl) rfl w101 ?_
      refine ev_iload_n dX0_noteAs_39 rfl ?_
      obtain ⟨g, h⟩ := h
      refine ev_iald dX0_noteAs_40 (hH_3 Hb) g ?_
      refine ev_iload dX0_noteAs_41 rfl ?_
      refine ev_imul dX0_noteAs_43 ?_
      refine ev_icmp_lt (M := MX0_noteAs) (tgt := 50) dX0_noteAs_44 rfl (fun c6 => ?_) (fun c6 => ?_)
      · have h := h.1 c6
        refine ev_aload_n dX0_noteAs_50 rfl ?_
        refine ev_iload_n dX0_noteAs_51 rfl ?_
        refine ev_iload_n dX0_noteAs_52 rfl ?_
        refine ev_iload dX0_noteAs_53 rfl ?_
        refine ev_iload dX0_noteAs_55 rfl ?_
        obtain ⟨g, h⟩ := h
        refine ev_irem dX0_noteAs_57 g ?_
        refine ev_callVi (M := MX0_noteAs) (M2 := MX0_rowNote) (As := [.int p0, .int p1, .int (jrem x3 r2)]) (rest := []) dX0_noteAs_58 (hH_0 Hb) ck0 rfl w479 moX0_rowNote rfl ⟨Nat.le_of_ble_eq_true rfl, Nat.le_of_ble_eq_true rfl⟩ rfl rfl (Nat.le_of_ble_eq_true rfl) h (fun r8 d7 h => ?_)
        have h := rI_dn h
        exact ev_ireti (M := MX0_noteAs) (ty := .int) dX0_noteAs_61 rfl rfl rfl h
      · have h := h.2 c6
        refine ev_bipush dX0_noteAs_47 cb_m4 ?_
        exact ev_ireti (M := MX0_noteAs) (ty := .int) dX0_noteAs_49 rfl rfl rfl h
-- X0_boundTo
theorem cn_X0_boundTo {q : Int32 → DD → Prop} {d : DD} {b : Nat} (Hb : isH b) {p0 : Int32} (h : Ev SX MX0_boundTo 4 [.ref b, .int p0, .int 0, .int 0] [] d (rI q)) : Cn SX MX0_boundTo [.ref b, .int p0] d (rI q) := by
  refine cn_of (ls := [.ref b, .int p0, uJ, uJ]) (by decide) rfl rfl (Nat.le_of_ble_eq_true rfl) ?_
  refine ev_iconst dX0_boundTo_0 ci_0 ?_
  refine ev_istore_n (M := MX0_boundTo) (ls2 := [.ref b, .int p0, .int 0, uJ]) 2 dX0_boundTo_1 rfl (Nat.le_of_ble_eq_true rfl) rfl ?_
  refine ev_iconst dX0_boundTo_2 ci_0 ?_
  refine ev_istore_n (M := MX0_boundTo) (ls2 := [.ref b, .int p0, .int 0, .int 0]) 3 dX0_boundTo_3 rfl (Nat.le_of_ble_eq_true rfl) rfl ?_
  exact h
theorem bk_X0_boundTo_4 {q : Int32 → DD → Prop} {d : DD} {b : Nat} (Hb : isH b) {l1 : Int32} {l2 : Int32} {l3 : Int32} (h : (((d b 2) ≤ l3 → q l2 d) ∧ (¬ (d b 2) ≤ l3 → (vp_in l3 6 ∧ ((¬ (d (b + 10) l3.toNatClampNeg) = l1 → Ev SX MX0_boundTo 4 [.ref b, .int l1, .int l2, .int (l3 + 1)] [] d (rI q)) ∧ ((d (b + 10) l3.toNatClampNeg) = l1 → (∀ x3 : Int32, x3 = (l2 ||| (1 <<< (l3 &&& 31))) → Ev SX MX0_boundTo 4 [.ref b, .int l1, .int x3, .int (l3 + 1)] [] d (rI q)))))))) : Ev SX MX0_boundTo 4 [.ref b, .int l1, .int l2, .int l3] [] d (rI q) := by
  refine ev_iload_n dX0_boundTo_4 rfl ?_
  refine ev_aload_n dX0_boundTo_5 rfl ?_
  refine ev_get 2 dX0_boundTo_6 (hH_0 Hb) ck0 (Nat.le_of_ble_eq_true rfl) rfl w89 ?_
  refine ev_icmp_ge (M := MX0_boundTo) (tgt := 34) dX0_boundTo_9 rfl (fun c1 => ?_) (fun c1 => ?_)
  · have h := h.1 c1
    refine ev_iload_n dX0_boundTo_34 rfl ?_
    exact ev_ireti (M := MX0_boundTo) (ty := .int) dX0_boundTo_35 rfl rfl rfl h
  · have h := h.2 c1
    refine ev_aload_n dX0_boundTo_12 rfl ?_
    refine ev_getr (M := MX0_boundTo) (r := (b + 10)) 12 dX0_boundTo_13 (hH_0 Hb) ck0 (Nat.le_of_ble_eq_true rfl) rfl w127 ?_
    refine ev_iload_n dX0_boundTo_16 rfl ?_
    obtain ⟨g, h⟩ := h
    refine ev_iald dX0_boundTo_17 (hH_10 Hb) g ?_
    refine ev_iload_n dX0_boundTo_18 rfl ?_
    refine ev_icmp_ne (M := MX0_boundTo) (tgt := 28) dX0_boundTo_19 rfl (fun c2 => ?_) (fun c2 => ?_)
    · have h := h.1 c2
      refine ev_iinc (M := MX0_boundTo) (ls2 := [.ref b, .int l1, .int l2, .int (l3 + 1)]) dX0_boundTo_28 rfl (iin ci_1) (Nat.le_of_ble_eq_true rfl) rfl ?_
      refine ev_goto (M := MX0_boundTo) (tgt := 4) dX0_boundTo_31 rfl ?_
      exact h
    · have h := h.2 c2
      refine ev_iload_n dX0_boundTo_22 rfl ?_
      refine ev_iconst dX0_boundTo_23 ci_1 ?_
      refine ev_iload_n dX0_boundTo_24 rfl ?_
      refine ev_ishl dX0_boundTo_25 ?_
      refine ev_ior dX0_boundTo_26 ?_
      refine ev_topi (fun x3 ex3 => ?_)
      have h := h x3 ex3
      refine ev_istore_n (M := MX0_boundTo) (ls2 := [.ref b, .int l1, .int x3, .int l3]) 2 dX0_boundTo_27 rfl (Nat.le_of_ble_eq_true rfl) rfl ?_
      refine ev_iinc (M := MX0_boundTo) (ls2 := [.ref b, .int l1, .int x3, .int (l3 + 1)]) dX0_boundTo_28 rfl (iin ci_1) (Nat.le_of_ble_eq_true rfl) rfl ?_
      refine ev_goto (M := MX0_boundTo) (tgt := 4) dX0_boundTo_31 rfl ?_
      exact h
-- X0_allNotes
theorem cn_X0_allNotes {q : Int32 → DD → Prop} {d : DD} {b : Nat} (Hb : isH b) (h : Ev SX MX0_allNotes 4 [.ref b, .int 0, .int 0] [] d (rI q)) : Cn SX MX0_allNotes [.ref b] d (rI q) := by
  refine cn_of (ls := [.ref b, uJ, uJ]) (by decide) rfl rfl (Nat.le_of_ble_eq_true rfl) ?_
  refine ev_iconst dX0_allNotes_0 ci_0 ?_
  refine ev_istore_n (M := MX0_allNotes) (ls2 := [.ref b, .int 0, uJ]) 1 dX0_allNotes_1 rfl (Nat.le_of_ble_eq_true rfl) rfl ?_
  refine ev_iconst dX0_allNotes_2 ci_0 ?_
  refine ev_istore_n (M := MX0_allNotes) (ls2 := [.ref b, .int 0, .int 0]) 2 dX0_allNotes_3 rfl (Nat.le_of_ble_eq_true rfl) rfl ?_
  exact h
theorem bk_X0_allNotes_4 {q : Int32 → DD → Prop} {d : DD} {b : Nat} (Hb : isH b) {l1 : Int32} {l2 : Int32} (h : (((d b 0) ≤ l2 → q l1 d) ∧ (¬ (d b 0) ≤ l2 → (vp_in l2 4 ∧ (∀ x2 : Int32, x2 = (l1 + (d (b + 2) l2.toNatClampNeg)) → Ev SX MX0_allNotes 4 [.ref b, .int x2, .int (l2 + 1)] [] d (rI q)))))) : Ev SX MX0_allNotes 4 [.ref b, .int l1, .int l2] [] d (rI q) := by
  refine ev_iload_n dX0_allNotes_4 rfl ?_
  refine ev_aload_n dX0_allNotes_5 rfl ?_
  refine ev_get 0 dX0_allNotes_6 (hH_0 Hb) ck0 (Nat.le_of_ble_eq_true rfl) rfl w81 ?_
  refine ev_icmp_ge (M := MX0_allNotes) (tgt := 27) dX0_allNotes_9 rfl (fun c1 => ?_) (fun c1 => ?_)
  · have h := h.1 c1
    refine ev_iload_n dX0_allNotes_27 rfl ?_
    exact ev_ireti (M := MX0_allNotes) (ty := .int) dX0_allNotes_28 rfl rfl rfl h
  · have h := h.2 c1
    refine ev_iload_n dX0_allNotes_12 rfl ?_
    refine ev_aload_n dX0_allNotes_13 rfl ?_
    refine ev_getr (M := MX0_allNotes) (r := (b + 2)) 4 dX0_allNotes_14 (hH_0 Hb) ck0 (Nat.le_of_ble_eq_true rfl) rfl w97 ?_
    refine ev_iload_n dX0_allNotes_17 rfl ?_
    obtain ⟨g, h⟩ := h
    refine ev_iald dX0_allNotes_18 (hH_2 Hb) g ?_
    refine ev_iadd dX0_allNotes_19 ?_
    refine ev_topi (fun x2 ex2 => ?_)
    have h := h x2 ex2
    refine ev_istore_n (M := MX0_allNotes) (ls2 := [.ref b, .int x2, .int l2]) 1 dX0_allNotes_20 rfl (Nat.le_of_ble_eq_true rfl) rfl ?_
    refine ev_iinc (M := MX0_allNotes) (ls2 := [.ref b, .int x2, .int (l2 + 1)]) dX0_allNotes_21 rfl (iin ci_1) (Nat.le_of_ble_eq_true rfl) rfl ?_
    refine ev_goto (M := MX0_allNotes) (tgt := 4) dX0_allNotes_24 rfl ?_
    exact h
-- X0_allLengths
theorem cn_X0_allLengths {q : Int32 → DD → Prop} {d : DD} {b : Nat} (Hb : isH b) (h : Ev SX MX0_allLengths 4 [.ref b, .int 0, .int 0] [] d (rI q)) : Cn SX MX0_allLengths [.ref b] d (rI q) := by
  refine cn_of (ls := [.ref b, uJ, uJ]) (by decide) rfl rfl (Nat.le_of_ble_eq_true rfl) ?_
  refine ev_iconst dX0_allLengths_0 ci_0 ?_
  refine ev_istore_n (M := MX0_allLengths) (ls2 := [.ref b, .int 0, uJ]) 1 dX0_allLengths_1 rfl (Nat.le_of_ble_eq_true rfl) rfl ?_
  refine ev_iconst dX0_allLengths_2 ci_0 ?_
  refine ev_istore_n (M := MX0_allLengths) (ls2 := [.ref b, .int 0, .int 0]) 2 dX0_allLengths_3 rfl (Nat.le_of_ble_eq_true rfl) rfl ?_
  exact h
theorem bk_X0_allLengths_4 {q : Int32 → DD → Prop} {d : DD} {b : Nat} (Hb : isH b) {l1 : Int32} {l2 : Int32} (h : (((d b 0) ≤ l2 → q l1 d) ∧ (¬ (d b 0) ≤ l2 → (vp_in l2 4 ∧ (Cn SX MX0_lengthAs [.ref b, .int l2, .int (d (b + 1) l2.toNatClampNeg)] d (rI fun r3 d2 => Ev SX MX0_allLengths 4 [.ref b, .int (l1 + r3), .int (l2 + 1)] [] d2 (rI q))))))) : Ev SX MX0_allLengths 4 [.ref b, .int l1, .int l2] [] d (rI q) := by
  refine ev_iload_n dX0_allLengths_4 rfl ?_
  refine ev_aload_n dX0_allLengths_5 rfl ?_
  refine ev_get 0 dX0_allLengths_6 (hH_0 Hb) ck0 (Nat.le_of_ble_eq_true rfl) rfl w81 ?_
  refine ev_icmp_ge (M := MX0_allLengths) (tgt := 32) dX0_allLengths_9 rfl (fun c1 => ?_) (fun c1 => ?_)
  · have h := h.1 c1
    refine ev_iload_n dX0_allLengths_32 rfl ?_
    exact ev_ireti (M := MX0_allLengths) (ty := .int) dX0_allLengths_33 rfl rfl rfl h
  · have h := h.2 c1
    refine ev_iload_n dX0_allLengths_12 rfl ?_
    refine ev_aload_n dX0_allLengths_13 rfl ?_
    refine ev_iload_n dX0_allLengths_14 rfl ?_
    refine ev_aload_n dX0_allLengths_15 rfl ?_
    refine ev_getr (M := MX0_allLengths) (r := (b + 1)) 3 dX0_allLengths_16 (hH_0 Hb) ck0 (Nat.le_of_ble_eq_true rfl) rfl w93 ?_
    refine ev_iload_n dX0_allLengths_19 rfl ?_
    obtain ⟨g, h⟩ := h
    refine ev_iald dX0_allLengths_20 (hH_1 Hb) g ?_
    refine ev_callVi (M := MX0_allLengths) (M2 := MX0_lengthAs) (As := [.int l2, .int (d (b + 1) l2.toNatClampNeg)]) (rest := [.int l1]) dX0_allLengths_21 (hH_0 Hb) ck0 rfl w759 moX0_lengthAs rfl ⟨Nat.le_of_ble_eq_true rfl, Nat.le_of_ble_eq_true rfl⟩ rfl rfl (Nat.le_of_ble_eq_true rfl) h (fun r3 d2 h => ?_)
    have h := rI_dn h
    refine ev_iadd dX0_allLengths_24 ?_
    refine ev_istore_n (M := MX0_allLengths) (ls2 := [.ref b, .int (l1 + r3), .int l2]) 1 dX0_allLengths_25 rfl (Nat.le_of_ble_eq_true rfl) rfl ?_
    refine ev_iinc (M := MX0_allLengths) (ls2 := [.ref b, .int (l1 + r3), .int (l2 + 1)]) dX0_allLengths_26 rfl (iin ci_1) (Nat.le_of_ble_eq_true rfl) rfl ?_
    refine ev_goto (M := MX0_allLengths) (tgt := 4) dX0_allLengths_29 rfl ?_
    exact h
-- X0_rebind
theorem cn_X0_rebind {q : Int32 → DD → Prop} {d : DD} {b : Nat} (Hb : isH b) {p0 : Int32} {p1 : Int32} (h : (Cn SX MX0_hasPrisoner [.ref b, .int p0] d (rI fun r2 d1 => ((r2 = 0 → q (-1) d1) ∧ (¬ r2 = 0 → (Cn SX MX0_hasTune [.ref b, .int p1] d1 (rI fun r5 d4 => ((¬ r5 = 0 → (vp_in p0 6 ∧ ((¬ (d4 (b + 10) p0.toNatClampNeg) = p1 → (Cn SX MX4_exchange [.ref (b + 10), .int p0, .int p1] d4 (rI fun r9 d8 => q r9 d8))) ∧ ((d4 (b + 10) p0.toNatClampNeg) = p1 → q (-2) d4)))) ∧ (r5 = 0 → q (-1) d4))))))))) : Cn SX MX0_rebind [.ref b, .int p0, .int p1] d (rI q) := by
  refine cn_of (ls := [.ref b, .int p0, .int p1]) (by decide) rfl rfl (Nat.le_of_ble_eq_true rfl) ?_
  refine ev_aload_n dX0_rebind_0 rfl ?_
  refine ev_iload_n dX0_rebind_1 rfl ?_
  refine ev_callVi (M := MX0_rebind) (M2 := MX0_hasPrisoner) (As := [.int p0]) (rest := []) dX0_rebind_2 (hH_0 Hb) ck0 rfl w529 moX0_hasPrisoner rfl ⟨Nat.le_of_ble_eq_true rfl, Nat.le_of_ble_eq_true rfl⟩ rfl rfl (Nat.le_of_ble_eq_true rfl) h (fun r2 d1 h => ?_)
  have h := rI_dn h
  refine ev_if_eq (M := MX0_rebind) (tgt := 16) dX0_rebind_5 rfl (fun c3 => ?_) (fun c3 => ?_)
  · have h := h.1 c3
    refine ev_iconst dX0_rebind_16 ci_m1 ?_
    exact ev_ireti (M := MX0_rebind) (ty := .int) dX0_rebind_17 rfl rfl rfl h
  · have h := h.2 c3
    refine ev_aload_n dX0_rebind_8 rfl ?_
    refine ev_iload_n dX0_rebind_9 rfl ?_
    refine ev_callVi (M := MX0_rebind) (M2 := MX0_hasTune) (As := [.int p1]) (rest := []) dX0_rebind_10 (hH_0 Hb) ck0 rfl w426 moX0_hasTune rfl ⟨Nat.le_of_ble_eq_true rfl, Nat.le_of_ble_eq_true rfl⟩ rfl rfl (Nat.le_of_ble_eq_true rfl) h (fun r5 d4 h => ?_)
    have h := rI_dn h
    refine ev_if_ne (M := MX0_rebind) (tgt := 18) dX0_rebind_13 rfl (fun c6 => ?_) (fun c6 => ?_)
    · have h := h.1 c6
      refine ev_aload_n dX0_rebind_18 rfl ?_
      refine ev_getr (M := MX0_rebind) (r := (b + 10)) 12 dX0_rebind_19 (hH_0 Hb) ck0 (Nat.le_of_ble_eq_true rfl) rfl w127 ?_
      refine ev_iload_n dX0_rebind_22 rfl ?_
      obtain ⟨g, h⟩ := h
      refine ev_iald dX0_rebind_23 (hH_10 Hb) g ?_
      refine ev_iload_n dX0_rebind_24 rfl ?_
      refine ev_icmp_ne (M := MX0_rebind) (tgt := 33) dX0_rebind_25 rfl (fun c7 => ?_) (fun c7 => ?_)
      · have h := h.1 c7
        refine ev_aload_n dX0_rebind_33 rfl ?_
        refine ev_getr (M := MX0_rebind) (r := (b + 10)) 12 dX0_rebind_34 (hH_0 Hb) ck0 (Nat.le_of_ble_eq_true rfl) rfl w127 ?_
        refine ev_iload_n dX0_rebind_37 rfl ?_
        refine ev_iload_n dX0_rebind_38 rfl ?_
        refine ev_callNi (M := MX0_rebind) (M2 := MX4_exchange) (As := [.ref (b + 10), .int p0, .int p1]) (rest := []) dX0_rebind_39 2 nest_2 moX4_exchange rfl ⟨Nat.le_of_ble_eq_true rfl, Nat.le_of_ble_eq_true rfl⟩ rfl rfl (Nat.le_of_ble_eq_true rfl) h (fun r9 d8 h => ?_)
        have h := rI_dn h
        exact ev_ireti (M := MX0_rebind) (ty := .int) dX0_rebind_42 rfl rfl rfl h
      · have h := h.2 c7
        refine ev_bipush dX0_rebind_28 cb_m2 ?_
        refine ev_goto (M := MX0_rebind) (tgt := 42) dX0_rebind_30 rfl ?_
        exact ev_ireti (M := MX0_rebind) (ty := .int) dX0_rebind_42 rfl rfl rfl h
    · have h := h.2 c6
      refine ev_iconst dX0_rebind_16 ci_m1 ?_
      exact ev_ireti (M := MX0_rebind) (ty := .int) dX0_rebind_17 rfl rfl rfl h
-- X0_spoil
theorem cn_X0_spoil {q : DD → Prop} {d : DD} {b : Nat} (Hb : isH b) {p0 : Int32} {p1 : Int32} (h : (vp_in p0 4 ∧ (∀ x1 : Int32, x1 = (d (b + 2) p0.toNatClampNeg) → ((x1 ≤ 0 → q d) ∧ (¬ x1 ≤ 0 → ((¬ x1 = 0) ∧ (vp_in ((p0 * 8) + (jrem p1 x1)) 32 ∧ (∀ d3 : DD, d3 = (up d (b + 5) ((p0 * 8) + (jrem p1 x1)).toNatClampNeg (jrem (p1 / 10) 10)) → q d3)))))))) : Cn SX MX0_spoil [.ref b, .int p0, .int p1] d (rV q) := by
  refine cn_of (ls := [.ref b, .int p0, .int p1, uJ]) (by decide) rfl rfl (Nat.le_of_ble_eq_true rfl) ?_
  refine ev_aload_n dX0_spoil_0 rfl ?_
  refine ev_getr (M := MX0_spoil) (r := (b + 2)) 4 dX0_spoil_1 (hH_0 Hb) ck0 (Nat.le_of_ble_eq_true rfl) rfl w97 ?_
  refine ev_iload_n dX0_spoil_4 rfl ?_
  obtain ⟨g, h⟩ := h
  refine ev_iald dX0_spoil_5 (hH_2 Hb) g ?_
  refine ev_topi (fun x1 ex1 => ?_)
  have h := h x1 ex1
  refine ev_istore_n (M := MX0_spoil) (ls2 := [.ref b, .int p0, .int p1, .int x1]) 3 dX0_spoil_6 rfl (Nat.le_of_ble_eq_true rfl) rfl ?_
  refine ev_iload_n dX0_spoil_7 rfl ?_
  refine ev_if_le (M := MX0_spoil) (tgt := 31) dX0_spoil_8 rfl (fun c2 => ?_) (fun c2 => ?_)
  · have h := h.1 c2
    exact ev_ret (M := MX0_spoil) dX0_spoil_31 rfl rfl h
  · have h := h.2 c2
    refine ev_aload_n dX0_spoil_11 rfl ?_
    refine ev_getr (M := MX0_spoil) (r := (b + 5)) 7 dX0_spoil_12 (hH_0 Hb) ck0 (Nat.le_of_ble_eq_true rfl) rfl w108 ?_
    refine ev_iload_n dX0_spoil_15 rfl ?_
    refine ev_bipush dX0_spoil_16 cb_8 ?_
    refine ev_imul dX0_spoil_18 ?_
    refine ev_iload_n dX0_spoil_19 rfl ?_
    refine ev_iload_n dX0_spoil_20 rfl ?_
    obtain ⟨g, h⟩ := h
    refine ev_irem dX0_spoil_21 g ?_
    refine ev_iadd dX0_spoil_22 ?_
    refine ev_iload_n dX0_spoil_23 rfl ?_
    refine ev_bipush dX0_spoil_24 cb_10 ?_
    refine ev_idiv dX0_spoil_26 (by decide) ?_
    refine ev_bipush dX0_spoil_27 cb_10 ?_
    refine ev_irem dX0_spoil_29 (by decide) ?_
    obtain ⟨g, h⟩ := h
    refine ev_iast dX0_spoil_30 (hH_5 Hb) g ?_
    refine ev_topd (fun d3 ed3 => ?_)
    have h := h d3 ed3
    exact ev_ret (M := MX0_spoil) dX0_spoil_31 rfl rfl h
-- X0_allTunesAreThere
theorem cn_X0_allTunesAreThere {q : Int32 → DD → Prop} {d : DD} {b : Nat} (Hb : isH b) (h : Ev SX MX0_allTunesAreThere 2 [.ref b, .int 0] [] d (rI q)) : Cn SX MX0_allTunesAreThere [.ref b] d (rI q) := by
  refine cn_of (ls := [.ref b, uJ]) (by decide) rfl rfl (Nat.le_of_ble_eq_true rfl) ?_
  refine ev_iconst dX0_allTunesAreThere_0 ci_0 ?_
  refine ev_istore_n (M := MX0_allTunesAreThere) (ls2 := [.ref b, .int 0]) 1 dX0_allTunesAreThere_1 rfl (Nat.le_of_ble_eq_true rfl) rfl ?_
  exact h
theorem bk_X0_allTunesAreThere_2 {q : Int32 → DD → Prop} {d : DD} {b : Nat} (Hb : isH b) {l1 : Int32} (h : (((d b 1) ≤ l1 → Ev SX MX0_allTunesAreThere 33 [.ref b, .int 0] [] d (rI q)) ∧ (¬ (d b 1) ≤ l1 → (vp_in l1 4 ∧ (Cn SX MX0_hasTune [.ref b, .int (d (b + 9) l1.toNatClampNeg)] d (rI fun r3 d2 => ((¬ r3 = 0 → Ev SX MX0_allTunesAreThere 2 [.ref b, .int (l1 + 1)] [] d2 (rI q)) ∧ (r3 = 0 → q 0 d2)))))))) : Ev SX MX0_allTunesAreThere 2 [.ref b, .int l1] [] d (rI q) := by
  refine ev_iload_n dX0_allTunesAreThere_2 rfl ?_
  refine ev_aload_n dX0_allTunesAreThere_3 rfl ?_
  refine ev_get 1 dX0_allTunesAreThere_4 (hH_0 Hb) ck0 (Nat.le_of_ble_eq_true rfl) rfl w85 ?_
  refine ev_icmp_ge (M := MX0_allTunesAreThere) (tgt := 31) dX0_allTunesAreThere_7 rfl (fun c1 => ?_) (fun c1 => ?_)
  · have h := h.1 c1
    refine ev_iconst dX0_allTunesAreThere_31 ci_0 ?_
    refine ev_istore_n (M := MX0_allTunesAreThere) (ls2 := [.ref b, .int 0]) 1 dX0_allTunesAreThere_32 rfl (Nat.le_of_ble_eq_true rfl) rfl ?_
    exact h
  · have h := h.2 c1
    refine ev_aload_n dX0_allTunesAreThere_10 rfl ?_
    refine ev_aload_n dX0_allTunesAreThere_11 rfl ?_
    refine ev_getr (M := MX0_allTunesAreThere) (r := (b + 9)) 11 dX0_allTunesAreThere_12 (hH_0 Hb) ck0 (Nat.le_of_ble_eq_true rfl) rfl w123 ?_
    refine ev_iload_n dX0_allTunesAreThere_15 rfl ?_
    obtain ⟨g, h⟩ := h
    refine ev_iald dX0_allTunesAreThere_16 (hH_9 Hb) g ?_
    refine ev_callVi (M := MX0_allTunesAreThere) (M2 := MX0_hasTune) (As := [.int (d (b + 9) l1.toNatClampNeg)]) (rest := []) dX0_allTunesAreThere_17 (hH_0 Hb) ck0 rfl w426 moX0_hasTune rfl ⟨Nat.le_of_ble_eq_true rfl, Nat.le_of_ble_eq_true rfl⟩ rfl rfl (Nat.le_of_ble_eq_true rfl) h (fun r3 d2 h => ?_)
    have h := rI_dn h
    refine ev_if_ne (M := MX0_allTunesAreThere) (tgt := 25) dX0_allTunesAreThere_20 rfl (fun c4 => ?_) (fun c4 => ?_)
    · have h := h.1 c4
      refine ev_iinc (M := MX0_allTunesAreThere) (ls2 := [.ref b, .int (l1 + 1)]) dX0_allTunesAreThere_25 rfl (iin ci_1) (Nat.le_of_ble_eq_true rfl) rfl ?_
      refine ev_goto (M := MX0_allTunesAreThere) (tgt := 2) dX0_allTunesAreThere_28 rfl ?_
      exact h
    · have h := h.2 c4
      refine ev_iconst dX0_allTunesAreThere_23 ci_0 ?_
      exact ev_ireti (M := MX0_allTunesAreThere) (ty := .boolean) dX0_allTunesAreThere_24 rfl rfl rfl h
theorem bk_X0_allTunesAreThere_33 {q : Int32 → DD → Prop} {d : DD} {b : Nat} (Hb : isH b) {l1 : Int32} (h : (((d b 2) ≤ l1 → q 1 d) ∧ (¬ (d b 2) ≤ l1 → (vp_in l1 6 ∧ (Cn SX MX0_hasTune [.ref b, .int (d (b + 10) l1.toNatClampNeg)] d (rI fun r3 d2 => ((¬ r3 = 0 → Ev SX MX0_allTunesAreThere 33 [.ref b, .int (l1 + 1)] [] d2 (rI q)) ∧ (r3 = 0 → q 0 d2)))))))) : Ev SX MX0_allTunesAreThere 33 [.ref b, .int l1] [] d (rI q) := by
  refine ev_iload_n dX0_allTunesAreThere_33 rfl ?_
  refine ev_aload_n dX0_allTunesAreThere_34 rfl ?_
  refine ev_get 2 dX0_allTunesAreThere_35 (hH_0 Hb) ck0 (Nat.le_of_ble_eq_true rfl) rfl w89 ?_
  refine ev_icmp_ge (M := MX0_allTunesAreThere) (tgt := 62) dX0_allTunesAreThere_38 rfl (fun c1 => ?_) (fun c1 => ?_)
  · have h := h.1 c1
    refine ev_iconst dX0_allTunesAreThere_62 ci_1 ?_
    exact ev_ireti (M := MX0_allTunesAreThere) (ty := .boolean) dX0_allTunesAreThere_63 rfl rfl rfl h
  · have h := h.2 c1
    refine ev_aload_n dX0_allTunesAreThere_41 rfl ?_
    refine ev_aload_n dX0_allTunesAreThere_42 rfl ?_
    refine ev_getr (M := MX0_allTunesAreThere) (r := (b + 10)) 12 dX0_allTunesAreThere_43 (hH_0 Hb) ck0 (Nat.le_of_ble_eq_true rfl) rfl w127 ?_
    refine ev_iload_n dX0_allTunesAreThere_46 rfl ?_
    obtain ⟨g, h⟩ := h
    refine ev_iald dX0_allTunesAreThere_47 (hH_10 Hb) g ?_
    refine ev_callVi (M := MX0_allTunesAreThere) (M2 := MX0_hasTune) (As := [.int (d (b + 10) l1.toNatClampNeg)]) (rest := []) dX0_allTunesAreThere_48 (hH_0 Hb) ck0 rfl w426 moX0_hasTune rfl ⟨Nat.le_of_ble_eq_true rfl, Nat.le_of_ble_eq_true rfl⟩ rfl rfl (Nat.le_of_ble_eq_true rfl) h (fun r3 d2 h => ?_)
    have h := rI_dn h
    refine ev_if_ne (M := MX0_allTunesAreThere) (tgt := 56) dX0_allTunesAreThere_51 rfl (fun c4 => ?_) (fun c4 => ?_)
    · have h := h.1 c4
      refine ev_iinc (M := MX0_allTunesAreThere) (ls2 := [.ref b, .int (l1 + 1)]) dX0_allTunesAreThere_56 rfl (iin ci_1) (Nat.le_of_ble_eq_true rfl) rfl ?_
      refine ev_goto (M := MX0_allTunesAreThere) (tgt := 33) dX0_allTunesAreThere_59 rfl ?_
      exact h
    · have h := h.2 c4
      refine ev_iconst dX0_allTunesAreThere_54 ci_0 ?_
      exact ev_ireti (M := MX0_allTunesAreThere) (ty := .boolean) dX0_allTunesAreThere_55 rfl rfl rfl h
-- X1_run
set_option maxRecDepth 4000 in
theorem cn_X1_run {q : DD → Prop} {d : DD} {p0 : Nat} (Hp0 : isH p0) {p1 : Int32} (h : Ev SX MX1_run 2 [.ref 38, .ref p0, .int p1, .int 0, uJ, uJ] [] d (rV q)) : Cn SX MX1_run [.ref 38, .ref p0, .int p1] d (rV q) := by
  refine cn_of (ls := [.ref 38, .ref p0, .int p1, uJ, uJ, uJ]) (by decide) rfl rfl (Nat.le_of_ble_eq_true rfl) ?_
  refine ev_iconst dX1_run_0 ci_0 ?_
  refine ev_istore_n (M := MX1_run) (ls2 := [.ref 38, .ref p0, .int p1, .int 0, uJ, uJ]) 3 dX1_run_1 rfl (Nat.le_of_ble_eq_true rfl) rfl ?_
  exact h
set_option maxRecDepth 4000 in
theorem bk_X1_run_2 {q : DD → Prop} {d : DD} {p0 : Nat} (Hp0 : isH p0) {l2 : Int32} {l3 : Int32} (h : (((d p0 0) ≤ l3 → Ev SX MX1_run 24 [.ref 38, .ref p0, .int l2, .int 0, uJ, uJ] [] d (rV q)) ∧ (¬ (d p0 0) ≤ l3 → (Cn SX MX1_prepareTune [.ref 38, .ref p0, .int l3] d (rV fun d2 => Ev SX MX1_run 2 [.ref 38, .ref p0, .int l2, .int (l3 + 1), uJ, uJ] [] d2 (rV q)))))) : Ev SX MX1_run 2 [.ref 38, .ref p0, .int l2, .int l3, uJ, uJ] [] d (rV q) := by
  refine ev_iload_n dX1_run_2 rfl ?_
  refine ev_aload_n dX1_run_3 rfl ?_
  refine ev_get 0 dX1_run_4 (hH_0 Hp0) ck0 (Nat.le_of_ble_eq_true rfl) rfl w82 ?_
  refine ev_icmp_ge (M := MX1_run) (tgt := 22) dX1_run_7 rfl (fun c1 => ?_) (fun c1 => ?_)
  · have h := h.1 c1
    refine ev_iconst dX1_run_22 ci_0 ?_
    refine ev_istore_n (M := MX1_run) (ls2 := [.ref 38, .ref p0, .int l2, .int 0, uJ, uJ]) 3 dX1_run_23 rfl (Nat.le_of_ble_eq_true rfl) rfl ?_
    exact h
  · have h := h.2 c1
    refine ev_aload_n dX1_run_10 rfl ?_
    refine ev_aload_n dX1_run_11 rfl ?_
    refine ev_iload_n dX1_run_12 rfl ?_
    refine ev_callVv (M := MX1_run) (M2 := MX1_prepareTune) (As := [.ref p0, .int l3]) (rest := []) dX1_run_13 sX_38 ck1 rfl w543 moX1_prepareTune rfl ⟨Nat.le_of_ble_eq_true rfl, Nat.le_of_ble_eq_true rfl⟩ rfl rfl (Nat.le_of_ble_eq_true rfl) h (fun d2 h => ?_)
    have h := rV_dn h
    refine ev_iinc (M := MX1_run) (ls2 := [.ref 38, .ref p0, .int l2, .int (l3 + 1), uJ, uJ]) dX1_run_16 rfl (iin ci_1) (Nat.le_of_ble_eq_true rfl) rfl ?_
    refine ev_goto (M := MX1_run) (tgt := 2) dX1_run_19 rfl ?_
    exact h
set_option maxRecDepth 4000 in
theorem bk_X1_run_24 {q : DD → Prop} {d : DD} {p0 : Nat} (Hp0 : isH p0) {l2 : Int32} {l3 : Int32} (h : (((d p0 1) ≤ l3 → (∀ d2 : DD, d2 = (up d 38 9 (d p0 0)) → Ev SX MX1_run 80 [.ref 38, .ref p0, .int l2, .int 0, uJ, uJ] [] d2 (rV q))) ∧ (¬ (d p0 1) ≤ l3 → (vp_in l3 4 ∧ (∀ d3 : DD, d3 = (up d 42 l3.toNatClampNeg 0) → ((¬ ((l2 >>> (l3 &&& 31)) &&& 1) = 1 → (vp_in l3 4 ∧ (vp_in l3 4 ∧ (∀ d5 : DD, d5 = (up d3 43 l3.toNatClampNeg (d3 (p0 + 7) l3.toNatClampNeg)) → Ev SX MX1_run 24 [.ref 38, .ref p0, .int l2, .int (l3 + 1), uJ, uJ] [] d5 (rV q))))) ∧ (((l2 >>> (l3 &&& 31)) &&& 1) = 1 → (vp_in l3 4 ∧ (∀ d6 : DD, d6 = (up d3 43 l3.toNatClampNeg 0) → Ev SX MX1_run 24 [.ref 38, .ref p0, .int l2, .int (l3 + 1), uJ, uJ] [] d6 (rV q)))))))))) : Ev SX MX1_run 24 [.ref 38, .ref p0, .int l2, .int l3, uJ, uJ] [] d (rV q) := by
  refine ev_iload_n dX1_run_24 rfl ?_
  refine ev_aload_n dX1_run_25 rfl ?_
  refine ev_get 1 dX1_run_26 (hH_0 Hp0) ck0 (Nat.le_of_ble_eq_true rfl) rfl w86 ?_
  refine ev_icmp_ge (M := MX1_run) (tgt := 70) dX1_run_29 rfl (fun c1 => ?_) (fun c1 => ?_)
  · have h := h.1 c1
    refine ev_aload_n dX1_run_70 rfl ?_
    refine ev_aload_n dX1_run_71 rfl ?_
    refine ev_get 0 dX1_run_72 (hH_0 Hp0) ck0 (Nat.le_of_ble_eq_true rfl) rfl w82 ?_
    refine ev_put 9 dX1_run_75 sX_38 ck1 (Nat.le_of_ble_eq_true rfl) rfl w210 rfl rfl rfl ?_
    refine ev_topd (fun d2 ed2 => ?_)
    have h := h d2 ed2
    refine ev_iconst dX1_run_78 ci_0 ?_
    refine ev_istore_n (M := MX1_run) (ls2 := [.ref 38, .ref p0, .int l2, .int 0, uJ, uJ]) 3 dX1_run_79 rfl (Nat.le_of_ble_eq_true rfl) rfl ?_
    exact h
  · have h := h.2 c1
    refine ev_aload_n dX1_run_32 rfl ?_
    refine ev_getr (M := MX1_run) (r := 42) 3 dX1_run_33 sX_38 ck1 (Nat.le_of_ble_eq_true rfl) rfl w203 ?_
    refine ev_iload_n dX1_run_36 rfl ?_
    refine ev_iconst dX1_run_37 ci_0 ?_
    obtain ⟨g, h⟩ := h
    refine ev_iast dX1_run_38 sX_42 g ?_
    refine ev_topd (fun d3 ed3 => ?_)
    have h := h d3 ed3
    refine ev_aload_n dX1_run_39 rfl ?_
    refine ev_getr (M := MX1_run) (r := 43) 4 dX1_run_40 sX_38 ck1 (Nat.le_of_ble_eq_true rfl) rfl w205 ?_
    refine ev_iload_n dX1_run_43 rfl ?_
    refine ev_iload_n dX1_run_44 rfl ?_
    refine ev_iload_n dX1_run_45 rfl ?_
    refine ev_ishr dX1_run_46 ?_
    refine ev_iconst dX1_run_47 ci_1 ?_
    refine ev_iand dX1_run_48 ?_
    refine ev_iconst dX1_run_49 ci_1 ?_
    refine ev_icmp_ne (M := MX1_run) (tgt := 57) dX1_run_50 rfl (fun c4 => ?_) (fun c4 => ?_)
    · have h := h.1 c4
      refine ev_aload_n dX1_run_57 rfl ?_
      refine ev_getr (M := MX1_run) (r := (p0 + 7)) 9 dX1_run_58 (hH_0 Hp0) ck0 (Nat.le_of_ble_eq_true rfl) rfl w116 ?_
      refine ev_iload_n dX1_run_61 rfl ?_
      obtain ⟨g, h⟩ := h
      refine ev_iald dX1_run_62 (hH_7 Hp0) g ?_
      obtain ⟨g, h⟩ := h
      refine ev_iast dX1_run_63 sX_43 g ?_
      refine ev_topd (fun d5 ed5 => ?_)
      have h := h d5 ed5
      refine ev_iinc (M := MX1_run) (ls2 := [.ref 38, .ref p0, .int l2, .int (l3 + 1), uJ, uJ]) dX1_run_64 rfl (iin ci_1) (Nat.le_of_ble_eq_true rfl) rfl ?_
      refine ev_goto (M := MX1_run) (tgt := 24) dX1_run_67 rfl ?_
      exact h
    · have h := h.2 c4
      refine ev_iconst dX1_run_53 ci_0 ?_
      refine ev_goto (M := MX1_run) (tgt := 63) dX1_run_54 rfl ?_
      obtain ⟨g, h⟩ := h
      refine ev_iast dX1_run_63 sX_43 g ?_
      refine ev_topd (fun d6 ed6 => ?_)
      have h := h d6 ed6
      refine ev_iinc (M := MX1_run) (ls2 := [.ref 38, .ref p0, .int l2, .int (l3 + 1), uJ, uJ]) dX1_run_64 rfl (iin ci_1) (Nat.le_of_ble_eq_true rfl) rfl ?_
      refine ev_goto (M := MX1_run) (tgt := 24) dX1_run_67 rfl ?_
      exact h
set_option maxRecDepth 4000 in
theorem bk_X1_run_80 {q : DD → Prop} {d : DD} {p0 : Nat} (Hp0 : isH p0) {l2 : Int32} {l3 : Int32} (h : ((160 ≤ l3 → q d) ∧ (¬ 160 ≤ l3 → (((d 38 9) ≤ 0 → q d) ∧ (¬ (d 38 9) ≤ 0 → Ev SX MX1_run 97 [.ref 38, .ref p0, .int l2, .int l3, .int 0, uJ] [] d (rV q)))))) : Ev SX MX1_run 80 [.ref 38, .ref p0, .int l2, .int l3, uJ, uJ] [] d (rV q) := by
  refine ev_iload_n dX1_run_80 rfl ?_
  refine ev_sipush dX1_run_81 cs_160 ?_
  refine ev_icmp_ge (M := MX1_run) (tgt := 177) dX1_run_84 rfl (fun c1 => ?_) (fun c1 => ?_)
  · have h := h.1 c1
    exact ev_ret (M := MX1_run) dX1_run_177 rfl rfl h
  · have h := h.2 c1
    refine ev_aload_n dX1_run_87 rfl ?_
    refine ev_get 9 dX1_run_88 sX_38 ck1 (Nat.le_of_ble_eq_true rfl) rfl w210 ?_
    refine ev_if_le (M := MX1_run) (tgt := 177) dX1_run_91 rfl (fun c2 => ?_) (fun c2 => ?_)
    · have h := h.1 c2
      exact ev_ret (M := MX1_run) dX1_run_177 rfl rfl h
    · have h := h.2 c2
      refine ev_iconst dX1_run_94 ci_0 ?_
      refine ev_istore (M := MX1_run) (ls2 := [.ref 38, .ref p0, .int l2, .int l3, .int 0, uJ]) dX1_run_95 (Nat.le_of_ble_eq_true rfl) rfl ?_
      exact h
set_option maxRecDepth 4000 in
theorem bk_X1_run_97 {q : DD → Prop} {d : DD} {p0 : Nat} (Hp0 : isH p0) {l2 : Int32} {l3 : Int32} {l4 : Int32} (h : (((d p0 0) ≤ l4 → (Cn SX MX1_crossAll [.ref 38, .ref p0, .int l3] d (rV fun d2 => Ev SX MX1_run 80 [.ref 38, .ref p0, .int l2, .int (l3 + 1), uJ, uJ] [] d2 (rV q)))) ∧ (¬ (d p0 0) ≤ l4 → (vp_in l4 4 ∧ ((¬ (d 39 l4.toNatClampNeg) = (-1) → Ev SX MX1_run 133 [.ref 38, .ref p0, .int l2, .int l3, .int l4, uJ] [.int 0] d (rV q)) ∧ ((d 39 l4.toNatClampNeg) = (-1) → (vp_in l4 4 ∧ ((l3 < (d (p0 + 4) l4.toNatClampNeg) → Ev SX MX1_run 133 [.ref 38, .ref p0, .int l2, .int l3, .int l4, uJ] [.int 0] d (rV q)) ∧ (¬ l3 < (d (p0 + 4) l4.toNatClampNeg) → Ev SX MX1_run 133 [.ref 38, .ref p0, .int l2, .int l3, .int l4, uJ] [.int 1] d (rV q)))))))))) : Ev SX MX1_run 97 [.ref 38, .ref p0, .int l2, .int l3, .int l4, uJ] [] d (rV q) := by
  refine ev_iload dX1_run_97 rfl ?_
  refine ev_aload_n dX1_run_99 rfl ?_
  refine ev_get 0 dX1_run_100 (hH_0 Hp0) ck0 (Nat.le_of_ble_eq_true rfl) rfl w82 ?_
  refine ev_icmp_ge (M := MX1_run) (tgt := 165) dX1_run_103 rfl (fun c1 => ?_) (fun c1 => ?_)
  · have h := h.1 c1
    refine ev_aload_n dX1_run_165 rfl ?_
    refine ev_aload_n dX1_run_166 rfl ?_
    refine ev_iload_n dX1_run_167 rfl ?_
    refine ev_callVv (M := MX1_run) (M2 := MX1_crossAll) (As := [.ref p0, .int l3]) (rest := []) dX1_run_168 sX_38 ck1 rfl w562 moX1_crossAll rfl ⟨Nat.le_of_ble_eq_true rfl, Nat.le_of_ble_eq_true rfl⟩ rfl rfl (Nat.le_of_ble_eq_true rfl) h (fun d2 h => ?_)
    have h := rV_dn h
    refine ev_iinc (M := MX1_run) (ls2 := [.ref 38, .ref p0, .int l2, .int (l3 + 1), .int l4, uJ]) dX1_run_171 rfl (iin ci_1) (Nat.le_of_ble_eq_true rfl) rfl ?_
    refine ev_goto (M := MX1_run) (tgt := 80) dX1_run_174 rfl ?_
    refine Ev.forget (ls2 := [.ref 38, .ref p0, .int l2, .int (l3 + 1), uJ, uJ]) ?_ (fun i v hi hv => lsub_of (bs := [false, false, false, false, true, false]) rfl i v hi hv)
    exact h
  · have h := h.2 c1
    refine ev_aload_n dX1_run_106 rfl ?_
    refine ev_getr (M := MX1_run) (r := 39) 0 dX1_run_107 sX_38 ck1 (Nat.le_of_ble_eq_true rfl) rfl w197 ?_
    refine ev_iload dX1_run_110 rfl ?_
    obtain ⟨g, h⟩ := h
    refine ev_iald dX1_run_112 sX_39 g ?_
    refine ev_iconst dX1_run_113 ci_m1 ?_
    refine ev_icmp_ne (M := MX1_run) (tgt := 132) dX1_run_114 rfl (fun c3 => ?_) (fun c3 => ?_)
    · have h := h.1 c3
      refine ev_iconst dX1_run_132 ci_0 ?_
      exact h
    · have h := h.2 c3
      refine ev_iload_n dX1_run_117 rfl ?_
      refine ev_aload_n dX1_run_118 rfl ?_
      refine ev_getr (M := MX1_run) (r := (p0 + 4)) 6 dX1_run_119 (hH_0 Hp0) ck0 (Nat.le_of_ble_eq_true rfl) rfl w105 ?_
      refine ev_iload dX1_run_122 rfl ?_
      obtain ⟨g, h⟩ := h
      refine ev_iald dX1_run_124 (hH_4 Hp0) g ?_
      refine ev_icmp_lt (M := MX1_run) (tgt := 132) dX1_run_125 rfl (fun c4 => ?_) (fun c4 => ?_)
      · have h := h.1 c4
        refine ev_iconst dX1_run_132 ci_0 ?_
        exact h
      · have h := h.2 c4
        refine ev_iconst dX1_run_128 ci_1 ?_
        refine ev_goto (M := MX1_run) (tgt := 133) dX1_run_129 rfl ?_
        exact h
set_option maxRecDepth 4000 in
theorem bk_X1_run_133 {q : DD → Prop} {d : DD} {p0 : Nat} (Hp0 : isH p0) {l2 : Int32} {l3 : Int32} {l4 : Int32} {k0 : Int32} (h : ((k0 = 0 → (vp_in l4 4 ∧ (∀ d2 : DD, d2 = (up d 44 l4.toNatClampNeg (-1)) → Ev SX MX1_run 97 [.ref 38, .ref p0, .int l2, .int l3, .int (l4 + 1), uJ] [] d2 (rV q)))) ∧ (¬ k0 = 0 → (Cn SX MX1_noteHeard [.ref 38, .ref p0, .int l4, .int l3] d (rI fun r4 d3 => (vp_in l4 4 ∧ (∀ d5 : DD, d5 = (up d3 44 l4.toNatClampNeg r4) → Ev SX MX1_run 97 [.ref 38, .ref p0, .int l2, .int l3, .int (l4 + 1), uJ] [] d5 (rV q)))))))) : Ev SX MX1_run 133 [.ref 38, .ref p0, .int l2, .int l3, .int l4, uJ] [.int k0] d (rV q) := by
  refine ev_istore (M := MX1_run) (ls2 := [.ref 38, .ref p0, .int l2, .int l3, .int l4, .int k0]) dX1_run_133 (Nat.le_of_ble_eq_true rfl) rfl ?_
  refine ev_aload_n dX1_run_135 rfl ?_
  refine ev_getr (M := MX1_run) (r := 44) 5 dX1_run_136 sX_38 ck1 (Nat.le_of_ble_eq_true rfl) rfl w206 ?_
  refine ev_iload dX1_run_139 rfl ?_
  refine ev_iload dX1_run_141 rfl ?_
  refine ev_if_eq (M := MX1_run) (tgt := 157) dX1_run_143 rfl (fun c1 => ?_) (fun c1 => ?_)
  · have h := h.1 c1
    refine ev_iconst dX1_run_157 ci_m1 ?_
    obtain ⟨g, h⟩ := h
    refine ev_iast dX1_run_158 sX_44 g ?_
    refine ev_topd (fun d2 ed2 => ?_)
    have h := h d2 ed2
    refine ev_iinc (M := MX1_run) (ls2 := [.ref 38, .ref p0, .int l2, .int l3, .int (l4 + 1), .int k0]) dX1_run_159 rfl (iin ci_1) (Nat.le_of_ble_eq_true rfl) rfl ?_
    refine ev_goto (M := MX1_run) (tgt := 97) dX1_run_162 rfl ?_
    refine Ev.forget (ls2 := [.ref 38, .ref p0, .int l2, .int l3, .int (l4 + 1), uJ]) ?_ (fun i v hi hv => lsub_of (bs := [false, false, false, false, false, true]) rfl i v hi hv)
    exact h
  · have h := h.2 c1
    refine ev_aload_n dX1_run_146 rfl ?_
    refine ev_aload_n dX1_run_147 rfl ?_
    refine ev_iload dX1_run_148 rfl ?_
    refine ev_iload_n dX1_run_150 rfl ?_
    refine ev_callVi (M := MX1_run) (M2 := MX1_noteHeard) (As := [.ref p0, .int l4, .int l3]) (rest := [.int l4, .ref 44]) dX1_run_151 sX_38 ck1 rfl w550 moX1_noteHeard rfl ⟨Nat.le_of_ble_eq_true rfl, Nat.le_of_ble_eq_true rfl⟩ rfl rfl (Nat.le_of_ble_eq_true rfl) h (fun r4 d3 h => ?_)
    have h := rI_dn h
    refine ev_goto (M := MX1_run) (tgt := 158) dX1_run_154 rfl ?_
    obtain ⟨g, h⟩ := h
    refine ev_iast dX1_run_158 sX_44 g ?_
    refine ev_topd (fun d5 ed5 => ?_)
    have h := h d5 ed5
    refine ev_iinc (M := MX1_run) (ls2 := [.ref 38, .ref p0, .int l2, .int l3, .int (l4 + 1), .int k0]) dX1_run_159 rfl (iin ci_1) (Nat.le_of_ble_eq_true rfl) rfl ?_
    refine ev_goto (M := MX1_run) (tgt := 97) dX1_run_162 rfl ?_
    refine Ev.forget (ls2 := [.ref 38, .ref p0, .int l2, .int l3, .int (l4 + 1), uJ]) ?_ (fun i v hi hv => lsub_of (bs := [false, false, false, false, false, true]) rfl i v hi hv)
    exact h
-- X1_prepareTune
set_option maxRecDepth 4000 in
theorem cn_X1_prepareTune {q : DD → Prop} {d : DD} {p0 : Nat} (Hp0 : isH p0) {p1 : Int32} (h : (vp_in p1 4 ∧ (∀ x1 : Int32, x1 = (d (p0 + 1) p1.toNatClampNeg) → (vp_in p1 4 ∧ (∀ d2 : DD, d2 = (up d 39 p1.toNatClampNeg (-1)) → (vp_in p1 4 ∧ (∀ d3 : DD, d3 = (up d2 41 p1.toNatClampNeg 0) → (Cn SX MX0_lengthAs [.ref p0, .int p1, .int x1] d3 (rI fun r5 d4 => (vp_in p1 4 ∧ (∀ d6 : DD, d6 = (up d4 46 p1.toNatClampNeg r5) → (vp_in p1 4 ∧ (Cn SX MX0_rowLength [.int x1, .int (d6 (p0 + 2) p1.toNatClampNeg)] d6 (rI fun r8 d7 => (vp_in p1 4 ∧ (∀ d9 : DD, d9 = (up d7 45 p1.toNatClampNeg r8) → Ev SX MX1_prepareTune 52 [.ref 38, .ref p0, .int p1, .int x1, .int 0] [] d9 (rV q))))))))))))))))) : Cn SX MX1_prepareTune [.ref 38, .ref p0, .int p1] d (rV q) := by
  refine cn_of (ls := [.ref 38, .ref p0, .int p1, uJ, uJ]) (by decide) rfl rfl (Nat.le_of_ble_eq_true rfl) ?_
  refine ev_aload_n dX1_prepareTune_0 rfl ?_
  refine ev_getr (M := MX1_prepareTune) (r := (p0 + 1)) 3 dX1_prepareTune_1 (hH_0 Hp0) ck0 (Nat.le_of_ble_eq_true rfl) rfl w94 ?_
  refine ev_iload_n dX1_prepareTune_4 rfl ?_
  obtain ⟨g, h⟩ := h
  refine ev_iald dX1_prepareTune_5 (hH_1 Hp0) g ?_
  refine ev_topi (fun x1 ex1 => ?_)
  have h := h x1 ex1
  refine ev_istore_n (M := MX1_prepareTune) (ls2 := [.ref 38, .ref p0, .int p1, .int x1, uJ]) 3 dX1_prepareTune_6 rfl (Nat.le_of_ble_eq_true rfl) rfl ?_
  refine ev_aload_n dX1_prepareTune_7 rfl ?_
  refine ev_getr (M := MX1_prepareTune) (r := 39) 0 dX1_prepareTune_8 sX_38 ck1 (Nat.le_of_ble_eq_true rfl) rfl w197 ?_
  refine ev_iload_n dX1_prepareTune_11 rfl ?_
  refine ev_iconst dX1_prepareTune_12 ci_m1 ?_
  obtain ⟨g, h⟩ := h
  refine ev_iast dX1_prepareTune_13 sX_39 g ?_
  refine ev_topd (fun d2 ed2 => ?_)
  have h := h d2 ed2
  refine ev_aload_n dX1_prepareTune_14 rfl ?_
  refine ev_getr (M := MX1_prepareTune) (r := 41) 2 dX1_prepareTune_15 sX_38 ck1 (Nat.le_of_ble_eq_true rfl) rfl w201 ?_
  refine ev_iload_n dX1_prepareTune_18 rfl ?_
  refine ev_iconst dX1_prepareTune_19 ci_0 ?_
  obtain ⟨g, h⟩ := h
  refine ev_iast dX1_prepareTune_20 sX_41 g ?_
  refine ev_topd (fun d3 ed3 => ?_)
  have h := h d3 ed3
  refine ev_aload_n dX1_prepareTune_21 rfl ?_
  refine ev_getr (M := MX1_prepareTune) (r := 46) 7 dX1_prepareTune_22 sX_38 ck1 (Nat.le_of_ble_eq_true rfl) rfl w208 ?_
  refine ev_iload_n dX1_prepareTune_25 rfl ?_
  refine ev_aload_n dX1_prepareTune_26 rfl ?_
  refine ev_iload_n dX1_prepareTune_27 rfl ?_
  refine ev_iload_n dX1_prepareTune_28 rfl ?_
  refine ev_callVi (M := MX1_prepareTune) (M2 := MX0_lengthAs) (As := [.int p1, .int x1]) (rest := [.int p1, .ref 46]) dX1_prepareTune_29 (hH_0 Hp0) ck0 rfl w547 moX0_lengthAs rfl ⟨Nat.le_of_ble_eq_true rfl, Nat.le_of_ble_eq_true rfl⟩ rfl rfl (Nat.le_of_ble_eq_true rfl) h (fun r5 d4 h => ?_)
  have h := rI_dn h
  obtain ⟨g, h⟩ := h
  refine ev_iast dX1_prepareTune_32 sX_46 g ?_
  refine ev_topd (fun d6 ed6 => ?_)
  have h := h d6 ed6
  refine ev_aload_n dX1_prepareTune_33 rfl ?_
  refine ev_getr (M := MX1_prepareTune) (r := 45) 6 dX1_prepareTune_34 sX_38 ck1 (Nat.le_of_ble_eq_true rfl) rfl w207 ?_
  refine ev_iload_n dX1_prepareTune_37 rfl ?_
  refine ev_iload_n dX1_prepareTune_38 rfl ?_
  refine ev_aload_n dX1_prepareTune_39 rfl ?_
  refine ev_getr (M := MX1_prepareTune) (r := (p0 + 2)) 4 dX1_prepareTune_40 (hH_0 Hp0) ck0 (Nat.le_of_ble_eq_true rfl) rfl w98 ?_
  refine ev_iload_n dX1_prepareTune_43 rfl ?_
  obtain ⟨g, h⟩ := h
  refine ev_iald dX1_prepareTune_44 (hH_2 Hp0) g ?_
  refine ev_callSi (M := MX1_prepareTune) (M2 := MX0_rowLength) (As := [.int x1, .int (d6 (p0 + 2) p1.toNatClampNeg)]) (rest := [.int p1, .ref 45]) dX1_prepareTune_45 w548 moX0_rowLength rfl ⟨Nat.le_of_ble_eq_true rfl, Nat.le_of_ble_eq_true rfl⟩ rfl rfl (Nat.le_of_ble_eq_true rfl) h (fun r8 d7 h => ?_)
  have h := rI_dn h
  obtain ⟨g, h⟩ := h
  refine ev_iast dX1_prepareTune_48 sX_45 g ?_
  refine ev_topd (fun d9 ed9 => ?_)
  have h := h d9 ed9
  refine ev_iconst dX1_prepareTune_49 ci_0 ?_
  refine ev_istore (M := MX1_prepareTune) (ls2 := [.ref 38, .ref p0, .int p1, .int x1, .int 0]) dX1_prepareTune_50 (Nat.le_of_ble_eq_true rfl) rfl ?_
  exact h
set_option maxRecDepth 4000 in
theorem bk_X1_prepareTune_52 {q : DD → Prop} {d : DD} {p0 : Nat} (Hp0 : isH p0) {l2 : Int32} {l3 : Int32} {l4 : Int32} (h : (vp_in l2 4 ∧ (((d 45 l2.toNatClampNeg) ≤ l4 → q d) ∧ (¬ (d 45 l2.toNatClampNeg) ≤ l4 → (Cn SX MX0_rowNote [.ref p0, .int l2, .int l3, .int l4] d (rI fun r3 d2 => (vp_in ((l2 * 16) + l4) 64 ∧ (∀ d4 : DD, d4 = (up d2 47 ((l2 * 16) + l4).toNatClampNeg r3) → Ev SX MX1_prepareTune 52 [.ref 38, .ref p0, .int l2, .int l3, .int (l4 + 1)] [] d4 (rV q))))))))) : Ev SX MX1_prepareTune 52 [.ref 38, .ref p0, .int l2, .int l3, .int l4] [] d (rV q) := by
  refine ev_iload dX1_prepareTune_52 rfl ?_
  refine ev_aload_n dX1_prepareTune_54 rfl ?_
  refine ev_getr (M := MX1_prepareTune) (r := 45) 6 dX1_prepareTune_55 sX_38 ck1 (Nat.le_of_ble_eq_true rfl) rfl w207 ?_
  refine ev_iload_n dX1_prepareTune_58 rfl ?_
  obtain ⟨g, h⟩ := h
  refine ev_iald dX1_prepareTune_59 sX_45 g ?_
  refine ev_icmp_ge (M := MX1_prepareTune) (tgt := 89) dX1_prepareTune_60 rfl (fun c1 => ?_) (fun c1 => ?_)
  · have h := h.1 c1
    exact ev_ret (M := MX1_prepareTune) dX1_prepareTune_89 rfl rfl h
  · have h := h.2 c1
    refine ev_aload_n dX1_prepareTune_63 rfl ?_
    refine ev_getr (M := MX1_prepareTune) (r := 47) 8 dX1_prepareTune_64 sX_38 ck1 (Nat.le_of_ble_eq_true rfl) rfl w209 ?_
    refine ev_iload_n dX1_prepareTune_67 rfl ?_
    refine ev_bipush dX1_prepareTune_68 cb_16 ?_
    refine ev_imul dX1_prepareTune_70 ?_
    refine ev_iload dX1_prepareTune_71 rfl ?_
    refine ev_iadd dX1_prepareTune_73 ?_
    refine ev_aload_n dX1_prepareTune_74 rfl ?_
    refine ev_iload_n dX1_prepareTune_75 rfl ?_
    refine ev_iload_n dX1_prepareTune_76 rfl ?_
    refine ev_iload dX1_prepareTune_77 rfl ?_
    refine ev_callVi (M := MX1_prepareTune) (M2 := MX0_rowNote) (As := [.int l2, .int l3, .int l4]) (rest := [.int ((l2 * 16) + l4), .ref 47]) dX1_prepareTune_79 (hH_0 Hp0) ck0 rfl w549 moX0_rowNote rfl ⟨Nat.le_of_ble_eq_true rfl, Nat.le_of_ble_eq_true rfl⟩ rfl rfl (Nat.le_of_ble_eq_true rfl) h (fun r3 d2 h => ?_)
    have h := rI_dn h
    obtain ⟨g, h⟩ := h
    refine ev_iast dX1_prepareTune_82 sX_47 g ?_
    refine ev_topd (fun d4 ed4 => ?_)
    have h := h d4 ed4
    refine ev_iinc (M := MX1_prepareTune) (ls2 := [.ref 38, .ref p0, .int l2, .int l3, .int (l4 + 1)]) dX1_prepareTune_83 rfl (iin ci_1) (Nat.le_of_ble_eq_true rfl) rfl ?_
    refine ev_goto (M := MX1_prepareTune) (tgt := 52) dX1_prepareTune_86 rfl ?_
    exact h
-- X1_finish
theorem cn_X1_finish {q : DD → Prop} {d : DD} {p0 : Int32} {p1 : Int32} {p2 : Int32} (h : (vp_in p0 4 ∧ (∀ d1 : DD, d1 = (up d 39 p0.toNatClampNeg p1) → (vp_in p0 4 ∧ (∀ d2 : DD, d2 = (up d1 40 p0.toNatClampNeg p2) → (∀ d3 : DD, d3 = (up d2 38 9 ((d2 38 9) - 1)) → q d3)))))) : Cn SX MX1_finish [.ref 38, .int p0, .int p1, .int p2] d (rV q) := by
  refine cn_of (ls := [.ref 38, .int p0, .int p1, .int p2]) (by decide) rfl rfl (Nat.le_of_ble_eq_true rfl) ?_
  refine ev_aload_n dX1_finish_0 rfl ?_
  refine ev_getr (M := MX1_finish) (r := 39) 0 dX1_finish_1 sX_38 ck1 (Nat.le_of_ble_eq_true rfl) rfl w197 ?_
  refine ev_iload_n dX1_finish_4 rfl ?_
  refine ev_iload_n dX1_finish_5 rfl ?_
  obtain ⟨g, h⟩ := h
  refine ev_iast dX1_finish_6 sX_39 g ?_
  refine ev_topd (fun d1 ed1 => ?_)
  have h := h d1 ed1
  refine ev_aload_n dX1_finish_7 rfl ?_
  refine ev_getr (M := MX1_finish) (r := 40) 1 dX1_finish_8 sX_38 ck1 (Nat.le_of_ble_eq_true rfl) rfl w199 ?_
  refine ev_iload_n dX1_finish_11 rfl ?_
  refine ev_iload_n dX1_finish_12 rfl ?_
  obtain ⟨g, h⟩ := h
  refine ev_iast dX1_finish_13 sX_40 g ?_
  refine ev_topd (fun d2 ed2 => ?_)
  have h := h d2 ed2
  refine ev_aload_n dX1_finish_14 rfl ?_
  refine ev_dup dX1_finish_15 rfl ?_
  refine ev_get 9 dX1_finish_16 sX_38 ck1 (Nat.le_of_ble_eq_true rfl) rfl w210 ?_
  refine ev_iconst dX1_finish_19 ci_1 ?_
  refine ev_isub dX1_finish_20 ?_
  refine ev_put 9 dX1_finish_21 sX_38 ck1 (Nat.le_of_ble_eq_true rfl) rfl w210 rfl rfl rfl ?_
  refine ev_topd (fun d3 ed3 => ?_)
  have h := h d3 ed3
  exact ev_ret (M := MX1_finish) dX1_finish_24 rfl rfl h
-- X1_noteHeard
set_option maxRecDepth 4000 in
theorem cn_X1_noteHeard {q : Int32 → DD → Prop} {d : DD} {p0 : Nat} (Hp0 : isH p0) {p1 : Int32} {p2 : Int32} (h : (vp_in p1 4 ∧ (((d 45 p1.toNatClampNeg) < 1 → (Cn SX MX1_finish [.ref 38, .int p1, .int p2, .int 0] d (rV fun d2 => q (-1) d2))) ∧ (¬ (d 45 p1.toNatClampNeg) < 1 → (vp_in p1 4 ∧ (vp_in p1 4 ∧ (((d 41 p1.toNatClampNeg) < (d 46 p1.toNatClampNeg) → (Cn SX MX1_playerOf [.ref 38, .ref p0, .int p1] d (rI fun r5 d4 => ((0 ≤ r5 → (vp_in r5 4 ∧ (vp_in r5 4 ∧ (∀ d7 : DD, d7 = (up d4 43 r5.toNatClampNeg ((d4 43 r5.toNatClampNeg) - 1)) → (vp_in r5 4 ∧ (vp_in r5 4 ∧ (∀ d8 : DD, d8 = (up d7 42 r5.toNatClampNeg ((d7 42 r5.toNatClampNeg) + 1)) → (vp_in p1 4 ∧ (vp_in p1 4 ∧ ((¬ (d8 45 p1.toNatClampNeg) = 0) ∧ (vp_in ((p1 * 16) + (jrem (d8 41 p1.toNatClampNeg) (d8 45 p1.toNatClampNeg))) 64 ∧ (∀ x9 : Int32, x9 = (d8 47 ((p1 * 16) + (jrem (d8 41 p1.toNatClampNeg) (d8 45 p1.toNatClampNeg))).toNatClampNeg) → (vp_in r5 4 ∧ ((x9 ≤ (d8 (p0 + 6) r5.toNatClampNeg) → (vp_in p1 4 ∧ (vp_in p1 4 ∧ (∀ d11 : DD, d11 = (up d8 41 p1.toNatClampNeg ((d8 41 p1.toNatClampNeg) + 1)) → q x9 d11)))) ∧ (¬ x9 ≤ (d8 (p0 + 6) r5.toNatClampNeg) → (Cn SX MX1_finish [.ref 38, .int p1, .int p2, .int 1] d8 (rV fun d12 => q (-1) d12))))))))))))))))) ∧ (¬ 0 ≤ r5 → (Cn SX MX1_finish [.ref 38, .int p1, .int p2, .int 2] d4 (rV fun d13 => q (-1) d13))))))) ∧ (¬ (d 41 p1.toNatClampNeg) < (d 46 p1.toNatClampNeg) → (Cn SX MX1_finish [.ref 38, .int p1, .int p2, .int 0] d (rV fun d14 => q (-1) d14)))))))))) : Cn SX MX1_noteHeard [.ref 38, .ref p0, .int p1, .int p2] d (rI q) := by
  refine cn_of (ls := [.ref 38, .ref p0, .int p1, .int p2, uJ, uJ]) (by decide) rfl rfl (Nat.le_of_ble_eq_true rfl) ?_
  refine ev_aload_n dX1_noteHeard_0 rfl ?_
  refine ev_getr (M := MX1_noteHeard) (r := 45) 6 dX1_noteHeard_1 sX_38 ck1 (Nat.le_of_ble_eq_true rfl) rfl w207 ?_
  refine ev_iload_n dX1_noteHeard_4 rfl ?_
  obtain ⟨g, h⟩ := h
  refine ev_iald dX1_noteHeard_5 sX_45 g ?_
  refine ev_iconst dX1_noteHeard_6 ci_1 ?_
  refine ev_icmp_lt (M := MX1_noteHeard) (tgt := 25) dX1_noteHeard_7 rfl (fun c1 => ?_) (fun c1 => ?_)
  · have h := h.1 c1
    refine ev_aload_n dX1_noteHeard_25 rfl ?_
    refine ev_iload_n dX1_noteHeard_26 rfl ?_
    refine ev_iload_n dX1_noteHeard_27 rfl ?_
    refine ev_iconst dX1_noteHeard_28 ci_0 ?_
    refine ev_callVv (M := MX1_noteHeard) (M2 := MX1_finish) (As := [.int p1, .int p2, .int 0]) (rest := []) dX1_noteHeard_29 sX_38 ck1 rfl w554 moX1_finish rfl ⟨Nat.le_of_ble_eq_true rfl, Nat.le_of_ble_eq_true rfl⟩ rfl rfl (Nat.le_of_ble_eq_true rfl) h (fun d2 h => ?_)
    have h := rV_dn h
    refine ev_iconst dX1_noteHeard_32 ci_m1 ?_
    exact ev_ireti (M := MX1_noteHeard) (ty := .int) dX1_noteHeard_33 rfl rfl rfl h
  · have h := h.2 c1
    refine ev_aload_n dX1_noteHeard_10 rfl ?_
    refine ev_getr (M := MX1_noteHeard) (r := 41) 2 dX1_noteHeard_11 sX_38 ck1 (Nat.le_of_ble_eq_true rfl) rfl w201 ?_
    refine ev_iload_n dX1_noteHeard_14 rfl ?_
    obtain ⟨g, h⟩ := h
    refine ev_iald dX1_noteHeard_15 sX_41 g ?_
    refine ev_aload_n dX1_noteHeard_16 rfl ?_
    refine ev_getr (M := MX1_noteHeard) (r := 46) 7 dX1_noteHeard_17 sX_38 ck1 (Nat.le_of_ble_eq_true rfl) rfl w208 ?_
    refine ev_iload_n dX1_noteHeard_20 rfl ?_
    obtain ⟨g, h⟩ := h
    refine ev_iald dX1_noteHeard_21 sX_46 g ?_
    refine ev_icmp_lt (M := MX1_noteHeard) (tgt := 34) dX1_noteHeard_22 rfl (fun c3 => ?_) (fun c3 => ?_)
    · have h := h.1 c3
      refine ev_aload_n dX1_noteHeard_34 rfl ?_
      refine ev_aload_n dX1_noteHeard_35 rfl ?_
      refine ev_iload_n dX1_noteHeard_36 rfl ?_
      refine ev_callVi (M := MX1_noteHeard) (M2 := MX1_playerOf) (As := [.ref p0, .int p1]) (rest := []) dX1_noteHeard_37 sX_38 ck1 rfl w558 moX1_playerOf rfl ⟨Nat.le_of_ble_eq_true rfl, Nat.le_of_ble_eq_true rfl⟩ rfl rfl (Nat.le_of_ble_eq_true rfl) h (fun r5 d4 h => ?_)
      have h := rI_dn h
      refine ev_istore (M := MX1_noteHeard) (ls2 := [.ref 38, .ref p0, .int p1, .int p2, .int r5, uJ]) dX1_noteHeard_40 (Nat.le_of_ble_eq_true rfl) rfl ?_
      refine ev_iload dX1_noteHeard_42 rfl ?_
      refine ev_if_ge (M := MX1_noteHeard) (tgt := 56) dX1_noteHeard_44 rfl (fun c6 => ?_) (fun c6 => ?_)
      · have h := h.1 c6
        refine ev_aload_n dX1_noteHeard_56 rfl ?_
        refine ev_getr (M := MX1_noteHeard) (r := 43) 4 dX1_noteHeard_57 sX_38 ck1 (Nat.le_of_ble_eq_true rfl) rfl w205 ?_
        refine ev_iload dX1_noteHeard_60 rfl ?_
        refine ev_dup2 dX1_noteHeard_62 rfl rfl ?_
        obtain ⟨g, h⟩ := h
        refine ev_iald dX1_noteHeard_63 sX_43 g ?_
        refine ev_iconst dX1_noteHeard_64 ci_1 ?_
        refine ev_isub dX1_noteHeard_65 ?_
        obtain ⟨g, h⟩ := h
        refine ev_iast dX1_noteHeard_66 sX_43 g ?_
        refine ev_topd (fun d7 ed7 => ?_)
        have h := h d7 ed7
        refine ev_aload_n dX1_noteHeard_67 rfl ?_
        refine ev_getr (M := MX1_noteHeard) (r := 42) 3 dX1_noteHeard_68 sX_38 ck1 (Nat.le_of_ble_eq_true rfl) rfl w203 ?_
        refine ev_iload dX1_noteHeard_71 rfl ?_
        refine ev_dup2 dX1_noteHeard_73 rfl rfl ?_
        obtain ⟨g, h⟩ := h
        refine ev_iald dX1_noteHeard_74 sX_42 g ?_
        refine ev_iconst dX1_noteHeard_75 ci_1 ?_
        refine ev_iadd dX1_noteHeard_76 ?_
        obtain ⟨g, h⟩ := h
        refine ev_iast dX1_noteHeard_77 sX_42 g ?_
        refine ev_topd (fun d8 ed8 => ?_)
        have h := h d8 ed8
        refine ev_aload_n dX1_noteHeard_78 rfl ?_
        refine ev_getr (M := MX1_noteHeard) (r := 47) 8 dX1_noteHeard_79 sX_38 ck1 (Nat.le_of_ble_eq_true rfl) rfl w209 ?_
        refine ev_iload_n dX1_noteHeard_82 rfl ?_
        refine ev_bipush dX1_noteHeard_83 cb_16 ?_
        refine ev_imul dX1_noteHeard_85 ?_
        refine ev_aload_n dX1_noteHeard_86 rfl ?_
        refine ev_getr (M := MX1_noteHeard) (r := 41) 2 dX1_noteHeard_87 sX_38 ck1 (Nat.le_of_ble_eq_true rfl) rfl w201 ?_
        refine ev_iload_n dX1_noteHeard_90 rfl ?_
        obtain ⟨g, h⟩ := h
        refine ev_iald dX1_noteHeard_91 sX_41 g ?_
        refine ev_aload_n dX1_noteHeard_92 rfl ?_
        refine ev_getr (M := MX1_noteHeard) (r := 45) 6 dX1_noteHeard_93 sX_38 ck1 (Nat.le_of_ble_eq_true rfl) rfl w207 ?_
        refine ev_iload_n dX1_noteHeard_96 rfl ?_
        obtain ⟨g, h⟩ := h
        refine ev_iald dX1_noteHeard_97 sX_45 g ?_
        obtain ⟨g, h⟩ := h
        refine ev_irem dX1_noteHeard_98 g ?_
        refine ev_iadd dX1_noteHeard_99 ?_
        obtain ⟨g, h⟩ := h
        refine ev_iald dX1_noteHeard_100 sX_47 g ?_
        refine ev_topi (fun x9 ex9 => ?_)
        have h := h x9 ex9
        refine ev_istore (M := MX1_noteHeard) (ls2 := [.ref 38, .ref p0, .int p1, .int p2, .int r5, .int x9]) dX1_noteHeard_101 (Nat.le_of_ble_eq_true rfl) rfl ?_
        refine ev_iload dX1_noteHeard_103 rfl ?_
        refine ev_aload_n dX1_noteHeard_105 rfl ?_
        refine ev_getr (M := MX1_noteHeard) (r := (p0 + 6)) 8 dX1_noteHeard_106 (hH_0 Hp0) ck0 (Nat.le_of_ble_eq_true rfl) rfl w112 ?_
        refine ev_iload dX1_noteHeard_109 rfl ?_
        obtain ⟨g, h⟩ := h
        refine ev_iald dX1_noteHeard_111 (hH_6 Hp0) g ?_
        refine ev_icmp_le (M := MX1_noteHeard) (tgt := 124) dX1_noteHeard_112 rfl (fun c10 => ?_) (fun c10 => ?_)
        · have h := h.1 c10
          refine ev_aload_n dX1_noteHeard_124 rfl ?_
          refine ev_getr (M := MX1_noteHeard) (r := 41) 2 dX1_noteHeard_125 sX_38 ck1 (Nat.le_of_ble_eq_true rfl) rfl w201 ?_
          refine ev_iload_n dX1_noteHeard_128 rfl ?_
          refine ev_dup2 dX1_noteHeard_129 rfl rfl ?_
          obtain ⟨g, h⟩ := h
          refine ev_iald dX1_noteHeard_130 sX_41 g ?_
          refine ev_iconst dX1_noteHeard_131 ci_1 ?_
          refine ev_iadd dX1_noteHeard_132 ?_
          obtain ⟨g, h⟩ := h
          refine ev_iast dX1_noteHeard_133 sX_41 g ?_
          refine ev_topd (fun d11 ed11 => ?_)
          have h := h d11 ed11
          refine ev_iload dX1_noteHeard_134 rfl ?_
          exact ev_ireti (M := MX1_noteHeard) (ty := .int) dX1_noteHeard_136 rfl rfl rfl h
        · have h := h.2 c10
          refine ev_aload_n dX1_noteHeard_115 rfl ?_
          refine ev_iload_n dX1_noteHeard_116 rfl ?_
          refine ev_iload_n dX1_noteHeard_117 rfl ?_
          refine ev_iconst dX1_noteHeard_118 ci_1 ?_
          refine ev_callVv (M := MX1_noteHeard) (M2 := MX1_finish) (As := [.int p1, .int p2, .int 1]) (rest := []) dX1_noteHeard_119 sX_38 ck1 rfl w554 moX1_finish rfl ⟨Nat.le_of_ble_eq_true rfl, Nat.le_of_ble_eq_true rfl⟩ rfl rfl (Nat.le_of_ble_eq_true rfl) h (fun d12 h => ?_)
          have h := rV_dn h
          refine ev_iconst dX1_noteHeard_122 ci_m1 ?_
          exact ev_ireti (M := MX1_noteHeard) (ty := .int) dX1_noteHeard_123 rfl rfl rfl h
      · have h := h.2 c6
        refine ev_aload_n dX1_noteHeard_47 rfl ?_
        refine ev_iload_n dX1_noteHeard_48 rfl ?_
        refine ev_iload_n dX1_noteHeard_49 rfl ?_
        refine ev_iconst dX1_noteHeard_50 ci_2 ?_
        refine ev_callVv (M := MX1_noteHeard) (M2 := MX1_finish) (As := [.int p1, .int p2, .int 2]) (rest := []) dX1_noteHeard_51 sX_38 ck1 rfl w554 moX1_finish rfl ⟨Nat.le_of_ble_eq_true rfl, Nat.le_of_ble_eq_true rfl⟩ rfl rfl (Nat.le_of_ble_eq_true rfl) h (fun d13 h => ?_)
        have h := rV_dn h
        refine ev_iconst dX1_noteHeard_54 ci_m1 ?_
        exact ev_ireti (M := MX1_noteHeard) (ty := .int) dX1_noteHeard_55 rfl rfl rfl h
    · have h := h.2 c3
      refine ev_aload_n dX1_noteHeard_25 rfl ?_
      refine ev_iload_n dX1_noteHeard_26 rfl ?_
      refine ev_iload_n dX1_noteHeard_27 rfl ?_
      refine ev_iconst dX1_noteHeard_28 ci_0 ?_
      refine ev_callVv (M := MX1_noteHeard) (M2 := MX1_finish) (As := [.int p1, .int p2, .int 0]) (rest := []) dX1_noteHeard_29 sX_38 ck1 rfl w554 moX1_finish rfl ⟨Nat.le_of_ble_eq_true rfl, Nat.le_of_ble_eq_true rfl⟩ rfl rfl (Nat.le_of_ble_eq_true rfl) h (fun d14 h => ?_)
      have h := rV_dn h
      refine ev_iconst dX1_noteHeard_32 ci_m1 ?_
      exact ev_ireti (M := MX1_noteHeard) (ty := .int) dX1_noteHeard_33 rfl rfl rfl h
-- X1_playerOf
theorem cn_X1_playerOf {q : Int32 → DD → Prop} {d : DD} {p0 : Nat} (Hp0 : isH p0) {p1 : Int32} (h : Ev SX MX1_playerOf 2 [.ref 38, .ref p0, .int p1, .int 0] [] d (rI q)) : Cn SX MX1_playerOf [.ref 38, .ref p0, .int p1] d (rI q) := by
  refine cn_of (ls := [.ref 38, .ref p0, .int p1, uJ]) (by decide) rfl rfl (Nat.le_of_ble_eq_true rfl) ?_
  refine ev_iconst dX1_playerOf_0 ci_0 ?_
  refine ev_istore_n (M := MX1_playerOf) (ls2 := [.ref 38, .ref p0, .int p1, .int 0]) 3 dX1_playerOf_1 rfl (Nat.le_of_ble_eq_true rfl) rfl ?_
  exact h
theorem bk_X1_playerOf_2 {q : Int32 → DD → Prop} {d : DD} {p0 : Nat} (Hp0 : isH p0) {l2 : Int32} {l3 : Int32} (h : (((d p0 1) ≤ l3 → q (-1) d) ∧ (¬ (d p0 1) ≤ l3 → (vp_in l3 4 ∧ ((¬ (d (p0 + 9) l3.toNatClampNeg) = l2 → Ev SX MX1_playerOf 2 [.ref 38, .ref p0, .int l2, .int (l3 + 1)] [] d (rI q)) ∧ ((d (p0 + 9) l3.toNatClampNeg) = l2 → (vp_in l3 4 ∧ (((d 43 l3.toNatClampNeg) ≤ 0 → Ev SX MX1_playerOf 2 [.ref 38, .ref p0, .int l2, .int (l3 + 1)] [] d (rI q)) ∧ (¬ (d 43 l3.toNatClampNeg) ≤ 0 → q l3 d))))))))) : Ev SX MX1_playerOf 2 [.ref 38, .ref p0, .int l2, .int l3] [] d (rI q) := by
  refine ev_iload_n dX1_playerOf_2 rfl ?_
  refine ev_aload_n dX1_playerOf_3 rfl ?_
  refine ev_get 1 dX1_playerOf_4 (hH_0 Hp0) ck0 (Nat.le_of_ble_eq_true rfl) rfl w86 ?_
  refine ev_icmp_ge (M := MX1_playerOf) (tgt := 37) dX1_playerOf_7 rfl (fun c1 => ?_) (fun c1 => ?_)
  · have h := h.1 c1
    refine ev_iconst dX1_playerOf_37 ci_m1 ?_
    exact ev_ireti (M := MX1_playerOf) (ty := .int) dX1_playerOf_38 rfl rfl rfl h
  · have h := h.2 c1
    refine ev_aload_n dX1_playerOf_10 rfl ?_
    refine ev_getr (M := MX1_playerOf) (r := (p0 + 9)) 11 dX1_playerOf_11 (hH_0 Hp0) ck0 (Nat.le_of_ble_eq_true rfl) rfl w124 ?_
    refine ev_iload_n dX1_playerOf_14 rfl ?_
    obtain ⟨g, h⟩ := h
    refine ev_iald dX1_playerOf_15 (hH_9 Hp0) g ?_
    refine ev_iload_n dX1_playerOf_16 rfl ?_
    refine ev_icmp_ne (M := MX1_playerOf) (tgt := 31) dX1_playerOf_17 rfl (fun c2 => ?_) (fun c2 => ?_)
    · have h := h.1 c2
      refine ev_iinc (M := MX1_playerOf) (ls2 := [.ref 38, .ref p0, .int l2, .int (l3 + 1)]) dX1_playerOf_31 rfl (iin ci_1) (Nat.le_of_ble_eq_true rfl) rfl ?_
      refine ev_goto (M := MX1_playerOf) (tgt := 2) dX1_playerOf_34 rfl ?_
      exact h
    · have h := h.2 c2
      refine ev_aload_n dX1_playerOf_20 rfl ?_
      refine ev_getr (M := MX1_playerOf) (r := 43) 4 dX1_playerOf_21 sX_38 ck1 (Nat.le_of_ble_eq_true rfl) rfl w205 ?_
      refine ev_iload_n dX1_playerOf_24 rfl ?_
      obtain ⟨g, h⟩ := h
      refine ev_iald dX1_playerOf_25 sX_43 g ?_
      refine ev_if_le (M := MX1_playerOf) (tgt := 31) dX1_playerOf_26 rfl (fun c3 => ?_) (fun c3 => ?_)
      · have h := h.1 c3
        refine ev_iinc (M := MX1_playerOf) (ls2 := [.ref 38, .ref p0, .int l2, .int (l3 + 1)]) dX1_playerOf_31 rfl (iin ci_1) (Nat.le_of_ble_eq_true rfl) rfl ?_
        refine ev_goto (M := MX1_playerOf) (tgt := 2) dX1_playerOf_34 rfl ?_
        exact h
      · have h := h.2 c3
        refine ev_iload_n dX1_playerOf_29 rfl ?_
        exact ev_ireti (M := MX1_playerOf) (ty := .int) dX1_playerOf_30 rfl rfl rfl h
-- X1_crossAll
theorem cn_X1_crossAll {q : DD → Prop} {d : DD} {p0 : Nat} (Hp0 : isH p0) {p1 : Int32} (h : Ev SX MX1_crossAll 2 [.ref 38, .ref p0, .int p1, .int 0, uJ] [] d (rV q)) : Cn SX MX1_crossAll [.ref 38, .ref p0, .int p1] d (rV q) := by
  refine cn_of (ls := [.ref 38, .ref p0, .int p1, uJ, uJ]) (by decide) rfl rfl (Nat.le_of_ble_eq_true rfl) ?_
  refine ev_iconst dX1_crossAll_0 ci_0 ?_
  refine ev_istore_n (M := MX1_crossAll) (ls2 := [.ref 38, .ref p0, .int p1, .int 0, uJ]) 3 dX1_crossAll_1 rfl (Nat.le_of_ble_eq_true rfl) rfl ?_
  exact h
theorem bk_X1_crossAll_2 {q : DD → Prop} {d : DD} {p0 : Nat} (Hp0 : isH p0) {l2 : Int32} {l3 : Int32} (h : (((d p0 0) ≤ l3 → q d) ∧ (¬ (d p0 0) ≤ l3 → Ev SX MX1_crossAll 15 [.ref 38, .ref p0, .int l2, .int l3, .int (l3 + 1)] [] d (rV q)))) : Ev SX MX1_crossAll 2 [.ref 38, .ref p0, .int l2, .int l3, uJ] [] d (rV q) := by
  refine ev_iload_n dX1_crossAll_2 rfl ?_
  refine ev_aload_n dX1_crossAll_3 rfl ?_
  refine ev_get 0 dX1_crossAll_4 (hH_0 Hp0) ck0 (Nat.le_of_ble_eq_true rfl) rfl w82 ?_
  refine ev_icmp_ge (M := MX1_crossAll) (tgt := 71) dX1_crossAll_7 rfl (fun c1 => ?_) (fun c1 => ?_)
  · have h := h.1 c1
    exact ev_ret (M := MX1_crossAll) dX1_crossAll_71 rfl rfl h
  · have h := h.2 c1
    refine ev_iload_n dX1_crossAll_10 rfl ?_
    refine ev_iconst dX1_crossAll_11 ci_1 ?_
    refine ev_iadd dX1_crossAll_12 ?_
    refine ev_istore (M := MX1_crossAll) (ls2 := [.ref 38, .ref p0, .int l2, .int l3, .int (l3 + 1)]) dX1_crossAll_13 (Nat.le_of_ble_eq_true rfl) rfl ?_
    exact h
theorem bk_X1_crossAll_15 {q : DD → Prop} {d : DD} {p0 : Nat} (Hp0 : isH p0) {l2 : Int32} {l3 : Int32} {l4 : Int32} (h : (((d p0 0) ≤ l4 → Ev SX MX1_crossAll 2 [.ref 38, .ref p0, .int l2, .int (l3 + 1), uJ] [] d (rV q)) ∧ (¬ (d p0 0) ≤ l4 → (vp_in l3 4 ∧ (((d 44 l3.toNatClampNeg) = (-1) → Ev SX MX1_crossAll 15 [.ref 38, .ref p0, .int l2, .int l3, .int (l4 + 1)] [] d (rV q)) ∧ (¬ (d 44 l3.toNatClampNeg) = (-1) → (vp_in l3 4 ∧ (vp_in l4 4 ∧ ((¬ (d 44 l3.toNatClampNeg) = (d 44 l4.toNatClampNeg) → Ev SX MX1_crossAll 15 [.ref 38, .ref p0, .int l2, .int l3, .int (l4 + 1)] [] d (rV q)) ∧ ((d 44 l3.toNatClampNeg) = (d 44 l4.toNatClampNeg) → (Cn SX MX1_crossThird [.ref 38, .ref p0, .int l3, .int l4, .int l2] d (rV fun d4 => Ev SX MX1_crossAll 15 [.ref 38, .ref p0, .int l2, .int l3, .int (l4 + 1)] [] d4 (rV q))))))))))))) : Ev SX MX1_crossAll 15 [.ref 38, .ref p0, .int l2, .int l3, .int l4] [] d (rV q) := by
  refine ev_iload dX1_crossAll_15 rfl ?_
  refine ev_aload_n dX1_crossAll_17 rfl ?_
  refine ev_get 0 dX1_crossAll_18 (hH_0 Hp0) ck0 (Nat.le_of_ble_eq_true rfl) rfl w82 ?_
  refine ev_icmp_ge (M := MX1_crossAll) (tgt := 65) dX1_crossAll_21 rfl (fun c1 => ?_) (fun c1 => ?_)
  · have h := h.1 c1
    refine ev_iinc (M := MX1_crossAll) (ls2 := [.ref 38, .ref p0, .int l2, .int (l3 + 1), .int l4]) dX1_crossAll_65 rfl (iin ci_1) (Nat.le_of_ble_eq_true rfl) rfl ?_
    refine ev_goto (M := MX1_crossAll) (tgt := 2) dX1_crossAll_68 rfl ?_
    refine Ev.forget (ls2 := [.ref 38, .ref p0, .int l2, .int (l3 + 1), uJ]) ?_ (fun i v hi hv => lsub_of (bs := [false, false, false, false, true]) rfl i v hi hv)
    exact h
  · have h := h.2 c1
    refine ev_aload_n dX1_crossAll_24 rfl ?_
    refine ev_getr (M := MX1_crossAll) (r := 44) 5 dX1_crossAll_25 sX_38 ck1 (Nat.le_of_ble_eq_true rfl) rfl w206 ?_
    refine ev_iload_n dX1_crossAll_28 rfl ?_
    obtain ⟨g, h⟩ := h
    refine ev_iald dX1_crossAll_29 sX_44 g ?_
    refine ev_iconst dX1_crossAll_30 ci_m1 ?_
    refine ev_icmp_eq (M := MX1_crossAll) (tgt := 59) dX1_crossAll_31 rfl (fun c2 => ?_) (fun c2 => ?_)
    · have h := h.1 c2
      refine ev_iinc (M := MX1_crossAll) (ls2 := [.ref 38, .ref p0, .int l2, .int l3, .int (l4 + 1)]) dX1_crossAll_59 rfl (iin ci_1) (Nat.le_of_ble_eq_true rfl) rfl ?_
      refine ev_goto (M := MX1_crossAll) (tgt := 15) dX1_crossAll_62 rfl ?_
      exact h
    · have h := h.2 c2
      refine ev_aload_n dX1_crossAll_34 rfl ?_
      refine ev_getr (M := MX1_crossAll) (r := 44) 5 dX1_crossAll_35 sX_38 ck1 (Nat.le_of_ble_eq_true rfl) rfl w206 ?_
      refine ev_iload_n dX1_crossAll_38 rfl ?_
      obtain ⟨g, h⟩ := h
      refine ev_iald dX1_crossAll_39 sX_44 g ?_
      refine ev_aload_n dX1_crossAll_40 rfl ?_
      refine ev_getr (M := MX1_crossAll) (r := 44) 5 dX1_crossAll_41 sX_38 ck1 (Nat.le_of_ble_eq_true rfl) rfl w206 ?_
      refine ev_iload dX1_crossAll_44 rfl ?_
      obtain ⟨g, h⟩ := h
      refine ev_iald dX1_crossAll_46 sX_44 g ?_
      refine ev_icmp_ne (M := MX1_crossAll) (tgt := 59) dX1_crossAll_47 rfl (fun c3 => ?_) (fun c3 => ?_)
      · have h := h.1 c3
        refine ev_iinc (M := MX1_crossAll) (ls2 := [.ref 38, .ref p0, .int l2, .int l3, .int (l4 + 1)]) dX1_crossAll_59 rfl (iin ci_1) (Nat.le_of_ble_eq_true rfl) rfl ?_
        refine ev_goto (M := MX1_crossAll) (tgt := 15) dX1_crossAll_62 rfl ?_
        exact h
      · have h := h.2 c3
        refine ev_aload_n dX1_crossAll_50 rfl ?_
        refine ev_aload_n dX1_crossAll_51 rfl ?_
        refine ev_iload_n dX1_crossAll_52 rfl ?_
        refine ev_iload dX1_crossAll_53 rfl ?_
        refine ev_iload_n dX1_crossAll_55 rfl ?_
        refine ev_callVv (M := MX1_crossAll) (M2 := MX1_crossThird) (As := [.ref p0, .int l3, .int l4, .int l2]) (rest := []) dX1_crossAll_56 sX_38 ck1 rfl w566 moX1_crossThird rfl ⟨Nat.le_of_ble_eq_true rfl, Nat.le_of_ble_eq_true rfl⟩ rfl rfl (Nat.le_of_ble_eq_true rfl) h (fun d4 h => ?_)
        have h := rV_dn h
        refine ev_iinc (M := MX1_crossAll) (ls2 := [.ref 38, .ref p0, .int l2, .int l3, .int (l4 + 1)]) dX1_crossAll_59 rfl (iin ci_1) (Nat.le_of_ble_eq_true rfl) rfl ?_
        refine ev_goto (M := MX1_crossAll) (tgt := 15) dX1_crossAll_62 rfl ?_
        exact h
-- X1_crossThird
theorem cn_X1_crossThird {q : DD → Prop} {d : DD} {p0 : Nat} (Hp0 : isH p0) {p1 : Int32} {p2 : Int32} {p3 : Int32} (h : Ev SX MX1_crossThird 3 [.ref 38, .ref p0, .int p1, .int p2, .int p3, .int 0] [] d (rV q)) : Cn SX MX1_crossThird [.ref 38, .ref p0, .int p1, .int p2, .int p3] d (rV q) := by
  refine cn_of (ls := [.ref 38, .ref p0, .int p1, .int p2, .int p3, uJ]) (by decide) rfl rfl (Nat.le_of_ble_eq_true rfl) ?_
  refine ev_iconst dX1_crossThird_0 ci_0 ?_
  refine ev_istore (M := MX1_crossThird) (ls2 := [.ref 38, .ref p0, .int p1, .int p2, .int p3, .int 0]) dX1_crossThird_1 (Nat.le_of_ble_eq_true rfl) rfl ?_
  exact h
theorem bk_X1_crossThird_3 {q : DD → Prop} {d : DD} {p0 : Nat} (Hp0 : isH p0) {l2 : Int32} {l3 : Int32} {l4 : Int32} {l5 : Int32} (h : (((d p0 0) ≤ l5 → q d) ∧ (¬ (d p0 0) ≤ l5 → ((l5 = l2 → Ev SX MX1_crossThird 3 [.ref 38, .ref p0, .int l2, .int l3, .int l4, .int (l5 + 1)] [] d (rV q)) ∧ (¬ l5 = l2 → ((l5 = l3 → Ev SX MX1_crossThird 3 [.ref 38, .ref p0, .int l2, .int l3, .int l4, .int (l5 + 1)] [] d (rV q)) ∧ (¬ l5 = l3 → (vp_in l5 4 ∧ (((d 44 l5.toNatClampNeg) = (-1) → Ev SX MX1_crossThird 3 [.ref 38, .ref p0, .int l2, .int l3, .int l4, .int (l5 + 1)] [] d (rV q)) ∧ (¬ (d 44 l5.toNatClampNeg) = (-1) → (vp_in l5 4 ∧ ((¬ (d 39 l5.toNatClampNeg) = (-1) → Ev SX MX1_crossThird 3 [.ref 38, .ref p0, .int l2, .int l3, .int l4, .int (l5 + 1)] [] d (rV q)) ∧ ((d 39 l5.toNatClampNeg) = (-1) → (Cn SX MX1_finish [.ref 38, .int l5, .int l4, .int 3] d (rV fun d6 => q d6))))))))))))))) : Ev SX MX1_crossThird 3 [.ref 38, .ref p0, .int l2, .int l3, .int l4, .int l5] [] d (rV q) := by
  refine ev_iload dX1_crossThird_3 rfl ?_
  refine ev_aload_n dX1_crossThird_5 rfl ?_
  refine ev_get 0 dX1_crossThird_6 (hH_0 Hp0) ck0 (Nat.le_of_ble_eq_true rfl) rfl w82 ?_
  refine ev_icmp_ge (M := MX1_crossThird) (tgt := 62) dX1_crossThird_9 rfl (fun c1 => ?_) (fun c1 => ?_)
  · have h := h.1 c1
    exact ev_ret (M := MX1_crossThird) dX1_crossThird_62 rfl rfl h
  · have h := h.2 c1
    refine ev_iload dX1_crossThird_12 rfl ?_
    refine ev_iload_n dX1_crossThird_14 rfl ?_
    refine ev_icmp_eq (M := MX1_crossThird) (tgt := 56) dX1_crossThird_15 rfl (fun c2 => ?_) (fun c2 => ?_)
    · have h := h.1 c2
      refine ev_iinc (M := MX1_crossThird) (ls2 := [.ref 38, .ref p0, .int l2, .int l3, .int l4, .int (l5 + 1)]) dX1_crossThird_56 rfl (iin ci_1) (Nat.le_of_ble_eq_true rfl) rfl ?_
      refine ev_goto (M := MX1_crossThird) (tgt := 3) dX1_crossThird_59 rfl ?_
      exact h
    · have h := h.2 c2
      refine ev_iload dX1_crossThird_18 rfl ?_
      refine ev_iload_n dX1_crossThird_20 rfl ?_
      refine ev_icmp_eq (M := MX1_crossThird) (tgt := 56) dX1_crossThird_21 rfl (fun c3 => ?_) (fun c3 => ?_)
      · have h := h.1 c3
        refine ev_iinc (M := MX1_crossThird) (ls2 := [.ref 38, .ref p0, .int l2, .int l3, .int l4, .int (l5 + 1)]) dX1_crossThird_56 rfl (iin ci_1) (Nat.le_of_ble_eq_true rfl) rfl ?_
        refine ev_goto (M := MX1_crossThird) (tgt := 3) dX1_crossThird_59 rfl ?_
        exact h
      · have h := h.2 c3
        refine ev_aload_n dX1_crossThird_24 rfl ?_
        refine ev_getr (M := MX1_crossThird) (r := 44) 5 dX1_crossThird_25 sX_38 ck1 (Nat.le_of_ble_eq_true rfl) rfl w206 ?_
        refine ev_iload dX1_crossThird_28 rfl ?_
        obtain ⟨g, h⟩ := h
        refine ev_iald dX1_crossThird_30 sX_44 g ?_
        refine ev_iconst dX1_crossThird_31 ci_m1 ?_
        refine ev_icmp_eq (M := MX1_crossThird) (tgt := 56) dX1_crossThird_32 rfl (fun c4 => ?_) (fun c4 => ?_)
        · have h := h.1 c4
          refine ev_iinc (M := MX1_crossThird) (ls2 := [.ref 38, .ref p0, .int l2, .int l3, .int l4, .int (l5 + 1)]) dX1_crossThird_56 rfl (iin ci_1) (Nat.le_of_ble_eq_true rfl) rfl ?_
          refine ev_goto (M := MX1_crossThird) (tgt := 3) dX1_crossThird_59 rfl ?_
          exact h
        · have h := h.2 c4
          refine ev_aload_n dX1_crossThird_35 rfl ?_
          refine ev_getr (M := MX1_crossThird) (r := 39) 0 dX1_crossThird_36 sX_38 ck1 (Nat.le_of_ble_eq_true rfl) rfl w197 ?_
          refine ev_iload dX1_crossThird_39 rfl ?_
          obtain ⟨g, h⟩ := h
          refine ev_iald dX1_crossThird_41 sX_39 g ?_
          refine ev_iconst dX1_crossThird_42 ci_m1 ?_
          refine ev_icmp_ne (M := MX1_crossThird) (tgt := 56) dX1_crossThird_43 rfl (fun c5 => ?_) (fun c5 => ?_)
          · have h := h.1 c5
            refine ev_iinc (M := MX1_crossThird) (ls2 := [.ref 38, .ref p0, .int l2, .int l3, .int l4, .int (l5 + 1)]) dX1_crossThird_56 rfl (iin ci_1) (Nat.le_of_ble_eq_true rfl) rfl ?_
            refine ev_goto (M := MX1_crossThird) (tgt := 3) dX1_crossThird_59 rfl ?_
            exact h
          · have h := h.2 c5
            refine ev_aload_n dX1_crossThird_46 rfl ?_
            refine ev_iload dX1_crossThird_47 rfl ?_
            refine ev_iload dX1_crossThird_49 rfl ?_
            refine ev_iconst dX1_crossThird_51 ci_3 ?_
            refine ev_callVv (M := MX1_crossThird) (M2 := MX1_finish) (As := [.int l5, .int l4, .int 3]) (rest := []) dX1_crossThird_52 sX_38 ck1 rfl w554 moX1_finish rfl ⟨Nat.le_of_ble_eq_true rfl, Nat.le_of_ble_eq_true rfl⟩ rfl rfl (Nat.le_of_ble_eq_true rfl) h (fun d6 h => ?_)
            have h := rV_dn h
            exact ev_ret (M := MX1_crossThird) dX1_crossThird_55 rfl rfl h
-- X1_outAt
theorem cn_X1_outAt {q : Int32 → DD → Prop} {d : DD} {p0 : Nat} (Hp0 : isH p0) {p1 : Int32} (h : (vp_in p1 6 ∧ (vp_in (d (p0 + 10) p1.toNatClampNeg) 4 ∧ q (d 39 (d (p0 + 10) p1.toNatClampNeg).toNatClampNeg) d))) : Cn SX MX1_outAt [.ref 38, .ref p0, .int p1] d (rI q) := by
  refine cn_of (ls := [.ref 38, .ref p0, .int p1]) (by decide) rfl rfl (Nat.le_of_ble_eq_true rfl) ?_
  refine ev_aload_n dX1_outAt_0 rfl ?_
  refine ev_getr (M := MX1_outAt) (r := 39) 0 dX1_outAt_1 sX_38 ck1 (Nat.le_of_ble_eq_true rfl) rfl w197 ?_
  refine ev_aload_n dX1_outAt_4 rfl ?_
  refine ev_getr (M := MX1_outAt) (r := (p0 + 10)) 12 dX1_outAt_5 (hH_0 Hp0) ck0 (Nat.le_of_ble_eq_true rfl) rfl w129 ?_
  refine ev_iload_n dX1_outAt_8 rfl ?_
  obtain ⟨g, h⟩ := h
  refine ev_iald dX1_outAt_9 (hH_10 Hp0) g ?_
  obtain ⟨g, h⟩ := h
  refine ev_iald dX1_outAt_10 sX_39 g ?_
  exact ev_ireti (M := MX1_outAt) (ty := .int) dX1_outAt_11 rfl rfl rfl h
-- X1_getsAway
theorem cn_X1_getsAway {q : Int32 → DD → Prop} {d : DD} {p0 : Nat} (Hp0 : isH p0) {p1 : Int32} (h : (vp_in p1 6 ∧ (vp_in (d (p0 + 10) p1.toNatClampNeg) 4 ∧ (((d 40 (d (p0 + 10) p1.toNatClampNeg).toNatClampNeg) = 0 → q 0 d) ∧ (¬ (d 40 (d (p0 + 10) p1.toNatClampNeg).toNatClampNeg) = 0 → q 1 d))))) : Cn SX MX1_getsAway [.ref 38, .ref p0, .int p1] d (rI q) := by
  refine cn_of (ls := [.ref 38, .ref p0, .int p1]) (by decide) rfl rfl (Nat.le_of_ble_eq_true rfl) ?_
  refine ev_aload_n dX1_getsAway_0 rfl ?_
  refine ev_getr (M := MX1_getsAway) (r := 40) 1 dX1_getsAway_1 sX_38 ck1 (Nat.le_of_ble_eq_true rfl) rfl w199 ?_
  refine ev_aload_n dX1_getsAway_4 rfl ?_
  refine ev_getr (M := MX1_getsAway) (r := (p0 + 10)) 12 dX1_getsAway_5 (hH_0 Hp0) ck0 (Nat.le_of_ble_eq_true rfl) rfl w129 ?_
  refine ev_iload_n dX1_getsAway_8 rfl ?_
  obtain ⟨g, h⟩ := h
  refine ev_iald dX1_getsAway_9 (hH_10 Hp0) g ?_
  obtain ⟨g, h⟩ := h
  refine ev_iald dX1_getsAway_10 sX_40 g ?_
  refine ev_if_eq (M := MX1_getsAway) (tgt := 18) dX1_getsAway_11 rfl (fun c1 => ?_) (fun c1 => ?_)
  · have h := h.1 c1
    refine ev_iconst dX1_getsAway_18 ci_0 ?_
    exact ev_ireti (M := MX1_getsAway) (ty := .boolean) dX1_getsAway_19 rfl rfl rfl h
  · have h := h.2 c1
    refine ev_iconst dX1_getsAway_14 ci_1 ?_
    refine ev_goto (M := MX1_getsAway) (tgt := 19) dX1_getsAway_15 rfl ?_
    exact ev_ireti (M := MX1_getsAway) (ty := .boolean) dX1_getsAway_19 rfl rfl rfl h
-- X1_away
theorem cn_X1_away {q : Int32 → DD → Prop} {d : DD} {p0 : Nat} (Hp0 : isH p0) (h : Ev SX MX1_away 4 [.ref 38, .ref p0, .int 0, .int 0] [] d (rI q)) : Cn SX MX1_away [.ref 38, .ref p0] d (rI q) := by
  refine cn_of (ls := [.ref 38, .ref p0, uJ, uJ]) (by decide) rfl rfl (Nat.le_of_ble_eq_true rfl) ?_
  refine ev_iconst dX1_away_0 ci_0 ?_
  refine ev_istore_n (M := MX1_away) (ls2 := [.ref 38, .ref p0, .int 0, uJ]) 2 dX1_away_1 rfl (Nat.le_of_ble_eq_true rfl) rfl ?_
  refine ev_iconst dX1_away_2 ci_0 ?_
  refine ev_istore_n (M := MX1_away) (ls2 := [.ref 38, .ref p0, .int 0, .int 0]) 3 dX1_away_3 rfl (Nat.le_of_ble_eq_true rfl) rfl ?_
  exact h
theorem bk_X1_away_4 {q : Int32 → DD → Prop} {d : DD} {p0 : Nat} (Hp0 : isH p0) {l2 : Int32} {l3 : Int32} (h : (((d p0 2) ≤ l3 → q l2 d) ∧ (¬ (d p0 2) ≤ l3 → (Cn SX MX1_getsAway [.ref 38, .ref p0, .int l3] d (rI fun r3 d2 => ((r3 = 0 → Ev SX MX1_away 4 [.ref 38, .ref p0, .int l2, .int (l3 + 1)] [] d2 (rI q)) ∧ (¬ r3 = 0 → Ev SX MX1_away 4 [.ref 38, .ref p0, .int (l2 + 1), .int (l3 + 1)] [] d2 (rI q)))))))) : Ev SX MX1_away 4 [.ref 38, .ref p0, .int l2, .int l3] [] d (rI q) := by
  refine ev_iload_n dX1_away_4 rfl ?_
  refine ev_aload_n dX1_away_5 rfl ?_
  refine ev_get 2 dX1_away_6 (hH_0 Hp0) ck0 (Nat.le_of_ble_eq_true rfl) rfl w92 ?_
  refine ev_icmp_ge (M := MX1_away) (tgt := 30) dX1_away_9 rfl (fun c1 => ?_) (fun c1 => ?_)
  · have h := h.1 c1
    refine ev_iload_n dX1_away_30 rfl ?_
    exact ev_ireti (M := MX1_away) (ty := .int) dX1_away_31 rfl rfl rfl h
  · have h := h.2 c1
    refine ev_aload_n dX1_away_12 rfl ?_
    refine ev_aload_n dX1_away_13 rfl ?_
    refine ev_iload_n dX1_away_14 rfl ?_
    refine ev_callVi (M := MX1_away) (M2 := MX1_getsAway) (As := [.ref p0, .int l3]) (rest := []) dX1_away_15 sX_38 ck1 rfl w587 moX1_getsAway rfl ⟨Nat.le_of_ble_eq_true rfl, Nat.le_of_ble_eq_true rfl⟩ rfl rfl (Nat.le_of_ble_eq_true rfl) h (fun r3 d2 h => ?_)
    have h := rI_dn h
    refine ev_if_eq (M := MX1_away) (tgt := 24) dX1_away_18 rfl (fun c4 => ?_) (fun c4 => ?_)
    · have h := h.1 c4
      refine ev_iinc (M := MX1_away) (ls2 := [.ref 38, .ref p0, .int l2, .int (l3 + 1)]) dX1_away_24 rfl (iin ci_1) (Nat.le_of_ble_eq_true rfl) rfl ?_
      refine ev_goto (M := MX1_away) (tgt := 4) dX1_away_27 rfl ?_
      exact h
    · have h := h.2 c4
      refine ev_iinc (M := MX1_away) (ls2 := [.ref 38, .ref p0, .int (l2 + 1), .int l3]) dX1_away_21 rfl (iin ci_1) (Nat.le_of_ble_eq_true rfl) rfl ?_
      refine ev_iinc (M := MX1_away) (ls2 := [.ref 38, .ref p0, .int (l2 + 1), .int (l3 + 1)]) dX1_away_24 rfl (iin ci_1) (Nat.le_of_ble_eq_true rfl) rfl ?_
      refine ev_goto (M := MX1_away) (tgt := 4) dX1_away_27 rfl ?_
      exact h
-- X1_allOut
theorem cn_X1_allOut {q : Int32 → DD → Prop} {d : DD} {p0 : Nat} (Hp0 : isH p0) {p1 : Int32} {p2 : Int32} (h : Ev SX MX1_allOut 3 [.ref 38, .ref p0, .int p1, .int p2, .int 0] [] d (rI q)) : Cn SX MX1_allOut [.ref 38, .ref p0, .int p1, .int p2] d (rI q) := by
  refine cn_of (ls := [.ref 38, .ref p0, .int p1, .int p2, uJ]) (by decide) rfl rfl (Nat.le_of_ble_eq_true rfl) ?_
  refine ev_iconst dX1_allOut_0 ci_0 ?_
  refine ev_istore (M := MX1_allOut) (ls2 := [.ref 38, .ref p0, .int p1, .int p2, .int 0]) dX1_allOut_1 (Nat.le_of_ble_eq_true rfl) rfl ?_
  exact h
theorem bk_X1_allOut_3 {q : Int32 → DD → Prop} {d : DD} {p0 : Nat} (Hp0 : isH p0) {l2 : Int32} {l3 : Int32} {l4 : Int32} (h : (((d p0 2) ≤ l4 → q 1 d) ∧ (¬ (d p0 2) ≤ l4 → ((¬ ((l2 >>> (l4 &&& 31)) &&& 1) = 1 → Ev SX MX1_allOut 3 [.ref 38, .ref p0, .int l2, .int l3, .int (l4 + 1)] [] d (rI q)) ∧ (((l2 >>> (l4 &&& 31)) &&& 1) = 1 → (Cn SX MX1_outAt [.ref 38, .ref p0, .int l4] d (rI fun r4 d3 => ((r4 ≤ l3 → Ev SX MX1_allOut 3 [.ref 38, .ref p0, .int l2, .int l3, .int (l4 + 1)] [] d3 (rI q)) ∧ (¬ r4 ≤ l3 → q 0 d3))))))))) : Ev SX MX1_allOut 3 [.ref 38, .ref p0, .int l2, .int l3, .int l4] [] d (rI q) := by
  refine ev_iload dX1_allOut_3 rfl ?_
  refine ev_aload_n dX1_allOut_5 rfl ?_
  refine ev_get 2 dX1_allOut_6 (hH_0 Hp0) ck0 (Nat.le_of_ble_eq_true rfl) rfl w92 ?_
  refine ev_icmp_ge (M := MX1_allOut) (tgt := 41) dX1_allOut_9 rfl (fun c1 => ?_) (fun c1 => ?_)
  · have h := h.1 c1
    refine ev_iconst dX1_allOut_41 ci_1 ?_
    exact ev_ireti (M := MX1_allOut) (ty := .boolean) dX1_allOut_42 rfl rfl rfl h
  · have h := h.2 c1
    refine ev_iload_n dX1_allOut_12 rfl ?_
    refine ev_iload dX1_allOut_13 rfl ?_
    refine ev_ishr dX1_allOut_15 ?_
    refine ev_iconst dX1_allOut_16 ci_1 ?_
    refine ev_iand dX1_allOut_17 ?_
    refine ev_iconst dX1_allOut_18 ci_1 ?_
    refine ev_icmp_ne (M := MX1_allOut) (tgt := 35) dX1_allOut_19 rfl (fun c2 => ?_) (fun c2 => ?_)
    · have h := h.1 c2
      refine ev_iinc (M := MX1_allOut) (ls2 := [.ref 38, .ref p0, .int l2, .int l3, .int (l4 + 1)]) dX1_allOut_35 rfl (iin ci_1) (Nat.le_of_ble_eq_true rfl) rfl ?_
      refine ev_goto (M := MX1_allOut) (tgt := 3) dX1_allOut_38 rfl ?_
      exact h
    · have h := h.2 c2
      refine ev_aload_n dX1_allOut_22 rfl ?_
      refine ev_aload_n dX1_allOut_23 rfl ?_
      refine ev_iload dX1_allOut_24 rfl ?_
      refine ev_callVi (M := MX1_allOut) (M2 := MX1_outAt) (As := [.ref p0, .int l4]) (rest := []) dX1_allOut_26 sX_38 ck1 rfl w647 moX1_outAt rfl ⟨Nat.le_of_ble_eq_true rfl, Nat.le_of_ble_eq_true rfl⟩ rfl rfl (Nat.le_of_ble_eq_true rfl) h (fun r4 d3 h => ?_)
      have h := rI_dn h
      refine ev_iload_n dX1_allOut_29 rfl ?_
      refine ev_icmp_le (M := MX1_allOut) (tgt := 35) dX1_allOut_30 rfl (fun c5 => ?_) (fun c5 => ?_)
      · have h := h.1 c5
        refine ev_iinc (M := MX1_allOut) (ls2 := [.ref 38, .ref p0, .int l2, .int l3, .int (l4 + 1)]) dX1_allOut_35 rfl (iin ci_1) (Nat.le_of_ble_eq_true rfl) rfl ?_
        refine ev_goto (M := MX1_allOut) (tgt := 3) dX1_allOut_38 rfl ?_
        exact h
      · have h := h.2 c5
        refine ev_iconst dX1_allOut_33 ci_0 ?_
        exact ev_ireti (M := MX1_allOut) (ty := .boolean) dX1_allOut_34 rfl rfl rfl h
-- X1_cost
theorem cn_X1_cost {q : Int32 → DD → Prop} {d : DD} {p0 : Nat} (Hp0 : isH p0) (h : Ev SX MX1_cost 4 [.ref 38, .ref p0, .int 0, .int 0] [] d (rI q)) : Cn SX MX1_cost [.ref 38, .ref p0] d (rI q) := by
  refine cn_of (ls := [.ref 38, .ref p0, uJ, uJ]) (by decide) rfl rfl (Nat.le_of_ble_eq_true rfl) ?_
  refine ev_iconst dX1_cost_0 ci_0 ?_
  refine ev_istore_n (M := MX1_cost) (ls2 := [.ref 38, .ref p0, .int 0, uJ]) 2 dX1_cost_1 rfl (Nat.le_of_ble_eq_true rfl) rfl ?_
  refine ev_iconst dX1_cost_2 ci_0 ?_
  refine ev_istore_n (M := MX1_cost) (ls2 := [.ref 38, .ref p0, .int 0, .int 0]) 3 dX1_cost_3 rfl (Nat.le_of_ble_eq_true rfl) rfl ?_
  exact h
theorem bk_X1_cost_4 {q : Int32 → DD → Prop} {d : DD} {p0 : Nat} (Hp0 : isH p0) {l2 : Int32} {l3 : Int32} (h : (((d p0 1) ≤ l3 → q l2 d) ∧ (¬ (d p0 1) ≤ l3 → (vp_in l3 4 ∧ (vp_in l3 4 ∧ (∀ x2 : Int32, x2 = (l2 + ((d 42 l3.toNatClampNeg) * (d (p0 + 8) l3.toNatClampNeg))) → Ev SX MX1_cost 4 [.ref 38, .ref p0, .int x2, .int (l3 + 1)] [] d (rI q))))))) : Ev SX MX1_cost 4 [.ref 38, .ref p0, .int l2, .int l3] [] d (rI q) := by
  refine ev_iload_n dX1_cost_4 rfl ?_
  refine ev_aload_n dX1_cost_5 rfl ?_
  refine ev_get 1 dX1_cost_6 (hH_0 Hp0) ck0 (Nat.le_of_ble_eq_true rfl) rfl w86 ?_
  refine ev_icmp_ge (M := MX1_cost) (tgt := 34) dX1_cost_9 rfl (fun c1 => ?_) (fun c1 => ?_)
  · have h := h.1 c1
    refine ev_iload_n dX1_cost_34 rfl ?_
    exact ev_ireti (M := MX1_cost) (ty := .int) dX1_cost_35 rfl rfl rfl h
  · have h := h.2 c1
    refine ev_iload_n dX1_cost_12 rfl ?_
    refine ev_aload_n dX1_cost_13 rfl ?_
    refine ev_getr (M := MX1_cost) (r := 42) 3 dX1_cost_14 sX_38 ck1 (Nat.le_of_ble_eq_true rfl) rfl w203 ?_
    refine ev_iload_n dX1_cost_17 rfl ?_
    obtain ⟨g, h⟩ := h
    refine ev_iald dX1_cost_18 sX_42 g ?_
    refine ev_aload_n dX1_cost_19 rfl ?_
    refine ev_getr (M := MX1_cost) (r := (p0 + 8)) 10 dX1_cost_20 (hH_0 Hp0) ck0 (Nat.le_of_ble_eq_true rfl) rfl w122 ?_
    refine ev_iload_n dX1_cost_23 rfl ?_
    obtain ⟨g, h⟩ := h
    refine ev_iald dX1_cost_24 (hH_8 Hp0) g ?_
    refine ev_imul dX1_cost_25 ?_
    refine ev_iadd dX1_cost_26 ?_
    refine ev_topi (fun x2 ex2 => ?_)
    have h := h x2 ex2
    refine ev_istore_n (M := MX1_cost) (ls2 := [.ref 38, .ref p0, .int x2, .int l3]) 2 dX1_cost_27 rfl (Nat.le_of_ble_eq_true rfl) rfl ?_
    refine ev_iinc (M := MX1_cost) (ls2 := [.ref 38, .ref p0, .int x2, .int (l3 + 1)]) dX1_cost_28 rfl (iin ci_1) (Nat.le_of_ble_eq_true rfl) rfl ?_
    refine ev_goto (M := MX1_cost) (tgt := 4) dX1_cost_31 rfl ?_
    exact h
-- X1_lastOver
theorem cn_X1_lastOver {q : Int32 → DD → Prop} {d : DD} {p0 : Nat} (Hp0 : isH p0) (h : Ev SX MX1_lastOver 4 [.ref 38, .ref p0, .int 0, .int 0] [] d (rI q)) : Cn SX MX1_lastOver [.ref 38, .ref p0] d (rI q) := by
  refine cn_of (ls := [.ref 38, .ref p0, uJ, uJ]) (by decide) rfl rfl (Nat.le_of_ble_eq_true rfl) ?_
  refine ev_iconst dX1_lastOver_0 ci_0 ?_
  refine ev_istore_n (M := MX1_lastOver) (ls2 := [.ref 38, .ref p0, .int 0, uJ]) 2 dX1_lastOver_1 rfl (Nat.le_of_ble_eq_true rfl) rfl ?_
  refine ev_iconst dX1_lastOver_2 ci_0 ?_
  refine ev_istore_n (M := MX1_lastOver) (ls2 := [.ref 38, .ref p0, .int 0, .int 0]) 3 dX1_lastOver_3 rfl (Nat.le_of_ble_eq_true rfl) rfl ?_
  exact h
theorem bk_X1_lastOver_4 {q : Int32 → DD → Prop} {d : DD} {p0 : Nat} (Hp0 : isH p0) {l2 : Int32} {l3 : Int32} (h : (((d p0 0) ≤ l3 → q l2 d) ∧ (¬ (d p0 0) ≤ l3 → (vp_in l3 4 ∧ (∀ x2 : Int32, x2 = (if l2 < (d 39 l3.toNatClampNeg) then (d 39 l3.toNatClampNeg) else l2) → Ev SX MX1_lastOver 4 [.ref 38, .ref p0, .int x2, .int (l3 + 1)] [] d (rI q)))))) : Ev SX MX1_lastOver 4 [.ref 38, .ref p0, .int l2, .int l3] [] d (rI q) := by
  refine ev_iload_n dX1_lastOver_4 rfl ?_
  refine ev_aload_n dX1_lastOver_5 rfl ?_
  refine ev_get 0 dX1_lastOver_6 (hH_0 Hp0) ck0 (Nat.le_of_ble_eq_true rfl) rfl w82 ?_
  refine ev_icmp_ge (M := MX1_lastOver) (tgt := 29) dX1_lastOver_9 rfl (fun c1 => ?_) (fun c1 => ?_)
  · have h := h.1 c1
    refine ev_iload_n dX1_lastOver_29 rfl ?_
    exact ev_ireti (M := MX1_lastOver) (ty := .int) dX1_lastOver_30 rfl rfl rfl h
  · have h := h.2 c1
    refine ev_iload_n dX1_lastOver_12 rfl ?_
    refine ev_aload_n dX1_lastOver_13 rfl ?_
    refine ev_getr (M := MX1_lastOver) (r := 39) 0 dX1_lastOver_14 sX_38 ck1 (Nat.le_of_ble_eq_true rfl) rfl w197 ?_
    refine ev_iload_n dX1_lastOver_17 rfl ?_
    obtain ⟨g, h⟩ := h
    refine ev_iald dX1_lastOver_18 sX_39 g ?_
    refine ev_mmax dX1_lastOver_19 w599 w484 w65 w485 (Nat.le_of_ble_eq_true rfl) (Nat.le_of_ble_eq_true rfl) ?_
    refine ev_topi (fun x2 ex2 => ?_)
    have h := h x2 ex2
    refine ev_istore_n (M := MX1_lastOver) (ls2 := [.ref 38, .ref p0, .int x2, .int l3]) 2 dX1_lastOver_22 rfl (Nat.le_of_ble_eq_true rfl) rfl ?_
    refine ev_iinc (M := MX1_lastOver) (ls2 := [.ref 38, .ref p0, .int x2, .int (l3 + 1)]) dX1_lastOver_23 rfl (iin ci_1) (Nat.le_of_ble_eq_true rfl) rfl ?_
    refine ev_goto (M := MX1_lastOver) (tgt := 4) dX1_lastOver_26 rfl ?_
    exact h
-- X1_crossedTunes
theorem cn_X1_crossedTunes {q : Int32 → DD → Prop} {d : DD} {p0 : Nat} (Hp0 : isH p0) (h : Ev SX MX1_crossedTunes 4 [.ref 38, .ref p0, .int 0, .int 0] [] d (rI q)) : Cn SX MX1_crossedTunes [.ref 38, .ref p0] d (rI q) := by
  refine cn_of (ls := [.ref 38, .ref p0, uJ, uJ]) (by decide) rfl rfl (Nat.le_of_ble_eq_true rfl) ?_
  refine ev_iconst dX1_crossedTunes_0 ci_0 ?_
  refine ev_istore_n (M := MX1_crossedTunes) (ls2 := [.ref 38, .ref p0, .int 0, uJ]) 2 dX1_crossedTunes_1 rfl (Nat.le_of_ble_eq_true rfl) rfl ?_
  refine ev_iconst dX1_crossedTunes_2 ci_0 ?_
  refine ev_istore_n (M := MX1_crossedTunes) (ls2 := [.ref 38, .ref p0, .int 0, .int 0]) 3 dX1_crossedTunes_3 rfl (Nat.le_of_ble_eq_true rfl) rfl ?_
  exact h
theorem bk_X1_crossedTunes_4 {q : Int32 → DD → Prop} {d : DD} {p0 : Nat} (Hp0 : isH p0) {l2 : Int32} {l3 : Int32} (h : (((d p0 0) ≤ l3 → q l2 d) ∧ (¬ (d p0 0) ≤ l3 → (vp_in l3 4 ∧ ((¬ (d 40 l3.toNatClampNeg) = 3 → Ev SX MX1_crossedTunes 4 [.ref 38, .ref p0, .int l2, .int (l3 + 1)] [] d (rI q)) ∧ ((d 40 l3.toNatClampNeg) = 3 → Ev SX MX1_crossedTunes 4 [.ref 38, .ref p0, .int (l2 + 1), .int (l3 + 1)] [] d (rI q))))))) : Ev SX MX1_crossedTunes 4 [.ref 38, .ref p0, .int l2, .int l3] [] d (rI q) := by
  refine ev_iload_n dX1_crossedTunes_4 rfl ?_
  refine ev_aload_n dX1_crossedTunes_5 rfl ?_
  refine ev_get 0 dX1_crossedTunes_6 (hH_0 Hp0) ck0 (Nat.le_of_ble_eq_true rfl) rfl w82 ?_
  refine ev_icmp_ge (M := MX1_crossedTunes) (tgt := 31) dX1_crossedTunes_9 rfl (fun c1 => ?_) (fun c1 => ?_)
  · have h := h.1 c1
    refine ev_iload_n dX1_crossedTunes_31 rfl ?_
    exact ev_ireti (M := MX1_crossedTunes) (ty := .int) dX1_crossedTunes_32 rfl rfl rfl h
  · have h := h.2 c1
    refine ev_aload_n dX1_crossedTunes_12 rfl ?_
    refine ev_getr (M := MX1_crossedTunes) (r := 40) 1 dX1_crossedTunes_13 sX_38 ck1 (Nat.le_of_ble_eq_true rfl) rfl w199 ?_
    refine ev_iload_n dX1_crossedTunes_16 rfl ?_
    obtain ⟨g, h⟩ := h
    refine ev_iald dX1_crossedTunes_17 sX_40 g ?_
    refine ev_iconst dX1_crossedTunes_18 ci_3 ?_
    refine ev_icmp_ne (M := MX1_crossedTunes) (tgt := 25) dX1_crossedTunes_19 rfl (fun c2 => ?_) (fun c2 => ?_)
    · have h := h.1 c2
      refine ev_iinc (M := MX1_crossedTunes) (ls2 := [.ref 38, .ref p0, .int l2, .int (l3 + 1)]) dX1_crossedTunes_25 rfl (iin ci_1) (Nat.le_of_ble_eq_true rfl) rfl ?_
      refine ev_goto (M := MX1_crossedTunes) (tgt := 4) dX1_crossedTunes_28 rfl ?_
      exact h
    · have h := h.2 c2
      refine ev_iinc (M := MX1_crossedTunes) (ls2 := [.ref 38, .ref p0, .int (l2 + 1), .int l3]) dX1_crossedTunes_22 rfl (iin ci_1) (Nat.le_of_ble_eq_true rfl) rfl ?_
      refine ev_iinc (M := MX1_crossedTunes) (ls2 := [.ref 38, .ref p0, .int (l2 + 1), .int (l3 + 1)]) dX1_crossedTunes_25 rfl (iin ci_1) (Nat.le_of_ble_eq_true rfl) rfl ?_
      refine ev_goto (M := MX1_crossedTunes) (tgt := 4) dX1_crossedTunes_28 rfl ?_
      exact h
-- X2_renew
theorem cn_X2_renew {q : DD → Prop} {d : DD} {b : Nat} (Hb : isSh b) {p0 : Int32} {p1 : Int32} (h : (∀ d1 : DD, d1 = (up d b 0 1) → (∀ d2 : DD, d2 = (up d1 b 1 p0) → (∀ d3 : DD, d3 = (up d2 b 2 p1) → Ev SX MX2_renew 17 [.ref b, .int p0, .int p1, .int 0] [] d3 (rV q))))) : Cn SX MX2_renew [.ref b, .int p0, .int p1] d (rV q) := by
  refine cn_of (ls := [.ref b, .int p0, .int p1, uJ]) (by decide) rfl rfl (Nat.le_of_ble_eq_true rfl) ?_
  refine ev_aload_n dX2_renew_0 rfl ?_
  refine ev_iconst dX2_renew_1 ci_1 ?_
  refine ev_put 0 dX2_renew_2 (hS_0 Hb) ck2 (Nat.le_of_ble_eq_true rfl) rfl w239 rfl rfl rfl ?_
  refine ev_topd (fun d1 ed1 => ?_)
  have h := h d1 ed1
  refine ev_aload_n dX2_renew_5 rfl ?_
  refine ev_iload_n dX2_renew_6 rfl ?_
  refine ev_put 1 dX2_renew_7 (hS_0 Hb) ck2 (Nat.le_of_ble_eq_true rfl) rfl w241 rfl rfl rfl ?_
  refine ev_topd (fun d2 ed2 => ?_)
  have h := h d2 ed2
  refine ev_aload_n dX2_renew_10 rfl ?_
  refine ev_iload_n dX2_renew_11 rfl ?_
  refine ev_put 2 dX2_renew_12 (hS_0 Hb) ck2 (Nat.le_of_ble_eq_true rfl) rfl w243 rfl rfl rfl ?_
  refine ev_topd (fun d3 ed3 => ?_)
  have h := h d3 ed3
  refine ev_iconst dX2_renew_15 ci_0 ?_
  refine ev_istore_n (M := MX2_renew) (ls2 := [.ref b, .int p0, .int p1, .int 0]) 3 dX2_renew_16 rfl (Nat.le_of_ble_eq_true rfl) rfl ?_
  exact h
theorem bk_X2_renew_17 {q : DD → Prop} {d : DD} {b : Nat} (Hb : isSh b) {l1 : Int32} {l2 : Int32} {l3 : Int32} (h : ((40 ≤ l3 → q d) ∧ (¬ 40 ≤ l3 → (vp_in l3 40 ∧ (∀ d2 : DD, d2 = (up d (b + 1) l3.toNatClampNeg 0) → Ev SX MX2_renew 17 [.ref b, .int l1, .int l2, .int (l3 + 1)] [] d2 (rV q)))))) : Ev SX MX2_renew 17 [.ref b, .int l1, .int l2, .int l3] [] d (rV q) := by
  refine ev_iload_n dX2_renew_17 rfl ?_
  refine ev_bipush dX2_renew_18 cb_40 ?_
  refine ev_icmp_ge (M := MX2_renew) (tgt := 36) dX2_renew_20 rfl (fun c1 => ?_) (fun c1 => ?_)
  · have h := h.1 c1
    exact ev_ret (M := MX2_renew) dX2_renew_36 rfl rfl h
  · have h := h.2 c1
    refine ev_aload_n dX2_renew_23 rfl ?_
    refine ev_getr (M := MX2_renew) (r := (b + 1)) 3 dX2_renew_24 (hS_0 Hb) ck2 (Nat.le_of_ble_eq_true rfl) rfl w245 ?_
    refine ev_iload_n dX2_renew_27 rfl ?_
    refine ev_iconst dX2_renew_28 ci_0 ?_
    obtain ⟨g, h⟩ := h
    refine ev_iast dX2_renew_29 (hS_1 Hb) g ?_
    refine ev_topd (fun d2 ed2 => ?_)
    have h := h d2 ed2
    refine ev_iinc (M := MX2_renew) (ls2 := [.ref b, .int l1, .int l2, .int (l3 + 1)]) dX2_renew_30 rfl (iin ci_1) (Nat.le_of_ble_eq_true rfl) rfl ?_
    refine ev_goto (M := MX2_renew) (tgt := 17) dX2_renew_33 rfl ?_
    exact h
-- X2_hasCell
theorem cn_X2_hasCell {q : Int32 → DD → Prop} {d : DD} {b : Nat} (Hb : isSh b) {p0 : Int64} (h : (((lg_cmp p0 0) < 0 → q 0 d) ∧ (¬ (lg_cmp p0 0) < 0 → ((0 ≤ (lg_cmp p0 (d b 2).toInt64) → q 0 d) ∧ (¬ 0 ≤ (lg_cmp p0 (d b 2).toInt64) → q 1 d))))) : Cn SX MX2_hasCell [.ref b, .long p0] d (rI q) := by
  refine cn_of (ls := [.ref b, .long p0, uJ]) (by decide) rfl rfl (Nat.le_of_ble_eq_true rfl) ?_
  refine ev_lload_n dX2_hasCell_0 rfl ?_
  refine ev_lconst (M := MX2_hasCell) (v := 0) dX2_hasCell_1 rfl ?_
  refine ev_lcmp dX2_hasCell_2 ?_
  refine ev_if_lt (M := MX2_hasCell) (tgt := 20) dX2_hasCell_3 rfl (fun c1 => ?_) (fun c1 => ?_)
  · have h := h.1 c1
    refine ev_iconst dX2_hasCell_20 ci_0 ?_
    exact ev_ireti (M := MX2_hasCell) (ty := .boolean) dX2_hasCell_21 rfl rfl rfl h
  · have h := h.2 c1
    refine ev_lload_n dX2_hasCell_6 rfl ?_
    refine ev_aload_n dX2_hasCell_7 rfl ?_
    refine ev_get 2 dX2_hasCell_8 (hS_0 Hb) ck2 (Nat.le_of_ble_eq_true rfl) rfl w243 ?_
    refine ev_i2l dX2_hasCell_11 ?_
    refine ev_lcmp dX2_hasCell_12 ?_
    refine ev_if_ge (M := MX2_hasCell) (tgt := 20) dX2_hasCell_13 rfl (fun c2 => ?_) (fun c2 => ?_)
    · have h := h.1 c2
      refine ev_iconst dX2_hasCell_20 ci_0 ?_
      exact ev_ireti (M := MX2_hasCell) (ty := .boolean) dX2_hasCell_21 rfl rfl rfl h
    · have h := h.2 c2
      refine ev_iconst dX2_hasCell_16 ci_1 ?_
      refine ev_goto (M := MX2_hasCell) (tgt := 21) dX2_hasCell_17 rfl ?_
      exact ev_ireti (M := MX2_hasCell) (ty := .boolean) dX2_hasCell_21 rfl rfl rfl h
-- X2_faultAs
theorem cn_X2_faultAs {q : Int32 → DD → Prop} {d : DD} {b : Nat} (Hb : isSh b) {p0 : Int32} (h : ((¬ (d b 0) = 0 → ((¬ (d b 1) = p0 → q 3 d) ∧ ((d b 1) = p0 → q 0 d))) ∧ ((d b 0) = 0 → q 1 d))) : Cn SX MX2_faultAs [.ref b, .int p0] d (rI q) := by
  refine cn_of (ls := [.ref b, .int p0]) (by decide) rfl rfl (Nat.le_of_ble_eq_true rfl) ?_
  refine ev_aload_n dX2_faultAs_0 rfl ?_
  refine ev_get 0 dX2_faultAs_1 (hS_0 Hb) ck2 (Nat.le_of_ble_eq_true rfl) rfl w239 ?_
  refine ev_if_ne (M := MX2_faultAs) (tgt := 9) dX2_faultAs_4 rfl (fun c1 => ?_) (fun c1 => ?_)
  · have h := h.1 c1
    refine ev_aload_n dX2_faultAs_9 rfl ?_
    refine ev_get 1 dX2_faultAs_10 (hS_0 Hb) ck2 (Nat.le_of_ble_eq_true rfl) rfl w241 ?_
    refine ev_iload_n dX2_faultAs_13 rfl ?_
    refine ev_icmp_ne (M := MX2_faultAs) (tgt := 21) dX2_faultAs_14 rfl (fun c2 => ?_) (fun c2 => ?_)
    · have h := h.1 c2
      refine ev_iconst dX2_faultAs_21 ci_3 ?_
      exact ev_ireti (M := MX2_faultAs) (ty := .int) dX2_faultAs_22 rfl rfl rfl h
    · have h := h.2 c2
      refine ev_iconst dX2_faultAs_17 ci_0 ?_
      refine ev_goto (M := MX2_faultAs) (tgt := 22) dX2_faultAs_18 rfl ?_
      exact ev_ireti (M := MX2_faultAs) (ty := .int) dX2_faultAs_22 rfl rfl rfl h
  · have h := h.2 c1
    refine ev_iconst dX2_faultAs_7 ci_1 ?_
    exact ev_ireti (M := MX2_faultAs) (ty := .int) dX2_faultAs_8 rfl rfl rfl h
-- X2_narrowed
theorem cn_X2_narrowed {q : Int32 → DD → Prop} {d : DD} {p0 : Int32} {p1 : Int32} (h : ((p0 = 0 → q p1.toInt8.toInt32 d) ∧ (¬ p0 = 0 → ((p0 = 1 → q p1.toInt16.toInt32 d) ∧ (¬ p0 = 1 → q p1 d))))) : Cn SX MX2_narrowed [.int p0, .int p1] d (rI q) := by
  refine cn_of (ls := [.int p0, .int p1]) (by decide) rfl rfl (Nat.le_of_ble_eq_true rfl) ?_
  refine ev_iload_n dX2_narrowed_0 rfl ?_
  by_cases c1 : p0 = 0
  · have h := h.1 c1
    refine ev_lsw (M := MX2_narrowed) (tgt := 28) dX2_narrowed_1 (by decide) (by rw [sw_eq 0 c1 (by decide)]) rfl ?_
    refine ev_iload_n dX2_narrowed_28 rfl ?_
    refine ev_i2b dX2_narrowed_29 ?_
    exact ev_ireti (M := MX2_narrowed) (ty := .int) dX2_narrowed_30 rfl rfl rfl h
  · have h := h.2 c1
    by_cases c2 : p0 = 1
    · have h := h.1 c2
      refine ev_lsw (M := MX2_narrowed) (tgt := 31) dX2_narrowed_1 (by decide) (by rw [sw_eq 1 c2 (by decide)]) rfl ?_
      refine ev_iload_n dX2_narrowed_31 rfl ?_
      refine ev_i2s dX2_narrowed_32 ?_
      exact ev_ireti (M := MX2_narrowed) (ty := .int) dX2_narrowed_33 rfl rfl rfl h
    · have h := h.2 c2
      have nc1 := sw_ne 0 c1 (by decide)
      have nc2 := sw_ne 1 c2 (by decide)
      refine ev_lsw (M := MX2_narrowed) (off := 33) (tgt := 34) dX2_narrowed_1 (by decide) (lsw_d2 nc1 nc2) rfl ?_
      refine ev_iload_n dX2_narrowed_34 rfl ?_
      exact ev_ireti (M := MX2_narrowed) (ty := .int) dX2_narrowed_35 rfl rfl rfl h
-- X3_append
theorem cn_X3_append {q : Int32 → DD → Prop} {d : DD} {p0 : Int32} (h : (((d 36 1) < 160 → (vp_in (d 36 1) 160 ∧ (∀ d2 : DD, d2 = (up d 37 (d 36 1).toNatClampNeg p0) → (∀ d3 : DD, d3 = (up d2 36 1 ((d2 36 1) + 1)) → q (d3 36 1) d3)))) ∧ (¬ (d 36 1) < 160 → q (-3) d))) : Cn SX MX3_append [.ref 36, .int p0] d (rI q) := by
  refine cn_of (ls := [.ref 36, .int p0]) (by decide) rfl rfl (Nat.le_of_ble_eq_true rfl) ?_
  refine ev_aload_n dX3_append_0 rfl ?_
  refine ev_get 1 dX3_append_1 sX_36 ck3 (Nat.le_of_ble_eq_true rfl) rfl w167 ?_
  refine ev_sipush dX3_append_4 cs_160 ?_
  refine ev_icmp_lt (M := MX3_append) (tgt := 13) dX3_append_7 rfl (fun c1 => ?_) (fun c1 => ?_)
  · have h := h.1 c1
    refine ev_aload_n dX3_append_13 rfl ?_
    refine ev_getr (M := MX3_append) (r := 37) 0 dX3_append_14 sX_36 ck3 (Nat.le_of_ble_eq_true rfl) rfl w166 ?_
    refine ev_aload_n dX3_append_17 rfl ?_
    refine ev_get 1 dX3_append_18 sX_36 ck3 (Nat.le_of_ble_eq_true rfl) rfl w167 ?_
    refine ev_iload_n dX3_append_21 rfl ?_
    obtain ⟨g, h⟩ := h
    refine ev_iast dX3_append_22 sX_37 g ?_
    refine ev_topd (fun d2 ed2 => ?_)
    have h := h d2 ed2
    refine ev_aload_n dX3_append_23 rfl ?_
    refine ev_dup dX3_append_24 rfl ?_
    refine ev_get 1 dX3_append_25 sX_36 ck3 (Nat.le_of_ble_eq_true rfl) rfl w167 ?_
    refine ev_iconst dX3_append_28 ci_1 ?_
    refine ev_iadd dX3_append_29 ?_
    refine ev_put 1 dX3_append_30 sX_36 ck3 (Nat.le_of_ble_eq_true rfl) rfl w167 rfl rfl rfl ?_
    refine ev_topd (fun d3 ed3 => ?_)
    have h := h d3 ed3
    refine ev_aload_n dX3_append_33 rfl ?_
    refine ev_get 1 dX3_append_34 sX_36 ck3 (Nat.le_of_ble_eq_true rfl) rfl w167 ?_
    exact ev_ireti (M := MX3_append) (ty := .int) dX3_append_37 rfl rfl rfl h
  · have h := h.2 c1
    refine ev_bipush dX3_append_10 cb_m3 ?_
    exact ev_ireti (M := MX3_append) (ty := .int) dX3_append_12 rfl rfl rfl h
-- X3_tellAll
set_option maxRecDepth 4000 in
theorem cn_X3_tellAll {q : Int32 → DD → Prop} {d : DD} {p0 : Nat} (Hp0 : isH p0) (h : (Cn SX MX0_clear [.ref p0] d (rV fun d1 => (∀ d2 : DD, d2 = (up d1 36 2 0) → (∀ d3 : DD, d3 = (up d2 36 6 0) → (Cn SX MX3_advance [.ref 36] d3 (rV fun d4 => Ev SX MX3_tellAll 20 [.ref 36, .ref p0, .int 0] [] d4 (rI q)))))))) : Cn SX MX3_tellAll [.ref 36, .ref p0] d (rI q) := by
  refine cn_of (ls := [.ref 36, .ref p0, uJ]) (by decide) rfl rfl (Nat.le_of_ble_eq_true rfl) ?_
  refine ev_aload_n dX3_tellAll_0 rfl ?_
  refine ev_callVv (M := MX3_tellAll) (M2 := MX0_clear) (As := []) (rest := []) dX3_tellAll_1 (hH_0 Hp0) ck0 rfl w319 moX0_clear rfl ⟨Nat.le_of_ble_eq_true rfl, Nat.le_of_ble_eq_true rfl⟩ rfl rfl (Nat.le_of_ble_eq_true rfl) h (fun d1 h => ?_)
  have h := rV_dn h
  refine ev_aload_n dX3_tellAll_4 rfl ?_
  refine ev_iconst dX3_tellAll_5 ci_0 ?_
  refine ev_put 2 dX3_tellAll_6 sX_36 ck3 (Nat.le_of_ble_eq_true rfl) rfl w169 rfl rfl rfl ?_
  refine ev_topd (fun d2 ed2 => ?_)
  have h := h d2 ed2
  refine ev_aload_n dX3_tellAll_9 rfl ?_
  refine ev_iconst dX3_tellAll_10 ci_0 ?_
  refine ev_put 6 dX3_tellAll_11 sX_36 ck3 (Nat.le_of_ble_eq_true rfl) rfl w174 rfl rfl rfl ?_
  refine ev_topd (fun d3 ed3 => ?_)
  have h := h d3 ed3
  refine ev_iconst dX3_tellAll_14 ci_0 ?_
  refine ev_istore_n (M := MX3_tellAll) (ls2 := [.ref 36, .ref p0, .int 0]) 2 dX3_tellAll_15 rfl (Nat.le_of_ble_eq_true rfl) rfl ?_
  refine ev_aload_n dX3_tellAll_16 rfl ?_
  refine ev_callVv (M := MX3_tellAll) (M2 := MX3_advance) (As := []) (rest := []) dX3_tellAll_17 sX_36 ck3 rfl w323 moX3_advance rfl ⟨Nat.le_of_ble_eq_true rfl, Nat.le_of_ble_eq_true rfl⟩ rfl rfl (Nat.le_of_ble_eq_true rfl) h (fun d4 h => ?_)
  have h := rV_dn h
  exact h
set_option maxRecDepth 4000 in
theorem bk_X3_tellAll_20 {q : Int32 → DD → Prop} {d : DD} {p0 : Nat} (Hp0 : isH p0) {l2 : Int32} (h : ((¬ (d 36 2) = 0 → Ev SX MX3_tellAll 56 [.ref 36, .ref p0, .int l2] [] d (rI q)) ∧ ((d 36 2) = 0 → (((d 36 4) = 0 → Ev SX MX3_tellAll 56 [.ref 36, .ref p0, .int l2] [] d (rI q)) ∧ (¬ (d 36 4) = 0 → ((160 ≤ l2 → Ev SX MX3_tellAll 56 [.ref 36, .ref p0, .int l2] [] d (rI q)) ∧ (¬ 160 ≤ l2 → (Cn SX MX3_tellLine [.ref 36, .ref p0] d (rV fun d4 => (Cn SX MX3_advance [.ref 36] d4 (rV fun d5 => Ev SX MX3_tellAll 20 [.ref 36, .ref p0, .int (l2 + 1)] [] d5 (rI q)))))))))))) : Ev SX MX3_tellAll 20 [.ref 36, .ref p0, .int l2] [] d (rI q) := by
  refine ev_aload_n dX3_tellAll_20 rfl ?_
  refine ev_get 2 dX3_tellAll_21 sX_36 ck3 (Nat.le_of_ble_eq_true rfl) rfl w169 ?_
  refine ev_if_ne (M := MX3_tellAll) (tgt := 56) dX3_tellAll_24 rfl (fun c1 => ?_) (fun c1 => ?_)
  · have h := h.1 c1
    exact h
  · have h := h.2 c1
    refine ev_aload_n dX3_tellAll_27 rfl ?_
    refine ev_get 4 dX3_tellAll_28 sX_36 ck3 (Nat.le_of_ble_eq_true rfl) rfl w172 ?_
    refine ev_if_eq (M := MX3_tellAll) (tgt := 56) dX3_tellAll_31 rfl (fun c2 => ?_) (fun c2 => ?_)
    · have h := h.1 c2
      exact h
    · have h := h.2 c2
      refine ev_iload_n dX3_tellAll_34 rfl ?_
      refine ev_sipush dX3_tellAll_35 cs_160 ?_
      refine ev_icmp_ge (M := MX3_tellAll) (tgt := 56) dX3_tellAll_38 rfl (fun c3 => ?_) (fun c3 => ?_)
      · have h := h.1 c3
        exact h
      · have h := h.2 c3
        refine ev_aload_n dX3_tellAll_41 rfl ?_
        refine ev_aload_n dX3_tellAll_42 rfl ?_
        refine ev_callVv (M := MX3_tellAll) (M2 := MX3_tellLine) (As := [.ref p0]) (rest := []) dX3_tellAll_43 sX_36 ck3 rfl w332 moX3_tellLine rfl ⟨Nat.le_of_ble_eq_true rfl, Nat.le_of_ble_eq_true rfl⟩ rfl rfl (Nat.le_of_ble_eq_true rfl) h (fun d4 h => ?_)
        have h := rV_dn h
        refine ev_aload_n dX3_tellAll_46 rfl ?_
        refine ev_callVv (M := MX3_tellAll) (M2 := MX3_advance) (As := []) (rest := []) dX3_tellAll_47 sX_36 ck3 rfl w323 moX3_advance rfl ⟨Nat.le_of_ble_eq_true rfl, Nat.le_of_ble_eq_true rfl⟩ rfl rfl (Nat.le_of_ble_eq_true rfl) h (fun d5 h => ?_)
        have h := rV_dn h
        refine ev_iinc (M := MX3_tellAll) (ls2 := [.ref 36, .ref p0, .int (l2 + 1)]) dX3_tellAll_50 rfl (iin ci_1) (Nat.le_of_ble_eq_true rfl) rfl ?_
        refine ev_goto (M := MX3_tellAll) (tgt := 20) dX3_tellAll_53 rfl ?_
        exact h
set_option maxRecDepth 4000 in
theorem bk_X3_tellAll_56 {q : Int32 → DD → Prop} {d : DD} {p0 : Nat} (Hp0 : isH p0) {l2 : Int32} (h : ((¬ (d 36 2) = 0 → ((¬ (d 36 2) = 0 → q ((-10) - (d 36 3)) d) ∧ ((d 36 2) = 0 → q l2 d))) ∧ ((d 36 2) = 0 → (Cn SX MX0_allTunesAreThere [.ref p0] d (rI fun r4 d3 => ((¬ r4 = 0 → ((¬ (d3 36 2) = 0 → q ((-10) - (d3 36 3)) d3) ∧ ((d3 36 2) = 0 → q l2 d3))) ∧ (r4 = 0 → (Cn SX MX3_fail [.ref 36, .int 6, .int (d3 36 1)] d3 (rV fun d7 => ((¬ (d7 36 2) = 0 → q ((-10) - (d7 36 3)) d7) ∧ ((d7 36 2) = 0 → q l2 d7))))))))))) : Ev SX MX3_tellAll 56 [.ref 36, .ref p0, .int l2] [] d (rI q) := by
  refine ev_aload_n dX3_tellAll_56 rfl ?_
  refine ev_get 2 dX3_tellAll_57 sX_36 ck3 (Nat.le_of_ble_eq_true rfl) rfl w169 ?_
  refine ev_if_ne (M := MX3_tellAll) (tgt := 80) dX3_tellAll_60 rfl (fun c1 => ?_) (fun c1 => ?_)
  · have h := h.1 c1
    refine ev_aload_n dX3_tellAll_80 rfl ?_
    refine ev_get 2 dX3_tellAll_81 sX_36 ck3 (Nat.le_of_ble_eq_true rfl) rfl w169 ?_
    refine ev_if_ne (M := MX3_tellAll) (tgt := 91) dX3_tellAll_84 rfl (fun c2 => ?_) (fun c2 => ?_)
    · have h := h.1 c2
      refine ev_bipush dX3_tellAll_91 cb_m10 ?_
      refine ev_aload_n dX3_tellAll_93 rfl ?_
      refine ev_get 3 dX3_tellAll_94 sX_36 ck3 (Nat.le_of_ble_eq_true rfl) rfl w171 ?_
      refine ev_isub dX3_tellAll_97 ?_
      exact ev_ireti (M := MX3_tellAll) (ty := .int) dX3_tellAll_98 rfl rfl rfl h
    · have h := h.2 c2
      refine ev_iload_n dX3_tellAll_87 rfl ?_
      refine ev_goto (M := MX3_tellAll) (tgt := 98) dX3_tellAll_88 rfl ?_
      exact ev_ireti (M := MX3_tellAll) (ty := .int) dX3_tellAll_98 rfl rfl rfl h
  · have h := h.2 c1
    refine ev_aload_n dX3_tellAll_63 rfl ?_
    refine ev_callVi (M := MX3_tellAll) (M2 := MX0_allTunesAreThere) (As := []) (rest := []) dX3_tellAll_64 (hH_0 Hp0) ck0 rfl w422 moX0_allTunesAreThere rfl ⟨Nat.le_of_ble_eq_true rfl, Nat.le_of_ble_eq_true rfl⟩ rfl rfl (Nat.le_of_ble_eq_true rfl) h (fun r4 d3 h => ?_)
    have h := rI_dn h
    refine ev_if_ne (M := MX3_tellAll) (tgt := 80) dX3_tellAll_67 rfl (fun c5 => ?_) (fun c5 => ?_)
    · have h := h.1 c5
      refine ev_aload_n dX3_tellAll_80 rfl ?_
      refine ev_get 2 dX3_tellAll_81 sX_36 ck3 (Nat.le_of_ble_eq_true rfl) rfl w169 ?_
      refine ev_if_ne (M := MX3_tellAll) (tgt := 91) dX3_tellAll_84 rfl (fun c6 => ?_) (fun c6 => ?_)
      · have h := h.1 c6
        refine ev_bipush dX3_tellAll_91 cb_m10 ?_
        refine ev_aload_n dX3_tellAll_93 rfl ?_
        refine ev_get 3 dX3_tellAll_94 sX_36 ck3 (Nat.le_of_ble_eq_true rfl) rfl w171 ?_
        refine ev_isub dX3_tellAll_97 ?_
        exact ev_ireti (M := MX3_tellAll) (ty := .int) dX3_tellAll_98 rfl rfl rfl h
      · have h := h.2 c6
        refine ev_iload_n dX3_tellAll_87 rfl ?_
        refine ev_goto (M := MX3_tellAll) (tgt := 98) dX3_tellAll_88 rfl ?_
        exact ev_ireti (M := MX3_tellAll) (ty := .int) dX3_tellAll_98 rfl rfl rfl h
    · have h := h.2 c5
      refine ev_aload_n dX3_tellAll_70 rfl ?_
      refine ev_bipush dX3_tellAll_71 cb_6 ?_
      refine ev_aload_n dX3_tellAll_73 rfl ?_
      refine ev_get 1 dX3_tellAll_74 sX_36 ck3 (Nat.le_of_ble_eq_true rfl) rfl w167 ?_
      refine ev_callVv (M := MX3_tellAll) (M2 := MX3_fail) (As := [.int 6, .int (d3 36 1)]) (rest := []) dX3_tellAll_77 sX_36 ck3 rfl w336 moX3_fail rfl ⟨Nat.le_of_ble_eq_true rfl, Nat.le_of_ble_eq_true rfl⟩ rfl rfl (Nat.le_of_ble_eq_true rfl) h (fun d7 h => ?_)
      have h := rV_dn h
      refine ev_aload_n dX3_tellAll_80 rfl ?_
      refine ev_get 2 dX3_tellAll_81 sX_36 ck3 (Nat.le_of_ble_eq_true rfl) rfl w169 ?_
      refine ev_if_ne (M := MX3_tellAll) (tgt := 91) dX3_tellAll_84 rfl (fun c8 => ?_) (fun c8 => ?_)
      · have h := h.1 c8
        refine ev_bipush dX3_tellAll_91 cb_m10 ?_
        refine ev_aload_n dX3_tellAll_93 rfl ?_
        refine ev_get 3 dX3_tellAll_94 sX_36 ck3 (Nat.le_of_ble_eq_true rfl) rfl w171 ?_
        refine ev_isub dX3_tellAll_97 ?_
        exact ev_ireti (M := MX3_tellAll) (ty := .int) dX3_tellAll_98 rfl rfl rfl h
      · have h := h.2 c8
        refine ev_iload_n dX3_tellAll_87 rfl ?_
        refine ev_goto (M := MX3_tellAll) (tgt := 98) dX3_tellAll_88 rfl ?_
        exact ev_ireti (M := MX3_tellAll) (ty := .int) dX3_tellAll_98 rfl rfl rfl h
-- X3_tellLine
set_option maxRecDepth 4000 in
theorem cn_X3_tellLine {q : DD → Prop} {d : DD} {p0 : Nat} (Hp0 : isH p0) (h : ((¬ (d 36 4) = 4 → (Cn SX MX3_isName [.ref 36, .ref (1000 + 0)] d (rI fun r3 d2 => ((r3 = 0 → (Cn SX MX3_isName [.ref 36, .ref (1000 + 1)] d2 (rI fun r6 d5 => ((r6 = 0 → (Cn SX MX3_isName [.ref 36, .ref (1000 + 2)] d5 (rI fun r9 d8 => ((r9 = 0 → (Cn SX MX3_isName [.ref 36, .ref (1000 + 3)] d8 (rI fun r12 d11 => ((r12 = 0 → (Cn SX MX3_isName [.ref 36, .ref (1000 + 4)] d11 (rI fun r15 d14 => ((r15 = 0 → (Cn SX MX3_isName [.ref 36, .ref (1000 + 5)] d14 (rI fun r18 d17 => ((r18 = 0 → (Cn SX MX3_fail [.ref 36, .int 2, .int (d17 36 5)] d17 (rV fun d20 => q d20))) ∧ (¬ r18 = 0 → (Cn SX MX3_tellBound [.ref 36, .ref p0] d17 (rV fun d21 => q d21))))))) ∧ (¬ r15 = 0 → (Cn SX MX3_tellPlayer [.ref 36, .ref p0] d14 (rV fun d22 => q d22))))))) ∧ (¬ r12 = 0 → (Cn SX MX3_tellTune [.ref 36, .ref p0, .int 3] d11 (rV fun d23 => q d23))))))) ∧ (¬ r9 = 0 → (Cn SX MX3_tellTune [.ref 36, .ref p0, .int 2] d8 (rV fun d24 => q d24))))))) ∧ (¬ r6 = 0 → (Cn SX MX3_tellTune [.ref 36, .ref p0, .int 1] d5 (rV fun d25 => q d25))))))) ∧ (¬ r3 = 0 → (Cn SX MX3_tellTune [.ref 36, .ref p0, .int 0] d2 (rV fun d26 => q d26))))))) ∧ ((d 36 4) = 4 → (Cn SX MX3_fail [.ref 36, .int 1, .int (d 36 5)] d (rV fun d27 => q d27))))) : Cn SX MX3_tellLine [.ref 36, .ref p0] d (rV q) := by
  refine cn_of (ls := [.ref 36, .ref p0]) (by decide) rfl rfl (Nat.le_of_ble_eq_true rfl) ?_
  refine ev_aload_n dX3_tellLine_0 rfl ?_
  refine ev_get 4 dX3_tellLine_1 sX_36 ck3 (Nat.le_of_ble_eq_true rfl) rfl w172 ?_
  refine ev_iconst dX3_tellLine_4 ci_4 ?_
  refine ev_icmp_ne (M := MX3_tellLine) (tgt := 20) dX3_tellLine_5 rfl (fun c1 => ?_) (fun c1 => ?_)
  · have h := h.1 c1
    refine ev_aload_n dX3_tellLine_20 rfl ?_
    refine ev_ldcS (M := MX3_tellLine) (i := 0) dX3_tellLine_21 rfl (by decide) rfl ?_
    refine ev_callVi (M := MX3_tellLine) (M2 := MX3_isName) (As := [.ref (1000 + 0)]) (rest := []) dX3_tellLine_23 sX_36 ck3 rfl w341 moX3_isName rfl ⟨Nat.le_of_ble_eq_true rfl, Nat.le_of_ble_eq_true rfl⟩ rfl rfl (Nat.le_of_ble_eq_true rfl) h (fun r3 d2 h => ?_)
    have h := rI_dn h
    refine ev_if_eq (M := MX3_tellLine) (tgt := 38) dX3_tellLine_26 rfl (fun c4 => ?_) (fun c4 => ?_)
    · have h := h.1 c4
      refine ev_aload_n dX3_tellLine_38 rfl ?_
      refine ev_ldcS (M := MX3_tellLine) (i := 1) dX3_tellLine_39 rfl (by decide) rfl ?_
      refine ev_callVi (M := MX3_tellLine) (M2 := MX3_isName) (As := [.ref (1000 + 1)]) (rest := []) dX3_tellLine_41 sX_36 ck3 rfl w341 moX3_isName rfl ⟨Nat.le_of_ble_eq_true rfl, Nat.le_of_ble_eq_true rfl⟩ rfl rfl (Nat.le_of_ble_eq_true rfl) h (fun r6 d5 h => ?_)
      have h := rI_dn h
      refine ev_if_eq (M := MX3_tellLine) (tgt := 56) dX3_tellLine_44 rfl (fun c7 => ?_) (fun c7 => ?_)
      · have h := h.1 c7
        refine ev_aload_n dX3_tellLine_56 rfl ?_
        refine ev_ldcS (M := MX3_tellLine) (i := 2) dX3_tellLine_57 rfl (by decide) rfl ?_
        refine ev_callVi (M := MX3_tellLine) (M2 := MX3_isName) (As := [.ref (1000 + 2)]) (rest := []) dX3_tellLine_59 sX_36 ck3 rfl w341 moX3_isName rfl ⟨Nat.le_of_ble_eq_true rfl, Nat.le_of_ble_eq_true rfl⟩ rfl rfl (Nat.le_of_ble_eq_true rfl) h (fun r9 d8 h => ?_)
        have h := rI_dn h
        refine ev_if_eq (M := MX3_tellLine) (tgt := 74) dX3_tellLine_62 rfl (fun c10 => ?_) (fun c10 => ?_)
        · have h := h.1 c10
          refine ev_aload_n dX3_tellLine_74 rfl ?_
          refine ev_ldcS (M := MX3_tellLine) (i := 3) dX3_tellLine_75 rfl (by decide) rfl ?_
          refine ev_callVi (M := MX3_tellLine) (M2 := MX3_isName) (As := [.ref (1000 + 3)]) (rest := []) dX3_tellLine_77 sX_36 ck3 rfl w341 moX3_isName rfl ⟨Nat.le_of_ble_eq_true rfl, Nat.le_of_ble_eq_true rfl⟩ rfl rfl (Nat.le_of_ble_eq_true rfl) h (fun r12 d11 h => ?_)
          have h := rI_dn h
          refine ev_if_eq (M := MX3_tellLine) (tgt := 92) dX3_tellLine_80 rfl (fun c13 => ?_) (fun c13 => ?_)
          · have h := h.1 c13
            refine ev_aload_n dX3_tellLine_92 rfl ?_
            refine ev_ldcS (M := MX3_tellLine) (i := 4) dX3_tellLine_93 rfl (by decide) rfl ?_
            refine ev_callVi (M := MX3_tellLine) (M2 := MX3_isName) (As := [.ref (1000 + 4)]) (rest := []) dX3_tellLine_95 sX_36 ck3 rfl w341 moX3_isName rfl ⟨Nat.le_of_ble_eq_true rfl, Nat.le_of_ble_eq_true rfl⟩ rfl rfl (Nat.le_of_ble_eq_true rfl) h (fun r15 d14 h => ?_)
            have h := rI_dn h
            refine ev_if_eq (M := MX3_tellLine) (tgt := 109) dX3_tellLine_98 rfl (fun c16 => ?_) (fun c16 => ?_)
            · have h := h.1 c16
              refine ev_aload_n dX3_tellLine_109 rfl ?_
              refine ev_ldcS (M := MX3_tellLine) (i := 5) dX3_tellLine_110 rfl (by decide) rfl ?_
              refine ev_callVi (M := MX3_tellLine) (M2 := MX3_isName) (As := [.ref (1000 + 5)]) (rest := []) dX3_tellLine_112 sX_36 ck3 rfl w341 moX3_isName rfl ⟨Nat.le_of_ble_eq_true rfl, Nat.le_of_ble_eq_true rfl⟩ rfl rfl (Nat.le_of_ble_eq_true rfl) h (fun r18 d17 h => ?_)
              have h := rI_dn h
              refine ev_if_eq (M := MX3_tellLine) (tgt := 126) dX3_tellLine_115 rfl (fun c19 => ?_) (fun c19 => ?_)
              · have h := h.1 c19
                refine ev_aload_n dX3_tellLine_126 rfl ?_
                refine ev_iconst dX3_tellLine_127 ci_2 ?_
                refine ev_aload_n dX3_tellLine_128 rfl ?_
                refine ev_get 5 dX3_tellLine_129 sX_36 ck3 (Nat.le_of_ble_eq_true rfl) rfl w173 ?_
                refine ev_callVv (M := MX3_tellLine) (M2 := MX3_fail) (As := [.int 2, .int (d17 36 5)]) (rest := []) dX3_tellLine_132 sX_36 ck3 rfl w336 moX3_fail rfl ⟨Nat.le_of_ble_eq_true rfl, Nat.le_of_ble_eq_true rfl⟩ rfl rfl (Nat.le_of_ble_eq_true rfl) h (fun d20 h => ?_)
                have h := rV_dn h
                exact ev_ret (M := MX3_tellLine) dX3_tellLine_135 rfl rfl h
              · have h := h.2 c19
                refine ev_aload_n dX3_tellLine_118 rfl ?_
                refine ev_aload_n dX3_tellLine_119 rfl ?_
                refine ev_callVv (M := MX3_tellLine) (M2 := MX3_tellBound) (As := [.ref p0]) (rest := []) dX3_tellLine_120 sX_36 ck3 rfl w418 moX3_tellBound rfl ⟨Nat.le_of_ble_eq_true rfl, Nat.le_of_ble_eq_true rfl⟩ rfl rfl (Nat.le_of_ble_eq_true rfl) h (fun d21 h => ?_)
                have h := rV_dn h
                refine ev_goto (M := MX3_tellLine) (tgt := 135) dX3_tellLine_123 rfl ?_
                exact ev_ret (M := MX3_tellLine) dX3_tellLine_135 rfl rfl h
            · have h := h.2 c16
              refine ev_aload_n dX3_tellLine_101 rfl ?_
              refine ev_aload_n dX3_tellLine_102 rfl ?_
              refine ev_callVv (M := MX3_tellLine) (M2 := MX3_tellPlayer) (As := [.ref p0]) (rest := []) dX3_tellLine_103 sX_36 ck3 rfl w413 moX3_tellPlayer rfl ⟨Nat.le_of_ble_eq_true rfl, Nat.le_of_ble_eq_true rfl⟩ rfl rfl (Nat.le_of_ble_eq_true rfl) h (fun d22 h => ?_)
              have h := rV_dn h
              refine ev_goto (M := MX3_tellLine) (tgt := 135) dX3_tellLine_106 rfl ?_
              exact ev_ret (M := MX3_tellLine) dX3_tellLine_135 rfl rfl h
          · have h := h.2 c13
            refine ev_aload_n dX3_tellLine_83 rfl ?_
            refine ev_aload_n dX3_tellLine_84 rfl ?_
            refine ev_iconst dX3_tellLine_85 ci_3 ?_
            refine ev_callVv (M := MX3_tellLine) (M2 := MX3_tellTune) (As := [.ref p0, .int 3]) (rest := []) dX3_tellLine_86 sX_36 ck3 rfl w393 moX3_tellTune rfl ⟨Nat.le_of_ble_eq_true rfl, Nat.le_of_ble_eq_true rfl⟩ rfl rfl (Nat.le_of_ble_eq_true rfl) h (fun d23 h => ?_)
            have h := rV_dn h
            refine ev_goto (M := MX3_tellLine) (tgt := 135) dX3_tellLine_89 rfl ?_
            exact ev_ret (M := MX3_tellLine) dX3_tellLine_135 rfl rfl h
        · have h := h.2 c10
          refine ev_aload_n dX3_tellLine_65 rfl ?_
          refine ev_aload_n dX3_tellLine_66 rfl ?_
          refine ev_iconst dX3_tellLine_67 ci_2 ?_
          refine ev_callVv (M := MX3_tellLine) (M2 := MX3_tellTune) (As := [.ref p0, .int 2]) (rest := []) dX3_tellLine_68 sX_36 ck3 rfl w393 moX3_tellTune rfl ⟨Nat.le_of_ble_eq_true rfl, Nat.le_of_ble_eq_true rfl⟩ rfl rfl (Nat.le_of_ble_eq_true rfl) h (fun d24 h => ?_)
          have h := rV_dn h
          refine ev_goto (M := MX3_tellLine) (tgt := 135) dX3_tellLine_71 rfl ?_
          exact ev_ret (M := MX3_tellLine) dX3_tellLine_135 rfl rfl h
      · have h := h.2 c7
        refine ev_aload_n dX3_tellLine_47 rfl ?_
        refine ev_aload_n dX3_tellLine_48 rfl ?_
        refine ev_iconst dX3_tellLine_49 ci_1 ?_
        refine ev_callVv (M := MX3_tellLine) (M2 := MX3_tellTune) (As := [.ref p0, .int 1]) (rest := []) dX3_tellLine_50 sX_36 ck3 rfl w393 moX3_tellTune rfl ⟨Nat.le_of_ble_eq_true rfl, Nat.le_of_ble_eq_true rfl⟩ rfl rfl (Nat.le_of_ble_eq_true rfl) h (fun d25 h => ?_)
        have h := rV_dn h
        refine ev_goto (M := MX3_tellLine) (tgt := 135) dX3_tellLine_53 rfl ?_
        exact ev_ret (M := MX3_tellLine) dX3_tellLine_135 rfl rfl h
    · have h := h.2 c4
      refine ev_aload_n dX3_tellLine_29 rfl ?_
      refine ev_aload_n dX3_tellLine_30 rfl ?_
      refine ev_iconst dX3_tellLine_31 ci_0 ?_
      refine ev_callVv (M := MX3_tellLine) (M2 := MX3_tellTune) (As := [.ref p0, .int 0]) (rest := []) dX3_tellLine_32 sX_36 ck3 rfl w393 moX3_tellTune rfl ⟨Nat.le_of_ble_eq_true rfl, Nat.le_of_ble_eq_true rfl⟩ rfl rfl (Nat.le_of_ble_eq_true rfl) h (fun d26 h => ?_)
      have h := rV_dn h
      refine ev_goto (M := MX3_tellLine) (tgt := 135) dX3_tellLine_35 rfl ?_
      exact ev_ret (M := MX3_tellLine) dX3_tellLine_135 rfl rfl h
  · have h := h.2 c1
    refine ev_aload_n dX3_tellLine_8 rfl ?_
    refine ev_iconst dX3_tellLine_9 ci_1 ?_
    refine ev_aload_n dX3_tellLine_10 rfl ?_
    refine ev_get 5 dX3_tellLine_11 sX_36 ck3 (Nat.le_of_ble_eq_true rfl) rfl w173 ?_
    refine ev_callVv (M := MX3_tellLine) (M2 := MX3_fail) (As := [.int 1, .int (d 36 5)]) (rest := []) dX3_tellLine_14 sX_36 ck3 rfl w336 moX3_fail rfl ⟨Nat.le_of_ble_eq_true rfl, Nat.le_of_ble_eq_true rfl⟩ rfl rfl (Nat.le_of_ble_eq_true rfl) h (fun d27 h => ?_)
    have h := rV_dn h
    refine ev_goto (M := MX3_tellLine) (tgt := 135) dX3_tellLine_17 rfl ?_
    exact ev_ret (M := MX3_tellLine) dX3_tellLine_135 rfl rfl h
-- X3_tellTune
set_option maxRecDepth 4000 in
theorem cn_X3_tellTune {q : DD → Prop} {d : DD} {p0 : Nat} (Hp0 : isH p0) {p1 : Int32} (h : (((d p0 0) < 4 → (∀ d2 : DD, d2 = (up d p0 0 ((d p0 0) + 1)) → (vp_in (d p0 0) 4 ∧ (∀ d3 : DD, d3 = (up d2 (p0 + 1) (d p0 0).toNatClampNeg p1) → (Cn SX MX3_nextNumber [.ref 36, .int 1, .int 9] d3 (rI fun r5 d4 => (vp_in (d p0 0) 4 ∧ (∀ d6 : DD, d6 = (up d4 (p0 + 3) (d p0 0).toNatClampNeg r5) → (Cn SX MX3_nextNumber [.ref 36, .int 0, .int 9] d6 (rI fun r8 d7 => (vp_in (d p0 0) 4 ∧ (∀ d9 : DD, d9 = (up d7 (p0 + 4) (d p0 0).toNatClampNeg r8) → (Cn SX MX3_nextNumber [.ref 36, .int 0, .int 9] d9 (rI fun r11 d10 => (vp_in ((d p0 0) * 8) 32 ∧ (∀ d12 : DD, d12 = (up d10 (p0 + 5) ((d p0 0) * 8).toNatClampNeg r11) → (vp_in (d p0 0) 4 ∧ (∀ d13 : DD, d13 = (up d12 (p0 + 2) (d p0 0).toNatClampNeg 1) → (Cn SX MX3_advance [.ref 36] d13 (rV fun d14 => Ev SX MX3_tellTune 93 [.ref 36, .ref p0, .int p1, .int (d p0 0), .int 1, uJ] [] d14 (rV q))))))))))))))))))))) ∧ (¬ (d p0 0) < 4 → (Cn SX MX3_fail [.ref 36, .int 5, .int (d 36 5)] d (rV fun d15 => q d15))))) : Cn SX MX3_tellTune [.ref 36, .ref p0, .int p1] d (rV q) := by
  refine cn_of (ls := [.ref 36, .ref p0, .int p1, uJ, uJ, uJ]) (by decide) rfl rfl (Nat.le_of_ble_eq_true rfl) ?_
  refine ev_aload_n dX3_tellTune_0 rfl ?_
  refine ev_get 0 dX3_tellTune_1 (hH_0 Hp0) ck0 (Nat.le_of_ble_eq_true rfl) rfl w83 ?_
  refine ev_istore_n (M := MX3_tellTune) (ls2 := [.ref 36, .ref p0, .int p1, .int (d p0 0), uJ, uJ]) 3 dX3_tellTune_4 rfl (Nat.le_of_ble_eq_true rfl) rfl ?_
  refine ev_iload_n dX3_tellTune_5 rfl ?_
  refine ev_iconst dX3_tellTune_6 ci_4 ?_
  refine ev_icmp_lt (M := MX3_tellTune) (tgt := 20) dX3_tellTune_7 rfl (fun c1 => ?_) (fun c1 => ?_)
  · have h := h.1 c1
    refine ev_aload_n dX3_tellTune_20 rfl ?_
    refine ev_dup dX3_tellTune_21 rfl ?_
    refine ev_get 0 dX3_tellTune_22 (hH_0 Hp0) ck0 (Nat.le_of_ble_eq_true rfl) rfl w83 ?_
    refine ev_iconst dX3_tellTune_25 ci_1 ?_
    refine ev_iadd dX3_tellTune_26 ?_
    refine ev_put 0 dX3_tellTune_27 (hH_0 Hp0) ck0 (Nat.le_of_ble_eq_true rfl) rfl w83 rfl rfl rfl ?_
    refine ev_topd (fun d2 ed2 => ?_)
    have h := h d2 ed2
    refine ev_aload_n dX3_tellTune_30 rfl ?_
    refine ev_getr (M := MX3_tellTune) (r := (p0 + 1)) 3 dX3_tellTune_31 (hH_0 Hp0) ck0 (Nat.le_of_ble_eq_true rfl) rfl w95 ?_
    refine ev_iload_n dX3_tellTune_34 rfl ?_
    refine ev_iload_n dX3_tellTune_35 rfl ?_
    obtain ⟨g, h⟩ := h
    refine ev_iast dX3_tellTune_36 (hH_1 Hp0) g ?_
    refine ev_topd (fun d3 ed3 => ?_)
    have h := h d3 ed3
    refine ev_aload_n dX3_tellTune_37 rfl ?_
    refine ev_getr (M := MX3_tellTune) (r := (p0 + 3)) 5 dX3_tellTune_38 (hH_0 Hp0) ck0 (Nat.le_of_ble_eq_true rfl) rfl w102 ?_
    refine ev_iload_n dX3_tellTune_41 rfl ?_
    refine ev_aload_n dX3_tellTune_42 rfl ?_
    refine ev_iconst dX3_tellTune_43 ci_1 ?_
    refine ev_bipush dX3_tellTune_44 cb_9 ?_
    refine ev_callVi (M := MX3_tellTune) (M2 := MX3_nextNumber) (As := [.int 1, .int 9]) (rest := [.int (d p0 0), .ref (p0 + 3)]) dX3_tellTune_46 sX_36 ck3 rfl w397 moX3_nextNumber rfl ⟨Nat.le_of_ble_eq_true rfl, Nat.le_of_ble_eq_true rfl⟩ rfl rfl (Nat.le_of_ble_eq_true rfl) h (fun r5 d4 h => ?_)
    have h := rI_dn h
    obtain ⟨g, h⟩ := h
    refine ev_iast dX3_tellTune_49 (hH_3 Hp0) g ?_
    refine ev_topd (fun d6 ed6 => ?_)
    have h := h d6 ed6
    refine ev_aload_n dX3_tellTune_50 rfl ?_
    refine ev_getr (M := MX3_tellTune) (r := (p0 + 4)) 6 dX3_tellTune_51 (hH_0 Hp0) ck0 (Nat.le_of_ble_eq_true rfl) rfl w106 ?_
    refine ev_iload_n dX3_tellTune_54 rfl ?_
    refine ev_aload_n dX3_tellTune_55 rfl ?_
    refine ev_iconst dX3_tellTune_56 ci_0 ?_
    refine ev_bipush dX3_tellTune_57 cb_9 ?_
    refine ev_callVi (M := MX3_tellTune) (M2 := MX3_nextNumber) (As := [.int 0, .int 9]) (rest := [.int (d p0 0), .ref (p0 + 4)]) dX3_tellTune_59 sX_36 ck3 rfl w397 moX3_nextNumber rfl ⟨Nat.le_of_ble_eq_true rfl, Nat.le_of_ble_eq_true rfl⟩ rfl rfl (Nat.le_of_ble_eq_true rfl) h (fun r8 d7 h => ?_)
    have h := rI_dn h
    obtain ⟨g, h⟩ := h
    refine ev_iast dX3_tellTune_62 (hH_4 Hp0) g ?_
    refine ev_topd (fun d9 ed9 => ?_)
    have h := h d9 ed9
    refine ev_aload_n dX3_tellTune_63 rfl ?_
    refine ev_getr (M := MX3_tellTune) (r := (p0 + 5)) 7 dX3_tellTune_64 (hH_0 Hp0) ck0 (Nat.le_of_ble_eq_true rfl) rfl w109 ?_
    refine ev_iload_n dX3_tellTune_67 rfl ?_
    refine ev_bipush dX3_tellTune_68 cb_8 ?_
    refine ev_imul dX3_tellTune_70 ?_
    refine ev_aload_n dX3_tellTune_71 rfl ?_
    refine ev_iconst dX3_tellTune_72 ci_0 ?_
    refine ev_bipush dX3_tellTune_73 cb_9 ?_
    refine ev_callVi (M := MX3_tellTune) (M2 := MX3_nextNumber) (As := [.int 0, .int 9]) (rest := [.int ((d p0 0) * 8), .ref (p0 + 5)]) dX3_tellTune_75 sX_36 ck3 rfl w397 moX3_nextNumber rfl ⟨Nat.le_of_ble_eq_true rfl, Nat.le_of_ble_eq_true rfl⟩ rfl rfl (Nat.le_of_ble_eq_true rfl) h (fun r11 d10 h => ?_)
    have h := rI_dn h
    obtain ⟨g, h⟩ := h
    refine ev_iast dX3_tellTune_78 (hH_5 Hp0) g ?_
    refine ev_topd (fun d12 ed12 => ?_)
    have h := h d12 ed12
    refine ev_aload_n dX3_tellTune_79 rfl ?_
    refine ev_getr (M := MX3_tellTune) (r := (p0 + 2)) 4 dX3_tellTune_80 (hH_0 Hp0) ck0 (Nat.le_of_ble_eq_true rfl) rfl w99 ?_
    refine ev_iload_n dX3_tellTune_83 rfl ?_
    refine ev_iconst dX3_tellTune_84 ci_1 ?_
    obtain ⟨g, h⟩ := h
    refine ev_iast dX3_tellTune_85 (hH_2 Hp0) g ?_
    refine ev_topd (fun d13 ed13 => ?_)
    have h := h d13 ed13
    refine ev_aload_n dX3_tellTune_86 rfl ?_
    refine ev_callVv (M := MX3_tellTune) (M2 := MX3_advance) (As := []) (rest := []) dX3_tellTune_87 sX_36 ck3 rfl w323 moX3_advance rfl ⟨Nat.le_of_ble_eq_true rfl, Nat.le_of_ble_eq_true rfl⟩ rfl rfl (Nat.le_of_ble_eq_true rfl) h (fun d14 h => ?_)
    have h := rV_dn h
    refine ev_iconst dX3_tellTune_90 ci_1 ?_
    refine ev_istore (M := MX3_tellTune) (ls2 := [.ref 36, .ref p0, .int p1, .int (d p0 0), .int 1, uJ]) dX3_tellTune_91 (Nat.le_of_ble_eq_true rfl) rfl ?_
    exact h
  · have h := h.2 c1
    refine ev_aload_n dX3_tellTune_10 rfl ?_
    refine ev_iconst dX3_tellTune_11 ci_5 ?_
    refine ev_aload_n dX3_tellTune_12 rfl ?_
    refine ev_get 5 dX3_tellTune_13 sX_36 ck3 (Nat.le_of_ble_eq_true rfl) rfl w173 ?_
    refine ev_callVv (M := MX3_tellTune) (M2 := MX3_fail) (As := [.int 5, .int (d 36 5)]) (rest := []) dX3_tellTune_16 sX_36 ck3 rfl w336 moX3_fail rfl ⟨Nat.le_of_ble_eq_true rfl, Nat.le_of_ble_eq_true rfl⟩ rfl rfl (Nat.le_of_ble_eq_true rfl) h (fun d15 h => ?_)
    have h := rV_dn h
    exact ev_ret (M := MX3_tellTune) dX3_tellTune_19 rfl rfl h
set_option maxRecDepth 4000 in
theorem bk_X3_tellTune_93 {q : DD → Prop} {d : DD} {p0 : Nat} (Hp0 : isH p0) {l2 : Int32} {l3 : Int32} {l4 : Int32} (h : ((8 < l4 → (Cn SX MX3_sign [.ref 36] d (rV fun d2 => q d2))) ∧ (¬ 8 < l4 → ((¬ (d 36 2) = 0 → (Cn SX MX3_sign [.ref 36] d (rV fun d4 => q d4))) ∧ ((d 36 2) = 0 → ((¬ (d 36 4) = 2 → (Cn SX MX3_sign [.ref 36] d (rV fun d6 => q d6))) ∧ ((d 36 4) = 2 → (Cn SX MX3_number [.ref 36, .int 0, .int 9] d (rI fun r8 d7 => ((¬ l4 = 8 → (vp_in ((l3 * 8) + l4) 32 ∧ (∀ d10 : DD, d10 = (up d7 (p0 + 5) ((l3 * 8) + l4).toNatClampNeg r8) → (vp_in l3 4 ∧ (∀ d11 : DD, d11 = (up d10 (p0 + 2) l3.toNatClampNeg (l4 + 1)) → (Cn SX MX3_advance [.ref 36] d11 (rV fun d12 => Ev SX MX3_tellTune 93 [.ref 36, .ref p0, .int l2, .int l3, .int (l4 + 1), uJ] [] d12 (rV q)))))))) ∧ (l4 = 8 → (Cn SX MX3_fail [.ref 36, .int 5, .int (d7 36 5)] d7 (rV fun d13 => Ev SX MX3_tellTune 93 [.ref 36, .ref p0, .int l2, .int l3, .int (l4 + 1), uJ] [] d13 (rV q)))))))))))))) : Ev SX MX3_tellTune 93 [.ref 36, .ref p0, .int l2, .int l3, .int l4, uJ] [] d (rV q) := by
  refine ev_iload dX3_tellTune_93 rfl ?_
  refine ev_bipush dX3_tellTune_95 cb_8 ?_
  refine ev_icmp_gt (M := MX3_tellTune) (tgt := 177) dX3_tellTune_97 rfl (fun c1 => ?_) (fun c1 => ?_)
  · have h := h.1 c1
    refine ev_aload_n dX3_tellTune_177 rfl ?_
    refine ev_callVv (M := MX3_tellTune) (M2 := MX3_sign) (As := []) (rest := []) dX3_tellTune_178 sX_36 ck3 rfl w405 moX3_sign rfl ⟨Nat.le_of_ble_eq_true rfl, Nat.le_of_ble_eq_true rfl⟩ rfl rfl (Nat.le_of_ble_eq_true rfl) h (fun d2 h => ?_)
    have h := rV_dn h
    exact ev_ret (M := MX3_tellTune) dX3_tellTune_181 rfl rfl h
  · have h := h.2 c1
    refine ev_aload_n dX3_tellTune_100 rfl ?_
    refine ev_get 2 dX3_tellTune_101 sX_36 ck3 (Nat.le_of_ble_eq_true rfl) rfl w169 ?_
    refine ev_if_ne (M := MX3_tellTune) (tgt := 177) dX3_tellTune_104 rfl (fun c3 => ?_) (fun c3 => ?_)
    · have h := h.1 c3
      refine ev_aload_n dX3_tellTune_177 rfl ?_
      refine ev_callVv (M := MX3_tellTune) (M2 := MX3_sign) (As := []) (rest := []) dX3_tellTune_178 sX_36 ck3 rfl w405 moX3_sign rfl ⟨Nat.le_of_ble_eq_true rfl, Nat.le_of_ble_eq_true rfl⟩ rfl rfl (Nat.le_of_ble_eq_true rfl) h (fun d4 h => ?_)
      have h := rV_dn h
      exact ev_ret (M := MX3_tellTune) dX3_tellTune_181 rfl rfl h
    · have h := h.2 c3
      refine ev_aload_n dX3_tellTune_107 rfl ?_
      refine ev_get 4 dX3_tellTune_108 sX_36 ck3 (Nat.le_of_ble_eq_true rfl) rfl w172 ?_
      refine ev_iconst dX3_tellTune_111 ci_2 ?_
      refine ev_icmp_ne (M := MX3_tellTune) (tgt := 177) dX3_tellTune_112 rfl (fun c5 => ?_) (fun c5 => ?_)
      · have h := h.1 c5
        refine ev_aload_n dX3_tellTune_177 rfl ?_
        refine ev_callVv (M := MX3_tellTune) (M2 := MX3_sign) (As := []) (rest := []) dX3_tellTune_178 sX_36 ck3 rfl w405 moX3_sign rfl ⟨Nat.le_of_ble_eq_true rfl, Nat.le_of_ble_eq_true rfl⟩ rfl rfl (Nat.le_of_ble_eq_true rfl) h (fun d6 h => ?_)
        have h := rV_dn h
        exact ev_ret (M := MX3_tellTune) dX3_tellTune_181 rfl rfl h
      · have h := h.2 c5
        refine ev_aload_n dX3_tellTune_115 rfl ?_
        refine ev_iconst dX3_tellTune_116 ci_0 ?_
        refine ev_bipush dX3_tellTune_117 cb_9 ?_
        refine ev_callVi (M := MX3_tellTune) (M2 := MX3_number) (As := [.int 0, .int 9]) (rest := []) dX3_tellTune_119 sX_36 ck3 rfl w401 moX3_number rfl ⟨Nat.le_of_ble_eq_true rfl, Nat.le_of_ble_eq_true rfl⟩ rfl rfl (Nat.le_of_ble_eq_true rfl) h (fun r8 d7 h => ?_)
        have h := rI_dn h
        refine ev_istore (M := MX3_tellTune) (ls2 := [.ref 36, .ref p0, .int l2, .int l3, .int l4, .int r8]) dX3_tellTune_122 (Nat.le_of_ble_eq_true rfl) rfl ?_
        refine ev_iload dX3_tellTune_124 rfl ?_
        refine ev_bipush dX3_tellTune_126 cb_8 ?_
        refine ev_icmp_ne (M := MX3_tellTune) (tgt := 143) dX3_tellTune_128 rfl (fun c9 => ?_) (fun c9 => ?_)
        · have h := h.1 c9
          refine ev_aload_n dX3_tellTune_143 rfl ?_
          refine ev_getr (M := MX3_tellTune) (r := (p0 + 5)) 7 dX3_tellTune_144 (hH_0 Hp0) ck0 (Nat.le_of_ble_eq_true rfl) rfl w109 ?_
          refine ev_iload_n dX3_tellTune_147 rfl ?_
          refine ev_bipush dX3_tellTune_148 cb_8 ?_
          refine ev_imul dX3_tellTune_150 ?_
          refine ev_iload dX3_tellTune_151 rfl ?_
          refine ev_iadd dX3_tellTune_153 ?_
          refine ev_iload dX3_tellTune_154 rfl ?_
          obtain ⟨g, h⟩ := h
          refine ev_iast dX3_tellTune_156 (hH_5 Hp0) g ?_
          refine ev_topd (fun d10 ed10 => ?_)
          have h := h d10 ed10
          refine ev_aload_n dX3_tellTune_157 rfl ?_
          refine ev_getr (M := MX3_tellTune) (r := (p0 + 2)) 4 dX3_tellTune_158 (hH_0 Hp0) ck0 (Nat.le_of_ble_eq_true rfl) rfl w99 ?_
          refine ev_iload_n dX3_tellTune_161 rfl ?_
          refine ev_iload dX3_tellTune_162 rfl ?_
          refine ev_iconst dX3_tellTune_164 ci_1 ?_
          refine ev_iadd dX3_tellTune_165 ?_
          obtain ⟨g, h⟩ := h
          refine ev_iast dX3_tellTune_166 (hH_2 Hp0) g ?_
          refine ev_topd (fun d11 ed11 => ?_)
          have h := h d11 ed11
          refine ev_aload_n dX3_tellTune_167 rfl ?_
          refine ev_callVv (M := MX3_tellTune) (M2 := MX3_advance) (As := []) (rest := []) dX3_tellTune_168 sX_36 ck3 rfl w323 moX3_advance rfl ⟨Nat.le_of_ble_eq_true rfl, Nat.le_of_ble_eq_true rfl⟩ rfl rfl (Nat.le_of_ble_eq_true rfl) h (fun d12 h => ?_)
          have h := rV_dn h
          refine ev_iinc (M := MX3_tellTune) (ls2 := [.ref 36, .ref p0, .int l2, .int l3, .int (l4 + 1), .int r8]) dX3_tellTune_171 rfl (iin ci_1) (Nat.le_of_ble_eq_true rfl) rfl ?_
          refine ev_goto (M := MX3_tellTune) (tgt := 93) dX3_tellTune_174 rfl ?_
          refine Ev.forget (ls2 := [.ref 36, .ref p0, .int l2, .int l3, .int (l4 + 1), uJ]) ?_ (fun i v hi hv => lsub_of (bs := [false, false, false, false, false, true]) rfl i v hi hv)
          exact h
        · have h := h.2 c9
          refine ev_aload_n dX3_tellTune_131 rfl ?_
          refine ev_iconst dX3_tellTune_132 ci_5 ?_
          refine ev_aload_n dX3_tellTune_133 rfl ?_
          refine ev_get 5 dX3_tellTune_134 sX_36 ck3 (Nat.le_of_ble_eq_true rfl) rfl w173 ?_
          refine ev_callVv (M := MX3_tellTune) (M2 := MX3_fail) (As := [.int 5, .int (d7 36 5)]) (rest := []) dX3_tellTune_137 sX_36 ck3 rfl w336 moX3_fail rfl ⟨Nat.le_of_ble_eq_true rfl, Nat.le_of_ble_eq_true rfl⟩ rfl rfl (Nat.le_of_ble_eq_true rfl) h (fun d13 h => ?_)
          have h := rV_dn h
          refine ev_goto (M := MX3_tellTune) (tgt := 171) dX3_tellTune_140 rfl ?_
          refine ev_iinc (M := MX3_tellTune) (ls2 := [.ref 36, .ref p0, .int l2, .int l3, .int (l4 + 1), .int r8]) dX3_tellTune_171 rfl (iin ci_1) (Nat.le_of_ble_eq_true rfl) rfl ?_
          refine ev_goto (M := MX3_tellTune) (tgt := 93) dX3_tellTune_174 rfl ?_
          refine Ev.forget (ls2 := [.ref 36, .ref p0, .int l2, .int l3, .int (l4 + 1), uJ]) ?_ (fun i v hi hv => lsub_of (bs := [false, false, false, false, false, true]) rfl i v hi hv)
          exact h
-- X3_tellPlayer
set_option maxRecDepth 4000 in
theorem cn_X3_tellPlayer {q : DD → Prop} {d : DD} {p0 : Nat} (Hp0 : isH p0) (h : (((d p0 1) < 4 → (∀ d2 : DD, d2 = (up d p0 1 ((d p0 1) + 1)) → (Cn SX MX3_nextNumber [.ref 36, .int 0, .int 9] d2 (rI fun r4 d3 => (vp_in (d p0 1) 4 ∧ (∀ d5 : DD, d5 = (up d3 (p0 + 6) (d p0 1).toNatClampNeg r4) → (Cn SX MX3_nextNumber [.ref 36, .int 1, .int 99] d5 (rI fun r7 d6 => (vp_in (d p0 1) 4 ∧ (∀ d8 : DD, d8 = (up d6 (p0 + 7) (d p0 1).toNatClampNeg r7) → (Cn SX MX3_nextNumber [.ref 36, .int 0, .int 9] d8 (rI fun r10 d9 => (vp_in (d p0 1) 4 ∧ (∀ d11 : DD, d11 = (up d9 (p0 + 8) (d p0 1).toNatClampNeg r10) → (Cn SX MX3_nextNumber [.ref 36, .int 0, .int 3] d11 (rI fun r13 d12 => (vp_in (d p0 1) 4 ∧ (∀ d14 : DD, d14 = (up d12 (p0 + 9) (d p0 1).toNatClampNeg r13) → (Cn SX MX3_advance [.ref 36] d14 (rV fun d15 => (Cn SX MX3_sign [.ref 36] d15 (rV fun d16 => q d16)))))))))))))))))))))) ∧ (¬ (d p0 1) < 4 → (Cn SX MX3_fail [.ref 36, .int 5, .int (d 36 5)] d (rV fun d17 => q d17))))) : Cn SX MX3_tellPlayer [.ref 36, .ref p0] d (rV q) := by
  refine cn_of (ls := [.ref 36, .ref p0, uJ]) (by decide) rfl rfl (Nat.le_of_ble_eq_true rfl) ?_
  refine ev_aload_n dX3_tellPlayer_0 rfl ?_
  refine ev_get 1 dX3_tellPlayer_1 (hH_0 Hp0) ck0 (Nat.le_of_ble_eq_true rfl) rfl w87 ?_
  refine ev_istore_n (M := MX3_tellPlayer) (ls2 := [.ref 36, .ref p0, .int (d p0 1)]) 2 dX3_tellPlayer_4 rfl (Nat.le_of_ble_eq_true rfl) rfl ?_
  refine ev_iload_n dX3_tellPlayer_5 rfl ?_
  refine ev_iconst dX3_tellPlayer_6 ci_4 ?_
  refine ev_icmp_lt (M := MX3_tellPlayer) (tgt := 20) dX3_tellPlayer_7 rfl (fun c1 => ?_) (fun c1 => ?_)
  · have h := h.1 c1
    refine ev_aload_n dX3_tellPlayer_20 rfl ?_
    refine ev_dup dX3_tellPlayer_21 rfl ?_
    refine ev_get 1 dX3_tellPlayer_22 (hH_0 Hp0) ck0 (Nat.le_of_ble_eq_true rfl) rfl w87 ?_
    refine ev_iconst dX3_tellPlayer_25 ci_1 ?_
    refine ev_iadd dX3_tellPlayer_26 ?_
    refine ev_put 1 dX3_tellPlayer_27 (hH_0 Hp0) ck0 (Nat.le_of_ble_eq_true rfl) rfl w87 rfl rfl rfl ?_
    refine ev_topd (fun d2 ed2 => ?_)
    have h := h d2 ed2
    refine ev_aload_n dX3_tellPlayer_30 rfl ?_
    refine ev_getr (M := MX3_tellPlayer) (r := (p0 + 6)) 8 dX3_tellPlayer_31 (hH_0 Hp0) ck0 (Nat.le_of_ble_eq_true rfl) rfl w113 ?_
    refine ev_iload_n dX3_tellPlayer_34 rfl ?_
    refine ev_aload_n dX3_tellPlayer_35 rfl ?_
    refine ev_iconst dX3_tellPlayer_36 ci_0 ?_
    refine ev_bipush dX3_tellPlayer_37 cb_9 ?_
    refine ev_callVi (M := MX3_tellPlayer) (M2 := MX3_nextNumber) (As := [.int 0, .int 9]) (rest := [.int (d p0 1), .ref (p0 + 6)]) dX3_tellPlayer_39 sX_36 ck3 rfl w397 moX3_nextNumber rfl ⟨Nat.le_of_ble_eq_true rfl, Nat.le_of_ble_eq_true rfl⟩ rfl rfl (Nat.le_of_ble_eq_true rfl) h (fun r4 d3 h => ?_)
    have h := rI_dn h
    obtain ⟨g, h⟩ := h
    refine ev_iast dX3_tellPlayer_42 (hH_6 Hp0) g ?_
    refine ev_topd (fun d5 ed5 => ?_)
    have h := h d5 ed5
    refine ev_aload_n dX3_tellPlayer_43 rfl ?_
    refine ev_getr (M := MX3_tellPlayer) (r := (p0 + 7)) 9 dX3_tellPlayer_44 (hH_0 Hp0) ck0 (Nat.le_of_ble_eq_true rfl) rfl w117 ?_
    refine ev_iload_n dX3_tellPlayer_47 rfl ?_
    refine ev_aload_n dX3_tellPlayer_48 rfl ?_
    refine ev_iconst dX3_tellPlayer_49 ci_1 ?_
    refine ev_bipush dX3_tellPlayer_50 cb_99 ?_
    refine ev_callVi (M := MX3_tellPlayer) (M2 := MX3_nextNumber) (As := [.int 1, .int 99]) (rest := [.int (d p0 1), .ref (p0 + 7)]) dX3_tellPlayer_52 sX_36 ck3 rfl w397 moX3_nextNumber rfl ⟨Nat.le_of_ble_eq_true rfl, Nat.le_of_ble_eq_true rfl⟩ rfl rfl (Nat.le_of_ble_eq_true rfl) h (fun r7 d6 h => ?_)
    have h := rI_dn h
    obtain ⟨g, h⟩ := h
    refine ev_iast dX3_tellPlayer_55 (hH_7 Hp0) g ?_
    refine ev_topd (fun d8 ed8 => ?_)
    have h := h d8 ed8
    refine ev_aload_n dX3_tellPlayer_56 rfl ?_
    refine ev_getr (M := MX3_tellPlayer) (r := (p0 + 8)) 10 dX3_tellPlayer_57 (hH_0 Hp0) ck0 (Nat.le_of_ble_eq_true rfl) rfl w120 ?_
    refine ev_iload_n dX3_tellPlayer_60 rfl ?_
    refine ev_aload_n dX3_tellPlayer_61 rfl ?_
    refine ev_iconst dX3_tellPlayer_62 ci_0 ?_
    refine ev_bipush dX3_tellPlayer_63 cb_9 ?_
    refine ev_callVi (M := MX3_tellPlayer) (M2 := MX3_nextNumber) (As := [.int 0, .int 9]) (rest := [.int (d p0 1), .ref (p0 + 8)]) dX3_tellPlayer_65 sX_36 ck3 rfl w397 moX3_nextNumber rfl ⟨Nat.le_of_ble_eq_true rfl, Nat.le_of_ble_eq_true rfl⟩ rfl rfl (Nat.le_of_ble_eq_true rfl) h (fun r10 d9 h => ?_)
    have h := rI_dn h
    obtain ⟨g, h⟩ := h
    refine ev_iast dX3_tellPlayer_68 (hH_8 Hp0) g ?_
    refine ev_topd (fun d11 ed11 => ?_)
    have h := h d11 ed11
    refine ev_aload_n dX3_tellPlayer_69 rfl ?_
    refine ev_getr (M := MX3_tellPlayer) (r := (p0 + 9)) 11 dX3_tellPlayer_70 (hH_0 Hp0) ck0 (Nat.le_of_ble_eq_true rfl) rfl w125 ?_
    refine ev_iload_n dX3_tellPlayer_73 rfl ?_
    refine ev_aload_n dX3_tellPlayer_74 rfl ?_
    refine ev_iconst dX3_tellPlayer_75 ci_0 ?_
    refine ev_iconst dX3_tellPlayer_76 ci_3 ?_
    refine ev_callVi (M := MX3_tellPlayer) (M2 := MX3_nextNumber) (As := [.int 0, .int 3]) (rest := [.int (d p0 1), .ref (p0 + 9)]) dX3_tellPlayer_77 sX_36 ck3 rfl w397 moX3_nextNumber rfl ⟨Nat.le_of_ble_eq_true rfl, Nat.le_of_ble_eq_true rfl⟩ rfl rfl (Nat.le_of_ble_eq_true rfl) h (fun r13 d12 h => ?_)
    have h := rI_dn h
    obtain ⟨g, h⟩ := h
    refine ev_iast dX3_tellPlayer_80 (hH_9 Hp0) g ?_
    refine ev_topd (fun d14 ed14 => ?_)
    have h := h d14 ed14
    refine ev_aload_n dX3_tellPlayer_81 rfl ?_
    refine ev_callVv (M := MX3_tellPlayer) (M2 := MX3_advance) (As := []) (rest := []) dX3_tellPlayer_82 sX_36 ck3 rfl w323 moX3_advance rfl ⟨Nat.le_of_ble_eq_true rfl, Nat.le_of_ble_eq_true rfl⟩ rfl rfl (Nat.le_of_ble_eq_true rfl) h (fun d15 h => ?_)
    have h := rV_dn h
    refine ev_aload_n dX3_tellPlayer_85 rfl ?_
    refine ev_callVv (M := MX3_tellPlayer) (M2 := MX3_sign) (As := []) (rest := []) dX3_tellPlayer_86 sX_36 ck3 rfl w405 moX3_sign rfl ⟨Nat.le_of_ble_eq_true rfl, Nat.le_of_ble_eq_true rfl⟩ rfl rfl (Nat.le_of_ble_eq_true rfl) h (fun d16 h => ?_)
    have h := rV_dn h
    exact ev_ret (M := MX3_tellPlayer) dX3_tellPlayer_89 rfl rfl h
  · have h := h.2 c1
    refine ev_aload_n dX3_tellPlayer_10 rfl ?_
    refine ev_iconst dX3_tellPlayer_11 ci_5 ?_
    refine ev_aload_n dX3_tellPlayer_12 rfl ?_
    refine ev_get 5 dX3_tellPlayer_13 sX_36 ck3 (Nat.le_of_ble_eq_true rfl) rfl w173 ?_
    refine ev_callVv (M := MX3_tellPlayer) (M2 := MX3_fail) (As := [.int 5, .int (d 36 5)]) (rest := []) dX3_tellPlayer_16 sX_36 ck3 rfl w336 moX3_fail rfl ⟨Nat.le_of_ble_eq_true rfl, Nat.le_of_ble_eq_true rfl⟩ rfl rfl (Nat.le_of_ble_eq_true rfl) h (fun d17 h => ?_)
    have h := rV_dn h
    exact ev_ret (M := MX3_tellPlayer) dX3_tellPlayer_19 rfl rfl h
-- X3_tellBound
theorem cn_X3_tellBound {q : DD → Prop} {d : DD} {p0 : Nat} (Hp0 : isH p0) (h : (((d p0 2) < 6 → (∀ d2 : DD, d2 = (up d p0 2 ((d p0 2) + 1)) → (Cn SX MX3_nextNumber [.ref 36, .int 0, .int 3] d2 (rI fun r4 d3 => (vp_in (d p0 2) 6 ∧ (∀ d5 : DD, d5 = (up d3 (p0 + 10) (d p0 2).toNatClampNeg r4) → (Cn SX MX3_advance [.ref 36] d5 (rV fun d6 => (Cn SX MX3_sign [.ref 36] d6 (rV fun d7 => q d7)))))))))) ∧ (¬ (d p0 2) < 6 → (Cn SX MX3_fail [.ref 36, .int 5, .int (d 36 5)] d (rV fun d8 => q d8))))) : Cn SX MX3_tellBound [.ref 36, .ref p0] d (rV q) := by
  refine cn_of (ls := [.ref 36, .ref p0, uJ]) (by decide) rfl rfl (Nat.le_of_ble_eq_true rfl) ?_
  refine ev_aload_n dX3_tellBound_0 rfl ?_
  refine ev_get 2 dX3_tellBound_1 (hH_0 Hp0) ck0 (Nat.le_of_ble_eq_true rfl) rfl w91 ?_
  refine ev_istore_n (M := MX3_tellBound) (ls2 := [.ref 36, .ref p0, .int (d p0 2)]) 2 dX3_tellBound_4 rfl (Nat.le_of_ble_eq_true rfl) rfl ?_
  refine ev_iload_n dX3_tellBound_5 rfl ?_
  refine ev_bipush dX3_tellBound_6 cb_6 ?_
  refine ev_icmp_lt (M := MX3_tellBound) (tgt := 21) dX3_tellBound_8 rfl (fun c1 => ?_) (fun c1 => ?_)
  · have h := h.1 c1
    refine ev_aload_n dX3_tellBound_21 rfl ?_
    refine ev_dup dX3_tellBound_22 rfl ?_
    refine ev_get 2 dX3_tellBound_23 (hH_0 Hp0) ck0 (Nat.le_of_ble_eq_true rfl) rfl w91 ?_
    refine ev_iconst dX3_tellBound_26 ci_1 ?_
    refine ev_iadd dX3_tellBound_27 ?_
    refine ev_put 2 dX3_tellBound_28 (hH_0 Hp0) ck0 (Nat.le_of_ble_eq_true rfl) rfl w91 rfl rfl rfl ?_
    refine ev_topd (fun d2 ed2 => ?_)
    have h := h d2 ed2
    refine ev_aload_n dX3_tellBound_31 rfl ?_
    refine ev_getr (M := MX3_tellBound) (r := (p0 + 10)) 12 dX3_tellBound_32 (hH_0 Hp0) ck0 (Nat.le_of_ble_eq_true rfl) rfl w128 ?_
    refine ev_iload_n dX3_tellBound_35 rfl ?_
    refine ev_aload_n dX3_tellBound_36 rfl ?_
    refine ev_iconst dX3_tellBound_37 ci_0 ?_
    refine ev_iconst dX3_tellBound_38 ci_3 ?_
    refine ev_callVi (M := MX3_tellBound) (M2 := MX3_nextNumber) (As := [.int 0, .int 3]) (rest := [.int (d p0 2), .ref (p0 + 10)]) dX3_tellBound_39 sX_36 ck3 rfl w397 moX3_nextNumber rfl ⟨Nat.le_of_ble_eq_true rfl, Nat.le_of_ble_eq_true rfl⟩ rfl rfl (Nat.le_of_ble_eq_true rfl) h (fun r4 d3 h => ?_)
    have h := rI_dn h
    obtain ⟨g, h⟩ := h
    refine ev_iast dX3_tellBound_42 (hH_10 Hp0) g ?_
    refine ev_topd (fun d5 ed5 => ?_)
    have h := h d5 ed5
    refine ev_aload_n dX3_tellBound_43 rfl ?_
    refine ev_callVv (M := MX3_tellBound) (M2 := MX3_advance) (As := []) (rest := []) dX3_tellBound_44 sX_36 ck3 rfl w323 moX3_advance rfl ⟨Nat.le_of_ble_eq_true rfl, Nat.le_of_ble_eq_true rfl⟩ rfl rfl (Nat.le_of_ble_eq_true rfl) h (fun d6 h => ?_)
    have h := rV_dn h
    refine ev_aload_n dX3_tellBound_47 rfl ?_
    refine ev_callVv (M := MX3_tellBound) (M2 := MX3_sign) (As := []) (rest := []) dX3_tellBound_48 sX_36 ck3 rfl w405 moX3_sign rfl ⟨Nat.le_of_ble_eq_true rfl, Nat.le_of_ble_eq_true rfl⟩ rfl rfl (Nat.le_of_ble_eq_true rfl) h (fun d7 h => ?_)
    have h := rV_dn h
    exact ev_ret (M := MX3_tellBound) dX3_tellBound_51 rfl rfl h
  · have h := h.2 c1
    refine ev_aload_n dX3_tellBound_11 rfl ?_
    refine ev_iconst dX3_tellBound_12 ci_5 ?_
    refine ev_aload_n dX3_tellBound_13 rfl ?_
    refine ev_get 5 dX3_tellBound_14 sX_36 ck3 (Nat.le_of_ble_eq_true rfl) rfl w173 ?_
    refine ev_callVv (M := MX3_tellBound) (M2 := MX3_fail) (As := [.int 5, .int (d 36 5)]) (rest := []) dX3_tellBound_17 sX_36 ck3 rfl w336 moX3_fail rfl ⟨Nat.le_of_ble_eq_true rfl, Nat.le_of_ble_eq_true rfl⟩ rfl rfl (Nat.le_of_ble_eq_true rfl) h (fun d8 h => ?_)
    have h := rV_dn h
    exact ev_ret (M := MX3_tellBound) dX3_tellBound_20 rfl rfl h
-- X3_nextNumber
theorem cn_X3_nextNumber {q : Int32 → DD → Prop} {d : DD} {p0 : Int32} {p1 : Int32} (h : (Cn SX MX3_advance [.ref 36] d (rV fun d1 => (Cn SX MX3_number [.ref 36, .int p0, .int p1] d1 (rI fun r3 d2 => q r3 d2))))) : Cn SX MX3_nextNumber [.ref 36, .int p0, .int p1] d (rI q) := by
  refine cn_of (ls := [.ref 36, .int p0, .int p1]) (by decide) rfl rfl (Nat.le_of_ble_eq_true rfl) ?_
  refine ev_aload_n dX3_nextNumber_0 rfl ?_
  refine ev_callVv (M := MX3_nextNumber) (M2 := MX3_advance) (As := []) (rest := []) dX3_nextNumber_1 sX_36 ck3 rfl w323 moX3_advance rfl ⟨Nat.le_of_ble_eq_true rfl, Nat.le_of_ble_eq_true rfl⟩ rfl rfl (Nat.le_of_ble_eq_true rfl) h (fun d1 h => ?_)
  have h := rV_dn h
  refine ev_aload_n dX3_nextNumber_4 rfl ?_
  refine ev_iload_n dX3_nextNumber_5 rfl ?_
  refine ev_iload_n dX3_nextNumber_6 rfl ?_
  refine ev_callVi (M := MX3_nextNumber) (M2 := MX3_number) (As := [.int p0, .int p1]) (rest := []) dX3_nextNumber_7 sX_36 ck3 rfl w401 moX3_number rfl ⟨Nat.le_of_ble_eq_true rfl, Nat.le_of_ble_eq_true rfl⟩ rfl rfl (Nat.le_of_ble_eq_true rfl) h (fun r3 d2 h => ?_)
  have h := rI_dn h
  exact ev_ireti (M := MX3_nextNumber) (ty := .int) dX3_nextNumber_10 rfl rfl rfl h
-- X3_number
set_option maxRecDepth 4000 in
theorem cn_X3_number {q : Int32 → DD → Prop} {d : DD} {p0 : Int32} {p1 : Int32} (h : ((¬ (d 36 4) = 4 → (((d 36 4) = 2 → Ev SX MX3_number 46 [.ref 36, .int p0, .int p1, .int 0, .int (d 36 5)] [] d (rI q)) ∧ (¬ (d 36 4) = 2 → (Cn SX MX3_fail [.ref 36, .int 2, .int (d 36 5)] d (rV fun d3 => q p0 d3))))) ∧ ((d 36 4) = 4 → (Cn SX MX3_fail [.ref 36, .int 1, .int (d 36 5)] d (rV fun d4 => q p0 d4))))) : Cn SX MX3_number [.ref 36, .int p0, .int p1] d (rI q) := by
  refine cn_of (ls := [.ref 36, .int p0, .int p1, uJ, uJ]) (by decide) rfl rfl (Nat.le_of_ble_eq_true rfl) ?_
  refine ev_aload_n dX3_number_0 rfl ?_
  refine ev_get 4 dX3_number_1 sX_36 ck3 (Nat.le_of_ble_eq_true rfl) rfl w172 ?_
  refine ev_iconst dX3_number_4 ci_4 ?_
  refine ev_icmp_ne (M := MX3_number) (tgt := 19) dX3_number_5 rfl (fun c1 => ?_) (fun c1 => ?_)
  · have h := h.1 c1
    refine ev_aload_n dX3_number_19 rfl ?_
    refine ev_get 4 dX3_number_20 sX_36 ck3 (Nat.le_of_ble_eq_true rfl) rfl w172 ?_
    refine ev_iconst dX3_number_23 ci_2 ?_
    refine ev_icmp_eq (M := MX3_number) (tgt := 38) dX3_number_24 rfl (fun c2 => ?_) (fun c2 => ?_)
    · have h := h.1 c2
      refine ev_iconst dX3_number_38 ci_0 ?_
      refine ev_istore_n (M := MX3_number) (ls2 := [.ref 36, .int p0, .int p1, .int 0, uJ]) 3 dX3_number_39 rfl (Nat.le_of_ble_eq_true rfl) rfl ?_
      refine ev_aload_n dX3_number_40 rfl ?_
      refine ev_get 5 dX3_number_41 sX_36 ck3 (Nat.le_of_ble_eq_true rfl) rfl w173 ?_
      refine ev_istore (M := MX3_number) (ls2 := [.ref 36, .int p0, .int p1, .int 0, .int (d 36 5)]) dX3_number_44 (Nat.le_of_ble_eq_true rfl) rfl ?_
      exact h
    · have h := h.2 c2
      refine ev_aload_n dX3_number_27 rfl ?_
      refine ev_iconst dX3_number_28 ci_2 ?_
      refine ev_aload_n dX3_number_29 rfl ?_
      refine ev_get 5 dX3_number_30 sX_36 ck3 (Nat.le_of_ble_eq_true rfl) rfl w173 ?_
      refine ev_callVv (M := MX3_number) (M2 := MX3_fail) (As := [.int 2, .int (d 36 5)]) (rest := []) dX3_number_33 sX_36 ck3 rfl w336 moX3_fail rfl ⟨Nat.le_of_ble_eq_true rfl, Nat.le_of_ble_eq_true rfl⟩ rfl rfl (Nat.le_of_ble_eq_true rfl) h (fun d3 h => ?_)
      have h := rV_dn h
      refine ev_iload_n dX3_number_36 rfl ?_
      exact ev_ireti (M := MX3_number) (ty := .int) dX3_number_37 rfl rfl rfl h
  · have h := h.2 c1
    refine ev_aload_n dX3_number_8 rfl ?_
    refine ev_iconst dX3_number_9 ci_1 ?_
    refine ev_aload_n dX3_number_10 rfl ?_
    refine ev_get 5 dX3_number_11 sX_36 ck3 (Nat.le_of_ble_eq_true rfl) rfl w173 ?_
    refine ev_callVv (M := MX3_number) (M2 := MX3_fail) (As := [.int 1, .int (d 36 5)]) (rest := []) dX3_number_14 sX_36 ck3 rfl w336 moX3_fail rfl ⟨Nat.le_of_ble_eq_true rfl, Nat.le_of_ble_eq_true rfl⟩ rfl rfl (Nat.le_of_ble_eq_true rfl) h (fun d4 h => ?_)
    have h := rV_dn h
    refine ev_iload_n dX3_number_17 rfl ?_
    exact ev_ireti (M := MX3_number) (ty := .int) dX3_number_18 rfl rfl rfl h
set_option maxRecDepth 4000 in
theorem bk_X3_number_46 {q : Int32 → DD → Prop} {d : DD} {l1 : Int32} {l2 : Int32} {l3 : Int32} {l4 : Int32} (h : (((d 36 6) ≤ l4 → (Cn SX MX4_within [.int l3, .int l1, .int l2] d (rI fun r3 d2 => ((¬ r3 = 0 → q l3 d2) ∧ (r3 = 0 → (Cn SX MX3_fail [.ref 36, .int 3, .int (d2 36 5)] d2 (rV fun d5 => q l1 d5))))))) ∧ (¬ (d 36 6) ≤ l4 → (vp_in l4 160 ∧ (∀ x6 : Int32, x6 = (((l3 * 10) + (d 37 l4.toNatClampNeg)) - 48) → Ev SX MX3_number 46 [.ref 36, .int l1, .int l2, .int x6, .int (l4 + 1)] [] d (rI q)))))) : Ev SX MX3_number 46 [.ref 36, .int l1, .int l2, .int l3, .int l4] [] d (rI q) := by
  refine ev_iload dX3_number_46 rfl ?_
  refine ev_aload_n dX3_number_48 rfl ?_
  refine ev_get 6 dX3_number_49 sX_36 ck3 (Nat.le_of_ble_eq_true rfl) rfl w174 ?_
  refine ev_icmp_ge (M := MX3_number) (tgt := 77) dX3_number_52 rfl (fun c1 => ?_) (fun c1 => ?_)
  · have h := h.1 c1
    refine ev_iload_n dX3_number_77 rfl ?_
    refine ev_iload_n dX3_number_78 rfl ?_
    refine ev_iload_n dX3_number_79 rfl ?_
    refine ev_callNi (M := MX3_number) (M2 := MX4_within) (As := [.int l3, .int l1, .int l2]) (rest := []) dX3_number_80 0 nest_0 moX4_within rfl ⟨Nat.le_of_ble_eq_true rfl, Nat.le_of_ble_eq_true rfl⟩ rfl rfl (Nat.le_of_ble_eq_true rfl) h (fun r3 d2 h => ?_)
    have h := rI_dn h
    refine ev_if_ne (M := MX3_number) (tgt := 97) dX3_number_83 rfl (fun c4 => ?_) (fun c4 => ?_)
    · have h := h.1 c4
      refine ev_iload_n dX3_number_97 rfl ?_
      exact ev_ireti (M := MX3_number) (ty := .int) dX3_number_98 rfl rfl rfl h
    · have h := h.2 c4
      refine ev_aload_n dX3_number_86 rfl ?_
      refine ev_iconst dX3_number_87 ci_3 ?_
      refine ev_aload_n dX3_number_88 rfl ?_
      refine ev_get 5 dX3_number_89 sX_36 ck3 (Nat.le_of_ble_eq_true rfl) rfl w173 ?_
      refine ev_callVv (M := MX3_number) (M2 := MX3_fail) (As := [.int 3, .int (d2 36 5)]) (rest := []) dX3_number_92 sX_36 ck3 rfl w336 moX3_fail rfl ⟨Nat.le_of_ble_eq_true rfl, Nat.le_of_ble_eq_true rfl⟩ rfl rfl (Nat.le_of_ble_eq_true rfl) h (fun d5 h => ?_)
      have h := rV_dn h
      refine ev_iload_n dX3_number_95 rfl ?_
      exact ev_ireti (M := MX3_number) (ty := .int) dX3_number_96 rfl rfl rfl h
  · have h := h.2 c1
    refine ev_iload_n dX3_number_55 rfl ?_
    refine ev_bipush dX3_number_56 cb_10 ?_
    refine ev_imul dX3_number_58 ?_
    refine ev_aload_n dX3_number_59 rfl ?_
    refine ev_getr (M := MX3_number) (r := 37) 0 dX3_number_60 sX_36 ck3 (Nat.le_of_ble_eq_true rfl) rfl w166 ?_
    refine ev_iload dX3_number_63 rfl ?_
    obtain ⟨g, h⟩ := h
    refine ev_iald dX3_number_65 sX_37 g ?_
    refine ev_iadd dX3_number_66 ?_
    refine ev_bipush dX3_number_67 cb_48 ?_
    refine ev_isub dX3_number_69 ?_
    refine ev_topi (fun x6 ex6 => ?_)
    have h := h x6 ex6
    refine ev_istore_n (M := MX3_number) (ls2 := [.ref 36, .int l1, .int l2, .int x6, .int l4]) 3 dX3_number_70 rfl (Nat.le_of_ble_eq_true rfl) rfl ?_
    refine ev_iinc (M := MX3_number) (ls2 := [.ref 36, .int l1, .int l2, .int x6, .int (l4 + 1)]) dX3_number_71 rfl (iin ci_1) (Nat.le_of_ble_eq_true rfl) rfl ?_
    refine ev_goto (M := MX3_number) (tgt := 46) dX3_number_74 rfl ?_
    exact h
-- X3_sign
theorem cn_X3_sign {q : DD → Prop} {d : DD}  (h : (((d 36 4) = 3 → q d) ∧ (¬ (d 36 4) = 3 → ((¬ (d 36 4) = 4 → (Cn SX MX3_fail [.ref 36, .int 2, .int (d 36 5)] d (rV fun d3 => q d3))) ∧ ((d 36 4) = 4 → (Cn SX MX3_fail [.ref 36, .int 1, .int (d 36 5)] d (rV fun d4 => q d4))))))) : Cn SX MX3_sign [.ref 36] d (rV q) := by
  refine cn_of (ls := [.ref 36]) (by decide) rfl rfl (Nat.le_of_ble_eq_true rfl) ?_
  refine ev_aload_n dX3_sign_0 rfl ?_
  refine ev_get 4 dX3_sign_1 sX_36 ck3 (Nat.le_of_ble_eq_true rfl) rfl w172 ?_
  refine ev_iconst dX3_sign_4 ci_3 ?_
  refine ev_icmp_eq (M := MX3_sign) (tgt := 29) dX3_sign_5 rfl (fun c1 => ?_) (fun c1 => ?_)
  · have h := h.1 c1
    exact ev_ret (M := MX3_sign) dX3_sign_29 rfl rfl h
  · have h := h.2 c1
    refine ev_aload_n dX3_sign_8 rfl ?_
    refine ev_aload_n dX3_sign_9 rfl ?_
    refine ev_get 4 dX3_sign_10 sX_36 ck3 (Nat.le_of_ble_eq_true rfl) rfl w172 ?_
    refine ev_iconst dX3_sign_13 ci_4 ?_
    refine ev_icmp_ne (M := MX3_sign) (tgt := 21) dX3_sign_14 rfl (fun c2 => ?_) (fun c2 => ?_)
    · have h := h.1 c2
      refine ev_iconst dX3_sign_21 ci_2 ?_
      refine ev_aload_n dX3_sign_22 rfl ?_
      refine ev_get 5 dX3_sign_23 sX_36 ck3 (Nat.le_of_ble_eq_true rfl) rfl w173 ?_
      refine ev_callVv (M := MX3_sign) (M2 := MX3_fail) (As := [.int 2, .int (d 36 5)]) (rest := []) dX3_sign_26 sX_36 ck3 rfl w336 moX3_fail rfl ⟨Nat.le_of_ble_eq_true rfl, Nat.le_of_ble_eq_true rfl⟩ rfl rfl (Nat.le_of_ble_eq_true rfl) h (fun d3 h => ?_)
      have h := rV_dn h
      exact ev_ret (M := MX3_sign) dX3_sign_29 rfl rfl h
    · have h := h.2 c2
      refine ev_iconst dX3_sign_17 ci_1 ?_
      refine ev_goto (M := MX3_sign) (tgt := 22) dX3_sign_18 rfl ?_
      refine ev_aload_n dX3_sign_22 rfl ?_
      refine ev_get 5 dX3_sign_23 sX_36 ck3 (Nat.le_of_ble_eq_true rfl) rfl w173 ?_
      refine ev_callVv (M := MX3_sign) (M2 := MX3_fail) (As := [.int 1, .int (d 36 5)]) (rest := []) dX3_sign_26 sX_36 ck3 rfl w336 moX3_fail rfl ⟨Nat.le_of_ble_eq_true rfl, Nat.le_of_ble_eq_true rfl⟩ rfl rfl (Nat.le_of_ble_eq_true rfl) h (fun d4 h => ?_)
      have h := rV_dn h
      exact ev_ret (M := MX3_sign) dX3_sign_29 rfl rfl h
-- X3_fail
theorem cn_X3_fail {q : DD → Prop} {d : DD} {p0 : Int32} {p1 : Int32} (h : ((¬ (d 36 2) = 0 → q d) ∧ ((d 36 2) = 0 → (∀ d2 : DD, d2 = (up d 36 2 p0) → (∀ d3 : DD, d3 = (up d2 36 3 p1) → q d3))))) : Cn SX MX3_fail [.ref 36, .int p0, .int p1] d (rV q) := by
  refine cn_of (ls := [.ref 36, .int p0, .int p1]) (by decide) rfl rfl (Nat.le_of_ble_eq_true rfl) ?_
  refine ev_aload_n dX3_fail_0 rfl ?_
  refine ev_get 2 dX3_fail_1 sX_36 ck3 (Nat.le_of_ble_eq_true rfl) rfl w169 ?_
  refine ev_if_ne (M := MX3_fail) (tgt := 17) dX3_fail_4 rfl (fun c1 => ?_) (fun c1 => ?_)
  · have h := h.1 c1
    exact ev_ret (M := MX3_fail) dX3_fail_17 rfl rfl h
  · have h := h.2 c1
    refine ev_aload_n dX3_fail_7 rfl ?_
    refine ev_iload_n dX3_fail_8 rfl ?_
    refine ev_put 2 dX3_fail_9 sX_36 ck3 (Nat.le_of_ble_eq_true rfl) rfl w169 rfl rfl rfl ?_
    refine ev_topd (fun d2 ed2 => ?_)
    have h := h d2 ed2
    refine ev_aload_n dX3_fail_12 rfl ?_
    refine ev_iload_n dX3_fail_13 rfl ?_
    refine ev_put 3 dX3_fail_14 sX_36 ck3 (Nat.le_of_ble_eq_true rfl) rfl w171 rfl rfl rfl ?_
    refine ev_topd (fun d3 ed3 => ?_)
    have h := h d3 ed3
    exact ev_ret (M := MX3_fail) dX3_fail_17 rfl rfl h
-- X3_advance
set_option maxRecDepth 4000 in
theorem bk_X3_advance_0 {q : DD → Prop} {d : DD}  (h : (((d 36 1) ≤ (d 36 6) → Ev SX MX3_advance 38 [.ref 36] [] d (rV q)) ∧ (¬ (d 36 1) ≤ (d 36 6) → (vp_in (d 36 6) 160 ∧ ((¬ (d 37 (d 36 6).toNatClampNeg) = 32 → Ev SX MX3_advance 38 [.ref 36] [] d (rV q)) ∧ ((d 37 (d 36 6).toNatClampNeg) = 32 → (∀ d3 : DD, d3 = (up d 36 6 ((d 36 6) + 1)) → Ev SX MX3_advance 0 [.ref 36] [] d3 (rV q)))))))) : Ev SX MX3_advance 0 [.ref 36] [] d (rV q) := by
  refine ev_aload_n dX3_advance_0 rfl ?_
  refine ev_get 6 dX3_advance_1 sX_36 ck3 (Nat.le_of_ble_eq_true rfl) rfl w174 ?_
  refine ev_aload_n dX3_advance_4 rfl ?_
  refine ev_get 1 dX3_advance_5 sX_36 ck3 (Nat.le_of_ble_eq_true rfl) rfl w167 ?_
  refine ev_icmp_ge (M := MX3_advance) (tgt := 38) dX3_advance_8 rfl (fun c1 => ?_) (fun c1 => ?_)
  · have h := h.1 c1
    exact h
  · have h := h.2 c1
    refine ev_aload_n dX3_advance_11 rfl ?_
    refine ev_getr (M := MX3_advance) (r := 37) 0 dX3_advance_12 sX_36 ck3 (Nat.le_of_ble_eq_true rfl) rfl w166 ?_
    refine ev_aload_n dX3_advance_15 rfl ?_
    refine ev_get 6 dX3_advance_16 sX_36 ck3 (Nat.le_of_ble_eq_true rfl) rfl w174 ?_
    obtain ⟨g, h⟩ := h
    refine ev_iald dX3_advance_19 sX_37 g ?_
    refine ev_bipush dX3_advance_20 cb_32 ?_
    refine ev_icmp_ne (M := MX3_advance) (tgt := 38) dX3_advance_22 rfl (fun c2 => ?_) (fun c2 => ?_)
    · have h := h.1 c2
      exact h
    · have h := h.2 c2
      refine ev_aload_n dX3_advance_25 rfl ?_
      refine ev_dup dX3_advance_26 rfl ?_
      refine ev_get 6 dX3_advance_27 sX_36 ck3 (Nat.le_of_ble_eq_true rfl) rfl w174 ?_
      refine ev_iconst dX3_advance_30 ci_1 ?_
      refine ev_iadd dX3_advance_31 ?_
      refine ev_put 6 dX3_advance_32 sX_36 ck3 (Nat.le_of_ble_eq_true rfl) rfl w174 rfl rfl rfl ?_
      refine ev_topd (fun d3 ed3 => ?_)
      have h := h d3 ed3
      refine ev_goto (M := MX3_advance) (tgt := 0) dX3_advance_35 rfl ?_
      exact h
set_option maxRecDepth 4000 in
theorem cn_X3_advance {q : DD → Prop} {d : DD}  (h : Ev SX MX3_advance 0 [.ref 36] [] d (rV q)) : Cn SX MX3_advance [.ref 36] d (rV q) := cn_of (by decide) rfl rfl (Nat.le_of_ble_eq_true rfl) h
set_option maxRecDepth 4000 in
theorem bk_X3_advance_38 {q : DD → Prop} {d : DD}  (h : (∀ d1 : DD, d1 = (up d 36 5 (d 36 6)) → (((d1 36 6) < (d1 36 1) → (vp_in (d1 36 6) 160 ∧ (Cn SX MX4_within [.int (d1 37 (d1 36 6).toNatClampNeg), .int 97, .int 122] d1 (rI fun r4 d3 => ((r4 = 0 → (vp_in (d3 36 6) 160 ∧ (Cn SX MX4_within [.int (d3 37 (d3 36 6).toNatClampNeg), .int 48, .int 57] d3 (rI fun r7 d6 => ((r7 = 0 → (vp_in (d6 36 6) 160 ∧ ((¬ (d6 37 (d6 36 6).toNatClampNeg) = 59 → (∀ d10 : DD, d10 = (up d6 36 4 4) → (∀ d11 : DD, d11 = (up d10 36 6 ((d10 36 6) + 1)) → q d11))) ∧ ((d6 37 (d6 36 6).toNatClampNeg) = 59 → (∀ d12 : DD, d12 = (up d6 36 4 3) → (∀ d13 : DD, d13 = (up d12 36 6 ((d12 36 6) + 1)) → q d13)))))) ∧ (¬ r7 = 0 → (Cn SX MX3_pass [.ref 36, .int 48, .int 57] d6 (rV fun d14 => ((2 < ((d14 36 6) - (d14 36 5)) → (∀ d16 : DD, d16 = (up d14 36 4 4) → q d16)) ∧ (¬ 2 < ((d14 36 6) - (d14 36 5)) → (∀ d17 : DD, d17 = (up d14 36 4 2) → q d17))))))))))) ∧ (¬ r4 = 0 → (∀ d18 : DD, d18 = (up d3 36 4 1) → (Cn SX MX3_pass [.ref 36, .int 97, .int 122] d18 (rV fun d19 => q d19))))))))) ∧ (¬ (d1 36 6) < (d1 36 1) → (∀ d20 : DD, d20 = (up d1 36 4 0) → q d20))))) : Ev SX MX3_advance 38 [.ref 36] [] d (rV q) := by
  refine ev_aload_n dX3_advance_38 rfl ?_
  refine ev_aload_n dX3_advance_39 rfl ?_
  refine ev_get 6 dX3_advance_40 sX_36 ck3 (Nat.le_of_ble_eq_true rfl) rfl w174 ?_
  refine ev_put 5 dX3_advance_43 sX_36 ck3 (Nat.le_of_ble_eq_true rfl) rfl w173 rfl rfl rfl ?_
  refine ev_topd (fun d1 ed1 => ?_)
  have h := h d1 ed1
  refine ev_aload_n dX3_advance_46 rfl ?_
  refine ev_get 6 dX3_advance_47 sX_36 ck3 (Nat.le_of_ble_eq_true rfl) rfl w174 ?_
  refine ev_aload_n dX3_advance_50 rfl ?_
  refine ev_get 1 dX3_advance_51 sX_36 ck3 (Nat.le_of_ble_eq_true rfl) rfl w167 ?_
  refine ev_icmp_lt (M := MX3_advance) (tgt := 65) dX3_advance_54 rfl (fun c2 => ?_) (fun c2 => ?_)
  · have h := h.1 c2
    refine ev_aload_n dX3_advance_65 rfl ?_
    refine ev_getr (M := MX3_advance) (r := 37) 0 dX3_advance_66 sX_36 ck3 (Nat.le_of_ble_eq_true rfl) rfl w166 ?_
    refine ev_aload_n dX3_advance_69 rfl ?_
    refine ev_get 6 dX3_advance_70 sX_36 ck3 (Nat.le_of_ble_eq_true rfl) rfl w174 ?_
    obtain ⟨g, h⟩ := h
    refine ev_iald dX3_advance_73 sX_37 g ?_
    refine ev_bipush dX3_advance_74 cb_97 ?_
    refine ev_bipush dX3_advance_76 cb_122 ?_
    refine ev_callNi (M := MX3_advance) (M2 := MX4_within) (As := [.int (d1 37 (d1 36 6).toNatClampNeg), .int 97, .int 122]) (rest := []) dX3_advance_78 0 nest_0 moX4_within rfl ⟨Nat.le_of_ble_eq_true rfl, Nat.le_of_ble_eq_true rfl⟩ rfl rfl (Nat.le_of_ble_eq_true rfl) h (fun r4 d3 h => ?_)
    have h := rI_dn h
    refine ev_if_eq (M := MX3_advance) (tgt := 100) dX3_advance_81 rfl (fun c5 => ?_) (fun c5 => ?_)
    · have h := h.1 c5
      refine ev_aload_n dX3_advance_100 rfl ?_
      refine ev_getr (M := MX3_advance) (r := 37) 0 dX3_advance_101 sX_36 ck3 (Nat.le_of_ble_eq_true rfl) rfl w166 ?_
      refine ev_aload_n dX3_advance_104 rfl ?_
      refine ev_get 6 dX3_advance_105 sX_36 ck3 (Nat.le_of_ble_eq_true rfl) rfl w174 ?_
      obtain ⟨g, h⟩ := h
      refine ev_iald dX3_advance_108 sX_37 g ?_
      refine ev_bipush dX3_advance_109 cb_48 ?_
      refine ev_bipush dX3_advance_111 cb_57 ?_
      refine ev_callNi (M := MX3_advance) (M2 := MX4_within) (As := [.int (d3 37 (d3 36 6).toNatClampNeg), .int 48, .int 57]) (rest := []) dX3_advance_113 0 nest_0 moX4_within rfl ⟨Nat.le_of_ble_eq_true rfl, Nat.le_of_ble_eq_true rfl⟩ rfl rfl (Nat.le_of_ble_eq_true rfl) h (fun r7 d6 h => ?_)
      have h := rI_dn h
      refine ev_if_eq (M := MX3_advance) (tgt := 152) dX3_advance_116 rfl (fun c8 => ?_) (fun c8 => ?_)
      · have h := h.1 c8
        refine ev_aload_n dX3_advance_152 rfl ?_
        refine ev_aload_n dX3_advance_153 rfl ?_
        refine ev_getr (M := MX3_advance) (r := 37) 0 dX3_advance_154 sX_36 ck3 (Nat.le_of_ble_eq_true rfl) rfl w166 ?_
        refine ev_aload_n dX3_advance_157 rfl ?_
        refine ev_get 6 dX3_advance_158 sX_36 ck3 (Nat.le_of_ble_eq_true rfl) rfl w174 ?_
        obtain ⟨g, h⟩ := h
        refine ev_iald dX3_advance_161 sX_37 g ?_
        refine ev_bipush dX3_advance_162 cb_59 ?_
        refine ev_icmp_ne (M := MX3_advance) (tgt := 171) dX3_advance_164 rfl (fun c9 => ?_) (fun c9 => ?_)
        · have h := h.1 c9
          refine ev_iconst dX3_advance_171 ci_4 ?_
          refine ev_put 4 dX3_advance_172 sX_36 ck3 (Nat.le_of_ble_eq_true rfl) rfl w172 rfl rfl rfl ?_
          refine ev_topd (fun d10 ed10 => ?_)
          have h := h d10 ed10
          refine ev_aload_n dX3_advance_175 rfl ?_
          refine ev_dup dX3_advance_176 rfl ?_
          refine ev_get 6 dX3_advance_177 sX_36 ck3 (Nat.le_of_ble_eq_true rfl) rfl w174 ?_
          refine ev_iconst dX3_advance_180 ci_1 ?_
          refine ev_iadd dX3_advance_181 ?_
          refine ev_put 6 dX3_advance_182 sX_36 ck3 (Nat.le_of_ble_eq_true rfl) rfl w174 rfl rfl rfl ?_
          refine ev_topd (fun d11 ed11 => ?_)
          have h := h d11 ed11
          exact ev_ret (M := MX3_advance) dX3_advance_185 rfl rfl h
        · have h := h.2 c9
          refine ev_iconst dX3_advance_167 ci_3 ?_
          refine ev_goto (M := MX3_advance) (tgt := 172) dX3_advance_168 rfl ?_
          refine ev_put 4 dX3_advance_172 sX_36 ck3 (Nat.le_of_ble_eq_true rfl) rfl w172 rfl rfl rfl ?_
          refine ev_topd (fun d12 ed12 => ?_)
          have h := h d12 ed12
          refine ev_aload_n dX3_advance_175 rfl ?_
          refine ev_dup dX3_advance_176 rfl ?_
          refine ev_get 6 dX3_advance_177 sX_36 ck3 (Nat.le_of_ble_eq_true rfl) rfl w174 ?_
          refine ev_iconst dX3_advance_180 ci_1 ?_
          refine ev_iadd dX3_advance_181 ?_
          refine ev_put 6 dX3_advance_182 sX_36 ck3 (Nat.le_of_ble_eq_true rfl) rfl w174 rfl rfl rfl ?_
          refine ev_topd (fun d13 ed13 => ?_)
          have h := h d13 ed13
          exact ev_ret (M := MX3_advance) dX3_advance_185 rfl rfl h
      · have h := h.2 c8
        refine ev_aload_n dX3_advance_119 rfl ?_
        refine ev_bipush dX3_advance_120 cb_48 ?_
        refine ev_bipush dX3_advance_122 cb_57 ?_
        refine ev_callVv (M := MX3_advance) (M2 := MX3_pass) (As := [.int 48, .int 57]) (rest := []) dX3_advance_124 sX_36 ck3 rfl w328 moX3_pass rfl ⟨Nat.le_of_ble_eq_true rfl, Nat.le_of_ble_eq_true rfl⟩ rfl rfl (Nat.le_of_ble_eq_true rfl) h (fun d14 h => ?_)
        have h := rV_dn h
        refine ev_aload_n dX3_advance_127 rfl ?_
        refine ev_aload_n dX3_advance_128 rfl ?_
        refine ev_get 6 dX3_advance_129 sX_36 ck3 (Nat.le_of_ble_eq_true rfl) rfl w174 ?_
        refine ev_aload_n dX3_advance_132 rfl ?_
        refine ev_get 5 dX3_advance_133 sX_36 ck3 (Nat.le_of_ble_eq_true rfl) rfl w173 ?_
        refine ev_isub dX3_advance_136 ?_
        refine ev_iconst dX3_advance_137 ci_2 ?_
        refine ev_icmp_gt (M := MX3_advance) (tgt := 145) dX3_advance_138 rfl (fun c15 => ?_) (fun c15 => ?_)
        · have h := h.1 c15
          refine ev_iconst dX3_advance_145 ci_4 ?_
          refine ev_put 4 dX3_advance_146 sX_36 ck3 (Nat.le_of_ble_eq_true rfl) rfl w172 rfl rfl rfl ?_
          refine ev_topd (fun d16 ed16 => ?_)
          have h := h d16 ed16
          refine ev_goto (M := MX3_advance) (tgt := 185) dX3_advance_149 rfl ?_
          exact ev_ret (M := MX3_advance) dX3_advance_185 rfl rfl h
        · have h := h.2 c15
          refine ev_iconst dX3_advance_141 ci_2 ?_
          refine ev_goto (M := MX3_advance) (tgt := 146) dX3_advance_142 rfl ?_
          refine ev_put 4 dX3_advance_146 sX_36 ck3 (Nat.le_of_ble_eq_true rfl) rfl w172 rfl rfl rfl ?_
          refine ev_topd (fun d17 ed17 => ?_)
          have h := h d17 ed17
          refine ev_goto (M := MX3_advance) (tgt := 185) dX3_advance_149 rfl ?_
          exact ev_ret (M := MX3_advance) dX3_advance_185 rfl rfl h
    · have h := h.2 c5
      refine ev_aload_n dX3_advance_84 rfl ?_
      refine ev_iconst dX3_advance_85 ci_1 ?_
      refine ev_put 4 dX3_advance_86 sX_36 ck3 (Nat.le_of_ble_eq_true rfl) rfl w172 rfl rfl rfl ?_
      refine ev_topd (fun d18 ed18 => ?_)
      have h := h d18 ed18
      refine ev_aload_n dX3_advance_89 rfl ?_
      refine ev_bipush dX3_advance_90 cb_97 ?_
      refine ev_bipush dX3_advance_92 cb_122 ?_
      refine ev_callVv (M := MX3_advance) (M2 := MX3_pass) (As := [.int 97, .int 122]) (rest := []) dX3_advance_94 sX_36 ck3 rfl w328 moX3_pass rfl ⟨Nat.le_of_ble_eq_true rfl, Nat.le_of_ble_eq_true rfl⟩ rfl rfl (Nat.le_of_ble_eq_true rfl) h (fun d19 h => ?_)
      have h := rV_dn h
      refine ev_goto (M := MX3_advance) (tgt := 185) dX3_advance_97 rfl ?_
      exact ev_ret (M := MX3_advance) dX3_advance_185 rfl rfl h
  · have h := h.2 c2
    refine ev_aload_n dX3_advance_57 rfl ?_
    refine ev_iconst dX3_advance_58 ci_0 ?_
    refine ev_put 4 dX3_advance_59 sX_36 ck3 (Nat.le_of_ble_eq_true rfl) rfl w172 rfl rfl rfl ?_
    refine ev_topd (fun d20 ed20 => ?_)
    have h := h d20 ed20
    refine ev_goto (M := MX3_advance) (tgt := 185) dX3_advance_62 rfl ?_
    exact ev_ret (M := MX3_advance) dX3_advance_185 rfl rfl h
-- X3_pass
theorem bk_X3_pass_0 {q : DD → Prop} {d : DD} {p0 : Int32} {p1 : Int32} (h : (((d 36 1) ≤ (d 36 6) → q d) ∧ (¬ (d 36 1) ≤ (d 36 6) → (vp_in (d 36 6) 160 ∧ (Cn SX MX4_within [.int (d 37 (d 36 6).toNatClampNeg), .int p0, .int p1] d (rI fun r3 d2 => ((r3 = 0 → q d2) ∧ (¬ r3 = 0 → (∀ d5 : DD, d5 = (up d2 36 6 ((d2 36 6) + 1)) → Ev SX MX3_pass 0 [.ref 36, .int p0, .int p1] [] d5 (rV q)))))))))) : Ev SX MX3_pass 0 [.ref 36, .int p0, .int p1] [] d (rV q) := by
  refine ev_aload_n dX3_pass_0 rfl ?_
  refine ev_get 6 dX3_pass_1 sX_36 ck3 (Nat.le_of_ble_eq_true rfl) rfl w174 ?_
  refine ev_aload_n dX3_pass_4 rfl ?_
  refine ev_get 1 dX3_pass_5 sX_36 ck3 (Nat.le_of_ble_eq_true rfl) rfl w167 ?_
  refine ev_icmp_ge (M := MX3_pass) (tgt := 41) dX3_pass_8 rfl (fun c1 => ?_) (fun c1 => ?_)
  · have h := h.1 c1
    exact ev_ret (M := MX3_pass) dX3_pass_41 rfl rfl h
  · have h := h.2 c1
    refine ev_aload_n dX3_pass_11 rfl ?_
    refine ev_getr (M := MX3_pass) (r := 37) 0 dX3_pass_12 sX_36 ck3 (Nat.le_of_ble_eq_true rfl) rfl w166 ?_
    refine ev_aload_n dX3_pass_15 rfl ?_
    refine ev_get 6 dX3_pass_16 sX_36 ck3 (Nat.le_of_ble_eq_true rfl) rfl w174 ?_
    obtain ⟨g, h⟩ := h
    refine ev_iald dX3_pass_19 sX_37 g ?_
    refine ev_iload_n dX3_pass_20 rfl ?_
    refine ev_iload_n dX3_pass_21 rfl ?_
    refine ev_callNi (M := MX3_pass) (M2 := MX4_within) (As := [.int (d 37 (d 36 6).toNatClampNeg), .int p0, .int p1]) (rest := []) dX3_pass_22 0 nest_0 moX4_within rfl ⟨Nat.le_of_ble_eq_true rfl, Nat.le_of_ble_eq_true rfl⟩ rfl rfl (Nat.le_of_ble_eq_true rfl) h (fun r3 d2 h => ?_)
    have h := rI_dn h
    refine ev_if_eq (M := MX3_pass) (tgt := 41) dX3_pass_25 rfl (fun c4 => ?_) (fun c4 => ?_)
    · have h := h.1 c4
      exact ev_ret (M := MX3_pass) dX3_pass_41 rfl rfl h
    · have h := h.2 c4
      refine ev_aload_n dX3_pass_28 rfl ?_
      refine ev_dup dX3_pass_29 rfl ?_
      refine ev_get 6 dX3_pass_30 sX_36 ck3 (Nat.le_of_ble_eq_true rfl) rfl w174 ?_
      refine ev_iconst dX3_pass_33 ci_1 ?_
      refine ev_iadd dX3_pass_34 ?_
      refine ev_put 6 dX3_pass_35 sX_36 ck3 (Nat.le_of_ble_eq_true rfl) rfl w174 rfl rfl rfl ?_
      refine ev_topd (fun d5 ed5 => ?_)
      have h := h d5 ed5
      refine ev_goto (M := MX3_pass) (tgt := 0) dX3_pass_38 rfl ?_
      exact h
theorem cn_X3_pass {q : DD → Prop} {d : DD} {p0 : Int32} {p1 : Int32} (h : Ev SX MX3_pass 0 [.ref 36, .int p0, .int p1] [] d (rV q)) : Cn SX MX3_pass [.ref 36, .int p0, .int p1] d (rV q) := cn_of (by decide) rfl rfl (Nat.le_of_ble_eq_true rfl) h
-- X3_isName
theorem cn_X3_isName {q : Int32 → DD → Prop} {d : DD} {p0 : Nat} (Hp0 : p0 < 6) (h : ((¬ (d 36 4) = 1 → q 0 d) ∧ ((d 36 4) = 1 → (Cn SX MJ0_length_8abf5 [.ref (1000 + p0)] d (rI fun r3 d2 => ((((d 36 6) - (d 36 5)) = r3 → Ev SX MX3_isName 28 [.ref 36, .ref (1000 + p0), .int 0] [] d2 (rI q)) ∧ (¬ ((d 36 6) - (d 36 5)) = r3 → q 0 d2))))))) : Cn SX MX3_isName [.ref 36, .ref (1000 + p0)] d (rI q) := by
  refine cn_of (ls := [.ref 36, .ref (1000 + p0), uJ]) (by decide) rfl rfl (Nat.le_of_ble_eq_true rfl) ?_
  refine ev_aload_n dX3_isName_0 rfl ?_
  refine ev_get 4 dX3_isName_1 sX_36 ck3 (Nat.le_of_ble_eq_true rfl) rfl w172 ?_
  refine ev_iconst dX3_isName_4 ci_1 ?_
  refine ev_icmp_ne (M := MX3_isName) (tgt := 24) dX3_isName_5 rfl (fun c1 => ?_) (fun c1 => ?_)
  · have h := h.1 c1
    refine ev_iconst dX3_isName_24 ci_0 ?_
    exact ev_ireti (M := MX3_isName) (ty := .boolean) dX3_isName_25 rfl rfl rfl h
  · have h := h.2 c1
    refine ev_aload_n dX3_isName_8 rfl ?_
    refine ev_get 6 dX3_isName_9 sX_36 ck3 (Nat.le_of_ble_eq_true rfl) rfl w174 ?_
    refine ev_aload_n dX3_isName_12 rfl ?_
    refine ev_get 5 dX3_isName_13 sX_36 ck3 (Nat.le_of_ble_eq_true rfl) rfl w173 ?_
    refine ev_isub dX3_isName_16 ?_
    refine ev_aload_n dX3_isName_17 rfl ?_
    refine ev_callTi (M := MX3_isName) (M2 := MJ0_length_8abf5) (As := []) (i := p0) (rest := [.int ((d 36 6) - (d 36 5))]) dX3_isName_18 (by exact Hp0) w345 moJ0_length_8abf5 rfl ⟨Nat.le_of_ble_eq_true rfl, Nat.le_of_ble_eq_true rfl⟩ rfl rfl (Nat.le_of_ble_eq_true rfl) h (fun r3 d2 h => ?_)
    have h := rI_dn h
    refine ev_icmp_eq (M := MX3_isName) (tgt := 26) dX3_isName_21 rfl (fun c4 => ?_) (fun c4 => ?_)
    · have h := h.1 c4
      refine ev_iconst dX3_isName_26 ci_0 ?_
      refine ev_istore_n (M := MX3_isName) (ls2 := [.ref 36, .ref (1000 + p0), .int 0]) 2 dX3_isName_27 rfl (Nat.le_of_ble_eq_true rfl) rfl ?_
      exact h
    · have h := h.2 c4
      refine ev_iconst dX3_isName_24 ci_0 ?_
      exact ev_ireti (M := MX3_isName) (ty := .boolean) dX3_isName_25 rfl rfl rfl h
theorem bk_X3_isName_28 {q : Int32 → DD → Prop} {d : DD} {p0 : Nat} (Hp0 : p0 < 6) {l2 : Int32} (h : (Cn SX MJ0_length_8abf5 [.ref (1000 + p0)] d (rI fun r2 d1 => ((r2 ≤ l2 → q 1 d1) ∧ (¬ r2 ≤ l2 → (vp_in ((d1 36 5) + l2) 160 ∧ (Cn SX MJ0_charAt_5068e [.ref (1000 + p0), .int l2] d1 (rI fun r5 d4 => (((d1 37 ((d1 36 5) + l2).toNatClampNeg) = r5 → Ev SX MX3_isName 28 [.ref 36, .ref (1000 + p0), .int (l2 + 1)] [] d4 (rI q)) ∧ (¬ (d1 37 ((d1 36 5) + l2).toNatClampNeg) = r5 → q 0 d4)))))))))) : Ev SX MX3_isName 28 [.ref 36, .ref (1000 + p0), .int l2] [] d (rI q) := by
  refine ev_iload_n dX3_isName_28 rfl ?_
  refine ev_aload_n dX3_isName_29 rfl ?_
  refine ev_callTi (M := MX3_isName) (M2 := MJ0_length_8abf5) (As := []) (i := p0) (rest := [.int l2]) dX3_isName_30 (by exact Hp0) w345 moJ0_length_8abf5 rfl ⟨Nat.le_of_ble_eq_true rfl, Nat.le_of_ble_eq_true rfl⟩ rfl rfl (Nat.le_of_ble_eq_true rfl) h (fun r2 d1 h => ?_)
  have h := rI_dn h
  refine ev_icmp_ge (M := MX3_isName) (tgt := 63) dX3_isName_33 rfl (fun c3 => ?_) (fun c3 => ?_)
  · have h := h.1 c3
    refine ev_iconst dX3_isName_63 ci_1 ?_
    exact ev_ireti (M := MX3_isName) (ty := .boolean) dX3_isName_64 rfl rfl rfl h
  · have h := h.2 c3
    refine ev_aload_n dX3_isName_36 rfl ?_
    refine ev_getr (M := MX3_isName) (r := 37) 0 dX3_isName_37 sX_36 ck3 (Nat.le_of_ble_eq_true rfl) rfl w166 ?_
    refine ev_aload_n dX3_isName_40 rfl ?_
    refine ev_get 5 dX3_isName_41 sX_36 ck3 (Nat.le_of_ble_eq_true rfl) rfl w173 ?_
    refine ev_iload_n dX3_isName_44 rfl ?_
    refine ev_iadd dX3_isName_45 ?_
    obtain ⟨g, h⟩ := h
    refine ev_iald dX3_isName_46 sX_37 g ?_
    refine ev_aload_n dX3_isName_47 rfl ?_
    refine ev_iload_n dX3_isName_48 rfl ?_
    refine ev_callTi (M := MX3_isName) (M2 := MJ0_charAt_5068e) (As := [.int l2]) (i := p0) (rest := [.int (d1 37 ((d1 36 5) + l2).toNatClampNeg)]) dX3_isName_49 (by exact Hp0) w355 moJ0_charAt_5068e rfl ⟨Nat.le_of_ble_eq_true rfl, Nat.le_of_ble_eq_true rfl⟩ rfl rfl (Nat.le_of_ble_eq_true rfl) h (fun r5 d4 h => ?_)
    have h := rI_dn h
    refine ev_icmp_eq (M := MX3_isName) (tgt := 57) dX3_isName_52 rfl (fun c6 => ?_) (fun c6 => ?_)
    · have h := h.1 c6
      refine ev_iinc (M := MX3_isName) (ls2 := [.ref 36, .ref (1000 + p0), .int (l2 + 1)]) dX3_isName_57 rfl (iin ci_1) (Nat.le_of_ble_eq_true rfl) rfl ?_
      refine ev_goto (M := MX3_isName) (tgt := 28) dX3_isName_60 rfl ?_
      exact h
    · have h := h.2 c6
      refine ev_iconst dX3_isName_55 ci_0 ?_
      exact ev_ireti (M := MX3_isName) (ty := .boolean) dX3_isName_56 rfl rfl rfl h
-- X4_feed
theorem cn_X4_feed {q : Int32 → DD → Prop} {d : DD} {p0 : Int32} (h : (Cn SX MX4_within [.int p0, .int 0, .int 127] d (rI fun r2 d1 => ((¬ r2 = 0 → (Cn SX MX3_append [.ref 36, .int p0] d1 (rI fun r5 d4 => q r5 d4))) ∧ (r2 = 0 → q (-1) d1))))) : Cn SX MX4_feed [.ref 0, .int p0] d (rI q) := by
  refine cn_of (ls := [.ref 0, .int p0]) (by decide) rfl rfl (Nat.le_of_ble_eq_true rfl) ?_
  refine ev_iload_n dX4_feed_0 rfl ?_
  refine ev_iconst dX4_feed_1 ci_0 ?_
  refine ev_bipush dX4_feed_2 cb_127 ?_
  refine ev_callSi (M := MX4_feed) (M2 := MX4_within) (As := [.int p0, .int 0, .int 127]) (rest := []) dX4_feed_4 w300 moX4_within rfl ⟨Nat.le_of_ble_eq_true rfl, Nat.le_of_ble_eq_true rfl⟩ rfl rfl (Nat.le_of_ble_eq_true rfl) h (fun r2 d1 h => ?_)
  have h := rI_dn h
  refine ev_if_ne (M := MX4_feed) (tgt := 12) dX4_feed_7 rfl (fun c3 => ?_) (fun c3 => ?_)
  · have h := h.1 c3
    refine ev_aload_n dX4_feed_12 rfl ?_
    refine ev_getr (M := MX4_feed) (r := 36) 5 dX4_feed_13 sX_0 ck4 (Nat.le_of_ble_eq_true rfl) rfl w261 ?_
    refine ev_iload_n dX4_feed_16 rfl ?_
    refine ev_callVi (M := MX4_feed) (M2 := MX3_append) (As := [.int p0]) (rest := []) dX4_feed_17 sX_36 ck3 rfl w303 moX3_append rfl ⟨Nat.le_of_ble_eq_true rfl, Nat.le_of_ble_eq_true rfl⟩ rfl rfl (Nat.le_of_ble_eq_true rfl) h (fun r5 d4 h => ?_)
    have h := rI_dn h
    exact ev_ireti (M := MX4_feed) (ty := .int) dX4_feed_20 rfl rfl rfl h
  · have h := h.2 c3
    refine ev_iconst dX4_feed_10 ci_m1 ?_
    exact ev_ireti (M := MX4_feed) (ty := .int) dX4_feed_11 rfl rfl rfl h
-- X4_end
theorem cn_X4_end {q : Int32 → DD → Prop} {d : DD} {p0 : Int32} (h : (Cn SX MX4_within [.int p0, .int 0, .int (d 36 1)] d (rI fun r2 d1 => ((¬ r2 = 0 → (∀ d4 : DD, d4 = (up d1 36 1 p0) → q (d 36 1) d4)) ∧ (r2 = 0 → q (-1) d1))))) : Cn SX MX4_end [.ref 0, .int p0] d (rI q) := by
  refine cn_of (ls := [.ref 0, .int p0, uJ]) (by decide) rfl rfl (Nat.le_of_ble_eq_true rfl) ?_
  refine ev_aload_n dX4_end_0 rfl ?_
  refine ev_getr (M := MX4_end) (r := 36) 5 dX4_end_1 sX_0 ck4 (Nat.le_of_ble_eq_true rfl) rfl w261 ?_
  refine ev_get 1 dX4_end_4 sX_36 ck3 (Nat.le_of_ble_eq_true rfl) rfl w168 ?_
  refine ev_istore_n (M := MX4_end) (ls2 := [.ref 0, .int p0, .int (d 36 1)]) 2 dX4_end_7 rfl (Nat.le_of_ble_eq_true rfl) rfl ?_
  refine ev_iload_n dX4_end_8 rfl ?_
  refine ev_iconst dX4_end_9 ci_0 ?_
  refine ev_iload_n dX4_end_10 rfl ?_
  refine ev_callSi (M := MX4_end) (M2 := MX4_within) (As := [.int p0, .int 0, .int (d 36 1)]) (rest := []) dX4_end_11 w300 moX4_within rfl ⟨Nat.le_of_ble_eq_true rfl, Nat.le_of_ble_eq_true rfl⟩ rfl rfl (Nat.le_of_ble_eq_true rfl) h (fun r2 d1 h => ?_)
  have h := rI_dn h
  refine ev_if_ne (M := MX4_end) (tgt := 19) dX4_end_14 rfl (fun c3 => ?_) (fun c3 => ?_)
  · have h := h.1 c3
    refine ev_aload_n dX4_end_19 rfl ?_
    refine ev_getr (M := MX4_end) (r := 36) 5 dX4_end_20 sX_0 ck4 (Nat.le_of_ble_eq_true rfl) rfl w261 ?_
    refine ev_iload_n dX4_end_23 rfl ?_
    refine ev_put 1 dX4_end_24 sX_36 ck3 (Nat.le_of_ble_eq_true rfl) rfl w168 rfl rfl rfl ?_
    refine ev_topd (fun d4 ed4 => ?_)
    have h := h d4 ed4
    refine ev_iload_n dX4_end_27 rfl ?_
    exact ev_ireti (M := MX4_end) (ty := .int) dX4_end_28 rfl rfl rfl h
  · have h := h.2 c3
    refine ev_iconst dX4_end_17 ci_m1 ?_
    exact ev_ireti (M := MX4_end) (ty := .int) dX4_end_18 rfl rfl rfl h
-- X4_text
theorem cn_X4_text {q : Int32 → DD → Prop} {d : DD}  (h : (Cn SX MX3_tellAll [.ref 36, .ref 12] d (rI fun r2 d1 => (∀ d3 : DD, d3 = (up d1 36 1 0) → ((r2 < 0 → q r2 d3) ∧ (¬ r2 < 0 → (Cn SX MX0_become [.ref 1, .ref 12] d3 (rV fun d5 => (∀ d6 : DD, d6 = (up d5 0 11 0) → Ev SX MX4_text 42 [.ref 0, .int r2, .int 0] [] d6 (rI q)))))))))) : Cn SX MX4_text [.ref 0] d (rI q) := by
  refine cn_of (ls := [.ref 0, uJ, uJ]) (by decide) rfl rfl (Nat.le_of_ble_eq_true rfl) ?_
  refine ev_aload_n dX4_text_0 rfl ?_
  refine ev_getr (M := MX4_text) (r := 36) 5 dX4_text_1 sX_0 ck4 (Nat.le_of_ble_eq_true rfl) rfl w261 ?_
  refine ev_aload_n dX4_text_4 rfl ?_
  refine ev_getr (M := MX4_text) (r := 12) 1 dX4_text_5 sX_0 ck4 (Nat.le_of_ble_eq_true rfl) rfl w257 ?_
  refine ev_callVi (M := MX4_text) (M2 := MX3_tellAll) (As := [.ref 12]) (rest := []) dX4_text_8 sX_36 ck3 rfl w315 moX3_tellAll rfl ⟨Nat.le_of_ble_eq_true rfl, Nat.le_of_ble_eq_true rfl⟩ rfl rfl (Nat.le_of_ble_eq_true rfl) h (fun r2 d1 h => ?_)
  have h := rI_dn h
  refine ev_istore_n (M := MX4_text) (ls2 := [.ref 0, .int r2, uJ]) 1 dX4_text_11 rfl (Nat.le_of_ble_eq_true rfl) rfl ?_
  refine ev_aload_n dX4_text_12 rfl ?_
  refine ev_getr (M := MX4_text) (r := 36) 5 dX4_text_13 sX_0 ck4 (Nat.le_of_ble_eq_true rfl) rfl w261 ?_
  refine ev_iconst dX4_text_16 ci_0 ?_
  refine ev_put 1 dX4_text_17 sX_36 ck3 (Nat.le_of_ble_eq_true rfl) rfl w168 rfl rfl rfl ?_
  refine ev_topd (fun d3 ed3 => ?_)
  have h := h d3 ed3
  refine ev_iload_n dX4_text_20 rfl ?_
  refine ev_if_lt (M := MX4_text) (tgt := 60) dX4_text_21 rfl (fun c4 => ?_) (fun c4 => ?_)
  · have h := h.1 c4
    refine ev_iload_n dX4_text_60 rfl ?_
    exact ev_ireti (M := MX4_text) (ty := .int) dX4_text_61 rfl rfl rfl h
  · have h := h.2 c4
    refine ev_aload_n dX4_text_24 rfl ?_
    refine ev_getr (M := MX4_text) (r := 1) 0 dX4_text_25 sX_0 ck4 (Nat.le_of_ble_eq_true rfl) rfl w256 ?_
    refine ev_aload_n dX4_text_28 rfl ?_
    refine ev_getr (M := MX4_text) (r := 12) 1 dX4_text_29 sX_0 ck4 (Nat.le_of_ble_eq_true rfl) rfl w257 ?_
    refine ev_callVv (M := MX4_text) (M2 := MX0_become) (As := [.ref 12]) (rest := []) dX4_text_32 sX_1 ck0 rfl w431 moX0_become rfl ⟨Nat.le_of_ble_eq_true rfl, Nat.le_of_ble_eq_true rfl⟩ rfl rfl (Nat.le_of_ble_eq_true rfl) h (fun d5 h => ?_)
    have h := rV_dn h
    refine ev_aload_n dX4_text_35 rfl ?_
    refine ev_iconst dX4_text_36 ci_0 ?_
    refine ev_put 11 dX4_text_37 sX_0 ck4 (Nat.le_of_ble_eq_true rfl) rfl w267 rfl rfl rfl ?_
    refine ev_topd (fun d6 ed6 => ?_)
    have h := h d6 ed6
    refine ev_iconst dX4_text_40 ci_0 ?_
    refine ev_istore_n (M := MX4_text) (ls2 := [.ref 0, .int r2, .int 0]) 2 dX4_text_41 rfl (Nat.le_of_ble_eq_true rfl) rfl ?_
    exact h
theorem bk_X4_text_42 {q : Int32 → DD → Prop} {d : DD} {l1 : Int32} {l2 : Int32} (h : ((2 ≤ l2 → q l1 d) ∧ (¬ 2 ≤ l2 → (vp_in l2 2 ∧ (∀ d2 : DD, d2 = (up d 35 l2.toNatClampNeg 0) → Ev SX MX4_text 42 [.ref 0, .int l1, .int (l2 + 1)] [] d2 (rI q)))))) : Ev SX MX4_text 42 [.ref 0, .int l1, .int l2] [] d (rI q) := by
  refine ev_iload_n dX4_text_42 rfl ?_
  refine ev_iconst dX4_text_43 ci_2 ?_
  refine ev_icmp_ge (M := MX4_text) (tgt := 60) dX4_text_44 rfl (fun c1 => ?_) (fun c1 => ?_)
  · have h := h.1 c1
    refine ev_iload_n dX4_text_60 rfl ?_
    exact ev_ireti (M := MX4_text) (ty := .int) dX4_text_61 rfl rfl rfl h
  · have h := h.2 c1
    refine ev_aload_n dX4_text_47 rfl ?_
    refine ev_getr (M := MX4_text) (r := 35) 4 dX4_text_48 sX_0 ck4 (Nat.le_of_ble_eq_true rfl) rfl w260 ?_
    refine ev_iload_n dX4_text_51 rfl ?_
    refine ev_iconst dX4_text_52 ci_0 ?_
    obtain ⟨g, h⟩ := h
    refine ev_zast (M := MX4_text) (y := 0) dX4_text_53 sX_35 g rfl ?_
    refine ev_topd (fun d2 ed2 => ?_)
    have h := h d2 ed2
    refine ev_iinc (M := MX4_text) (ls2 := [.ref 0, .int l1, .int (l2 + 1)]) dX4_text_54 rfl (iin ci_1) (Nat.le_of_ble_eq_true rfl) rfl ?_
    refine ev_goto (M := MX4_text) (tgt := 42) dX4_text_57 rfl ?_
    exact h
-- X4_fault
theorem cn_X4_fault {q : Int32 → DD → Prop} {d : DD}  (h : q (d 36 2) d) : Cn SX MX4_fault [.ref 0] d (rI q) := by
  refine cn_of (ls := [.ref 0]) (by decide) rfl rfl (Nat.le_of_ble_eq_true rfl) ?_
  refine ev_aload_n dX4_fault_0 rfl ?_
  refine ev_getr (M := MX4_fault) (r := 36) 5 dX4_fault_1 sX_0 ck4 (Nat.le_of_ble_eq_true rfl) rfl w261 ?_
  refine ev_get 2 dX4_fault_4 sX_36 ck3 (Nat.le_of_ble_eq_true rfl) rfl w170 ?_
  exact ev_ireti (M := MX4_fault) (ty := .int) dX4_fault_7 rfl rfl rfl h
-- X4_rule
theorem cn_X4_rule {q : Int32 → DD → Prop} {d : DD} {p0 : Int32} (h : ((p0 = 0 → q (d 1 0) d) ∧ (¬ p0 = 0 → ((p0 = 1 → q (d 1 1) d) ∧ (¬ p0 = 1 → ((p0 = 2 → q (d 1 2) d) ∧ (¬ p0 = 2 → q (-1) d))))))) : Cn SX MX4_rule [.ref 0, .int p0] d (rI q) := by
  refine cn_of (ls := [.ref 0, .int p0]) (by decide) rfl rfl (Nat.le_of_ble_eq_true rfl) ?_
  refine ev_iload_n dX4_rule_0 rfl ?_
  by_cases c1 : p0 = 0
  · have h := h.1 c1
    refine ev_tsw (M := MX4_rule) (tgt := 28) dX4_rule_1 0 (sw_eq 0 c1 (by decide)) (by decide) (by decide) rfl rfl ?_
    refine ev_aload_n dX4_rule_28 rfl ?_
    refine ev_getr (M := MX4_rule) (r := 1) 0 dX4_rule_29 sX_0 ck4 (Nat.le_of_ble_eq_true rfl) rfl w256 ?_
    refine ev_get 0 dX4_rule_32 sX_1 ck0 (Nat.le_of_ble_eq_true rfl) rfl w84 ?_
    exact ev_ireti (M := MX4_rule) (ty := .int) dX4_rule_35 rfl rfl rfl h
  · have h := h.2 c1
    by_cases c2 : p0 = 1
    · have h := h.1 c2
      refine ev_tsw (M := MX4_rule) (tgt := 36) dX4_rule_1 1 (sw_eq 1 c2 (by decide)) (by decide) (by decide) rfl rfl ?_
      refine ev_aload_n dX4_rule_36 rfl ?_
      refine ev_getr (M := MX4_rule) (r := 1) 0 dX4_rule_37 sX_0 ck4 (Nat.le_of_ble_eq_true rfl) rfl w256 ?_
      refine ev_get 1 dX4_rule_40 sX_1 ck0 (Nat.le_of_ble_eq_true rfl) rfl w88 ?_
      exact ev_ireti (M := MX4_rule) (ty := .int) dX4_rule_43 rfl rfl rfl h
    · have h := h.2 c2
      by_cases c3 : p0 = 2
      · have h := h.1 c3
        refine ev_tsw (M := MX4_rule) (tgt := 44) dX4_rule_1 2 (sw_eq 2 c3 (by decide)) (by decide) (by decide) rfl rfl ?_
        refine ev_aload_n dX4_rule_44 rfl ?_
        refine ev_getr (M := MX4_rule) (r := 1) 0 dX4_rule_45 sX_0 ck4 (Nat.le_of_ble_eq_true rfl) rfl w256 ?_
        refine ev_get 2 dX4_rule_48 sX_1 ck0 (Nat.le_of_ble_eq_true rfl) rfl w90 ?_
        exact ev_ireti (M := MX4_rule) (ty := .int) dX4_rule_51 rfl rfl rfl h
      · have h := h.2 c3
        have nc1 := sw_ne 0 c1 (by decide)
        have nc2 := sw_ne 1 c2 (by decide)
        have nc3 := sw_ne 2 c3 (by decide)
        refine ev_tswD (M := MX4_rule) (tgt := 52) dX4_rule_1 (by omega) rfl ?_
        refine ev_iconst dX4_rule_52 ci_m1 ?_
        exact ev_ireti (M := MX4_rule) (ty := .int) dX4_rule_53 rfl rfl rfl h
-- X4_tune
set_option maxRecDepth 4000 in
theorem cn_X4_tune {q : Int32 → DD → Prop} {d : DD} {p0 : Int32} {p1 : Int32} (h : (Cn SX MX0_hasTune [.ref 1, .int p0] d (rI fun r2 d1 => ((¬ r2 = 0 → ((p1 = 0 → (vp_in p0 4 ∧ q (d1 2 p0.toNatClampNeg) d1)) ∧ (¬ p1 = 0 → ((p1 = 1 → (vp_in p0 4 ∧ q (d1 3 p0.toNatClampNeg) d1)) ∧ (¬ p1 = 1 → ((p1 = 2 → (vp_in p0 4 ∧ q (d1 4 p0.toNatClampNeg) d1)) ∧ (¬ p1 = 2 → ((p1 = 3 → (vp_in p0 4 ∧ q (d1 5 p0.toNatClampNeg) d1)) ∧ (¬ p1 = 3 → ((p1 = 4 → (vp_in p0 4 ∧ (Cn SX MX0_lengthAs [.ref 1, .int p0, .int (d1 2 p0.toNatClampNeg)] d1 (rI fun r10 d9 => q r10 d9)))) ∧ (¬ p1 = 4 → ((p1 = 5 → (Cn SX MX0_boundTo [.ref 1, .int p0] d1 (rI fun r13 d12 => q r13 d12))) ∧ (¬ p1 = 5 → q (-1) d1))))))))))))) ∧ (r2 = 0 → q (-1) d1))))) : Cn SX MX4_tune [.ref 0, .int p0, .int p1] d (rI q) := by
  refine cn_of (ls := [.ref 0, .int p0, .int p1]) (by decide) rfl rfl (Nat.le_of_ble_eq_true rfl) ?_
  refine ev_aload_n dX4_tune_0 rfl ?_
  refine ev_getr (M := MX4_tune) (r := 1) 0 dX4_tune_1 sX_0 ck4 (Nat.le_of_ble_eq_true rfl) rfl w256 ?_
  refine ev_iload_n dX4_tune_4 rfl ?_
  refine ev_callVi (M := MX4_tune) (M2 := MX0_hasTune) (As := [.int p0]) (rest := []) dX4_tune_5 sX_1 ck0 rfl w451 moX0_hasTune rfl ⟨Nat.le_of_ble_eq_true rfl, Nat.le_of_ble_eq_true rfl⟩ rfl rfl (Nat.le_of_ble_eq_true rfl) h (fun r2 d1 h => ?_)
  have h := rI_dn h
  refine ev_if_ne (M := MX4_tune) (tgt := 13) dX4_tune_8 rfl (fun c3 => ?_) (fun c3 => ?_)
  · have h := h.1 c3
    refine ev_iload_n dX4_tune_13 rfl ?_
    by_cases c4 : p1 = 0
    · have h := h.1 c4
      refine ev_tsw (M := MX4_tune) (tgt := 52) dX4_tune_14 0 (sw_eq 0 c4 (by decide)) (by decide) (by decide) rfl rfl ?_
      refine ev_aload_n dX4_tune_52 rfl ?_
      refine ev_getr (M := MX4_tune) (r := 1) 0 dX4_tune_53 sX_0 ck4 (Nat.le_of_ble_eq_true rfl) rfl w256 ?_
      refine ev_getr (M := MX4_tune) (r := 2) 3 dX4_tune_56 sX_1 ck0 (Nat.le_of_ble_eq_true rfl) rfl w96 ?_
      refine ev_iload_n dX4_tune_59 rfl ?_
      obtain ⟨g, h⟩ := h
      refine ev_iald dX4_tune_60 sX_2 g ?_
      exact ev_ireti (M := MX4_tune) (ty := .int) dX4_tune_61 rfl rfl rfl h
    · have h := h.2 c4
      by_cases c5 : p1 = 1
      · have h := h.1 c5
        refine ev_tsw (M := MX4_tune) (tgt := 62) dX4_tune_14 1 (sw_eq 1 c5 (by decide)) (by decide) (by decide) rfl rfl ?_
        refine ev_aload_n dX4_tune_62 rfl ?_
        refine ev_getr (M := MX4_tune) (r := 1) 0 dX4_tune_63 sX_0 ck4 (Nat.le_of_ble_eq_true rfl) rfl w256 ?_
        refine ev_getr (M := MX4_tune) (r := 3) 4 dX4_tune_66 sX_1 ck0 (Nat.le_of_ble_eq_true rfl) rfl w100 ?_
        refine ev_iload_n dX4_tune_69 rfl ?_
        obtain ⟨g, h⟩ := h
        refine ev_iald dX4_tune_70 sX_3 g ?_
        exact ev_ireti (M := MX4_tune) (ty := .int) dX4_tune_71 rfl rfl rfl h
      · have h := h.2 c5
        by_cases c6 : p1 = 2
        · have h := h.1 c6
          refine ev_tsw (M := MX4_tune) (tgt := 72) dX4_tune_14 2 (sw_eq 2 c6 (by decide)) (by decide) (by decide) rfl rfl ?_
          refine ev_aload_n dX4_tune_72 rfl ?_
          refine ev_getr (M := MX4_tune) (r := 1) 0 dX4_tune_73 sX_0 ck4 (Nat.le_of_ble_eq_true rfl) rfl w256 ?_
          refine ev_getr (M := MX4_tune) (r := 4) 5 dX4_tune_76 sX_1 ck0 (Nat.le_of_ble_eq_true rfl) rfl w103 ?_
          refine ev_iload_n dX4_tune_79 rfl ?_
          obtain ⟨g, h⟩ := h
          refine ev_iald dX4_tune_80 sX_4 g ?_
          exact ev_ireti (M := MX4_tune) (ty := .int) dX4_tune_81 rfl rfl rfl h
        · have h := h.2 c6
          by_cases c7 : p1 = 3
          · have h := h.1 c7
            refine ev_tsw (M := MX4_tune) (tgt := 82) dX4_tune_14 3 (sw_eq 3 c7 (by decide)) (by decide) (by decide) rfl rfl ?_
            refine ev_aload_n dX4_tune_82 rfl ?_
            refine ev_getr (M := MX4_tune) (r := 1) 0 dX4_tune_83 sX_0 ck4 (Nat.le_of_ble_eq_true rfl) rfl w256 ?_
            refine ev_getr (M := MX4_tune) (r := 5) 6 dX4_tune_86 sX_1 ck0 (Nat.le_of_ble_eq_true rfl) rfl w107 ?_
            refine ev_iload_n dX4_tune_89 rfl ?_
            obtain ⟨g, h⟩ := h
            refine ev_iald dX4_tune_90 sX_5 g ?_
            exact ev_ireti (M := MX4_tune) (ty := .int) dX4_tune_91 rfl rfl rfl h
          · have h := h.2 c7
            by_cases c8 : p1 = 4
            · have h := h.1 c8
              refine ev_tsw (M := MX4_tune) (tgt := 92) dX4_tune_14 4 (sw_eq 4 c8 (by decide)) (by decide) (by decide) rfl rfl ?_
              refine ev_aload_n dX4_tune_92 rfl ?_
              refine ev_getr (M := MX4_tune) (r := 1) 0 dX4_tune_93 sX_0 ck4 (Nat.le_of_ble_eq_true rfl) rfl w256 ?_
              refine ev_iload_n dX4_tune_96 rfl ?_
              refine ev_aload_n dX4_tune_97 rfl ?_
              refine ev_getr (M := MX4_tune) (r := 1) 0 dX4_tune_98 sX_0 ck4 (Nat.le_of_ble_eq_true rfl) rfl w256 ?_
              refine ev_getr (M := MX4_tune) (r := 2) 3 dX4_tune_101 sX_1 ck0 (Nat.le_of_ble_eq_true rfl) rfl w96 ?_
              refine ev_iload_n dX4_tune_104 rfl ?_
              obtain ⟨g, h⟩ := h
              refine ev_iald dX4_tune_105 sX_2 g ?_
              refine ev_callVi (M := MX4_tune) (M2 := MX0_lengthAs) (As := [.int p0, .int (d1 2 p0.toNatClampNeg)]) (rest := []) dX4_tune_106 sX_1 ck0 rfl w452 moX0_lengthAs rfl ⟨Nat.le_of_ble_eq_true rfl, Nat.le_of_ble_eq_true rfl⟩ rfl rfl (Nat.le_of_ble_eq_true rfl) h (fun r10 d9 h => ?_)
              have h := rI_dn h
              exact ev_ireti (M := MX4_tune) (ty := .int) dX4_tune_109 rfl rfl rfl h
            · have h := h.2 c8
              by_cases c11 : p1 = 5
              · have h := h.1 c11
                refine ev_tsw (M := MX4_tune) (tgt := 110) dX4_tune_14 5 (sw_eq 5 c11 (by decide)) (by decide) (by decide) rfl rfl ?_
                refine ev_aload_n dX4_tune_110 rfl ?_
                refine ev_getr (M := MX4_tune) (r := 1) 0 dX4_tune_111 sX_0 ck4 (Nat.le_of_ble_eq_true rfl) rfl w256 ?_
                refine ev_iload_n dX4_tune_114 rfl ?_
                refine ev_callVi (M := MX4_tune) (M2 := MX0_boundTo) (As := [.int p0]) (rest := []) dX4_tune_115 sX_1 ck0 rfl w459 moX0_boundTo rfl ⟨Nat.le_of_ble_eq_true rfl, Nat.le_of_ble_eq_true rfl⟩ rfl rfl (Nat.le_of_ble_eq_true rfl) h (fun r13 d12 h => ?_)
                have h := rI_dn h
                exact ev_ireti (M := MX4_tune) (ty := .int) dX4_tune_118 rfl rfl rfl h
              · have h := h.2 c11
                have nc4 := sw_ne 0 c4 (by decide)
                have nc5 := sw_ne 1 c5 (by decide)
                have nc6 := sw_ne 2 c6 (by decide)
                have nc7 := sw_ne 3 c7 (by decide)
                have nc8 := sw_ne 4 c8 (by decide)
                have nc11 := sw_ne 5 c11 (by decide)
                refine ev_tswD (M := MX4_tune) (tgt := 119) dX4_tune_14 (by omega) rfl ?_
                refine ev_iconst dX4_tune_119 ci_m1 ?_
                exact ev_ireti (M := MX4_tune) (ty := .int) dX4_tune_120 rfl rfl rfl h
  · have h := h.2 c3
    refine ev_iconst dX4_tune_11 ci_m1 ?_
    exact ev_ireti (M := MX4_tune) (ty := .int) dX4_tune_12 rfl rfl rfl h
-- X4_note
theorem cn_X4_note {q : Int32 → DD → Prop} {d : DD} {p0 : Int32} {p1 : Int32} (h : (Cn SX MX0_hasNote [.ref 1, .int p0, .int p1] d (rI fun r2 d1 => ((¬ r2 = 0 → (vp_in ((p0 * 8) + p1) 32 ∧ q (d1 6 ((p0 * 8) + p1).toNatClampNeg) d1)) ∧ (r2 = 0 → q (-1) d1))))) : Cn SX MX4_note [.ref 0, .int p0, .int p1] d (rI q) := by
  refine cn_of (ls := [.ref 0, .int p0, .int p1]) (by decide) rfl rfl (Nat.le_of_ble_eq_true rfl) ?_
  refine ev_aload_n dX4_note_0 rfl ?_
  refine ev_getr (M := MX4_note) (r := 1) 0 dX4_note_1 sX_0 ck4 (Nat.le_of_ble_eq_true rfl) rfl w256 ?_
  refine ev_iload_n dX4_note_4 rfl ?_
  refine ev_iload_n dX4_note_5 rfl ?_
  refine ev_callVi (M := MX4_note) (M2 := MX0_hasNote) (As := [.int p0, .int p1]) (rest := []) dX4_note_6 sX_1 ck0 rfl w467 moX0_hasNote rfl ⟨Nat.le_of_ble_eq_true rfl, Nat.le_of_ble_eq_true rfl⟩ rfl rfl (Nat.le_of_ble_eq_true rfl) h (fun r2 d1 h => ?_)
  have h := rI_dn h
  refine ev_if_ne (M := MX4_note) (tgt := 14) dX4_note_9 rfl (fun c3 => ?_) (fun c3 => ?_)
  · have h := h.1 c3
    refine ev_aload_n dX4_note_14 rfl ?_
    refine ev_getr (M := MX4_note) (r := 1) 0 dX4_note_15 sX_0 ck4 (Nat.le_of_ble_eq_true rfl) rfl w256 ?_
    refine ev_getr (M := MX4_note) (r := 6) 7 dX4_note_18 sX_1 ck0 (Nat.le_of_ble_eq_true rfl) rfl w110 ?_
    refine ev_iload_n dX4_note_21 rfl ?_
    refine ev_bipush dX4_note_22 cb_8 ?_
    refine ev_imul dX4_note_24 ?_
    refine ev_iload_n dX4_note_25 rfl ?_
    refine ev_iadd dX4_note_26 ?_
    obtain ⟨g, h⟩ := h
    refine ev_iald dX4_note_27 sX_6 g ?_
    exact ev_ireti (M := MX4_note) (ty := .int) dX4_note_28 rfl rfl rfl h
  · have h := h.2 c3
    refine ev_iconst dX4_note_12 ci_m1 ?_
    exact ev_ireti (M := MX4_note) (ty := .int) dX4_note_13 rfl rfl rfl h
-- X4_has
theorem cn_X4_has {q : Int32 → DD → Prop} {d : DD} {p0 : Int32} {p1 : Int32} (h : (Cn SX MX0_hasTune [.ref 1, .int p0] d (rI fun r2 d1 => ((r2 = 0 → q (-1) d1) ∧ (¬ r2 = 0 → (Cn SX MX4_within [.int p1, .int 0, .int 159] d1 (rI fun r5 d4 => ((¬ r5 = 0 → (vp_in p0 4 ∧ (Cn SX MX0_noteAs [.ref 1, .int p0, .int (d4 2 p0.toNatClampNeg), .int p1] d4 (rI fun r8 d7 => q r8 d7)))) ∧ (r5 = 0 → q (-1) d4))))))))) : Cn SX MX4_has [.ref 0, .int p0, .int p1] d (rI q) := by
  refine cn_of (ls := [.ref 0, .int p0, .int p1]) (by decide) rfl rfl (Nat.le_of_ble_eq_true rfl) ?_
  refine ev_aload_n dX4_has_0 rfl ?_
  refine ev_getr (M := MX4_has) (r := 1) 0 dX4_has_1 sX_0 ck4 (Nat.le_of_ble_eq_true rfl) rfl w256 ?_
  refine ev_iload_n dX4_has_4 rfl ?_
  refine ev_callVi (M := MX4_has) (M2 := MX0_hasTune) (As := [.int p0]) (rest := []) dX4_has_5 sX_1 ck0 rfl w451 moX0_hasTune rfl ⟨Nat.le_of_ble_eq_true rfl, Nat.le_of_ble_eq_true rfl⟩ rfl rfl (Nat.le_of_ble_eq_true rfl) h (fun r2 d1 h => ?_)
  have h := rI_dn h
  refine ev_if_eq (M := MX4_has) (tgt := 22) dX4_has_8 rfl (fun c3 => ?_) (fun c3 => ?_)
  · have h := h.1 c3
    refine ev_iconst dX4_has_22 ci_m1 ?_
    exact ev_ireti (M := MX4_has) (ty := .int) dX4_has_23 rfl rfl rfl h
  · have h := h.2 c3
    refine ev_iload_n dX4_has_11 rfl ?_
    refine ev_iconst dX4_has_12 ci_0 ?_
    refine ev_sipush dX4_has_13 cs_159 ?_
    refine ev_callSi (M := MX4_has) (M2 := MX4_within) (As := [.int p1, .int 0, .int 159]) (rest := []) dX4_has_16 w300 moX4_within rfl ⟨Nat.le_of_ble_eq_true rfl, Nat.le_of_ble_eq_true rfl⟩ rfl rfl (Nat.le_of_ble_eq_true rfl) h (fun r5 d4 h => ?_)
    have h := rI_dn h
    refine ev_if_ne (M := MX4_has) (tgt := 24) dX4_has_19 rfl (fun c6 => ?_) (fun c6 => ?_)
    · have h := h.1 c6
      refine ev_aload_n dX4_has_24 rfl ?_
      refine ev_getr (M := MX4_has) (r := 1) 0 dX4_has_25 sX_0 ck4 (Nat.le_of_ble_eq_true rfl) rfl w256 ?_
      refine ev_iload_n dX4_has_28 rfl ?_
      refine ev_aload_n dX4_has_29 rfl ?_
      refine ev_getr (M := MX4_has) (r := 1) 0 dX4_has_30 sX_0 ck4 (Nat.le_of_ble_eq_true rfl) rfl w256 ?_
      refine ev_getr (M := MX4_has) (r := 2) 3 dX4_has_33 sX_1 ck0 (Nat.le_of_ble_eq_true rfl) rfl w96 ?_
      refine ev_iload_n dX4_has_36 rfl ?_
      obtain ⟨g, h⟩ := h
      refine ev_iald dX4_has_37 sX_2 g ?_
      refine ev_iload_n dX4_has_38 rfl ?_
      refine ev_callVi (M := MX4_has) (M2 := MX0_noteAs) (As := [.int p0, .int (d4 2 p0.toNatClampNeg), .int p1]) (rest := []) dX4_has_39 sX_1 ck0 rfl w475 moX0_noteAs rfl ⟨Nat.le_of_ble_eq_true rfl, Nat.le_of_ble_eq_true rfl⟩ rfl rfl (Nat.le_of_ble_eq_true rfl) h (fun r8 d7 h => ?_)
      have h := rI_dn h
      exact ev_ireti (M := MX4_has) (ty := .int) dX4_has_42 rfl rfl rfl h
    · have h := h.2 c6
      refine ev_iconst dX4_has_22 ci_m1 ?_
      exact ev_ireti (M := MX4_has) (ty := .int) dX4_has_23 rfl rfl rfl h
-- X4_player
theorem cn_X4_player {q : Int32 → DD → Prop} {d : DD} {p0 : Int32} {p1 : Int32} (h : (Cn SX MX0_hasPlayer [.ref 1, .int p0] d (rI fun r2 d1 => ((¬ r2 = 0 → ((p1 = 0 → (vp_in p0 4 ∧ q (d1 7 p0.toNatClampNeg) d1)) ∧ (¬ p1 = 0 → ((p1 = 1 → (vp_in p0 4 ∧ q (d1 8 p0.toNatClampNeg) d1)) ∧ (¬ p1 = 1 → ((p1 = 2 → (vp_in p0 4 ∧ q (d1 9 p0.toNatClampNeg) d1)) ∧ (¬ p1 = 2 → ((p1 = 3 → (vp_in p0 4 ∧ q (d1 10 p0.toNatClampNeg) d1)) ∧ (¬ p1 = 3 → q (-1) d1))))))))) ∧ (r2 = 0 → q (-1) d1))))) : Cn SX MX4_player [.ref 0, .int p0, .int p1] d (rI q) := by
  refine cn_of (ls := [.ref 0, .int p0, .int p1]) (by decide) rfl rfl (Nat.le_of_ble_eq_true rfl) ?_
  refine ev_aload_n dX4_player_0 rfl ?_
  refine ev_getr (M := MX4_player) (r := 1) 0 dX4_player_1 sX_0 ck4 (Nat.le_of_ble_eq_true rfl) rfl w256 ?_
  refine ev_iload_n dX4_player_4 rfl ?_
  refine ev_callVi (M := MX4_player) (M2 := MX0_hasPlayer) (As := [.int p0]) (rest := []) dX4_player_5 sX_1 ck0 rfl w490 moX0_hasPlayer rfl ⟨Nat.le_of_ble_eq_true rfl, Nat.le_of_ble_eq_true rfl⟩ rfl rfl (Nat.le_of_ble_eq_true rfl) h (fun r2 d1 h => ?_)
  have h := rI_dn h
  refine ev_if_ne (M := MX4_player) (tgt := 13) dX4_player_8 rfl (fun c3 => ?_) (fun c3 => ?_)
  · have h := h.1 c3
    refine ev_iload_n dX4_player_13 rfl ?_
    by_cases c4 : p1 = 0
    · have h := h.1 c4
      refine ev_tsw (M := MX4_player) (tgt := 44) dX4_player_14 0 (sw_eq 0 c4 (by decide)) (by decide) (by decide) rfl rfl ?_
      refine ev_aload_n dX4_player_44 rfl ?_
      refine ev_getr (M := MX4_player) (r := 1) 0 dX4_player_45 sX_0 ck4 (Nat.le_of_ble_eq_true rfl) rfl w256 ?_
      refine ev_getr (M := MX4_player) (r := 7) 8 dX4_player_48 sX_1 ck0 (Nat.le_of_ble_eq_true rfl) rfl w114 ?_
      refine ev_iload_n dX4_player_51 rfl ?_
      obtain ⟨g, h⟩ := h
      refine ev_iald dX4_player_52 sX_7 g ?_
      exact ev_ireti (M := MX4_player) (ty := .int) dX4_player_53 rfl rfl rfl h
    · have h := h.2 c4
      by_cases c5 : p1 = 1
      · have h := h.1 c5
        refine ev_tsw (M := MX4_player) (tgt := 54) dX4_player_14 1 (sw_eq 1 c5 (by decide)) (by decide) (by decide) rfl rfl ?_
        refine ev_aload_n dX4_player_54 rfl ?_
        refine ev_getr (M := MX4_player) (r := 1) 0 dX4_player_55 sX_0 ck4 (Nat.le_of_ble_eq_true rfl) rfl w256 ?_
        refine ev_getr (M := MX4_player) (r := 8) 9 dX4_player_58 sX_1 ck0 (Nat.le_of_ble_eq_true rfl) rfl w118 ?_
        refine ev_iload_n dX4_player_61 rfl ?_
        obtain ⟨g, h⟩ := h
        refine ev_iald dX4_player_62 sX_8 g ?_
        exact ev_ireti (M := MX4_player) (ty := .int) dX4_player_63 rfl rfl rfl h
      · have h := h.2 c5
        by_cases c6 : p1 = 2
        · have h := h.1 c6
          refine ev_tsw (M := MX4_player) (tgt := 64) dX4_player_14 2 (sw_eq 2 c6 (by decide)) (by decide) (by decide) rfl rfl ?_
          refine ev_aload_n dX4_player_64 rfl ?_
          refine ev_getr (M := MX4_player) (r := 1) 0 dX4_player_65 sX_0 ck4 (Nat.le_of_ble_eq_true rfl) rfl w256 ?_
          refine ev_getr (M := MX4_player) (r := 9) 10 dX4_player_68 sX_1 ck0 (Nat.le_of_ble_eq_true rfl) rfl w121 ?_
          refine ev_iload_n dX4_player_71 rfl ?_
          obtain ⟨g, h⟩ := h
          refine ev_iald dX4_player_72 sX_9 g ?_
          exact ev_ireti (M := MX4_player) (ty := .int) dX4_player_73 rfl rfl rfl h
        · have h := h.2 c6
          by_cases c7 : p1 = 3
          · have h := h.1 c7
            refine ev_tsw (M := MX4_player) (tgt := 74) dX4_player_14 3 (sw_eq 3 c7 (by decide)) (by decide) (by decide) rfl rfl ?_
            refine ev_aload_n dX4_player_74 rfl ?_
            refine ev_getr (M := MX4_player) (r := 1) 0 dX4_player_75 sX_0 ck4 (Nat.le_of_ble_eq_true rfl) rfl w256 ?_
            refine ev_getr (M := MX4_player) (r := 10) 11 dX4_player_78 sX_1 ck0 (Nat.le_of_ble_eq_true rfl) rfl w126 ?_
            refine ev_iload_n dX4_player_81 rfl ?_
            obtain ⟨g, h⟩ := h
            refine ev_iald dX4_player_82 sX_10 g ?_
            exact ev_ireti (M := MX4_player) (ty := .int) dX4_player_83 rfl rfl rfl h
          · have h := h.2 c7
            have nc4 := sw_ne 0 c4 (by decide)
            have nc5 := sw_ne 1 c5 (by decide)
            have nc6 := sw_ne 2 c6 (by decide)
            have nc7 := sw_ne 3 c7 (by decide)
            refine ev_tswD (M := MX4_player) (tgt := 84) dX4_player_14 (by omega) rfl ?_
            refine ev_iconst dX4_player_84 ci_m1 ?_
            exact ev_ireti (M := MX4_player) (ty := .int) dX4_player_85 rfl rfl rfl h
  · have h := h.2 c3
    refine ev_iconst dX4_player_11 ci_m1 ?_
    exact ev_ireti (M := MX4_player) (ty := .int) dX4_player_12 rfl rfl rfl h
-- X4_bound
theorem cn_X4_bound {q : Int32 → DD → Prop} {d : DD} {p0 : Int32} (h : (Cn SX MX0_hasPrisoner [.ref 1, .int p0] d (rI fun r2 d1 => ((r2 = 0 → q (-1) d1) ∧ (¬ r2 = 0 → (vp_in p0 6 ∧ q (d1 11 p0.toNatClampNeg) d1)))))) : Cn SX MX4_bound [.ref 0, .int p0] d (rI q) := by
  refine cn_of (ls := [.ref 0, .int p0]) (by decide) rfl rfl (Nat.le_of_ble_eq_true rfl) ?_
  refine ev_aload_n dX4_bound_0 rfl ?_
  refine ev_getr (M := MX4_bound) (r := 1) 0 dX4_bound_1 sX_0 ck4 (Nat.le_of_ble_eq_true rfl) rfl w256 ?_
  refine ev_iload_n dX4_bound_4 rfl ?_
  refine ev_callVi (M := MX4_bound) (M2 := MX0_hasPrisoner) (As := [.int p0]) (rest := []) dX4_bound_5 sX_1 ck0 rfl w498 moX0_hasPrisoner rfl ⟨Nat.le_of_ble_eq_true rfl, Nat.le_of_ble_eq_true rfl⟩ rfl rfl (Nat.le_of_ble_eq_true rfl) h (fun r2 d1 h => ?_)
  have h := rI_dn h
  refine ev_if_eq (M := MX4_bound) (tgt := 23) dX4_bound_8 rfl (fun c3 => ?_) (fun c3 => ?_)
  · have h := h.1 c3
    refine ev_iconst dX4_bound_23 ci_m1 ?_
    exact ev_ireti (M := MX4_bound) (ty := .int) dX4_bound_24 rfl rfl rfl h
  · have h := h.2 c3
    refine ev_aload_n dX4_bound_11 rfl ?_
    refine ev_getr (M := MX4_bound) (r := 1) 0 dX4_bound_12 sX_0 ck4 (Nat.le_of_ble_eq_true rfl) rfl w256 ?_
    refine ev_getr (M := MX4_bound) (r := 11) 12 dX4_bound_15 sX_1 ck0 (Nat.le_of_ble_eq_true rfl) rfl w130 ?_
    refine ev_iload_n dX4_bound_18 rfl ?_
    obtain ⟨g, h⟩ := h
    refine ev_iald dX4_bound_19 sX_11 g ?_
    refine ev_goto (M := MX4_bound) (tgt := 24) dX4_bound_20 rfl ?_
    exact ev_ireti (M := MX4_bound) (ty := .int) dX4_bound_24 rfl rfl rfl h
-- X4_write
theorem cn_X4_write {q : Int32 → DD → Prop} {d : DD} {p0 : Int32} {p1 : Int32} {p2 : Int32} (h : (Cn SX MX0_hasNote [.ref 1, .int p0, .int p1] d (rI fun r2 d1 => ((r2 = 0 → q (-1) d1) ∧ (¬ r2 = 0 → (Cn SX MX4_within [.int p2, .int 0, .int 9] d1 (rI fun r5 d4 => ((¬ r5 = 0 → (Cn SX MX4_exchange [.ref 6, .int ((p0 * 8) + p1), .int p2] d4 (rI fun r8 d7 => q r8 d7))) ∧ (r5 = 0 → q (-1) d4))))))))) : Cn SX MX4_write [.ref 0, .int p0, .int p1, .int p2] d (rI q) := by
  refine cn_of (ls := [.ref 0, .int p0, .int p1, .int p2]) (by decide) rfl rfl (Nat.le_of_ble_eq_true rfl) ?_
  refine ev_aload_n dX4_write_0 rfl ?_
  refine ev_getr (M := MX4_write) (r := 1) 0 dX4_write_1 sX_0 ck4 (Nat.le_of_ble_eq_true rfl) rfl w256 ?_
  refine ev_iload_n dX4_write_4 rfl ?_
  refine ev_iload_n dX4_write_5 rfl ?_
  refine ev_callVi (M := MX4_write) (M2 := MX0_hasNote) (As := [.int p0, .int p1]) (rest := []) dX4_write_6 sX_1 ck0 rfl w467 moX0_hasNote rfl ⟨Nat.le_of_ble_eq_true rfl, Nat.le_of_ble_eq_true rfl⟩ rfl rfl (Nat.le_of_ble_eq_true rfl) h (fun r2 d1 h => ?_)
  have h := rI_dn h
  refine ev_if_eq (M := MX4_write) (tgt := 22) dX4_write_9 rfl (fun c3 => ?_) (fun c3 => ?_)
  · have h := h.1 c3
    refine ev_iconst dX4_write_22 ci_m1 ?_
    exact ev_ireti (M := MX4_write) (ty := .int) dX4_write_23 rfl rfl rfl h
  · have h := h.2 c3
    refine ev_iload_n dX4_write_12 rfl ?_
    refine ev_iconst dX4_write_13 ci_0 ?_
    refine ev_bipush dX4_write_14 cb_9 ?_
    refine ev_callSi (M := MX4_write) (M2 := MX4_within) (As := [.int p2, .int 0, .int 9]) (rest := []) dX4_write_16 w300 moX4_within rfl ⟨Nat.le_of_ble_eq_true rfl, Nat.le_of_ble_eq_true rfl⟩ rfl rfl (Nat.le_of_ble_eq_true rfl) h (fun r5 d4 h => ?_)
    have h := rI_dn h
    refine ev_if_ne (M := MX4_write) (tgt := 24) dX4_write_19 rfl (fun c6 => ?_) (fun c6 => ?_)
    · have h := h.1 c6
      refine ev_aload_n dX4_write_24 rfl ?_
      refine ev_getr (M := MX4_write) (r := 1) 0 dX4_write_25 sX_0 ck4 (Nat.le_of_ble_eq_true rfl) rfl w256 ?_
      refine ev_getr (M := MX4_write) (r := 6) 7 dX4_write_28 sX_1 ck0 (Nat.le_of_ble_eq_true rfl) rfl w110 ?_
      refine ev_iload_n dX4_write_31 rfl ?_
      refine ev_bipush dX4_write_32 cb_8 ?_
      refine ev_imul dX4_write_34 ?_
      refine ev_iload_n dX4_write_35 rfl ?_
      refine ev_iadd dX4_write_36 ?_
      refine ev_iload_n dX4_write_37 rfl ?_
      refine ev_callSi (M := MX4_write) (M2 := MX4_exchange) (As := [.ref 6, .int ((p0 * 8) + p1), .int p2]) (rest := []) dX4_write_38 w506 moX4_exchange rfl ⟨Nat.le_of_ble_eq_true rfl, Nat.le_of_ble_eq_true rfl⟩ rfl rfl (Nat.le_of_ble_eq_true rfl) h (fun r8 d7 h => ?_)
      have h := rI_dn h
      exact ev_ireti (M := MX4_write) (ty := .int) dX4_write_41 rfl rfl rfl h
    · have h := h.2 c6
      refine ev_iconst dX4_write_22 ci_m1 ?_
      exact ev_ireti (M := MX4_write) (ty := .int) dX4_write_23 rfl rfl rfl h
-- X4_add
theorem cn_X4_add {q : Int32 → DD → Prop} {d : DD} {p0 : Int32} {p1 : Int32} (h : (Cn SX MX0_hasTune [.ref 1, .int p0] d (rI fun r2 d1 => ((r2 = 0 → q (-1) d1) ∧ (¬ r2 = 0 → (Cn SX MX4_within [.int p1, .int 0, .int 9] d1 (rI fun r5 d4 => ((¬ r5 = 0 → (vp_in p0 4 ∧ (∀ x7 : Int32, x7 = (d4 3 p0.toNatClampNeg) → ((x7 < 8 → (vp_in ((p0 * 8) + x7) 32 ∧ (∀ d9 : DD, d9 = (up d4 6 ((p0 * 8) + x7).toNatClampNeg p1) → (vp_in p0 4 ∧ (∀ d10 : DD, d10 = (up d9 3 p0.toNatClampNeg (x7 + 1)) → q (x7 + 1) d10))))) ∧ (¬ x7 < 8 → q (-3) d4))))) ∧ (r5 = 0 → q (-1) d4))))))))) : Cn SX MX4_add [.ref 0, .int p0, .int p1] d (rI q) := by
  refine cn_of (ls := [.ref 0, .int p0, .int p1, uJ]) (by decide) rfl rfl (Nat.le_of_ble_eq_true rfl) ?_
  refine ev_aload_n dX4_add_0 rfl ?_
  refine ev_getr (M := MX4_add) (r := 1) 0 dX4_add_1 sX_0 ck4 (Nat.le_of_ble_eq_true rfl) rfl w256 ?_
  refine ev_iload_n dX4_add_4 rfl ?_
  refine ev_callVi (M := MX4_add) (M2 := MX0_hasTune) (As := [.int p0]) (rest := []) dX4_add_5 sX_1 ck0 rfl w451 moX0_hasTune rfl ⟨Nat.le_of_ble_eq_true rfl, Nat.le_of_ble_eq_true rfl⟩ rfl rfl (Nat.le_of_ble_eq_true rfl) h (fun r2 d1 h => ?_)
  have h := rI_dn h
  refine ev_if_eq (M := MX4_add) (tgt := 21) dX4_add_8 rfl (fun c3 => ?_) (fun c3 => ?_)
  · have h := h.1 c3
    refine ev_iconst dX4_add_21 ci_m1 ?_
    exact ev_ireti (M := MX4_add) (ty := .int) dX4_add_22 rfl rfl rfl h
  · have h := h.2 c3
    refine ev_iload_n dX4_add_11 rfl ?_
    refine ev_iconst dX4_add_12 ci_0 ?_
    refine ev_bipush dX4_add_13 cb_9 ?_
    refine ev_callSi (M := MX4_add) (M2 := MX4_within) (As := [.int p1, .int 0, .int 9]) (rest := []) dX4_add_15 w300 moX4_within rfl ⟨Nat.le_of_ble_eq_true rfl, Nat.le_of_ble_eq_true rfl⟩ rfl rfl (Nat.le_of_ble_eq_true rfl) h (fun r5 d4 h => ?_)
    have h := rI_dn h
    refine ev_if_ne (M := MX4_add) (tgt := 23) dX4_add_18 rfl (fun c6 => ?_) (fun c6 => ?_)
    · have h := h.1 c6
      refine ev_aload_n dX4_add_23 rfl ?_
      refine ev_getr (M := MX4_add) (r := 1) 0 dX4_add_24 sX_0 ck4 (Nat.le_of_ble_eq_true rfl) rfl w256 ?_
      refine ev_getr (M := MX4_add) (r := 3) 4 dX4_add_27 sX_1 ck0 (Nat.le_of_ble_eq_true rfl) rfl w100 ?_
      refine ev_iload_n dX4_add_30 rfl ?_
      obtain ⟨g, h⟩ := h
      refine ev_iald dX4_add_31 sX_3 g ?_
      refine ev_topi (fun x7 ex7 => ?_)
      have h := h x7 ex7
      refine ev_istore_n (M := MX4_add) (ls2 := [.ref 0, .int p0, .int p1, .int x7]) 3 dX4_add_32 rfl (Nat.le_of_ble_eq_true rfl) rfl ?_
      refine ev_iload_n dX4_add_33 rfl ?_
      refine ev_bipush dX4_add_34 cb_8 ?_
      refine ev_icmp_lt (M := MX4_add) (tgt := 42) dX4_add_36 rfl (fun c8 => ?_) (fun c8 => ?_)
      · have h := h.1 c8
        refine ev_aload_n dX4_add_42 rfl ?_
        refine ev_getr (M := MX4_add) (r := 1) 0 dX4_add_43 sX_0 ck4 (Nat.le_of_ble_eq_true rfl) rfl w256 ?_
        refine ev_getr (M := MX4_add) (r := 6) 7 dX4_add_46 sX_1 ck0 (Nat.le_of_ble_eq_true rfl) rfl w110 ?_
        refine ev_iload_n dX4_add_49 rfl ?_
        refine ev_bipush dX4_add_50 cb_8 ?_
        refine ev_imul dX4_add_52 ?_
        refine ev_iload_n dX4_add_53 rfl ?_
        refine ev_iadd dX4_add_54 ?_
        refine ev_iload_n dX4_add_55 rfl ?_
        obtain ⟨g, h⟩ := h
        refine ev_iast dX4_add_56 sX_6 g ?_
        refine ev_topd (fun d9 ed9 => ?_)
        have h := h d9 ed9
        refine ev_aload_n dX4_add_57 rfl ?_
        refine ev_getr (M := MX4_add) (r := 1) 0 dX4_add_58 sX_0 ck4 (Nat.le_of_ble_eq_true rfl) rfl w256 ?_
        refine ev_getr (M := MX4_add) (r := 3) 4 dX4_add_61 sX_1 ck0 (Nat.le_of_ble_eq_true rfl) rfl w100 ?_
        refine ev_iload_n dX4_add_64 rfl ?_
        refine ev_iload_n dX4_add_65 rfl ?_
        refine ev_iconst dX4_add_66 ci_1 ?_
        refine ev_iadd dX4_add_67 ?_
        obtain ⟨g, h⟩ := h
        refine ev_iast dX4_add_68 sX_3 g ?_
        refine ev_topd (fun d10 ed10 => ?_)
        have h := h d10 ed10
        refine ev_iload_n dX4_add_69 rfl ?_
        refine ev_iconst dX4_add_70 ci_1 ?_
        refine ev_iadd dX4_add_71 ?_
        exact ev_ireti (M := MX4_add) (ty := .int) dX4_add_72 rfl rfl rfl h
      · have h := h.2 c8
        refine ev_bipush dX4_add_39 cb_m3 ?_
        exact ev_ireti (M := MX4_add) (ty := .int) dX4_add_41 rfl rfl rfl h
    · have h := h.2 c6
      refine ev_iconst dX4_add_21 ci_m1 ?_
      exact ev_ireti (M := MX4_add) (ty := .int) dX4_add_22 rfl rfl rfl h
-- X4_set
set_option maxRecDepth 4000 in
theorem cn_X4_set {q : Int32 → DD → Prop} {d : DD} {p0 : Int32} {p1 : Int32} {p2 : Int32} (h : (Cn SX MX0_hasTune [.ref 1, .int p0] d (rI fun r2 d1 => ((¬ r2 = 0 → ((p1 = 0 → (Cn SX MX4_within [.int p2, .int 0, .int 3] d1 (rI fun r6 d5 => ((r6 = 0 → q (-1) d5) ∧ (¬ r6 = 0 → (Cn SX MX4_exchange [.ref 2, .int p0, .int p2] d5 (rI fun r9 d8 => q r9 d8))))))) ∧ (¬ p1 = 0 → ((p1 = 1 → q (-1) d1) ∧ (¬ p1 = 1 → ((p1 = 2 → (Cn SX MX4_within [.int p2, .int 1, .int 9] d1 (rI fun r13 d12 => ((r13 = 0 → q (-1) d12) ∧ (¬ r13 = 0 → (Cn SX MX4_exchange [.ref 4, .int p0, .int p2] d12 (rI fun r16 d15 => q r16 d15))))))) ∧ (¬ p1 = 2 → ((p1 = 3 → (Cn SX MX4_within [.int p2, .int 0, .int 9] d1 (rI fun r19 d18 => ((r19 = 0 → q (-1) d18) ∧ (¬ r19 = 0 → (Cn SX MX4_exchange [.ref 5, .int p0, .int p2] d18 (rI fun r22 d21 => q r22 d21))))))) ∧ (¬ p1 = 3 → q (-1) d1))))))))) ∧ (r2 = 0 → q (-1) d1))))) : Cn SX MX4_set [.ref 0, .int p0, .int p1, .int p2] d (rI q) := by
  refine cn_of (ls := [.ref 0, .int p0, .int p1, .int p2]) (by decide) rfl rfl (Nat.le_of_ble_eq_true rfl) ?_
  refine ev_aload_n dX4_set_0 rfl ?_
  refine ev_getr (M := MX4_set) (r := 1) 0 dX4_set_1 sX_0 ck4 (Nat.le_of_ble_eq_true rfl) rfl w256 ?_
  refine ev_iload_n dX4_set_4 rfl ?_
  refine ev_callVi (M := MX4_set) (M2 := MX0_hasTune) (As := [.int p0]) (rest := []) dX4_set_5 sX_1 ck0 rfl w451 moX0_hasTune rfl ⟨Nat.le_of_ble_eq_true rfl, Nat.le_of_ble_eq_true rfl⟩ rfl rfl (Nat.le_of_ble_eq_true rfl) h (fun r2 d1 h => ?_)
  have h := rI_dn h
  refine ev_if_ne (M := MX4_set) (tgt := 13) dX4_set_8 rfl (fun c3 => ?_) (fun c3 => ?_)
  · have h := h.1 c3
    refine ev_iload_n dX4_set_13 rfl ?_
    by_cases c4 : p1 = 0
    · have h := h.1 c4
      refine ev_tsw (M := MX4_set) (tgt := 44) dX4_set_14 0 (sw_eq 0 c4 (by decide)) (by decide) (by decide) rfl rfl ?_
      refine ev_iload_n dX4_set_44 rfl ?_
      refine ev_iconst dX4_set_45 ci_0 ?_
      refine ev_iconst dX4_set_46 ci_3 ?_
      refine ev_callSi (M := MX4_set) (M2 := MX4_within) (As := [.int p2, .int 0, .int 3]) (rest := []) dX4_set_47 w300 moX4_within rfl ⟨Nat.le_of_ble_eq_true rfl, Nat.le_of_ble_eq_true rfl⟩ rfl rfl (Nat.le_of_ble_eq_true rfl) h (fun r6 d5 h => ?_)
      have h := rI_dn h
      refine ev_if_eq (M := MX4_set) (tgt := 68) dX4_set_50 rfl (fun c7 => ?_) (fun c7 => ?_)
      · have h := h.1 c7
        refine ev_iconst dX4_set_68 ci_m1 ?_
        exact ev_ireti (M := MX4_set) (ty := .int) dX4_set_69 rfl rfl rfl h
      · have h := h.2 c7
        refine ev_aload_n dX4_set_53 rfl ?_
        refine ev_getr (M := MX4_set) (r := 1) 0 dX4_set_54 sX_0 ck4 (Nat.le_of_ble_eq_true rfl) rfl w256 ?_
        refine ev_getr (M := MX4_set) (r := 2) 3 dX4_set_57 sX_1 ck0 (Nat.le_of_ble_eq_true rfl) rfl w96 ?_
        refine ev_iload_n dX4_set_60 rfl ?_
        refine ev_iload_n dX4_set_61 rfl ?_
        refine ev_callSi (M := MX4_set) (M2 := MX4_exchange) (As := [.ref 2, .int p0, .int p2]) (rest := []) dX4_set_62 w506 moX4_exchange rfl ⟨Nat.le_of_ble_eq_true rfl, Nat.le_of_ble_eq_true rfl⟩ rfl rfl (Nat.le_of_ble_eq_true rfl) h (fun r9 d8 h => ?_)
        have h := rI_dn h
        refine ev_goto (M := MX4_set) (tgt := 69) dX4_set_65 rfl ?_
        exact ev_ireti (M := MX4_set) (ty := .int) dX4_set_69 rfl rfl rfl h
    · have h := h.2 c4
      by_cases c10 : p1 = 1
      · have h := h.1 c10
        refine ev_tsw (M := MX4_set) (tgt := 124) dX4_set_14 1 (sw_eq 1 c10 (by decide)) (by decide) (by decide) rfl rfl ?_
        refine ev_iconst dX4_set_124 ci_m1 ?_
        exact ev_ireti (M := MX4_set) (ty := .int) dX4_set_125 rfl rfl rfl h
      · have h := h.2 c10
        by_cases c11 : p1 = 2
        · have h := h.1 c11
          refine ev_tsw (M := MX4_set) (tgt := 70) dX4_set_14 2 (sw_eq 2 c11 (by decide)) (by decide) (by decide) rfl rfl ?_
          refine ev_iload_n dX4_set_70 rfl ?_
          refine ev_iconst dX4_set_71 ci_1 ?_
          refine ev_bipush dX4_set_72 cb_9 ?_
          refine ev_callSi (M := MX4_set) (M2 := MX4_within) (As := [.int p2, .int 1, .int 9]) (rest := []) dX4_set_74 w300 moX4_within rfl ⟨Nat.le_of_ble_eq_true rfl, Nat.le_of_ble_eq_true rfl⟩ rfl rfl (Nat.le_of_ble_eq_true rfl) h (fun r13 d12 h => ?_)
          have h := rI_dn h
          refine ev_if_eq (M := MX4_set) (tgt := 95) dX4_set_77 rfl (fun c14 => ?_) (fun c14 => ?_)
          · have h := h.1 c14
            refine ev_iconst dX4_set_95 ci_m1 ?_
            exact ev_ireti (M := MX4_set) (ty := .int) dX4_set_96 rfl rfl rfl h
          · have h := h.2 c14
            refine ev_aload_n dX4_set_80 rfl ?_
            refine ev_getr (M := MX4_set) (r := 1) 0 dX4_set_81 sX_0 ck4 (Nat.le_of_ble_eq_true rfl) rfl w256 ?_
            refine ev_getr (M := MX4_set) (r := 4) 5 dX4_set_84 sX_1 ck0 (Nat.le_of_ble_eq_true rfl) rfl w103 ?_
            refine ev_iload_n dX4_set_87 rfl ?_
            refine ev_iload_n dX4_set_88 rfl ?_
            refine ev_callSi (M := MX4_set) (M2 := MX4_exchange) (As := [.ref 4, .int p0, .int p2]) (rest := []) dX4_set_89 w506 moX4_exchange rfl ⟨Nat.le_of_ble_eq_true rfl, Nat.le_of_ble_eq_true rfl⟩ rfl rfl (Nat.le_of_ble_eq_true rfl) h (fun r16 d15 h => ?_)
            have h := rI_dn h
            refine ev_goto (M := MX4_set) (tgt := 96) dX4_set_92 rfl ?_
            exact ev_ireti (M := MX4_set) (ty := .int) dX4_set_96 rfl rfl rfl h
        · have h := h.2 c11
          by_cases c17 : p1 = 3
          · have h := h.1 c17
            refine ev_tsw (M := MX4_set) (tgt := 97) dX4_set_14 3 (sw_eq 3 c17 (by decide)) (by decide) (by decide) rfl rfl ?_
            refine ev_iload_n dX4_set_97 rfl ?_
            refine ev_iconst dX4_set_98 ci_0 ?_
            refine ev_bipush dX4_set_99 cb_9 ?_
            refine ev_callSi (M := MX4_set) (M2 := MX4_within) (As := [.int p2, .int 0, .int 9]) (rest := []) dX4_set_101 w300 moX4_within rfl ⟨Nat.le_of_ble_eq_true rfl, Nat.le_of_ble_eq_true rfl⟩ rfl rfl (Nat.le_of_ble_eq_true rfl) h (fun r19 d18 h => ?_)
            have h := rI_dn h
            refine ev_if_eq (M := MX4_set) (tgt := 122) dX4_set_104 rfl (fun c20 => ?_) (fun c20 => ?_)
            · have h := h.1 c20
              refine ev_iconst dX4_set_122 ci_m1 ?_
              exact ev_ireti (M := MX4_set) (ty := .int) dX4_set_123 rfl rfl rfl h
            · have h := h.2 c20
              refine ev_aload_n dX4_set_107 rfl ?_
              refine ev_getr (M := MX4_set) (r := 1) 0 dX4_set_108 sX_0 ck4 (Nat.le_of_ble_eq_true rfl) rfl w256 ?_
              refine ev_getr (M := MX4_set) (r := 5) 6 dX4_set_111 sX_1 ck0 (Nat.le_of_ble_eq_true rfl) rfl w107 ?_
              refine ev_iload_n dX4_set_114 rfl ?_
              refine ev_iload_n dX4_set_115 rfl ?_
              refine ev_callSi (M := MX4_set) (M2 := MX4_exchange) (As := [.ref 5, .int p0, .int p2]) (rest := []) dX4_set_116 w506 moX4_exchange rfl ⟨Nat.le_of_ble_eq_true rfl, Nat.le_of_ble_eq_true rfl⟩ rfl rfl (Nat.le_of_ble_eq_true rfl) h (fun r22 d21 h => ?_)
              have h := rI_dn h
              refine ev_goto (M := MX4_set) (tgt := 123) dX4_set_119 rfl ?_
              exact ev_ireti (M := MX4_set) (ty := .int) dX4_set_123 rfl rfl rfl h
          · have h := h.2 c17
            have nc4 := sw_ne 0 c4 (by decide)
            have nc10 := sw_ne 1 c10 (by decide)
            have nc11 := sw_ne 2 c11 (by decide)
            have nc17 := sw_ne 3 c17 (by decide)
            refine ev_tswD (M := MX4_set) (tgt := 124) dX4_set_14 (by omega) rfl ?_
            refine ev_iconst dX4_set_124 ci_m1 ?_
            exact ev_ireti (M := MX4_set) (ty := .int) dX4_set_125 rfl rfl rfl h
  · have h := h.2 c3
    refine ev_iconst dX4_set_11 ci_m1 ?_
    exact ev_ireti (M := MX4_set) (ty := .int) dX4_set_12 rfl rfl rfl h
-- X4_hire
set_option maxRecDepth 4000 in
theorem cn_X4_hire {q : Int32 → DD → Prop} {d : DD} {p0 : Int32} {p1 : Int32} {p2 : Int32} (h : (Cn SX MX0_hasPlayer [.ref 1, .int p0] d (rI fun r2 d1 => ((¬ r2 = 0 → ((p1 = 0 → (Cn SX MX4_within [.int p2, .int 0, .int 9] d1 (rI fun r6 d5 => ((r6 = 0 → q (-1) d5) ∧ (¬ r6 = 0 → (Cn SX MX4_exchange [.ref 7, .int p0, .int p2] d5 (rI fun r9 d8 => q r9 d8))))))) ∧ (¬ p1 = 0 → ((p1 = 1 → (Cn SX MX4_within [.int p2, .int 1, .int 99] d1 (rI fun r12 d11 => ((r12 = 0 → q (-1) d11) ∧ (¬ r12 = 0 → (Cn SX MX4_exchange [.ref 8, .int p0, .int p2] d11 (rI fun r15 d14 => q r15 d14))))))) ∧ (¬ p1 = 1 → ((p1 = 2 → (Cn SX MX4_within [.int p2, .int 0, .int 9] d1 (rI fun r18 d17 => ((r18 = 0 → q (-1) d17) ∧ (¬ r18 = 0 → (Cn SX MX4_exchange [.ref 9, .int p0, .int p2] d17 (rI fun r21 d20 => q r21 d20))))))) ∧ (¬ p1 = 2 → ((p1 = 3 → (Cn SX MX0_hasTune [.ref 1, .int p2] d1 (rI fun r24 d23 => ((r24 = 0 → q (-1) d23) ∧ (¬ r24 = 0 → (Cn SX MX4_exchange [.ref 10, .int p0, .int p2] d23 (rI fun r27 d26 => q r27 d26))))))) ∧ (¬ p1 = 3 → q (-1) d1))))))))) ∧ (r2 = 0 → q (-1) d1))))) : Cn SX MX4_hire [.ref 0, .int p0, .int p1, .int p2] d (rI q) := by
  refine cn_of (ls := [.ref 0, .int p0, .int p1, .int p2]) (by decide) rfl rfl (Nat.le_of_ble_eq_true rfl) ?_
  refine ev_aload_n dX4_hire_0 rfl ?_
  refine ev_getr (M := MX4_hire) (r := 1) 0 dX4_hire_1 sX_0 ck4 (Nat.le_of_ble_eq_true rfl) rfl w256 ?_
  refine ev_iload_n dX4_hire_4 rfl ?_
  refine ev_callVi (M := MX4_hire) (M2 := MX0_hasPlayer) (As := [.int p0]) (rest := []) dX4_hire_5 sX_1 ck0 rfl w490 moX0_hasPlayer rfl ⟨Nat.le_of_ble_eq_true rfl, Nat.le_of_ble_eq_true rfl⟩ rfl rfl (Nat.le_of_ble_eq_true rfl) h (fun r2 d1 h => ?_)
  have h := rI_dn h
  refine ev_if_ne (M := MX4_hire) (tgt := 13) dX4_hire_8 rfl (fun c3 => ?_) (fun c3 => ?_)
  · have h := h.1 c3
    refine ev_iload_n dX4_hire_13 rfl ?_
    by_cases c4 : p1 = 0
    · have h := h.1 c4
      refine ev_tsw (M := MX4_hire) (tgt := 44) dX4_hire_14 0 (sw_eq 0 c4 (by decide)) (by decide) (by decide) rfl rfl ?_
      refine ev_iload_n dX4_hire_44 rfl ?_
      refine ev_iconst dX4_hire_45 ci_0 ?_
      refine ev_bipush dX4_hire_46 cb_9 ?_
      refine ev_callSi (M := MX4_hire) (M2 := MX4_within) (As := [.int p2, .int 0, .int 9]) (rest := []) dX4_hire_48 w300 moX4_within rfl ⟨Nat.le_of_ble_eq_true rfl, Nat.le_of_ble_eq_true rfl⟩ rfl rfl (Nat.le_of_ble_eq_true rfl) h (fun r6 d5 h => ?_)
      have h := rI_dn h
      refine ev_if_eq (M := MX4_hire) (tgt := 69) dX4_hire_51 rfl (fun c7 => ?_) (fun c7 => ?_)
      · have h := h.1 c7
        refine ev_iconst dX4_hire_69 ci_m1 ?_
        exact ev_ireti (M := MX4_hire) (ty := .int) dX4_hire_70 rfl rfl rfl h
      · have h := h.2 c7
        refine ev_aload_n dX4_hire_54 rfl ?_
        refine ev_getr (M := MX4_hire) (r := 1) 0 dX4_hire_55 sX_0 ck4 (Nat.le_of_ble_eq_true rfl) rfl w256 ?_
        refine ev_getr (M := MX4_hire) (r := 7) 8 dX4_hire_58 sX_1 ck0 (Nat.le_of_ble_eq_true rfl) rfl w114 ?_
        refine ev_iload_n dX4_hire_61 rfl ?_
        refine ev_iload_n dX4_hire_62 rfl ?_
        refine ev_callSi (M := MX4_hire) (M2 := MX4_exchange) (As := [.ref 7, .int p0, .int p2]) (rest := []) dX4_hire_63 w506 moX4_exchange rfl ⟨Nat.le_of_ble_eq_true rfl, Nat.le_of_ble_eq_true rfl⟩ rfl rfl (Nat.le_of_ble_eq_true rfl) h (fun r9 d8 h => ?_)
        have h := rI_dn h
        refine ev_goto (M := MX4_hire) (tgt := 70) dX4_hire_66 rfl ?_
        exact ev_ireti (M := MX4_hire) (ty := .int) dX4_hire_70 rfl rfl rfl h
    · have h := h.2 c4
      by_cases c10 : p1 = 1
      · have h := h.1 c10
        refine ev_tsw (M := MX4_hire) (tgt := 71) dX4_hire_14 1 (sw_eq 1 c10 (by decide)) (by decide) (by decide) rfl rfl ?_
        refine ev_iload_n dX4_hire_71 rfl ?_
        refine ev_iconst dX4_hire_72 ci_1 ?_
        refine ev_bipush dX4_hire_73 cb_99 ?_
        refine ev_callSi (M := MX4_hire) (M2 := MX4_within) (As := [.int p2, .int 1, .int 99]) (rest := []) dX4_hire_75 w300 moX4_within rfl ⟨Nat.le_of_ble_eq_true rfl, Nat.le_of_ble_eq_true rfl⟩ rfl rfl (Nat.le_of_ble_eq_true rfl) h (fun r12 d11 h => ?_)
        have h := rI_dn h
        refine ev_if_eq (M := MX4_hire) (tgt := 96) dX4_hire_78 rfl (fun c13 => ?_) (fun c13 => ?_)
        · have h := h.1 c13
          refine ev_iconst dX4_hire_96 ci_m1 ?_
          exact ev_ireti (M := MX4_hire) (ty := .int) dX4_hire_97 rfl rfl rfl h
        · have h := h.2 c13
          refine ev_aload_n dX4_hire_81 rfl ?_
          refine ev_getr (M := MX4_hire) (r := 1) 0 dX4_hire_82 sX_0 ck4 (Nat.le_of_ble_eq_true rfl) rfl w256 ?_
          refine ev_getr (M := MX4_hire) (r := 8) 9 dX4_hire_85 sX_1 ck0 (Nat.le_of_ble_eq_true rfl) rfl w118 ?_
          refine ev_iload_n dX4_hire_88 rfl ?_
          refine ev_iload_n dX4_hire_89 rfl ?_
          refine ev_callSi (M := MX4_hire) (M2 := MX4_exchange) (As := [.ref 8, .int p0, .int p2]) (rest := []) dX4_hire_90 w506 moX4_exchange rfl ⟨Nat.le_of_ble_eq_true rfl, Nat.le_of_ble_eq_true rfl⟩ rfl rfl (Nat.le_of_ble_eq_true rfl) h (fun r15 d14 h => ?_)
          have h := rI_dn h
          refine ev_goto (M := MX4_hire) (tgt := 97) dX4_hire_93 rfl ?_
          exact ev_ireti (M := MX4_hire) (ty := .int) dX4_hire_97 rfl rfl rfl h
      · have h := h.2 c10
        by_cases c16 : p1 = 2
        · have h := h.1 c16
          refine ev_tsw (M := MX4_hire) (tgt := 98) dX4_hire_14 2 (sw_eq 2 c16 (by decide)) (by decide) (by decide) rfl rfl ?_
          refine ev_iload_n dX4_hire_98 rfl ?_
          refine ev_iconst dX4_hire_99 ci_0 ?_
          refine ev_bipush dX4_hire_100 cb_9 ?_
          refine ev_callSi (M := MX4_hire) (M2 := MX4_within) (As := [.int p2, .int 0, .int 9]) (rest := []) dX4_hire_102 w300 moX4_within rfl ⟨Nat.le_of_ble_eq_true rfl, Nat.le_of_ble_eq_true rfl⟩ rfl rfl (Nat.le_of_ble_eq_true rfl) h (fun r18 d17 h => ?_)
          have h := rI_dn h
          refine ev_if_eq (M := MX4_hire) (tgt := 123) dX4_hire_105 rfl (fun c19 => ?_) (fun c19 => ?_)
          · have h := h.1 c19
            refine ev_iconst dX4_hire_123 ci_m1 ?_
            exact ev_ireti (M := MX4_hire) (ty := .int) dX4_hire_124 rfl rfl rfl h
          · have h := h.2 c19
            refine ev_aload_n dX4_hire_108 rfl ?_
            refine ev_getr (M := MX4_hire) (r := 1) 0 dX4_hire_109 sX_0 ck4 (Nat.le_of_ble_eq_true rfl) rfl w256 ?_
            refine ev_getr (M := MX4_hire) (r := 9) 10 dX4_hire_112 sX_1 ck0 (Nat.le_of_ble_eq_true rfl) rfl w121 ?_
            refine ev_iload_n dX4_hire_115 rfl ?_
            refine ev_iload_n dX4_hire_116 rfl ?_
            refine ev_callSi (M := MX4_hire) (M2 := MX4_exchange) (As := [.ref 9, .int p0, .int p2]) (rest := []) dX4_hire_117 w506 moX4_exchange rfl ⟨Nat.le_of_ble_eq_true rfl, Nat.le_of_ble_eq_true rfl⟩ rfl rfl (Nat.le_of_ble_eq_true rfl) h (fun r21 d20 h => ?_)
            have h := rI_dn h
            refine ev_goto (M := MX4_hire) (tgt := 124) dX4_hire_120 rfl ?_
            exact ev_ireti (M := MX4_hire) (ty := .int) dX4_hire_124 rfl rfl rfl h
        · have h := h.2 c16
          by_cases c22 : p1 = 3
          · have h := h.1 c22
            refine ev_tsw (M := MX4_hire) (tgt := 125) dX4_hire_14 3 (sw_eq 3 c22 (by decide)) (by decide) (by decide) rfl rfl ?_
            refine ev_aload_n dX4_hire_125 rfl ?_
            refine ev_getr (M := MX4_hire) (r := 1) 0 dX4_hire_126 sX_0 ck4 (Nat.le_of_ble_eq_true rfl) rfl w256 ?_
            refine ev_iload_n dX4_hire_129 rfl ?_
            refine ev_callVi (M := MX4_hire) (M2 := MX0_hasTune) (As := [.int p2]) (rest := []) dX4_hire_130 sX_1 ck0 rfl w451 moX0_hasTune rfl ⟨Nat.le_of_ble_eq_true rfl, Nat.le_of_ble_eq_true rfl⟩ rfl rfl (Nat.le_of_ble_eq_true rfl) h (fun r24 d23 h => ?_)
            have h := rI_dn h
            refine ev_if_eq (M := MX4_hire) (tgt := 151) dX4_hire_133 rfl (fun c25 => ?_) (fun c25 => ?_)
            · have h := h.1 c25
              refine ev_iconst dX4_hire_151 ci_m1 ?_
              exact ev_ireti (M := MX4_hire) (ty := .int) dX4_hire_152 rfl rfl rfl h
            · have h := h.2 c25
              refine ev_aload_n dX4_hire_136 rfl ?_
              refine ev_getr (M := MX4_hire) (r := 1) 0 dX4_hire_137 sX_0 ck4 (Nat.le_of_ble_eq_true rfl) rfl w256 ?_
              refine ev_getr (M := MX4_hire) (r := 10) 11 dX4_hire_140 sX_1 ck0 (Nat.le_of_ble_eq_true rfl) rfl w126 ?_
              refine ev_iload_n dX4_hire_143 rfl ?_
              refine ev_iload_n dX4_hire_144 rfl ?_
              refine ev_callSi (M := MX4_hire) (M2 := MX4_exchange) (As := [.ref 10, .int p0, .int p2]) (rest := []) dX4_hire_145 w506 moX4_exchange rfl ⟨Nat.le_of_ble_eq_true rfl, Nat.le_of_ble_eq_true rfl⟩ rfl rfl (Nat.le_of_ble_eq_true rfl) h (fun r27 d26 h => ?_)
              have h := rI_dn h
              refine ev_goto (M := MX4_hire) (tgt := 152) dX4_hire_148 rfl ?_
              exact ev_ireti (M := MX4_hire) (ty := .int) dX4_hire_152 rfl rfl rfl h
          · have h := h.2 c22
            have nc4 := sw_ne 0 c4 (by decide)
            have nc10 := sw_ne 1 c10 (by decide)
            have nc16 := sw_ne 2 c16 (by decide)
            have nc22 := sw_ne 3 c22 (by decide)
            refine ev_tswD (M := MX4_hire) (tgt := 153) dX4_hire_14 (by omega) rfl ?_
            refine ev_iconst dX4_hire_153 ci_m1 ?_
            exact ev_ireti (M := MX4_hire) (ty := .int) dX4_hire_154 rfl rfl rfl h
  · have h := h.2 c3
    refine ev_iconst dX4_hire_11 ci_m1 ?_
    exact ev_ireti (M := MX4_hire) (ty := .int) dX4_hire_12 rfl rfl rfl h
-- X4_bind
theorem cn_X4_bind {q : Int32 → DD → Prop} {d : DD} {p0 : Int32} {p1 : Int32} (h : (Cn SX MX0_rebind [.ref 1, .int p0, .int p1] d (rI fun r2 d1 => q r2 d1))) : Cn SX MX4_bind [.ref 0, .int p0, .int p1] d (rI q) := by
  refine cn_of (ls := [.ref 0, .int p0, .int p1]) (by decide) rfl rfl (Nat.le_of_ble_eq_true rfl) ?_
  refine ev_aload_n dX4_bind_0 rfl ?_
  refine ev_getr (M := MX4_bind) (r := 1) 0 dX4_bind_1 sX_0 ck4 (Nat.le_of_ble_eq_true rfl) rfl w256 ?_
  refine ev_iload_n dX4_bind_4 rfl ?_
  refine ev_iload_n dX4_bind_5 rfl ?_
  refine ev_callVi (M := MX4_bind) (M2 := MX0_rebind) (As := [.int p0, .int p1]) (rest := []) dX4_bind_6 sX_1 ck0 rfl w525 moX0_rebind rfl ⟨Nat.le_of_ble_eq_true rfl, Nat.le_of_ble_eq_true rfl⟩ rfl rfl (Nat.le_of_ble_eq_true rfl) h (fun r2 d1 h => ?_)
  have h := rI_dn h
  exact ev_ireti (M := MX4_bind) (ty := .int) dX4_bind_9 rfl rfl rfl h
-- X4_out
theorem cn_X4_out {q : Int32 → DD → Prop} {d : DD} {p0 : Int32} {p1 : Int32} (h : (Cn SX MX0_hasPrisoner [.ref 1, .int p0] d (rI fun r2 d1 => ((r2 = 0 → q (-1) d1) ∧ (¬ r2 = 0 → (Cn SX MX4_within [.int p1, .int 0, .int 1] d1 (rI fun r5 d4 => ((¬ r5 = 0 → (vp_in p0 6 ∧ (Cn SX MX4_over [.ref 0, .int (d4 11 p0.toNatClampNeg), .int p1] d4 (rI fun r8 d7 => q r8 d7)))) ∧ (r5 = 0 → q (-1) d4))))))))) : Cn SX MX4_out [.ref 0, .int p0, .int p1] d (rI q) := by
  refine cn_of (ls := [.ref 0, .int p0, .int p1]) (by decide) rfl rfl (Nat.le_of_ble_eq_true rfl) ?_
  refine ev_aload_n dX4_out_0 rfl ?_
  refine ev_getr (M := MX4_out) (r := 1) 0 dX4_out_1 sX_0 ck4 (Nat.le_of_ble_eq_true rfl) rfl w256 ?_
  refine ev_iload_n dX4_out_4 rfl ?_
  refine ev_callVi (M := MX4_out) (M2 := MX0_hasPrisoner) (As := [.int p0]) (rest := []) dX4_out_5 sX_1 ck0 rfl w498 moX0_hasPrisoner rfl ⟨Nat.le_of_ble_eq_true rfl, Nat.le_of_ble_eq_true rfl⟩ rfl rfl (Nat.le_of_ble_eq_true rfl) h (fun r2 d1 h => ?_)
  have h := rI_dn h
  refine ev_if_eq (M := MX4_out) (tgt := 20) dX4_out_8 rfl (fun c3 => ?_) (fun c3 => ?_)
  · have h := h.1 c3
    refine ev_iconst dX4_out_20 ci_m1 ?_
    exact ev_ireti (M := MX4_out) (ty := .int) dX4_out_21 rfl rfl rfl h
  · have h := h.2 c3
    refine ev_iload_n dX4_out_11 rfl ?_
    refine ev_iconst dX4_out_12 ci_0 ?_
    refine ev_iconst dX4_out_13 ci_1 ?_
    refine ev_callSi (M := MX4_out) (M2 := MX4_within) (As := [.int p1, .int 0, .int 1]) (rest := []) dX4_out_14 w300 moX4_within rfl ⟨Nat.le_of_ble_eq_true rfl, Nat.le_of_ble_eq_true rfl⟩ rfl rfl (Nat.le_of_ble_eq_true rfl) h (fun r5 d4 h => ?_)
    have h := rI_dn h
    refine ev_if_ne (M := MX4_out) (tgt := 22) dX4_out_17 rfl (fun c6 => ?_) (fun c6 => ?_)
    · have h := h.1 c6
      refine ev_aload_n dX4_out_22 rfl ?_
      refine ev_aload_n dX4_out_23 rfl ?_
      refine ev_getr (M := MX4_out) (r := 1) 0 dX4_out_24 sX_0 ck4 (Nat.le_of_ble_eq_true rfl) rfl w256 ?_
      refine ev_getr (M := MX4_out) (r := 11) 12 dX4_out_27 sX_1 ck0 (Nat.le_of_ble_eq_true rfl) rfl w130 ?_
      refine ev_iload_n dX4_out_30 rfl ?_
      obtain ⟨g, h⟩ := h
      refine ev_iald dX4_out_31 sX_11 g ?_
      refine ev_iload_n dX4_out_32 rfl ?_
      refine ev_callVi (M := MX4_out) (M2 := MX4_over) (As := [.int (d4 11 p0.toNatClampNeg), .int p1]) (rest := []) dX4_out_33 sX_0 ck4 rfl w535 moX4_over rfl ⟨Nat.le_of_ble_eq_true rfl, Nat.le_of_ble_eq_true rfl⟩ rfl rfl (Nat.le_of_ble_eq_true rfl) h (fun r8 d7 h => ?_)
      have h := rI_dn h
      exact ev_ireti (M := MX4_out) (ty := .int) dX4_out_36 rfl rfl rfl h
    · have h := h.2 c6
      refine ev_iconst dX4_out_20 ci_m1 ?_
      exact ev_ireti (M := MX4_out) (ty := .int) dX4_out_21 rfl rfl rfl h
-- X4_over
theorem cn_X4_over {q : Int32 → DD → Prop} {d : DD} {p0 : Int32} {p1 : Int32} (h : (Cn SX MX0_hasTune [.ref 1, .int p0] d (rI fun r2 d1 => ((r2 = 0 → q (-1) d1) ∧ (¬ r2 = 0 → (Cn SX MX4_within [.int p1, .int 0, .int 2] d1 (rI fun r5 d4 => ((¬ r5 = 0 → (Cn SX MX1_run [.ref 38, .ref 1, .int 0] d4 (rV fun d7 => ((p1 = 0 → (vp_in p0 4 ∧ q (d7 39 p0.toNatClampNeg) d7)) ∧ (¬ p1 = 0 → ((p1 = 1 → (vp_in p0 4 ∧ q (d7 40 p0.toNatClampNeg) d7)) ∧ (¬ p1 = 1 → (vp_in p0 4 ∧ q (d7 41 p0.toNatClampNeg) d7)))))))) ∧ (r5 = 0 → q (-1) d4))))))))) : Cn SX MX4_over [.ref 0, .int p0, .int p1] d (rI q) := by
  refine cn_of (ls := [.ref 0, .int p0, .int p1]) (by decide) rfl rfl (Nat.le_of_ble_eq_true rfl) ?_
  refine ev_aload_n dX4_over_0 rfl ?_
  refine ev_getr (M := MX4_over) (r := 1) 0 dX4_over_1 sX_0 ck4 (Nat.le_of_ble_eq_true rfl) rfl w256 ?_
  refine ev_iload_n dX4_over_4 rfl ?_
  refine ev_callVi (M := MX4_over) (M2 := MX0_hasTune) (As := [.int p0]) (rest := []) dX4_over_5 sX_1 ck0 rfl w451 moX0_hasTune rfl ⟨Nat.le_of_ble_eq_true rfl, Nat.le_of_ble_eq_true rfl⟩ rfl rfl (Nat.le_of_ble_eq_true rfl) h (fun r2 d1 h => ?_)
  have h := rI_dn h
  refine ev_if_eq (M := MX4_over) (tgt := 20) dX4_over_8 rfl (fun c3 => ?_) (fun c3 => ?_)
  · have h := h.1 c3
    refine ev_iconst dX4_over_20 ci_m1 ?_
    exact ev_ireti (M := MX4_over) (ty := .int) dX4_over_21 rfl rfl rfl h
  · have h := h.2 c3
    refine ev_iload_n dX4_over_11 rfl ?_
    refine ev_iconst dX4_over_12 ci_0 ?_
    refine ev_iconst dX4_over_13 ci_2 ?_
    refine ev_callSi (M := MX4_over) (M2 := MX4_within) (As := [.int p1, .int 0, .int 2]) (rest := []) dX4_over_14 w300 moX4_within rfl ⟨Nat.le_of_ble_eq_true rfl, Nat.le_of_ble_eq_true rfl⟩ rfl rfl (Nat.le_of_ble_eq_true rfl) h (fun r5 d4 h => ?_)
    have h := rI_dn h
    refine ev_if_ne (M := MX4_over) (tgt := 22) dX4_over_17 rfl (fun c6 => ?_) (fun c6 => ?_)
    · have h := h.1 c6
      refine ev_aload_n dX4_over_22 rfl ?_
      refine ev_getr (M := MX4_over) (r := 38) 6 dX4_over_23 sX_0 ck4 (Nat.le_of_ble_eq_true rfl) rfl w262 ?_
      refine ev_aload_n dX4_over_26 rfl ?_
      refine ev_getr (M := MX4_over) (r := 1) 0 dX4_over_27 sX_0 ck4 (Nat.le_of_ble_eq_true rfl) rfl w256 ?_
      refine ev_iconst dX4_over_30 ci_0 ?_
      refine ev_callVv (M := MX4_over) (M2 := MX1_run) (As := [.ref 1, .int 0]) (rest := []) dX4_over_31 sX_38 ck1 rfl w539 moX1_run rfl ⟨Nat.le_of_ble_eq_true rfl, Nat.le_of_ble_eq_true rfl⟩ rfl rfl (Nat.le_of_ble_eq_true rfl) h (fun d7 h => ?_)
      have h := rV_dn h
      refine ev_iload_n dX4_over_34 rfl ?_
      by_cases c8 : p1 = 0
      · have h := h.1 c8
        refine ev_lsw (M := MX4_over) (tgt := 60) dX4_over_35 (by decide) (by rw [sw_eq 0 c8 (by decide)]) rfl ?_
        refine ev_aload_n dX4_over_60 rfl ?_
        refine ev_getr (M := MX4_over) (r := 38) 6 dX4_over_61 sX_0 ck4 (Nat.le_of_ble_eq_true rfl) rfl w262 ?_
        refine ev_getr (M := MX4_over) (r := 39) 0 dX4_over_64 sX_38 ck1 (Nat.le_of_ble_eq_true rfl) rfl w198 ?_
        refine ev_iload_n dX4_over_67 rfl ?_
        obtain ⟨g, h⟩ := h
        refine ev_iald dX4_over_68 sX_39 g ?_
        exact ev_ireti (M := MX4_over) (ty := .int) dX4_over_69 rfl rfl rfl h
      · have h := h.2 c8
        by_cases c9 : p1 = 1
        · have h := h.1 c9
          refine ev_lsw (M := MX4_over) (tgt := 70) dX4_over_35 (by decide) (by rw [sw_eq 1 c9 (by decide)]) rfl ?_
          refine ev_aload_n dX4_over_70 rfl ?_
          refine ev_getr (M := MX4_over) (r := 38) 6 dX4_over_71 sX_0 ck4 (Nat.le_of_ble_eq_true rfl) rfl w262 ?_
          refine ev_getr (M := MX4_over) (r := 40) 1 dX4_over_74 sX_38 ck1 (Nat.le_of_ble_eq_true rfl) rfl w200 ?_
          refine ev_iload_n dX4_over_77 rfl ?_
          obtain ⟨g, h⟩ := h
          refine ev_iald dX4_over_78 sX_40 g ?_
          exact ev_ireti (M := MX4_over) (ty := .int) dX4_over_79 rfl rfl rfl h
        · have h := h.2 c9
          have nc8 := sw_ne 0 c8 (by decide)
          have nc9 := sw_ne 1 c9 (by decide)
          refine ev_lsw (M := MX4_over) (off := 45) (tgt := 80) dX4_over_35 (by decide) (lsw_d2 nc8 nc9) rfl ?_
          refine ev_aload_n dX4_over_80 rfl ?_
          refine ev_getr (M := MX4_over) (r := 38) 6 dX4_over_81 sX_0 ck4 (Nat.le_of_ble_eq_true rfl) rfl w262 ?_
          refine ev_getr (M := MX4_over) (r := 41) 2 dX4_over_84 sX_38 ck1 (Nat.le_of_ble_eq_true rfl) rfl w202 ?_
          refine ev_iload_n dX4_over_87 rfl ?_
          obtain ⟨g, h⟩ := h
          refine ev_iald dX4_over_88 sX_41 g ?_
          exact ev_ireti (M := MX4_over) (ty := .int) dX4_over_89 rfl rfl rfl h
    · have h := h.2 c6
      refine ev_iconst dX4_over_20 ci_m1 ?_
      exact ev_ireti (M := MX4_over) (ty := .int) dX4_over_21 rfl rfl rfl h
-- X4_plays
theorem cn_X4_plays {q : Int32 → DD → Prop} {d : DD} {p0 : Int32} (h : (Cn SX MX0_hasPlayer [.ref 1, .int p0] d (rI fun r2 d1 => ((¬ r2 = 0 → (Cn SX MX1_run [.ref 38, .ref 1, .int 0] d1 (rV fun d4 => (vp_in p0 4 ∧ q (d4 42 p0.toNatClampNeg) d4)))) ∧ (r2 = 0 → q (-1) d1))))) : Cn SX MX4_plays [.ref 0, .int p0] d (rI q) := by
  refine cn_of (ls := [.ref 0, .int p0]) (by decide) rfl rfl (Nat.le_of_ble_eq_true rfl) ?_
  refine ev_aload_n dX4_plays_0 rfl ?_
  refine ev_getr (M := MX4_plays) (r := 1) 0 dX4_plays_1 sX_0 ck4 (Nat.le_of_ble_eq_true rfl) rfl w256 ?_
  refine ev_iload_n dX4_plays_4 rfl ?_
  refine ev_callVi (M := MX4_plays) (M2 := MX0_hasPlayer) (As := [.int p0]) (rest := []) dX4_plays_5 sX_1 ck0 rfl w490 moX0_hasPlayer rfl ⟨Nat.le_of_ble_eq_true rfl, Nat.le_of_ble_eq_true rfl⟩ rfl rfl (Nat.le_of_ble_eq_true rfl) h (fun r2 d1 h => ?_)
  have h := rI_dn h
  refine ev_if_ne (M := MX4_plays) (tgt := 13) dX4_plays_8 rfl (fun c3 => ?_) (fun c3 => ?_)
  · have h := h.1 c3
    refine ev_aload_n dX4_plays_13 rfl ?_
    refine ev_getr (M := MX4_plays) (r := 38) 6 dX4_plays_14 sX_0 ck4 (Nat.le_of_ble_eq_true rfl) rfl w262 ?_
    refine ev_aload_n dX4_plays_17 rfl ?_
    refine ev_getr (M := MX4_plays) (r := 1) 0 dX4_plays_18 sX_0 ck4 (Nat.le_of_ble_eq_true rfl) rfl w256 ?_
    refine ev_iconst dX4_plays_21 ci_0 ?_
    refine ev_callVv (M := MX4_plays) (M2 := MX1_run) (As := [.ref 1, .int 0]) (rest := []) dX4_plays_22 sX_38 ck1 rfl w539 moX1_run rfl ⟨Nat.le_of_ble_eq_true rfl, Nat.le_of_ble_eq_true rfl⟩ rfl rfl (Nat.le_of_ble_eq_true rfl) h (fun d4 h => ?_)
    have h := rV_dn h
    refine ev_aload_n dX4_plays_25 rfl ?_
    refine ev_getr (M := MX4_plays) (r := 38) 6 dX4_plays_26 sX_0 ck4 (Nat.le_of_ble_eq_true rfl) rfl w262 ?_
    refine ev_getr (M := MX4_plays) (r := 42) 3 dX4_plays_29 sX_38 ck1 (Nat.le_of_ble_eq_true rfl) rfl w204 ?_
    refine ev_iload_n dX4_plays_32 rfl ?_
    obtain ⟨g, h⟩ := h
    refine ev_iald dX4_plays_33 sX_42 g ?_
    exact ev_ireti (M := MX4_plays) (ty := .int) dX4_plays_34 rfl rfl rfl h
  · have h := h.2 c3
    refine ev_iconst dX4_plays_11 ci_m1 ?_
    exact ev_ireti (M := MX4_plays) (ty := .int) dX4_plays_12 rfl rfl rfl h
-- X4_sounds
set_option maxRecDepth 4000 in
theorem cn_X4_sounds {q : Int32 → DD → Prop} {d : DD} {p0 : Int32} (h : (Cn SX MX4_within [.int p0, .int 0, .int 159] d (rI fun r2 d1 => ((¬ r2 = 0 → (Cn SX MX1_run [.ref 38, .ref 1, .int 0] d1 (rV fun d4 => Ev SX MX4_sounds 29 [.ref 0, .int p0, .int 0, .int 0] [] d4 (rI q)))) ∧ (r2 = 0 → q (-1) d1))))) : Cn SX MX4_sounds [.ref 0, .int p0] d (rI q) := by
  refine cn_of (ls := [.ref 0, .int p0, uJ, uJ]) (by decide) rfl rfl (Nat.le_of_ble_eq_true rfl) ?_
  refine ev_iload_n dX4_sounds_0 rfl ?_
  refine ev_iconst dX4_sounds_1 ci_0 ?_
  refine ev_sipush dX4_sounds_2 cs_159 ?_
  refine ev_callSi (M := MX4_sounds) (M2 := MX4_within) (As := [.int p0, .int 0, .int 159]) (rest := []) dX4_sounds_5 w300 moX4_within rfl ⟨Nat.le_of_ble_eq_true rfl, Nat.le_of_ble_eq_true rfl⟩ rfl rfl (Nat.le_of_ble_eq_true rfl) h (fun r2 d1 h => ?_)
  have h := rI_dn h
  refine ev_if_ne (M := MX4_sounds) (tgt := 13) dX4_sounds_8 rfl (fun c3 => ?_) (fun c3 => ?_)
  · have h := h.1 c3
    refine ev_aload_n dX4_sounds_13 rfl ?_
    refine ev_getr (M := MX4_sounds) (r := 38) 6 dX4_sounds_14 sX_0 ck4 (Nat.le_of_ble_eq_true rfl) rfl w262 ?_
    refine ev_aload_n dX4_sounds_17 rfl ?_
    refine ev_getr (M := MX4_sounds) (r := 1) 0 dX4_sounds_18 sX_0 ck4 (Nat.le_of_ble_eq_true rfl) rfl w256 ?_
    refine ev_iconst dX4_sounds_21 ci_0 ?_
    refine ev_callVv (M := MX4_sounds) (M2 := MX1_run) (As := [.ref 1, .int 0]) (rest := []) dX4_sounds_22 sX_38 ck1 rfl w539 moX1_run rfl ⟨Nat.le_of_ble_eq_true rfl, Nat.le_of_ble_eq_true rfl⟩ rfl rfl (Nat.le_of_ble_eq_true rfl) h (fun d4 h => ?_)
    have h := rV_dn h
    refine ev_iconst dX4_sounds_25 ci_0 ?_
    refine ev_istore_n (M := MX4_sounds) (ls2 := [.ref 0, .int p0, .int 0, uJ]) 2 dX4_sounds_26 rfl (Nat.le_of_ble_eq_true rfl) rfl ?_
    refine ev_iconst dX4_sounds_27 ci_0 ?_
    refine ev_istore_n (M := MX4_sounds) (ls2 := [.ref 0, .int p0, .int 0, .int 0]) 3 dX4_sounds_28 rfl (Nat.le_of_ble_eq_true rfl) rfl ?_
    exact h
  · have h := h.2 c3
    refine ev_iconst dX4_sounds_11 ci_m1 ?_
    exact ev_ireti (M := MX4_sounds) (ty := .int) dX4_sounds_12 rfl rfl rfl h
set_option maxRecDepth 4000 in
theorem bk_X4_sounds_29 {q : Int32 → DD → Prop} {d : DD} {l1 : Int32} {l2 : Int32} {l3 : Int32} (h : (((d 1 0) ≤ l3 → q l2 d) ∧ (¬ (d 1 0) ≤ l3 → (vp_in l3 4 ∧ ((l1 < (d 5 l3.toNatClampNeg) → Ev SX MX4_sounds 29 [.ref 0, .int l1, .int l2, .int (l3 + 1)] [] d (rI q)) ∧ (¬ l1 < (d 5 l3.toNatClampNeg) → (vp_in l3 4 ∧ (vp_in l3 4 ∧ (((d 41 l3.toNatClampNeg) ≤ (l1 - (d 5 l3.toNatClampNeg)) → Ev SX MX4_sounds 29 [.ref 0, .int l1, .int l2, .int (l3 + 1)] [] d (rI q)) ∧ (¬ (d 41 l3.toNatClampNeg) ≤ (l1 - (d 5 l3.toNatClampNeg)) → (∀ x4 : Int32, x4 = (l2 ||| (1 <<< (l3 &&& 31))) → Ev SX MX4_sounds 29 [.ref 0, .int l1, .int x4, .int (l3 + 1)] [] d (rI q)))))))))))) : Ev SX MX4_sounds 29 [.ref 0, .int l1, .int l2, .int l3] [] d (rI q) := by
  refine ev_iload_n dX4_sounds_29 rfl ?_
  refine ev_aload_n dX4_sounds_30 rfl ?_
  refine ev_getr (M := MX4_sounds) (r := 1) 0 dX4_sounds_31 sX_0 ck4 (Nat.le_of_ble_eq_true rfl) rfl w256 ?_
  refine ev_get 0 dX4_sounds_34 sX_1 ck0 (Nat.le_of_ble_eq_true rfl) rfl w84 ?_
  refine ev_icmp_ge (M := MX4_sounds) (tgt := 88) dX4_sounds_37 rfl (fun c1 => ?_) (fun c1 => ?_)
  · have h := h.1 c1
    refine ev_iload_n dX4_sounds_88 rfl ?_
    exact ev_ireti (M := MX4_sounds) (ty := .int) dX4_sounds_89 rfl rfl rfl h
  · have h := h.2 c1
    refine ev_iload_n dX4_sounds_40 rfl ?_
    refine ev_aload_n dX4_sounds_41 rfl ?_
    refine ev_getr (M := MX4_sounds) (r := 1) 0 dX4_sounds_42 sX_0 ck4 (Nat.le_of_ble_eq_true rfl) rfl w256 ?_
    refine ev_getr (M := MX4_sounds) (r := 5) 6 dX4_sounds_45 sX_1 ck0 (Nat.le_of_ble_eq_true rfl) rfl w107 ?_
    refine ev_iload_n dX4_sounds_48 rfl ?_
    obtain ⟨g, h⟩ := h
    refine ev_iald dX4_sounds_49 sX_5 g ?_
    refine ev_icmp_lt (M := MX4_sounds) (tgt := 82) dX4_sounds_50 rfl (fun c2 => ?_) (fun c2 => ?_)
    · have h := h.1 c2
      refine ev_iinc (M := MX4_sounds) (ls2 := [.ref 0, .int l1, .int l2, .int (l3 + 1)]) dX4_sounds_82 rfl (iin ci_1) (Nat.le_of_ble_eq_true rfl) rfl ?_
      refine ev_goto (M := MX4_sounds) (tgt := 29) dX4_sounds_85 rfl ?_
      exact h
    · have h := h.2 c2
      refine ev_iload_n dX4_sounds_53 rfl ?_
      refine ev_aload_n dX4_sounds_54 rfl ?_
      refine ev_getr (M := MX4_sounds) (r := 1) 0 dX4_sounds_55 sX_0 ck4 (Nat.le_of_ble_eq_true rfl) rfl w256 ?_
      refine ev_getr (M := MX4_sounds) (r := 5) 6 dX4_sounds_58 sX_1 ck0 (Nat.le_of_ble_eq_true rfl) rfl w107 ?_
      refine ev_iload_n dX4_sounds_61 rfl ?_
      obtain ⟨g, h⟩ := h
      refine ev_iald dX4_sounds_62 sX_5 g ?_
      refine ev_isub dX4_sounds_63 ?_
      refine ev_aload_n dX4_sounds_64 rfl ?_
      refine ev_getr (M := MX4_sounds) (r := 38) 6 dX4_sounds_65 sX_0 ck4 (Nat.le_of_ble_eq_true rfl) rfl w262 ?_
      refine ev_getr (M := MX4_sounds) (r := 41) 2 dX4_sounds_68 sX_38 ck1 (Nat.le_of_ble_eq_true rfl) rfl w202 ?_
      refine ev_iload_n dX4_sounds_71 rfl ?_
      obtain ⟨g, h⟩ := h
      refine ev_iald dX4_sounds_72 sX_41 g ?_
      refine ev_icmp_ge (M := MX4_sounds) (tgt := 82) dX4_sounds_73 rfl (fun c3 => ?_) (fun c3 => ?_)
      · have h := h.1 c3
        refine ev_iinc (M := MX4_sounds) (ls2 := [.ref 0, .int l1, .int l2, .int (l3 + 1)]) dX4_sounds_82 rfl (iin ci_1) (Nat.le_of_ble_eq_true rfl) rfl ?_
        refine ev_goto (M := MX4_sounds) (tgt := 29) dX4_sounds_85 rfl ?_
        exact h
      · have h := h.2 c3
        refine ev_iload_n dX4_sounds_76 rfl ?_
        refine ev_iconst dX4_sounds_77 ci_1 ?_
        refine ev_iload_n dX4_sounds_78 rfl ?_
        refine ev_ishl dX4_sounds_79 ?_
        refine ev_ior dX4_sounds_80 ?_
        refine ev_topi (fun x4 ex4 => ?_)
        have h := h x4 ex4
        refine ev_istore_n (M := MX4_sounds) (ls2 := [.ref 0, .int l1, .int x4, .int l3]) 2 dX4_sounds_81 rfl (Nat.le_of_ble_eq_true rfl) rfl ?_
        refine ev_iinc (M := MX4_sounds) (ls2 := [.ref 0, .int l1, .int x4, .int (l3 + 1)]) dX4_sounds_82 rfl (iin ci_1) (Nat.le_of_ble_eq_true rfl) rfl ?_
        refine ev_goto (M := MX4_sounds) (tgt := 29) dX4_sounds_85 rfl ?_
        exact h
-- X4_sum
theorem cn_X4_sum {q : Int32 → DD → Prop} {d : DD} {p0 : Int32} (h : (Cn SX MX4_within [.int p0, .int 0, .int 3] d (rI fun r2 d1 => ((¬ r2 = 0 → (Cn SX MX1_run [.ref 38, .ref 1, .int 0] d1 (rV fun d4 => ((p0 = 0 → (Cn SX MX1_away [.ref 38, .ref 1] d4 (rI fun r7 d6 => q r7 d6))) ∧ (¬ p0 = 0 → ((p0 = 1 → (Cn SX MX1_cost [.ref 38, .ref 1] d4 (rI fun r10 d9 => q r10 d9))) ∧ (¬ p0 = 1 → ((p0 = 2 → (Cn SX MX1_lastOver [.ref 38, .ref 1] d4 (rI fun r13 d12 => q r13 d12))) ∧ (¬ p0 = 2 → (Cn SX MX1_crossedTunes [.ref 38, .ref 1] d4 (rI fun r15 d14 => q r15 d14))))))))))) ∧ (r2 = 0 → q (-1) d1))))) : Cn SX MX4_sum [.ref 0, .int p0] d (rI q) := by
  refine cn_of (ls := [.ref 0, .int p0]) (by decide) rfl rfl (Nat.le_of_ble_eq_true rfl) ?_
  refine ev_iload_n dX4_sum_0 rfl ?_
  refine ev_iconst dX4_sum_1 ci_0 ?_
  refine ev_iconst dX4_sum_2 ci_3 ?_
  refine ev_callSi (M := MX4_sum) (M2 := MX4_within) (As := [.int p0, .int 0, .int 3]) (rest := []) dX4_sum_3 w300 moX4_within rfl ⟨Nat.le_of_ble_eq_true rfl, Nat.le_of_ble_eq_true rfl⟩ rfl rfl (Nat.le_of_ble_eq_true rfl) h (fun r2 d1 h => ?_)
  have h := rI_dn h
  refine ev_if_ne (M := MX4_sum) (tgt := 11) dX4_sum_6 rfl (fun c3 => ?_) (fun c3 => ?_)
  · have h := h.1 c3
    refine ev_aload_n dX4_sum_11 rfl ?_
    refine ev_getr (M := MX4_sum) (r := 38) 6 dX4_sum_12 sX_0 ck4 (Nat.le_of_ble_eq_true rfl) rfl w262 ?_
    refine ev_aload_n dX4_sum_15 rfl ?_
    refine ev_getr (M := MX4_sum) (r := 1) 0 dX4_sum_16 sX_0 ck4 (Nat.le_of_ble_eq_true rfl) rfl w256 ?_
    refine ev_iconst dX4_sum_19 ci_0 ?_
    refine ev_callVv (M := MX4_sum) (M2 := MX1_run) (As := [.ref 1, .int 0]) (rest := []) dX4_sum_20 sX_38 ck1 rfl w539 moX1_run rfl ⟨Nat.le_of_ble_eq_true rfl, Nat.le_of_ble_eq_true rfl⟩ rfl rfl (Nat.le_of_ble_eq_true rfl) h (fun d4 h => ?_)
    have h := rV_dn h
    refine ev_iload_n dX4_sum_23 rfl ?_
    by_cases c5 : p0 = 0
    · have h := h.1 c5
      refine ev_tsw (M := MX4_sum) (tgt := 52) dX4_sum_24 0 (sw_eq 0 c5 (by decide)) (by decide) (by decide) rfl rfl ?_
      refine ev_aload_n dX4_sum_52 rfl ?_
      refine ev_getr (M := MX4_sum) (r := 38) 6 dX4_sum_53 sX_0 ck4 (Nat.le_of_ble_eq_true rfl) rfl w262 ?_
      refine ev_aload_n dX4_sum_56 rfl ?_
      refine ev_getr (M := MX4_sum) (r := 1) 0 dX4_sum_57 sX_0 ck4 (Nat.le_of_ble_eq_true rfl) rfl w256 ?_
      refine ev_callVi (M := MX4_sum) (M2 := MX1_away) (As := [.ref 1]) (rest := []) dX4_sum_60 sX_38 ck1 rfl w583 moX1_away rfl ⟨Nat.le_of_ble_eq_true rfl, Nat.le_of_ble_eq_true rfl⟩ rfl rfl (Nat.le_of_ble_eq_true rfl) h (fun r7 d6 h => ?_)
      have h := rI_dn h
      exact ev_ireti (M := MX4_sum) (ty := .int) dX4_sum_63 rfl rfl rfl h
    · have h := h.2 c5
      by_cases c8 : p0 = 1
      · have h := h.1 c8
        refine ev_tsw (M := MX4_sum) (tgt := 64) dX4_sum_24 1 (sw_eq 1 c8 (by decide)) (by decide) (by decide) rfl rfl ?_
        refine ev_aload_n dX4_sum_64 rfl ?_
        refine ev_getr (M := MX4_sum) (r := 38) 6 dX4_sum_65 sX_0 ck4 (Nat.le_of_ble_eq_true rfl) rfl w262 ?_
        refine ev_aload_n dX4_sum_68 rfl ?_
        refine ev_getr (M := MX4_sum) (r := 1) 0 dX4_sum_69 sX_0 ck4 (Nat.le_of_ble_eq_true rfl) rfl w256 ?_
        refine ev_callVi (M := MX4_sum) (M2 := MX1_cost) (As := [.ref 1]) (rest := []) dX4_sum_72 sX_38 ck1 rfl w591 moX1_cost rfl ⟨Nat.le_of_ble_eq_true rfl, Nat.le_of_ble_eq_true rfl⟩ rfl rfl (Nat.le_of_ble_eq_true rfl) h (fun r10 d9 h => ?_)
        have h := rI_dn h
        exact ev_ireti (M := MX4_sum) (ty := .int) dX4_sum_75 rfl rfl rfl h
      · have h := h.2 c8
        by_cases c11 : p0 = 2
        · have h := h.1 c11
          refine ev_tsw (M := MX4_sum) (tgt := 76) dX4_sum_24 2 (sw_eq 2 c11 (by decide)) (by decide) (by decide) rfl rfl ?_
          refine ev_aload_n dX4_sum_76 rfl ?_
          refine ev_getr (M := MX4_sum) (r := 38) 6 dX4_sum_77 sX_0 ck4 (Nat.le_of_ble_eq_true rfl) rfl w262 ?_
          refine ev_aload_n dX4_sum_80 rfl ?_
          refine ev_getr (M := MX4_sum) (r := 1) 0 dX4_sum_81 sX_0 ck4 (Nat.le_of_ble_eq_true rfl) rfl w256 ?_
          refine ev_callVi (M := MX4_sum) (M2 := MX1_lastOver) (As := [.ref 1]) (rest := []) dX4_sum_84 sX_38 ck1 rfl w595 moX1_lastOver rfl ⟨Nat.le_of_ble_eq_true rfl, Nat.le_of_ble_eq_true rfl⟩ rfl rfl (Nat.le_of_ble_eq_true rfl) h (fun r13 d12 h => ?_)
          have h := rI_dn h
          exact ev_ireti (M := MX4_sum) (ty := .int) dX4_sum_87 rfl rfl rfl h
        · have h := h.2 c11
          have nc5 := sw_ne 0 c5 (by decide)
          have nc8 := sw_ne 1 c8 (by decide)
          have nc11 := sw_ne 2 c11 (by decide)
          refine ev_tswD (M := MX4_sum) (tgt := 88) dX4_sum_24 (by omega) rfl ?_
          refine ev_aload_n dX4_sum_88 rfl ?_
          refine ev_getr (M := MX4_sum) (r := 38) 6 dX4_sum_89 sX_0 ck4 (Nat.le_of_ble_eq_true rfl) rfl w262 ?_
          refine ev_aload_n dX4_sum_92 rfl ?_
          refine ev_getr (M := MX4_sum) (r := 1) 0 dX4_sum_93 sX_0 ck4 (Nat.le_of_ble_eq_true rfl) rfl w256 ?_
          refine ev_callVi (M := MX4_sum) (M2 := MX1_crossedTunes) (As := [.ref 1]) (rest := []) dX4_sum_96 sX_38 ck1 rfl w600 moX1_crossedTunes rfl ⟨Nat.le_of_ble_eq_true rfl, Nat.le_of_ble_eq_true rfl⟩ rfl rfl (Nat.le_of_ble_eq_true rfl) h (fun r15 d14 h => ?_)
          have h := rI_dn h
          exact ev_ireti (M := MX4_sum) (ty := .int) dX4_sum_99 rfl rfl rfl h
  · have h := h.2 c3
    refine ev_iconst dX4_sum_9 ci_m1 ?_
    exact ev_ireti (M := MX4_sum) (ty := .int) dX4_sum_10 rfl rfl rfl h
-- X4_first
set_option maxRecDepth 4000 in
theorem cn_X4_first {q : Int32 → DD → Prop} {d : DD} {p0 : Int32} (h : (Cn SX MX4_within [.int p0, .int 0, .int 1] d (rI fun r2 d1 => ((¬ r2 = 0 → (Cn SX MX1_run [.ref 38, .ref 1, .int 0] d1 (rV fun d4 => Ev SX MX4_first 27 [.ref 0, .int p0, .int (-1), .int 0] [] d4 (rI q)))) ∧ (r2 = 0 → q (-1) d1))))) : Cn SX MX4_first [.ref 0, .int p0] d (rI q) := by
  refine cn_of (ls := [.ref 0, .int p0, uJ, uJ]) (by decide) rfl rfl (Nat.le_of_ble_eq_true rfl) ?_
  refine ev_iload_n dX4_first_0 rfl ?_
  refine ev_iconst dX4_first_1 ci_0 ?_
  refine ev_iconst dX4_first_2 ci_1 ?_
  refine ev_callSi (M := MX4_first) (M2 := MX4_within) (As := [.int p0, .int 0, .int 1]) (rest := []) dX4_first_3 w300 moX4_within rfl ⟨Nat.le_of_ble_eq_true rfl, Nat.le_of_ble_eq_true rfl⟩ rfl rfl (Nat.le_of_ble_eq_true rfl) h (fun r2 d1 h => ?_)
  have h := rI_dn h
  refine ev_if_ne (M := MX4_first) (tgt := 11) dX4_first_6 rfl (fun c3 => ?_) (fun c3 => ?_)
  · have h := h.1 c3
    refine ev_aload_n dX4_first_11 rfl ?_
    refine ev_getr (M := MX4_first) (r := 38) 6 dX4_first_12 sX_0 ck4 (Nat.le_of_ble_eq_true rfl) rfl w262 ?_
    refine ev_aload_n dX4_first_15 rfl ?_
    refine ev_getr (M := MX4_first) (r := 1) 0 dX4_first_16 sX_0 ck4 (Nat.le_of_ble_eq_true rfl) rfl w256 ?_
    refine ev_iconst dX4_first_19 ci_0 ?_
    refine ev_callVv (M := MX4_first) (M2 := MX1_run) (As := [.ref 1, .int 0]) (rest := []) dX4_first_20 sX_38 ck1 rfl w539 moX1_run rfl ⟨Nat.le_of_ble_eq_true rfl, Nat.le_of_ble_eq_true rfl⟩ rfl rfl (Nat.le_of_ble_eq_true rfl) h (fun d4 h => ?_)
    have h := rV_dn h
    refine ev_iconst dX4_first_23 ci_m1 ?_
    refine ev_istore_n (M := MX4_first) (ls2 := [.ref 0, .int p0, .int (-1), uJ]) 2 dX4_first_24 rfl (Nat.le_of_ble_eq_true rfl) rfl ?_
    refine ev_iconst dX4_first_25 ci_0 ?_
    refine ev_istore_n (M := MX4_first) (ls2 := [.ref 0, .int p0, .int (-1), .int 0]) 3 dX4_first_26 rfl (Nat.le_of_ble_eq_true rfl) rfl ?_
    exact h
  · have h := h.2 c3
    refine ev_iconst dX4_first_9 ci_m1 ?_
    exact ev_ireti (M := MX4_first) (ty := .int) dX4_first_10 rfl rfl rfl h
set_option maxRecDepth 4000 in
theorem bk_X4_first_27 {q : Int32 → DD → Prop} {d : DD} {l1 : Int32} {l2 : Int32} {l3 : Int32} (h : (((d 1 2) ≤ l3 → ((0 ≤ l2 → ((¬ l1 = 0 → q l2 d) ∧ (l1 = 0 → (Cn SX MX1_outAt [.ref 38, .ref 1, .int l2] d (rI fun r5 d4 => q r5 d4))))) ∧ (¬ 0 ≤ l2 → q (-4) d))) ∧ (¬ (d 1 2) ≤ l3 → (Cn SX MX1_getsAway [.ref 38, .ref 1, .int l3] d (rI fun r7 d6 => ((r7 = 0 → Ev SX MX4_first 27 [.ref 0, .int l1, .int l2, .int (l3 + 1)] [] d6 (rI q)) ∧ (¬ r7 = 0 → ((l2 < 0 → Ev SX MX4_first 27 [.ref 0, .int l1, .int l3, .int (l3 + 1)] [] d6 (rI q)) ∧ (¬ l2 < 0 → (Cn SX MX1_outAt [.ref 38, .ref 1, .int l3] d6 (rI fun r11 d10 => (Cn SX MX1_outAt [.ref 38, .ref 1, .int l2] d10 (rI fun r13 d12 => ((r13 ≤ r11 → Ev SX MX4_first 27 [.ref 0, .int l1, .int l2, .int (l3 + 1)] [] d12 (rI q)) ∧ (¬ r13 ≤ r11 → Ev SX MX4_first 27 [.ref 0, .int l1, .int l3, .int (l3 + 1)] [] d12 (rI q)))))))))))))))) : Ev SX MX4_first 27 [.ref 0, .int l1, .int l2, .int l3] [] d (rI q) := by
  refine ev_iload_n dX4_first_27 rfl ?_
  refine ev_aload_n dX4_first_28 rfl ?_
  refine ev_getr (M := MX4_first) (r := 1) 0 dX4_first_29 sX_0 ck4 (Nat.le_of_ble_eq_true rfl) rfl w256 ?_
  refine ev_get 2 dX4_first_32 sX_1 ck0 (Nat.le_of_ble_eq_true rfl) rfl w90 ?_
  refine ev_icmp_ge (M := MX4_first) (tgt := 92) dX4_first_35 rfl (fun c1 => ?_) (fun c1 => ?_)
  · have h := h.1 c1
    refine ev_iload_n dX4_first_92 rfl ?_
    refine ev_if_ge (M := MX4_first) (tgt := 99) dX4_first_93 rfl (fun c2 => ?_) (fun c2 => ?_)
    · have h := h.1 c2
      refine ev_iload_n dX4_first_99 rfl ?_
      refine ev_if_ne (M := MX4_first) (tgt := 118) dX4_first_100 rfl (fun c3 => ?_) (fun c3 => ?_)
      · have h := h.1 c3
        refine ev_iload_n dX4_first_118 rfl ?_
        exact ev_ireti (M := MX4_first) (ty := .int) dX4_first_119 rfl rfl rfl h
      · have h := h.2 c3
        refine ev_aload_n dX4_first_103 rfl ?_
        refine ev_getr (M := MX4_first) (r := 38) 6 dX4_first_104 sX_0 ck4 (Nat.le_of_ble_eq_true rfl) rfl w262 ?_
        refine ev_aload_n dX4_first_107 rfl ?_
        refine ev_getr (M := MX4_first) (r := 1) 0 dX4_first_108 sX_0 ck4 (Nat.le_of_ble_eq_true rfl) rfl w256 ?_
        refine ev_iload_n dX4_first_111 rfl ?_
        refine ev_callVi (M := MX4_first) (M2 := MX1_outAt) (As := [.ref 1, .int l2]) (rest := []) dX4_first_112 sX_38 ck1 rfl w609 moX1_outAt rfl ⟨Nat.le_of_ble_eq_true rfl, Nat.le_of_ble_eq_true rfl⟩ rfl rfl (Nat.le_of_ble_eq_true rfl) h (fun r5 d4 h => ?_)
        have h := rI_dn h
        refine ev_goto (M := MX4_first) (tgt := 119) dX4_first_115 rfl ?_
        exact ev_ireti (M := MX4_first) (ty := .int) dX4_first_119 rfl rfl rfl h
    · have h := h.2 c2
      refine ev_bipush dX4_first_96 cb_m4 ?_
      exact ev_ireti (M := MX4_first) (ty := .int) dX4_first_98 rfl rfl rfl h
  · have h := h.2 c1
    refine ev_aload_n dX4_first_38 rfl ?_
    refine ev_getr (M := MX4_first) (r := 38) 6 dX4_first_39 sX_0 ck4 (Nat.le_of_ble_eq_true rfl) rfl w262 ?_
    refine ev_aload_n dX4_first_42 rfl ?_
    refine ev_getr (M := MX4_first) (r := 1) 0 dX4_first_43 sX_0 ck4 (Nat.le_of_ble_eq_true rfl) rfl w256 ?_
    refine ev_iload_n dX4_first_46 rfl ?_
    refine ev_callVi (M := MX4_first) (M2 := MX1_getsAway) (As := [.ref 1, .int l3]) (rest := []) dX4_first_47 sX_38 ck1 rfl w608 moX1_getsAway rfl ⟨Nat.le_of_ble_eq_true rfl, Nat.le_of_ble_eq_true rfl⟩ rfl rfl (Nat.le_of_ble_eq_true rfl) h (fun r7 d6 h => ?_)
    have h := rI_dn h
    refine ev_if_eq (M := MX4_first) (tgt := 86) dX4_first_50 rfl (fun c8 => ?_) (fun c8 => ?_)
    · have h := h.1 c8
      refine ev_iinc (M := MX4_first) (ls2 := [.ref 0, .int l1, .int l2, .int (l3 + 1)]) dX4_first_86 rfl (iin ci_1) (Nat.le_of_ble_eq_true rfl) rfl ?_
      refine ev_goto (M := MX4_first) (tgt := 27) dX4_first_89 rfl ?_
      exact h
    · have h := h.2 c8
      refine ev_iload_n dX4_first_53 rfl ?_
      refine ev_if_lt (M := MX4_first) (tgt := 84) dX4_first_54 rfl (fun c9 => ?_) (fun c9 => ?_)
      · have h := h.1 c9
        refine ev_iload_n dX4_first_84 rfl ?_
        refine ev_istore_n (M := MX4_first) (ls2 := [.ref 0, .int l1, .int l3, .int l3]) 2 dX4_first_85 rfl (Nat.le_of_ble_eq_true rfl) rfl ?_
        refine ev_iinc (M := MX4_first) (ls2 := [.ref 0, .int l1, .int l3, .int (l3 + 1)]) dX4_first_86 rfl (iin ci_1) (Nat.le_of_ble_eq_true rfl) rfl ?_
        refine ev_goto (M := MX4_first) (tgt := 27) dX4_first_89 rfl ?_
        exact h
      · have h := h.2 c9
        refine ev_aload_n dX4_first_57 rfl ?_
        refine ev_getr (M := MX4_first) (r := 38) 6 dX4_first_58 sX_0 ck4 (Nat.le_of_ble_eq_true rfl) rfl w262 ?_
        refine ev_aload_n dX4_first_61 rfl ?_
        refine ev_getr (M := MX4_first) (r := 1) 0 dX4_first_62 sX_0 ck4 (Nat.le_of_ble_eq_true rfl) rfl w256 ?_
        refine ev_iload_n dX4_first_65 rfl ?_
        refine ev_callVi (M := MX4_first) (M2 := MX1_outAt) (As := [.ref 1, .int l3]) (rest := []) dX4_first_66 sX_38 ck1 rfl w609 moX1_outAt rfl ⟨Nat.le_of_ble_eq_true rfl, Nat.le_of_ble_eq_true rfl⟩ rfl rfl (Nat.le_of_ble_eq_true rfl) h (fun r11 d10 h => ?_)
        have h := rI_dn h
        refine ev_aload_n dX4_first_69 rfl ?_
        refine ev_getr (M := MX4_first) (r := 38) 6 dX4_first_70 sX_0 ck4 (Nat.le_of_ble_eq_true rfl) rfl w262 ?_
        refine ev_aload_n dX4_first_73 rfl ?_
        refine ev_getr (M := MX4_first) (r := 1) 0 dX4_first_74 sX_0 ck4 (Nat.le_of_ble_eq_true rfl) rfl w256 ?_
        refine ev_iload_n dX4_first_77 rfl ?_
        refine ev_callVi (M := MX4_first) (M2 := MX1_outAt) (As := [.ref 1, .int l2]) (rest := [.int r11]) dX4_first_78 sX_38 ck1 rfl w609 moX1_outAt rfl ⟨Nat.le_of_ble_eq_true rfl, Nat.le_of_ble_eq_true rfl⟩ rfl rfl (Nat.le_of_ble_eq_true rfl) h (fun r13 d12 h => ?_)
        have h := rI_dn h
        refine ev_icmp_ge (M := MX4_first) (tgt := 86) dX4_first_81 rfl (fun c14 => ?_) (fun c14 => ?_)
        · have h := h.1 c14
          refine ev_iinc (M := MX4_first) (ls2 := [.ref 0, .int l1, .int l2, .int (l3 + 1)]) dX4_first_86 rfl (iin ci_1) (Nat.le_of_ble_eq_true rfl) rfl ?_
          refine ev_goto (M := MX4_first) (tgt := 27) dX4_first_89 rfl ?_
          exact h
        · have h := h.2 c14
          refine ev_iload_n dX4_first_84 rfl ?_
          refine ev_istore_n (M := MX4_first) (ls2 := [.ref 0, .int l1, .int l3, .int l3]) 2 dX4_first_85 rfl (Nat.le_of_ble_eq_true rfl) rfl ?_
          refine ev_iinc (M := MX4_first) (ls2 := [.ref 0, .int l1, .int l3, .int (l3 + 1)]) dX4_first_86 rfl (iin ci_1) (Nat.le_of_ble_eq_true rfl) rfl ?_
          refine ev_goto (M := MX4_first) (tgt := 27) dX4_first_89 rfl ?_
          exact h
-- X4_best
set_option maxRecDepth 4000 in
theorem cn_X4_best {q : Int32 → DD → Prop} {d : DD} {p0 : Int32} (h : ((p0 < 10 → Ev SX MX4_best 25 [.ref 0, .int p0, uJ, uJ, uJ, uJ, uJ, uJ, uJ, uJ] [.int 0] d (rI q)) ∧ (¬ p0 < 10 → (Cn SX MX0_hasPlayer [.ref 1, .int (p0 - 10)] d (rI fun r3 d2 => ((r3 = 0 → Ev SX MX4_best 25 [.ref 0, .int p0, uJ, uJ, uJ, uJ, uJ, uJ, uJ, uJ] [.int 0] d2 (rI q)) ∧ (¬ r3 = 0 → Ev SX MX4_best 25 [.ref 0, .int p0, uJ, uJ, uJ, uJ, uJ, uJ, uJ, uJ] [.int 1] d2 (rI q)))))))) : Cn SX MX4_best [.ref 0, .int p0] d (rI q) := by
  refine cn_of (ls := [.ref 0, .int p0, uJ, uJ, uJ, uJ, uJ, uJ, uJ, uJ]) (by decide) rfl rfl (Nat.le_of_ble_eq_true rfl) ?_
  refine ev_iload_n dX4_best_0 rfl ?_
  refine ev_bipush dX4_best_1 cb_10 ?_
  refine ev_icmp_lt (M := MX4_best) (tgt := 24) dX4_best_3 rfl (fun c1 => ?_) (fun c1 => ?_)
  · have h := h.1 c1
    refine ev_iconst dX4_best_24 ci_0 ?_
    exact h
  · have h := h.2 c1
    refine ev_aload_n dX4_best_6 rfl ?_
    refine ev_getr (M := MX4_best) (r := 1) 0 dX4_best_7 sX_0 ck4 (Nat.le_of_ble_eq_true rfl) rfl w256 ?_
    refine ev_iload_n dX4_best_10 rfl ?_
    refine ev_bipush dX4_best_11 cb_10 ?_
    refine ev_isub dX4_best_13 ?_
    refine ev_callVi (M := MX4_best) (M2 := MX0_hasPlayer) (As := [.int (p0 - 10)]) (rest := []) dX4_best_14 sX_1 ck0 rfl w490 moX0_hasPlayer rfl ⟨Nat.le_of_ble_eq_true rfl, Nat.le_of_ble_eq_true rfl⟩ rfl rfl (Nat.le_of_ble_eq_true rfl) h (fun r3 d2 h => ?_)
    have h := rI_dn h
    refine ev_if_eq (M := MX4_best) (tgt := 24) dX4_best_17 rfl (fun c4 => ?_) (fun c4 => ?_)
    · have h := h.1 c4
      refine ev_iconst dX4_best_24 ci_0 ?_
      exact h
    · have h := h.2 c4
      refine ev_iconst dX4_best_20 ci_1 ?_
      refine ev_goto (M := MX4_best) (tgt := 25) dX4_best_21 rfl ?_
      exact h
set_option maxRecDepth 4000 in
theorem bk_X4_best_25 {q : Int32 → DD → Prop} {d : DD} {l1 : Int32} {k0 : Int32} (h : (Cn SX MX4_within [.int l1, .int 0, .int 1] d (rI fun r2 d1 => ((¬ r2 = 0 → Ev SX MX4_best 41 [.ref 0, .int l1, .int k0, uJ, uJ, uJ, uJ, uJ, uJ, uJ] [] d1 (rI q)) ∧ (r2 = 0 → ((¬ k0 = 0 → Ev SX MX4_best 41 [.ref 0, .int l1, .int k0, uJ, uJ, uJ, uJ, uJ, uJ, uJ] [] d1 (rI q)) ∧ (k0 = 0 → q (-1) d1))))))) : Ev SX MX4_best 25 [.ref 0, .int l1, uJ, uJ, uJ, uJ, uJ, uJ, uJ, uJ] [.int k0] d (rI q) := by
  refine ev_istore_n (M := MX4_best) (ls2 := [.ref 0, .int l1, .int k0, uJ, uJ, uJ, uJ, uJ, uJ, uJ]) 2 dX4_best_25 rfl (Nat.le_of_ble_eq_true rfl) rfl ?_
  refine ev_iload_n dX4_best_26 rfl ?_
  refine ev_iconst dX4_best_27 ci_0 ?_
  refine ev_iconst dX4_best_28 ci_1 ?_
  refine ev_callSi (M := MX4_best) (M2 := MX4_within) (As := [.int l1, .int 0, .int 1]) (rest := []) dX4_best_29 w300 moX4_within rfl ⟨Nat.le_of_ble_eq_true rfl, Nat.le_of_ble_eq_true rfl⟩ rfl rfl (Nat.le_of_ble_eq_true rfl) h (fun r2 d1 h => ?_)
  have h := rI_dn h
  refine ev_if_ne (M := MX4_best) (tgt := 41) dX4_best_32 rfl (fun c3 => ?_) (fun c3 => ?_)
  · have h := h.1 c3
    exact h
  · have h := h.2 c3
    refine ev_iload_n dX4_best_35 rfl ?_
    refine ev_if_ne (M := MX4_best) (tgt := 41) dX4_best_36 rfl (fun c4 => ?_) (fun c4 => ?_)
    · have h := h.1 c4
      exact h
    · have h := h.2 c4
      refine ev_iconst dX4_best_39 ci_m1 ?_
      exact ev_ireti (M := MX4_best) (ty := .int) dX4_best_40 rfl rfl rfl h
set_option maxRecDepth 4000 in
theorem bk_X4_best_41 {q : Int32 → DD → Prop} {d : DD} {l1 : Int32} {l2 : Int32} (h : ((1 ≤ (d 1 0) → (Cn SX MX0_become [.ref 23, .ref 1] d (rV fun d2 => (Cn SX MX4_power [.int (d2 1 0), .int (d2 1 1)] d2 (rI fun r4 d3 => Ev SX MX4_best 98 [.ref 0, .int l1, .int l2, .int r4, .int 0, .int 1000000, .int 1000000, .int 0, uJ, uJ] [] d3 (rI q)))))) ∧ (¬ 1 ≤ (d 1 0) → q (-2) d))) : Ev SX MX4_best 41 [.ref 0, .int l1, .int l2, uJ, uJ, uJ, uJ, uJ, uJ, uJ] [] d (rI q) := by
  refine ev_aload_n dX4_best_41 rfl ?_
  refine ev_getr (M := MX4_best) (r := 1) 0 dX4_best_42 sX_0 ck4 (Nat.le_of_ble_eq_true rfl) rfl w256 ?_
  refine ev_get 0 dX4_best_45 sX_1 ck0 (Nat.le_of_ble_eq_true rfl) rfl w84 ?_
  refine ev_iconst dX4_best_48 ci_1 ?_
  refine ev_icmp_ge (M := MX4_best) (tgt := 55) dX4_best_49 rfl (fun c1 => ?_) (fun c1 => ?_)
  · have h := h.1 c1
    refine ev_aload_n dX4_best_55 rfl ?_
    refine ev_getr (M := MX4_best) (r := 23) 2 dX4_best_56 sX_0 ck4 (Nat.le_of_ble_eq_true rfl) rfl w258 ?_
    refine ev_aload_n dX4_best_59 rfl ?_
    refine ev_getr (M := MX4_best) (r := 1) 0 dX4_best_60 sX_0 ck4 (Nat.le_of_ble_eq_true rfl) rfl w256 ?_
    refine ev_callVv (M := MX4_best) (M2 := MX0_become) (As := [.ref 1]) (rest := []) dX4_best_63 sX_23 ck0 rfl w431 moX0_become rfl ⟨Nat.le_of_ble_eq_true rfl, Nat.le_of_ble_eq_true rfl⟩ rfl rfl (Nat.le_of_ble_eq_true rfl) h (fun d2 h => ?_)
    have h := rV_dn h
    refine ev_aload_n dX4_best_66 rfl ?_
    refine ev_getr (M := MX4_best) (r := 1) 0 dX4_best_67 sX_0 ck4 (Nat.le_of_ble_eq_true rfl) rfl w256 ?_
    refine ev_get 0 dX4_best_70 sX_1 ck0 (Nat.le_of_ble_eq_true rfl) rfl w84 ?_
    refine ev_aload_n dX4_best_73 rfl ?_
    refine ev_getr (M := MX4_best) (r := 1) 0 dX4_best_74 sX_0 ck4 (Nat.le_of_ble_eq_true rfl) rfl w256 ?_
    refine ev_get 1 dX4_best_77 sX_1 ck0 (Nat.le_of_ble_eq_true rfl) rfl w88 ?_
    refine ev_callSi (M := MX4_best) (M2 := MX4_power) (As := [.int (d2 1 0), .int (d2 1 1)]) (rest := []) dX4_best_80 w617 moX4_power rfl ⟨Nat.le_of_ble_eq_true rfl, Nat.le_of_ble_eq_true rfl⟩ rfl rfl (Nat.le_of_ble_eq_true rfl) h (fun r4 d3 h => ?_)
    have h := rI_dn h
    refine ev_istore_n (M := MX4_best) (ls2 := [.ref 0, .int l1, .int l2, .int r4, uJ, uJ, uJ, uJ, uJ, uJ]) 3 dX4_best_83 rfl (Nat.le_of_ble_eq_true rfl) rfl ?_
    refine ev_iconst dX4_best_84 ci_0 ?_
    refine ev_istore (M := MX4_best) (ls2 := [.ref 0, .int l1, .int l2, .int r4, .int 0, uJ, uJ, uJ, uJ, uJ]) dX4_best_85 (Nat.le_of_ble_eq_true rfl) rfl ?_
    refine ev_ldc dX4_best_87 w620 ?_
    refine ev_istore (M := MX4_best) (ls2 := [.ref 0, .int l1, .int l2, .int r4, .int 0, .int 1000000, uJ, uJ, uJ, uJ]) dX4_best_89 (Nat.le_of_ble_eq_true rfl) rfl ?_
    refine ev_ldc dX4_best_91 w620 ?_
    refine ev_istore (M := MX4_best) (ls2 := [.ref 0, .int l1, .int l2, .int r4, .int 0, .int 1000000, .int 1000000, uJ, uJ, uJ]) dX4_best_93 (Nat.le_of_ble_eq_true rfl) rfl ?_
    refine ev_iconst dX4_best_95 ci_0 ?_
    refine ev_istore (M := MX4_best) (ls2 := [.ref 0, .int l1, .int l2, .int r4, .int 0, .int 1000000, .int 1000000, .int 0, uJ, uJ]) dX4_best_96 (Nat.le_of_ble_eq_true rfl) rfl ?_
    exact h
  · have h := h.2 c1
    refine ev_bipush dX4_best_52 cb_m2 ?_
    exact ev_ireti (M := MX4_best) (ty := .int) dX4_best_54 rfl rfl rfl h
set_option maxRecDepth 4000 in
theorem bk_X4_best_98 {q : Int32 → DD → Prop} {d : DD} {l1 : Int32} {l2 : Int32} {l3 : Int32} {l4 : Int32} {l5 : Int32} {l6 : Int32} {l7 : Int32} (h : ((l3 ≤ l7 → ((¬ l2 = 0 → (Cn SX MX4_spread [.int l4, .int (d 1 0), .ref 32, .int (d 1 1)] d (rV fun d3 => (vp_in (l1 - 10) 4 ∧ q (d3 32 (l1 - 10).toNatClampNeg) d3)))) ∧ (l2 = 0 → ((¬ l1 = 0 → q l6 d) ∧ (l1 = 0 → q l5 d))))) ∧ (¬ l3 ≤ l7 → (Cn SX MX4_spread [.int l7, .int (d 1 0), .ref 32, .int (d 1 1)] d (rV fun d5 => (Cn SX MX1_run [.ref 38, .ref 23, .int 0] d5 (rV fun d6 => (Cn SX MX1_away [.ref 38, .ref 23] d6 (rI fun r8 d7 => (Cn SX MX1_cost [.ref 38, .ref 23] d7 (rI fun r10 d9 => ((r8 < l5 → Ev SX MX4_best 98 [.ref 0, .int l1, .int l2, .int l3, .int l7, .int r8, .int r10, .int (l7 + 1), uJ, uJ] [] d9 (rI q)) ∧ (¬ r8 < l5 → ((¬ r8 = l5 → Ev SX MX4_best 98 [.ref 0, .int l1, .int l2, .int l3, .int l4, .int l5, .int l6, .int (l7 + 1), uJ, uJ] [] d9 (rI q)) ∧ (r8 = l5 → ((l6 ≤ r10 → Ev SX MX4_best 98 [.ref 0, .int l1, .int l2, .int l3, .int l4, .int l5, .int l6, .int (l7 + 1), uJ, uJ] [] d9 (rI q)) ∧ (¬ l6 ≤ r10 → Ev SX MX4_best 98 [.ref 0, .int l1, .int l2, .int l3, .int l7, .int r8, .int r10, .int (l7 + 1), uJ, uJ] [] d9 (rI q)))))))))))))))))) : Ev SX MX4_best 98 [.ref 0, .int l1, .int l2, .int l3, .int l4, .int l5, .int l6, .int l7, uJ, uJ] [] d (rI q) := by
  refine ev_iload dX4_best_98 rfl ?_
  refine ev_iload_n dX4_best_100 rfl ?_
  refine ev_icmp_ge (M := MX4_best) (tgt := 207) dX4_best_101 rfl (fun c1 => ?_) (fun c1 => ?_)
  · have h := h.1 c1
    refine ev_iload_n dX4_best_207 rfl ?_
    refine ev_if_ne (M := MX4_best) (tgt := 223) dX4_best_208 rfl (fun c2 => ?_) (fun c2 => ?_)
    · have h := h.1 c2
      refine ev_iload dX4_best_223 rfl ?_
      refine ev_aload_n dX4_best_225 rfl ?_
      refine ev_getr (M := MX4_best) (r := 1) 0 dX4_best_226 sX_0 ck4 (Nat.le_of_ble_eq_true rfl) rfl w256 ?_
      refine ev_get 0 dX4_best_229 sX_1 ck0 (Nat.le_of_ble_eq_true rfl) rfl w84 ?_
      refine ev_aload_n dX4_best_232 rfl ?_
      refine ev_getr (M := MX4_best) (r := 23) 2 dX4_best_233 sX_0 ck4 (Nat.le_of_ble_eq_true rfl) rfl w258 ?_
      refine ev_getr (M := MX4_best) (r := 32) 11 dX4_best_236 sX_23 ck0 (Nat.le_of_ble_eq_true rfl) rfl w126 ?_
      refine ev_aload_n dX4_best_239 rfl ?_
      refine ev_getr (M := MX4_best) (r := 1) 0 dX4_best_240 sX_0 ck4 (Nat.le_of_ble_eq_true rfl) rfl w256 ?_
      refine ev_get 1 dX4_best_243 sX_1 ck0 (Nat.le_of_ble_eq_true rfl) rfl w88 ?_
      refine ev_callSv (M := MX4_best) (M2 := MX4_spread) (As := [.int l4, .int (d 1 0), .ref 32, .int (d 1 1)]) (rest := []) dX4_best_246 w621 moX4_spread rfl ⟨Nat.le_of_ble_eq_true rfl, Nat.le_of_ble_eq_true rfl⟩ rfl rfl (Nat.le_of_ble_eq_true rfl) h (fun d3 h => ?_)
      have h := rV_dn h
      refine ev_aload_n dX4_best_249 rfl ?_
      refine ev_getr (M := MX4_best) (r := 23) 2 dX4_best_250 sX_0 ck4 (Nat.le_of_ble_eq_true rfl) rfl w258 ?_
      refine ev_getr (M := MX4_best) (r := 32) 11 dX4_best_253 sX_23 ck0 (Nat.le_of_ble_eq_true rfl) rfl w126 ?_
      refine ev_iload_n dX4_best_256 rfl ?_
      refine ev_bipush dX4_best_257 cb_10 ?_
      refine ev_isub dX4_best_259 ?_
      obtain ⟨g, h⟩ := h
      refine ev_iald dX4_best_260 sX_32 g ?_
      exact ev_ireti (M := MX4_best) (ty := .int) dX4_best_261 rfl rfl rfl h
    · have h := h.2 c2
      refine ev_iload_n dX4_best_211 rfl ?_
      refine ev_if_ne (M := MX4_best) (tgt := 220) dX4_best_212 rfl (fun c4 => ?_) (fun c4 => ?_)
      · have h := h.1 c4
        refine ev_iload dX4_best_220 rfl ?_
        exact ev_ireti (M := MX4_best) (ty := .int) dX4_best_222 rfl rfl rfl h
      · have h := h.2 c4
        refine ev_iload dX4_best_215 rfl ?_
        refine ev_goto (M := MX4_best) (tgt := 222) dX4_best_217 rfl ?_
        exact ev_ireti (M := MX4_best) (ty := .int) dX4_best_222 rfl rfl rfl h
  · have h := h.2 c1
    refine ev_iload dX4_best_104 rfl ?_
    refine ev_aload_n dX4_best_106 rfl ?_
    refine ev_getr (M := MX4_best) (r := 1) 0 dX4_best_107 sX_0 ck4 (Nat.le_of_ble_eq_true rfl) rfl w256 ?_
    refine ev_get 0 dX4_best_110 sX_1 ck0 (Nat.le_of_ble_eq_true rfl) rfl w84 ?_
    refine ev_aload_n dX4_best_113 rfl ?_
    refine ev_getr (M := MX4_best) (r := 23) 2 dX4_best_114 sX_0 ck4 (Nat.le_of_ble_eq_true rfl) rfl w258 ?_
    refine ev_getr (M := MX4_best) (r := 32) 11 dX4_best_117 sX_23 ck0 (Nat.le_of_ble_eq_true rfl) rfl w126 ?_
    refine ev_aload_n dX4_best_120 rfl ?_
    refine ev_getr (M := MX4_best) (r := 1) 0 dX4_best_121 sX_0 ck4 (Nat.le_of_ble_eq_true rfl) rfl w256 ?_
    refine ev_get 1 dX4_best_124 sX_1 ck0 (Nat.le_of_ble_eq_true rfl) rfl w88 ?_
    refine ev_callSv (M := MX4_best) (M2 := MX4_spread) (As := [.int l7, .int (d 1 0), .ref 32, .int (d 1 1)]) (rest := []) dX4_best_127 w621 moX4_spread rfl ⟨Nat.le_of_ble_eq_true rfl, Nat.le_of_ble_eq_true rfl⟩ rfl rfl (Nat.le_of_ble_eq_true rfl) h (fun d5 h => ?_)
    have h := rV_dn h
    refine ev_aload_n dX4_best_130 rfl ?_
    refine ev_getr (M := MX4_best) (r := 38) 6 dX4_best_131 sX_0 ck4 (Nat.le_of_ble_eq_true rfl) rfl w262 ?_
    refine ev_aload_n dX4_best_134 rfl ?_
    refine ev_getr (M := MX4_best) (r := 23) 2 dX4_best_135 sX_0 ck4 (Nat.le_of_ble_eq_true rfl) rfl w258 ?_
    refine ev_iconst dX4_best_138 ci_0 ?_
    refine ev_callVv (M := MX4_best) (M2 := MX1_run) (As := [.ref 23, .int 0]) (rest := []) dX4_best_139 sX_38 ck1 rfl w539 moX1_run rfl ⟨Nat.le_of_ble_eq_true rfl, Nat.le_of_ble_eq_true rfl⟩ rfl rfl (Nat.le_of_ble_eq_true rfl) h (fun d6 h => ?_)
    have h := rV_dn h
    refine ev_aload_n dX4_best_142 rfl ?_
    refine ev_getr (M := MX4_best) (r := 38) 6 dX4_best_143 sX_0 ck4 (Nat.le_of_ble_eq_true rfl) rfl w262 ?_
    refine ev_aload_n dX4_best_146 rfl ?_
    refine ev_getr (M := MX4_best) (r := 23) 2 dX4_best_147 sX_0 ck4 (Nat.le_of_ble_eq_true rfl) rfl w258 ?_
    refine ev_callVi (M := MX4_best) (M2 := MX1_away) (As := [.ref 23]) (rest := []) dX4_best_150 sX_38 ck1 rfl w583 moX1_away rfl ⟨Nat.le_of_ble_eq_true rfl, Nat.le_of_ble_eq_true rfl⟩ rfl rfl (Nat.le_of_ble_eq_true rfl) h (fun r8 d7 h => ?_)
    have h := rI_dn h
    refine ev_istore (M := MX4_best) (ls2 := [.ref 0, .int l1, .int l2, .int l3, .int l4, .int l5, .int l6, .int l7, .int r8, uJ]) dX4_best_153 (Nat.le_of_ble_eq_true rfl) rfl ?_
    refine ev_aload_n dX4_best_155 rfl ?_
    refine ev_getr (M := MX4_best) (r := 38) 6 dX4_best_156 sX_0 ck4 (Nat.le_of_ble_eq_true rfl) rfl w262 ?_
    refine ev_aload_n dX4_best_159 rfl ?_
    refine ev_getr (M := MX4_best) (r := 23) 2 dX4_best_160 sX_0 ck4 (Nat.le_of_ble_eq_true rfl) rfl w258 ?_
    refine ev_callVi (M := MX4_best) (M2 := MX1_cost) (As := [.ref 23]) (rest := []) dX4_best_163 sX_38 ck1 rfl w591 moX1_cost rfl ⟨Nat.le_of_ble_eq_true rfl, Nat.le_of_ble_eq_true rfl⟩ rfl rfl (Nat.le_of_ble_eq_true rfl) h (fun r10 d9 h => ?_)
    have h := rI_dn h
    refine ev_istore (M := MX4_best) (ls2 := [.ref 0, .int l1, .int l2, .int l3, .int l4, .int l5, .int l6, .int l7, .int r8, .int r10]) dX4_best_166 (Nat.le_of_ble_eq_true rfl) rfl ?_
    refine ev_iload dX4_best_168 rfl ?_
    refine ev_iload dX4_best_170 rfl ?_
    refine ev_icmp_lt (M := MX4_best) (tgt := 189) dX4_best_172 rfl (fun c11 => ?_) (fun c11 => ?_)
    · have h := h.1 c11
      refine ev_iload dX4_best_189 rfl ?_
      refine ev_istore (M := MX4_best) (ls2 := [.ref 0, .int l1, .int l2, .int l3, .int l4, .int r8, .int l6, .int l7, .int r8, .int r10]) dX4_best_191 (Nat.le_of_ble_eq_true rfl) rfl ?_
      refine ev_iload dX4_best_193 rfl ?_
      refine ev_istore (M := MX4_best) (ls2 := [.ref 0, .int l1, .int l2, .int l3, .int l4, .int r8, .int r10, .int l7, .int r8, .int r10]) dX4_best_195 (Nat.le_of_ble_eq_true rfl) rfl ?_
      refine ev_iload dX4_best_197 rfl ?_
      refine ev_istore (M := MX4_best) (ls2 := [.ref 0, .int l1, .int l2, .int l3, .int l7, .int r8, .int r10, .int l7, .int r8, .int r10]) dX4_best_199 (Nat.le_of_ble_eq_true rfl) rfl ?_
      refine ev_iinc (M := MX4_best) (ls2 := [.ref 0, .int l1, .int l2, .int l3, .int l7, .int r8, .int r10, .int (l7 + 1), .int r8, .int r10]) dX4_best_201 rfl (iin ci_1) (Nat.le_of_ble_eq_true rfl) rfl ?_
      refine ev_goto (M := MX4_best) (tgt := 98) dX4_best_204 rfl ?_
      refine Ev.forget (ls2 := [.ref 0, .int l1, .int l2, .int l3, .int l7, .int r8, .int r10, .int (l7 + 1), uJ, uJ]) ?_ (fun i v hi hv => lsub_of (bs := [false, false, false, false, false, false, false, false, true, true]) rfl i v hi hv)
      exact h
    · have h := h.2 c11
      refine ev_iload dX4_best_175 rfl ?_
      refine ev_iload dX4_best_177 rfl ?_
      refine ev_icmp_ne (M := MX4_best) (tgt := 201) dX4_best_179 rfl (fun c12 => ?_) (fun c12 => ?_)
      · have h := h.1 c12
        refine ev_iinc (M := MX4_best) (ls2 := [.ref 0, .int l1, .int l2, .int l3, .int l4, .int l5, .int l6, .int (l7 + 1), .int r8, .int r10]) dX4_best_201 rfl (iin ci_1) (Nat.le_of_ble_eq_true rfl) rfl ?_
        refine ev_goto (M := MX4_best) (tgt := 98) dX4_best_204 rfl ?_
        refine Ev.forget (ls2 := [.ref 0, .int l1, .int l2, .int l3, .int l4, .int l5, .int l6, .int (l7 + 1), uJ, uJ]) ?_ (fun i v hi hv => lsub_of (bs := [false, false, false, false, false, false, false, false, true, true]) rfl i v hi hv)
        exact h
      · have h := h.2 c12
        refine ev_iload dX4_best_182 rfl ?_
        refine ev_iload dX4_best_184 rfl ?_
        refine ev_icmp_ge (M := MX4_best) (tgt := 201) dX4_best_186 rfl (fun c13 => ?_) (fun c13 => ?_)
        · have h := h.1 c13
          refine ev_iinc (M := MX4_best) (ls2 := [.ref 0, .int l1, .int l2, .int l3, .int l4, .int l5, .int l6, .int (l7 + 1), .int r8, .int r10]) dX4_best_201 rfl (iin ci_1) (Nat.le_of_ble_eq_true rfl) rfl ?_
          refine ev_goto (M := MX4_best) (tgt := 98) dX4_best_204 rfl ?_
          refine Ev.forget (ls2 := [.ref 0, .int l1, .int l2, .int l3, .int l4, .int l5, .int l6, .int (l7 + 1), uJ, uJ]) ?_ (fun i v hi hv => lsub_of (bs := [false, false, false, false, false, false, false, false, true, true]) rfl i v hi hv)
          exact h
        · have h := h.2 c13
          refine ev_iload dX4_best_189 rfl ?_
          refine ev_istore (M := MX4_best) (ls2 := [.ref 0, .int l1, .int l2, .int l3, .int l4, .int r8, .int l6, .int l7, .int r8, .int r10]) dX4_best_191 (Nat.le_of_ble_eq_true rfl) rfl ?_
          refine ev_iload dX4_best_193 rfl ?_
          refine ev_istore (M := MX4_best) (ls2 := [.ref 0, .int l1, .int l2, .int l3, .int l4, .int r8, .int r10, .int l7, .int r8, .int r10]) dX4_best_195 (Nat.le_of_ble_eq_true rfl) rfl ?_
          refine ev_iload dX4_best_197 rfl ?_
          refine ev_istore (M := MX4_best) (ls2 := [.ref 0, .int l1, .int l2, .int l3, .int l7, .int r8, .int r10, .int l7, .int r8, .int r10]) dX4_best_199 (Nat.le_of_ble_eq_true rfl) rfl ?_
          refine ev_iinc (M := MX4_best) (ls2 := [.ref 0, .int l1, .int l2, .int l3, .int l7, .int r8, .int r10, .int (l7 + 1), .int r8, .int r10]) dX4_best_201 rfl (iin ci_1) (Nat.le_of_ble_eq_true rfl) rfl ?_
          refine ev_goto (M := MX4_best) (tgt := 98) dX4_best_204 rfl ?_
          refine Ev.forget (ls2 := [.ref 0, .int l1, .int l2, .int l3, .int l7, .int r8, .int r10, .int (l7 + 1), uJ, uJ]) ?_ (fun i v hi hv => lsub_of (bs := [false, false, false, false, false, false, false, false, true, true]) rfl i v hi hv)
          exact h
-- X4_apart
set_option maxRecDepth 4000 in
theorem cn_X4_apart {q : Int32 → DD → Prop} {d : DD} {p0 : Int32} (h : ((p0 < 10 → ((p0 = 0 → Ev SX MX4_apart 36 [.ref 0, .int p0, .int 0, uJ, uJ, uJ, uJ, uJ] [] d (rI q)) ∧ (¬ p0 = 0 → q (-1) d))) ∧ (¬ p0 < 10 → (Cn SX MX0_hasTune [.ref 1, .int (p0 - 10)] d (rI fun r4 d3 => ((r4 = 0 → ((p0 = 0 → Ev SX MX4_apart 36 [.ref 0, .int p0, .int 0, uJ, uJ, uJ, uJ, uJ] [] d3 (rI q)) ∧ (¬ p0 = 0 → q (-1) d3))) ∧ (¬ r4 = 0 → ((p0 = 0 → Ev SX MX4_apart 36 [.ref 0, .int p0, .int 1, uJ, uJ, uJ, uJ, uJ] [] d3 (rI q)) ∧ (¬ p0 = 0 → Ev SX MX4_apart 36 [.ref 0, .int p0, .int 1, uJ, uJ, uJ, uJ, uJ] [] d3 (rI q)))))))))) : Cn SX MX4_apart [.ref 0, .int p0] d (rI q) := by
  refine cn_of (ls := [.ref 0, .int p0, uJ, uJ, uJ, uJ, uJ, uJ]) (by decide) rfl rfl (Nat.le_of_ble_eq_true rfl) ?_
  refine ev_iload_n dX4_apart_0 rfl ?_
  refine ev_bipush dX4_apart_1 cb_10 ?_
  refine ev_icmp_lt (M := MX4_apart) (tgt := 24) dX4_apart_3 rfl (fun c1 => ?_) (fun c1 => ?_)
  · have h := h.1 c1
    refine ev_iconst dX4_apart_24 ci_0 ?_
    refine ev_istore_n (M := MX4_apart) (ls2 := [.ref 0, .int p0, .int 0, uJ, uJ, uJ, uJ, uJ]) 2 dX4_apart_25 rfl (Nat.le_of_ble_eq_true rfl) rfl ?_
    refine ev_iload_n dX4_apart_26 rfl ?_
    refine ev_if_eq (M := MX4_apart) (tgt := 36) dX4_apart_27 rfl (fun c2 => ?_) (fun c2 => ?_)
    · have h := h.1 c2
      exact h
    · have h := h.2 c2
      refine ev_iload_n dX4_apart_30 rfl ?_
      refine ev_if_ne (M := MX4_apart) (tgt := 36) dX4_apart_31 rfl (fun z => absurd z (by decide)) (fun _ => ?_)
      refine ev_iconst dX4_apart_34 ci_m1 ?_
      exact ev_ireti (M := MX4_apart) (ty := .int) dX4_apart_35 rfl rfl rfl h
  · have h := h.2 c1
    refine ev_aload_n dX4_apart_6 rfl ?_
    refine ev_getr (M := MX4_apart) (r := 1) 0 dX4_apart_7 sX_0 ck4 (Nat.le_of_ble_eq_true rfl) rfl w256 ?_
    refine ev_iload_n dX4_apart_10 rfl ?_
    refine ev_bipush dX4_apart_11 cb_10 ?_
    refine ev_isub dX4_apart_13 ?_
    refine ev_callVi (M := MX4_apart) (M2 := MX0_hasTune) (As := [.int (p0 - 10)]) (rest := []) dX4_apart_14 sX_1 ck0 rfl w451 moX0_hasTune rfl ⟨Nat.le_of_ble_eq_true rfl, Nat.le_of_ble_eq_true rfl⟩ rfl rfl (Nat.le_of_ble_eq_true rfl) h (fun r4 d3 h => ?_)
    have h := rI_dn h
    refine ev_if_eq (M := MX4_apart) (tgt := 24) dX4_apart_17 rfl (fun c5 => ?_) (fun c5 => ?_)
    · have h := h.1 c5
      refine ev_iconst dX4_apart_24 ci_0 ?_
      refine ev_istore_n (M := MX4_apart) (ls2 := [.ref 0, .int p0, .int 0, uJ, uJ, uJ, uJ, uJ]) 2 dX4_apart_25 rfl (Nat.le_of_ble_eq_true rfl) rfl ?_
      refine ev_iload_n dX4_apart_26 rfl ?_
      refine ev_if_eq (M := MX4_apart) (tgt := 36) dX4_apart_27 rfl (fun c6 => ?_) (fun c6 => ?_)
      · have h := h.1 c6
        exact h
      · have h := h.2 c6
        refine ev_iload_n dX4_apart_30 rfl ?_
        refine ev_if_ne (M := MX4_apart) (tgt := 36) dX4_apart_31 rfl (fun z => absurd z (by decide)) (fun _ => ?_)
        refine ev_iconst dX4_apart_34 ci_m1 ?_
        exact ev_ireti (M := MX4_apart) (ty := .int) dX4_apart_35 rfl rfl rfl h
    · have h := h.2 c5
      refine ev_iconst dX4_apart_20 ci_1 ?_
      refine ev_goto (M := MX4_apart) (tgt := 25) dX4_apart_21 rfl ?_
      refine ev_istore_n (M := MX4_apart) (ls2 := [.ref 0, .int p0, .int 1, uJ, uJ, uJ, uJ, uJ]) 2 dX4_apart_25 rfl (Nat.le_of_ble_eq_true rfl) rfl ?_
      refine ev_iload_n dX4_apart_26 rfl ?_
      refine ev_if_eq (M := MX4_apart) (tgt := 36) dX4_apart_27 rfl (fun c7 => ?_) (fun c7 => ?_)
      · have h := h.1 c7
        exact h
      · have h := h.2 c7
        refine ev_iload_n dX4_apart_30 rfl ?_
        refine ev_if_ne (M := MX4_apart) (tgt := 36) dX4_apart_31 rfl (fun _ => ?_) (fun z => absurd z (by decide))
        exact h
set_option maxRecDepth 4000 in
theorem bk_X4_apart_36 {q : Int32 → DD → Prop} {d : DD} {l1 : Int32} {l2 : Int32} (h : ((1 ≤ (d 1 0) → (Cn SX MX0_become [.ref 23, .ref 1] d (rV fun d2 => (Cn SX MX4_power [.int 4, .int (d2 1 0)] d2 (rI fun r4 d3 => Ev SX MX4_apart 83 [.ref 0, .int l1, .int l2, .int r4, .int 0, .int 1000000, .int 0, uJ] [] d3 (rI q)))))) ∧ (¬ 1 ≤ (d 1 0) → q (-2) d))) : Ev SX MX4_apart 36 [.ref 0, .int l1, .int l2, uJ, uJ, uJ, uJ, uJ] [] d (rI q) := by
  refine ev_aload_n dX4_apart_36 rfl ?_
  refine ev_getr (M := MX4_apart) (r := 1) 0 dX4_apart_37 sX_0 ck4 (Nat.le_of_ble_eq_true rfl) rfl w256 ?_
  refine ev_get 0 dX4_apart_40 sX_1 ck0 (Nat.le_of_ble_eq_true rfl) rfl w84 ?_
  refine ev_iconst dX4_apart_43 ci_1 ?_
  refine ev_icmp_ge (M := MX4_apart) (tgt := 50) dX4_apart_44 rfl (fun c1 => ?_) (fun c1 => ?_)
  · have h := h.1 c1
    refine ev_aload_n dX4_apart_50 rfl ?_
    refine ev_getr (M := MX4_apart) (r := 23) 2 dX4_apart_51 sX_0 ck4 (Nat.le_of_ble_eq_true rfl) rfl w258 ?_
    refine ev_aload_n dX4_apart_54 rfl ?_
    refine ev_getr (M := MX4_apart) (r := 1) 0 dX4_apart_55 sX_0 ck4 (Nat.le_of_ble_eq_true rfl) rfl w256 ?_
    refine ev_callVv (M := MX4_apart) (M2 := MX0_become) (As := [.ref 1]) (rest := []) dX4_apart_58 sX_23 ck0 rfl w431 moX0_become rfl ⟨Nat.le_of_ble_eq_true rfl, Nat.le_of_ble_eq_true rfl⟩ rfl rfl (Nat.le_of_ble_eq_true rfl) h (fun d2 h => ?_)
    have h := rV_dn h
    refine ev_iconst dX4_apart_61 ci_4 ?_
    refine ev_aload_n dX4_apart_62 rfl ?_
    refine ev_getr (M := MX4_apart) (r := 1) 0 dX4_apart_63 sX_0 ck4 (Nat.le_of_ble_eq_true rfl) rfl w256 ?_
    refine ev_get 0 dX4_apart_66 sX_1 ck0 (Nat.le_of_ble_eq_true rfl) rfl w84 ?_
    refine ev_callSi (M := MX4_apart) (M2 := MX4_power) (As := [.int 4, .int (d2 1 0)]) (rest := []) dX4_apart_69 w617 moX4_power rfl ⟨Nat.le_of_ble_eq_true rfl, Nat.le_of_ble_eq_true rfl⟩ rfl rfl (Nat.le_of_ble_eq_true rfl) h (fun r4 d3 h => ?_)
    have h := rI_dn h
    refine ev_istore_n (M := MX4_apart) (ls2 := [.ref 0, .int l1, .int l2, .int r4, uJ, uJ, uJ, uJ]) 3 dX4_apart_72 rfl (Nat.le_of_ble_eq_true rfl) rfl ?_
    refine ev_iconst dX4_apart_73 ci_0 ?_
    refine ev_istore (M := MX4_apart) (ls2 := [.ref 0, .int l1, .int l2, .int r4, .int 0, uJ, uJ, uJ]) dX4_apart_74 (Nat.le_of_ble_eq_true rfl) rfl ?_
    refine ev_ldc dX4_apart_76 w620 ?_
    refine ev_istore (M := MX4_apart) (ls2 := [.ref 0, .int l1, .int l2, .int r4, .int 0, .int 1000000, uJ, uJ]) dX4_apart_78 (Nat.le_of_ble_eq_true rfl) rfl ?_
    refine ev_iconst dX4_apart_80 ci_0 ?_
    refine ev_istore (M := MX4_apart) (ls2 := [.ref 0, .int l1, .int l2, .int r4, .int 0, .int 1000000, .int 0, uJ]) dX4_apart_81 (Nat.le_of_ble_eq_true rfl) rfl ?_
    exact h
  · have h := h.2 c1
    refine ev_bipush dX4_apart_47 cb_m2 ?_
    exact ev_ireti (M := MX4_apart) (ty := .int) dX4_apart_49 rfl rfl rfl h
set_option maxRecDepth 4000 in
theorem bk_X4_apart_83 {q : Int32 → DD → Prop} {d : DD} {l1 : Int32} {l2 : Int32} {l3 : Int32} {l4 : Int32} {l5 : Int32} {l6 : Int32} (h : ((l3 ≤ l6 → ((¬ l2 = 0 → (Cn SX MX4_spread [.int l4, .int 4, .ref 27, .int (d 1 0)] d (rV fun d3 => (vp_in (l1 - 10) 4 ∧ q (d3 27 (l1 - 10).toNatClampNeg) d3)))) ∧ (l2 = 0 → q l5 d))) ∧ (¬ l3 ≤ l6 → (Cn SX MX4_spread [.int l6, .int 4, .ref 27, .int (d 1 0)] d (rV fun d4 => (Cn SX MX1_run [.ref 38, .ref 23, .int 0] d4 (rV fun d5 => (Cn SX MX1_away [.ref 38, .ref 23] d5 (rI fun r7 d6 => ((l5 ≤ r7 → Ev SX MX4_apart 83 [.ref 0, .int l1, .int l2, .int l3, .int l4, .int l5, .int (l6 + 1), uJ] [] d6 (rI q)) ∧ (¬ l5 ≤ r7 → Ev SX MX4_apart 83 [.ref 0, .int l1, .int l2, .int l3, .int l6, .int r7, .int (l6 + 1), uJ] [] d6 (rI q)))))))))))) : Ev SX MX4_apart 83 [.ref 0, .int l1, .int l2, .int l3, .int l4, .int l5, .int l6, uJ] [] d (rI q) := by
  refine ev_iload dX4_apart_83 rfl ?_
  refine ev_iload_n dX4_apart_85 rfl ?_
  refine ev_icmp_ge (M := MX4_apart) (tgt := 155) dX4_apart_86 rfl (fun c1 => ?_) (fun c1 => ?_)
  · have h := h.1 c1
    refine ev_iload_n dX4_apart_155 rfl ?_
    refine ev_if_ne (M := MX4_apart) (tgt := 162) dX4_apart_156 rfl (fun c2 => ?_) (fun c2 => ?_)
    · have h := h.1 c2
      refine ev_iload dX4_apart_162 rfl ?_
      refine ev_iconst dX4_apart_164 ci_4 ?_
      refine ev_aload_n dX4_apart_165 rfl ?_
      refine ev_getr (M := MX4_apart) (r := 23) 2 dX4_apart_166 sX_0 ck4 (Nat.le_of_ble_eq_true rfl) rfl w258 ?_
      refine ev_getr (M := MX4_apart) (r := 27) 6 dX4_apart_169 sX_23 ck0 (Nat.le_of_ble_eq_true rfl) rfl w107 ?_
      refine ev_aload_n dX4_apart_172 rfl ?_
      refine ev_getr (M := MX4_apart) (r := 1) 0 dX4_apart_173 sX_0 ck4 (Nat.le_of_ble_eq_true rfl) rfl w256 ?_
      refine ev_get 0 dX4_apart_176 sX_1 ck0 (Nat.le_of_ble_eq_true rfl) rfl w84 ?_
      refine ev_callSv (M := MX4_apart) (M2 := MX4_spread) (As := [.int l4, .int 4, .ref 27, .int (d 1 0)]) (rest := []) dX4_apart_179 w621 moX4_spread rfl ⟨Nat.le_of_ble_eq_true rfl, Nat.le_of_ble_eq_true rfl⟩ rfl rfl (Nat.le_of_ble_eq_true rfl) h (fun d3 h => ?_)
      have h := rV_dn h
      refine ev_aload_n dX4_apart_182 rfl ?_
      refine ev_getr (M := MX4_apart) (r := 23) 2 dX4_apart_183 sX_0 ck4 (Nat.le_of_ble_eq_true rfl) rfl w258 ?_
      refine ev_getr (M := MX4_apart) (r := 27) 6 dX4_apart_186 sX_23 ck0 (Nat.le_of_ble_eq_true rfl) rfl w107 ?_
      refine ev_iload_n dX4_apart_189 rfl ?_
      refine ev_bipush dX4_apart_190 cb_10 ?_
      refine ev_isub dX4_apart_192 ?_
      obtain ⟨g, h⟩ := h
      refine ev_iald dX4_apart_193 sX_27 g ?_
      exact ev_ireti (M := MX4_apart) (ty := .int) dX4_apart_194 rfl rfl rfl h
    · have h := h.2 c2
      refine ev_iload dX4_apart_159 rfl ?_
      exact ev_ireti (M := MX4_apart) (ty := .int) dX4_apart_161 rfl rfl rfl h
  · have h := h.2 c1
    refine ev_iload dX4_apart_89 rfl ?_
    refine ev_iconst dX4_apart_91 ci_4 ?_
    refine ev_aload_n dX4_apart_92 rfl ?_
    refine ev_getr (M := MX4_apart) (r := 23) 2 dX4_apart_93 sX_0 ck4 (Nat.le_of_ble_eq_true rfl) rfl w258 ?_
    refine ev_getr (M := MX4_apart) (r := 27) 6 dX4_apart_96 sX_23 ck0 (Nat.le_of_ble_eq_true rfl) rfl w107 ?_
    refine ev_aload_n dX4_apart_99 rfl ?_
    refine ev_getr (M := MX4_apart) (r := 1) 0 dX4_apart_100 sX_0 ck4 (Nat.le_of_ble_eq_true rfl) rfl w256 ?_
    refine ev_get 0 dX4_apart_103 sX_1 ck0 (Nat.le_of_ble_eq_true rfl) rfl w84 ?_
    refine ev_callSv (M := MX4_apart) (M2 := MX4_spread) (As := [.int l6, .int 4, .ref 27, .int (d 1 0)]) (rest := []) dX4_apart_106 w621 moX4_spread rfl ⟨Nat.le_of_ble_eq_true rfl, Nat.le_of_ble_eq_true rfl⟩ rfl rfl (Nat.le_of_ble_eq_true rfl) h (fun d4 h => ?_)
    have h := rV_dn h
    refine ev_aload_n dX4_apart_109 rfl ?_
    refine ev_getr (M := MX4_apart) (r := 38) 6 dX4_apart_110 sX_0 ck4 (Nat.le_of_ble_eq_true rfl) rfl w262 ?_
    refine ev_aload_n dX4_apart_113 rfl ?_
    refine ev_getr (M := MX4_apart) (r := 23) 2 dX4_apart_114 sX_0 ck4 (Nat.le_of_ble_eq_true rfl) rfl w258 ?_
    refine ev_iconst dX4_apart_117 ci_0 ?_
    refine ev_callVv (M := MX4_apart) (M2 := MX1_run) (As := [.ref 23, .int 0]) (rest := []) dX4_apart_118 sX_38 ck1 rfl w539 moX1_run rfl ⟨Nat.le_of_ble_eq_true rfl, Nat.le_of_ble_eq_true rfl⟩ rfl rfl (Nat.le_of_ble_eq_true rfl) h (fun d5 h => ?_)
    have h := rV_dn h
    refine ev_aload_n dX4_apart_121 rfl ?_
    refine ev_getr (M := MX4_apart) (r := 38) 6 dX4_apart_122 sX_0 ck4 (Nat.le_of_ble_eq_true rfl) rfl w262 ?_
    refine ev_aload_n dX4_apart_125 rfl ?_
    refine ev_getr (M := MX4_apart) (r := 23) 2 dX4_apart_126 sX_0 ck4 (Nat.le_of_ble_eq_true rfl) rfl w258 ?_
    refine ev_callVi (M := MX4_apart) (M2 := MX1_away) (As := [.ref 23]) (rest := []) dX4_apart_129 sX_38 ck1 rfl w583 moX1_away rfl ⟨Nat.le_of_ble_eq_true rfl, Nat.le_of_ble_eq_true rfl⟩ rfl rfl (Nat.le_of_ble_eq_true rfl) h (fun r7 d6 h => ?_)
    have h := rI_dn h
    refine ev_istore (M := MX4_apart) (ls2 := [.ref 0, .int l1, .int l2, .int l3, .int l4, .int l5, .int l6, .int r7]) dX4_apart_132 (Nat.le_of_ble_eq_true rfl) rfl ?_
    refine ev_iload dX4_apart_134 rfl ?_
    refine ev_iload dX4_apart_136 rfl ?_
    refine ev_icmp_ge (M := MX4_apart) (tgt := 149) dX4_apart_138 rfl (fun c8 => ?_) (fun c8 => ?_)
    · have h := h.1 c8
      refine ev_iinc (M := MX4_apart) (ls2 := [.ref 0, .int l1, .int l2, .int l3, .int l4, .int l5, .int (l6 + 1), .int r7]) dX4_apart_149 rfl (iin ci_1) (Nat.le_of_ble_eq_true rfl) rfl ?_
      refine ev_goto (M := MX4_apart) (tgt := 83) dX4_apart_152 rfl ?_
      refine Ev.forget (ls2 := [.ref 0, .int l1, .int l2, .int l3, .int l4, .int l5, .int (l6 + 1), uJ]) ?_ (fun i v hi hv => lsub_of (bs := [false, false, false, false, false, false, false, true]) rfl i v hi hv)
      exact h
    · have h := h.2 c8
      refine ev_iload dX4_apart_141 rfl ?_
      refine ev_istore (M := MX4_apart) (ls2 := [.ref 0, .int l1, .int l2, .int l3, .int l4, .int r7, .int l6, .int r7]) dX4_apart_143 (Nat.le_of_ble_eq_true rfl) rfl ?_
      refine ev_iload dX4_apart_145 rfl ?_
      refine ev_istore (M := MX4_apart) (ls2 := [.ref 0, .int l1, .int l2, .int l3, .int l6, .int r7, .int l6, .int r7]) dX4_apart_147 (Nat.le_of_ble_eq_true rfl) rfl ?_
      refine ev_iinc (M := MX4_apart) (ls2 := [.ref 0, .int l1, .int l2, .int l3, .int l6, .int r7, .int (l6 + 1), .int r7]) dX4_apart_149 rfl (iin ci_1) (Nat.le_of_ble_eq_true rfl) rfl ?_
      refine ev_goto (M := MX4_apart) (tgt := 83) dX4_apart_152 rfl ?_
      refine Ev.forget (ls2 := [.ref 0, .int l1, .int l2, .int l3, .int l6, .int r7, .int (l6 + 1), uJ]) ?_ (fun i v hi hv => lsub_of (bs := [false, false, false, false, false, false, false, true]) rfl i v hi hv)
      exact h
-- X4_compose
set_option maxRecDepth 4000 in
theorem cn_X4_compose {q : Int32 → DD → Prop} {d : DD} {p0 : Int32} {p1 : Int32} (h : (Cn SX MX4_within [.int p0, .int 1, .int 144] d (rI fun r2 d1 => ((r2 = 0 → q (-1) d1) ∧ (¬ r2 = 0 → (Cn SX MX4_within [.int p1, .int 0, .int 2] d1 (rI fun r5 d4 => ((¬ r5 = 0 → Ev SX MX4_compose 24 [.ref 0, .int p0, .int p1, .int 1, uJ, uJ] [] d4 (rI q)) ∧ (r5 = 0 → q (-1) d4))))))))) : Cn SX MX4_compose [.ref 0, .int p0, .int p1] d (rI q) := by
  refine cn_of (ls := [.ref 0, .int p0, .int p1, uJ, uJ, uJ]) (by decide) rfl rfl (Nat.le_of_ble_eq_true rfl) ?_
  refine ev_iload_n dX4_compose_0 rfl ?_
  refine ev_iconst dX4_compose_1 ci_1 ?_
  refine ev_sipush dX4_compose_2 cs_144 ?_
  refine ev_callSi (M := MX4_compose) (M2 := MX4_within) (As := [.int p0, .int 1, .int 144]) (rest := []) dX4_compose_5 w300 moX4_within rfl ⟨Nat.le_of_ble_eq_true rfl, Nat.le_of_ble_eq_true rfl⟩ rfl rfl (Nat.le_of_ble_eq_true rfl) h (fun r2 d1 h => ?_)
  have h := rI_dn h
  refine ev_if_eq (M := MX4_compose) (tgt := 20) dX4_compose_8 rfl (fun c3 => ?_) (fun c3 => ?_)
  · have h := h.1 c3
    refine ev_iconst dX4_compose_20 ci_m1 ?_
    exact ev_ireti (M := MX4_compose) (ty := .int) dX4_compose_21 rfl rfl rfl h
  · have h := h.2 c3
    refine ev_iload_n dX4_compose_11 rfl ?_
    refine ev_iconst dX4_compose_12 ci_0 ?_
    refine ev_iconst dX4_compose_13 ci_2 ?_
    refine ev_callSi (M := MX4_compose) (M2 := MX4_within) (As := [.int p1, .int 0, .int 2]) (rest := []) dX4_compose_14 w300 moX4_within rfl ⟨Nat.le_of_ble_eq_true rfl, Nat.le_of_ble_eq_true rfl⟩ rfl rfl (Nat.le_of_ble_eq_true rfl) h (fun r5 d4 h => ?_)
    have h := rI_dn h
    refine ev_if_ne (M := MX4_compose) (tgt := 22) dX4_compose_17 rfl (fun c6 => ?_) (fun c6 => ?_)
    · have h := h.1 c6
      refine ev_iconst dX4_compose_22 ci_1 ?_
      refine ev_istore_n (M := MX4_compose) (ls2 := [.ref 0, .int p0, .int p1, .int 1, uJ, uJ]) 3 dX4_compose_23 rfl (Nat.le_of_ble_eq_true rfl) rfl ?_
      exact h
    · have h := h.2 c6
      refine ev_iconst dX4_compose_20 ci_m1 ?_
      exact ev_ireti (M := MX4_compose) (ty := .int) dX4_compose_21 rfl rfl rfl h
set_option maxRecDepth 4000 in
theorem bk_X4_compose_24 {q : Int32 → DD → Prop} {d : DD} {l1 : Int32} {l2 : Int32} {l3 : Int32} (h : ((8 < l3 → q (-4) d) ∧ (¬ 8 < l3 → Ev SX MX4_compose 33 [.ref 0, .int l1, .int l2, .int l3, .int 0, uJ] [] d (rI q)))) : Ev SX MX4_compose 24 [.ref 0, .int l1, .int l2, .int l3, uJ, uJ] [] d (rI q) := by
  refine ev_iload_n dX4_compose_24 rfl ?_
  refine ev_bipush dX4_compose_25 cb_8 ?_
  refine ev_icmp_gt (M := MX4_compose) (tgt := 101) dX4_compose_27 rfl (fun c1 => ?_) (fun c1 => ?_)
  · have h := h.1 c1
    refine ev_bipush dX4_compose_101 cb_m4 ?_
    exact ev_ireti (M := MX4_compose) (ty := .int) dX4_compose_103 rfl rfl rfl h
  · have h := h.2 c1
    refine ev_iconst dX4_compose_30 ci_0 ?_
    refine ev_istore (M := MX4_compose) (ls2 := [.ref 0, .int l1, .int l2, .int l3, .int 0, uJ]) dX4_compose_31 (Nat.le_of_ble_eq_true rfl) rfl ?_
    exact h
set_option maxRecDepth 4000 in
theorem bk_X4_compose_33 {q : Int32 → DD → Prop} {d : DD} {l1 : Int32} {l2 : Int32} {l3 : Int32} {l4 : Int32} (h : ((4 ≤ l4 → Ev SX MX4_compose 24 [.ref 0, .int l1, .int l2, .int (l3 + 1), uJ, uJ] [] d (rI q)) ∧ (¬ 4 ≤ l4 → Ev SX MX4_compose 42 [.ref 0, .int l1, .int l2, .int l3, .int l4, .int 1] [] d (rI q)))) : Ev SX MX4_compose 33 [.ref 0, .int l1, .int l2, .int l3, .int l4, uJ] [] d (rI q) := by
  refine ev_iload dX4_compose_33 rfl ?_
  refine ev_iconst dX4_compose_35 ci_4 ?_
  refine ev_icmp_ge (M := MX4_compose) (tgt := 95) dX4_compose_36 rfl (fun c1 => ?_) (fun c1 => ?_)
  · have h := h.1 c1
    refine ev_iinc (M := MX4_compose) (ls2 := [.ref 0, .int l1, .int l2, .int (l3 + 1), .int l4, uJ]) dX4_compose_95 rfl (iin ci_1) (Nat.le_of_ble_eq_true rfl) rfl ?_
    refine ev_goto (M := MX4_compose) (tgt := 24) dX4_compose_98 rfl ?_
    refine Ev.forget (ls2 := [.ref 0, .int l1, .int l2, .int (l3 + 1), uJ, uJ]) ?_ (fun i v hi hv => lsub_of (bs := [false, false, false, false, true, false]) rfl i v hi hv)
    exact h
  · have h := h.2 c1
    refine ev_iconst dX4_compose_39 ci_1 ?_
    refine ev_istore (M := MX4_compose) (ls2 := [.ref 0, .int l1, .int l2, .int l3, .int l4, .int 1]) dX4_compose_40 (Nat.le_of_ble_eq_true rfl) rfl ?_
    exact h
set_option maxRecDepth 4000 in
theorem bk_X4_compose_42 {q : Int32 → DD → Prop} {d : DD} {l1 : Int32} {l2 : Int32} {l3 : Int32} {l4 : Int32} {l5 : Int32} (h : ((9 < l5 → Ev SX MX4_compose 33 [.ref 0, .int l1, .int l2, .int l3, .int (l4 + 1), uJ] [] d (rI q)) ∧ (¬ 9 < l5 → (Cn SX MX0_rowLength [.int l4, .int l3] d (rI fun r3 d2 => ((¬ (l5 * r3) = l1 → Ev SX MX4_compose 42 [.ref 0, .int l1, .int l2, .int l3, .int l4, .int (l5 + 1)] [] d2 (rI q)) ∧ ((l5 * r3) = l1 → ((¬ l2 = 0 → ((¬ l2 = 1 → q l5 d2) ∧ (l2 = 1 → q l4 d2))) ∧ (l2 = 0 → q l3 d2))))))))) : Ev SX MX4_compose 42 [.ref 0, .int l1, .int l2, .int l3, .int l4, .int l5] [] d (rI q) := by
  refine ev_iload dX4_compose_42 rfl ?_
  refine ev_bipush dX4_compose_44 cb_9 ?_
  refine ev_icmp_gt (M := MX4_compose) (tgt := 89) dX4_compose_46 rfl (fun c1 => ?_) (fun c1 => ?_)
  · have h := h.1 c1
    refine ev_iinc (M := MX4_compose) (ls2 := [.ref 0, .int l1, .int l2, .int l3, .int (l4 + 1), .int l5]) dX4_compose_89 rfl (iin ci_1) (Nat.le_of_ble_eq_true rfl) rfl ?_
    refine ev_goto (M := MX4_compose) (tgt := 33) dX4_compose_92 rfl ?_
    refine Ev.forget (ls2 := [.ref 0, .int l1, .int l2, .int l3, .int (l4 + 1), uJ]) ?_ (fun i v hi hv => lsub_of (bs := [false, false, false, false, false, true]) rfl i v hi hv)
    exact h
  · have h := h.2 c1
    refine ev_iload dX4_compose_49 rfl ?_
    refine ev_iload dX4_compose_51 rfl ?_
    refine ev_iload_n dX4_compose_53 rfl ?_
    refine ev_callSi (M := MX4_compose) (M2 := MX0_rowLength) (As := [.int l4, .int l3]) (rest := [.int l5]) dX4_compose_54 w632 moX0_rowLength rfl ⟨Nat.le_of_ble_eq_true rfl, Nat.le_of_ble_eq_true rfl⟩ rfl rfl (Nat.le_of_ble_eq_true rfl) h (fun r3 d2 h => ?_)
    have h := rI_dn h
    refine ev_imul dX4_compose_57 ?_
    refine ev_iload_n dX4_compose_58 rfl ?_
    refine ev_icmp_ne (M := MX4_compose) (tgt := 83) dX4_compose_59 rfl (fun c4 => ?_) (fun c4 => ?_)
    · have h := h.1 c4
      refine ev_iinc (M := MX4_compose) (ls2 := [.ref 0, .int l1, .int l2, .int l3, .int l4, .int (l5 + 1)]) dX4_compose_83 rfl (iin ci_1) (Nat.le_of_ble_eq_true rfl) rfl ?_
      refine ev_goto (M := MX4_compose) (tgt := 42) dX4_compose_86 rfl ?_
      exact h
    · have h := h.2 c4
      refine ev_iload_n dX4_compose_62 rfl ?_
      refine ev_if_ne (M := MX4_compose) (tgt := 70) dX4_compose_63 rfl (fun c5 => ?_) (fun c5 => ?_)
      · have h := h.1 c5
        refine ev_iload_n dX4_compose_70 rfl ?_
        refine ev_iconst dX4_compose_71 ci_1 ?_
        refine ev_icmp_ne (M := MX4_compose) (tgt := 80) dX4_compose_72 rfl (fun c6 => ?_) (fun c6 => ?_)
        · have h := h.1 c6
          refine ev_iload dX4_compose_80 rfl ?_
          exact ev_ireti (M := MX4_compose) (ty := .int) dX4_compose_82 rfl rfl rfl h
        · have h := h.2 c6
          refine ev_iload dX4_compose_75 rfl ?_
          refine ev_goto (M := MX4_compose) (tgt := 82) dX4_compose_77 rfl ?_
          exact ev_ireti (M := MX4_compose) (ty := .int) dX4_compose_82 rfl rfl rfl h
      · have h := h.2 c5
        refine ev_iload_n dX4_compose_66 rfl ?_
        refine ev_goto (M := MX4_compose) (tgt := 82) dX4_compose_67 rfl ?_
        exact ev_ireti (M := MX4_compose) (ty := .int) dX4_compose_82 rfl rfl rfl h
-- X4_bribe
set_option maxRecDepth 4000 in
theorem cn_X4_bribe {q : Int32 → DD → Prop} {d : DD} {p0 : Int32} {p1 : Int32} {p2 : Int32} (h : (Cn SX MX4_within [.int p0, .int 0, .int ((1 <<< ((d 1 2) &&& 31)) - 1)] d (rI fun r2 d1 => ((r2 = 0 → q (-1) d1) ∧ (¬ r2 = 0 → (Cn SX MX4_within [.int p1, .int 0, .int 159] d1 (rI fun r5 d4 => ((r5 = 0 → q (-1) d4) ∧ (¬ r5 = 0 → (Cn SX MX4_within [.int p2, .int 0, .int 1] d4 (rI fun r8 d7 => ((r8 = 0 → q (-1) d7) ∧ (¬ r8 = 0 → Ev SX MX4_bribe 59 [.ref 0, .int p0, .int p1, .int p2, .int 1, .int (-1), .int 0] [] d7 (rI q)))))))))))))) : Cn SX MX4_bribe [.ref 0, .int p0, .int p1, .int p2] d (rI q) := by
  refine cn_of (ls := [.ref 0, .int p0, .int p1, .int p2, uJ, uJ, uJ]) (by decide) rfl rfl (Nat.le_of_ble_eq_true rfl) ?_
  refine ev_iload_n dX4_bribe_0 rfl ?_
  refine ev_iconst dX4_bribe_1 ci_0 ?_
  refine ev_iconst dX4_bribe_2 ci_1 ?_
  refine ev_aload_n dX4_bribe_3 rfl ?_
  refine ev_getr (M := MX4_bribe) (r := 1) 0 dX4_bribe_4 sX_0 ck4 (Nat.le_of_ble_eq_true rfl) rfl w256 ?_
  refine ev_get 2 dX4_bribe_7 sX_1 ck0 (Nat.le_of_ble_eq_true rfl) rfl w90 ?_
  refine ev_ishl dX4_bribe_10 ?_
  refine ev_iconst dX4_bribe_11 ci_1 ?_
  refine ev_isub dX4_bribe_12 ?_
  refine ev_callSi (M := MX4_bribe) (M2 := MX4_within) (As := [.int p0, .int 0, .int ((1 <<< ((d 1 2) &&& 31)) - 1)]) (rest := []) dX4_bribe_13 w300 moX4_within rfl ⟨Nat.le_of_ble_eq_true rfl, Nat.le_of_ble_eq_true rfl⟩ rfl rfl (Nat.le_of_ble_eq_true rfl) h (fun r2 d1 h => ?_)
  have h := rI_dn h
  refine ev_if_eq (M := MX4_bribe) (tgt := 43) dX4_bribe_16 rfl (fun c3 => ?_) (fun c3 => ?_)
  · have h := h.1 c3
    refine ev_iconst dX4_bribe_43 ci_0 ?_
    refine ev_istore (M := MX4_bribe) (ls2 := [.ref 0, .int p0, .int p1, .int p2, .int 0, uJ, uJ]) dX4_bribe_44 (Nat.le_of_ble_eq_true rfl) rfl ?_
    refine ev_iload dX4_bribe_46 rfl ?_
    refine ev_if_ne (M := MX4_bribe) (tgt := 53) dX4_bribe_48 rfl (fun z => absurd z (by decide)) (fun _ => ?_)
    refine ev_iconst dX4_bribe_51 ci_m1 ?_
    exact ev_ireti (M := MX4_bribe) (ty := .int) dX4_bribe_52 rfl rfl rfl h
  · have h := h.2 c3
    refine ev_iload_n dX4_bribe_19 rfl ?_
    refine ev_iconst dX4_bribe_20 ci_0 ?_
    refine ev_sipush dX4_bribe_21 cs_159 ?_
    refine ev_callSi (M := MX4_bribe) (M2 := MX4_within) (As := [.int p1, .int 0, .int 159]) (rest := []) dX4_bribe_24 w300 moX4_within rfl ⟨Nat.le_of_ble_eq_true rfl, Nat.le_of_ble_eq_true rfl⟩ rfl rfl (Nat.le_of_ble_eq_true rfl) h (fun r5 d4 h => ?_)
    have h := rI_dn h
    refine ev_if_eq (M := MX4_bribe) (tgt := 43) dX4_bribe_27 rfl (fun c6 => ?_) (fun c6 => ?_)
    · have h := h.1 c6
      refine ev_iconst dX4_bribe_43 ci_0 ?_
      refine ev_istore (M := MX4_bribe) (ls2 := [.ref 0, .int p0, .int p1, .int p2, .int 0, uJ, uJ]) dX4_bribe_44 (Nat.le_of_ble_eq_true rfl) rfl ?_
      refine ev_iload dX4_bribe_46 rfl ?_
      refine ev_if_ne (M := MX4_bribe) (tgt := 53) dX4_bribe_48 rfl (fun z => absurd z (by decide)) (fun _ => ?_)
      refine ev_iconst dX4_bribe_51 ci_m1 ?_
      exact ev_ireti (M := MX4_bribe) (ty := .int) dX4_bribe_52 rfl rfl rfl h
    · have h := h.2 c6
      refine ev_iload_n dX4_bribe_30 rfl ?_
      refine ev_iconst dX4_bribe_31 ci_0 ?_
      refine ev_iconst dX4_bribe_32 ci_1 ?_
      refine ev_callSi (M := MX4_bribe) (M2 := MX4_within) (As := [.int p2, .int 0, .int 1]) (rest := []) dX4_bribe_33 w300 moX4_within rfl ⟨Nat.le_of_ble_eq_true rfl, Nat.le_of_ble_eq_true rfl⟩ rfl rfl (Nat.le_of_ble_eq_true rfl) h (fun r8 d7 h => ?_)
      have h := rI_dn h
      refine ev_if_eq (M := MX4_bribe) (tgt := 43) dX4_bribe_36 rfl (fun c9 => ?_) (fun c9 => ?_)
      · have h := h.1 c9
        refine ev_iconst dX4_bribe_43 ci_0 ?_
        refine ev_istore (M := MX4_bribe) (ls2 := [.ref 0, .int p0, .int p1, .int p2, .int 0, uJ, uJ]) dX4_bribe_44 (Nat.le_of_ble_eq_true rfl) rfl ?_
        refine ev_iload dX4_bribe_46 rfl ?_
        refine ev_if_ne (M := MX4_bribe) (tgt := 53) dX4_bribe_48 rfl (fun z => absurd z (by decide)) (fun _ => ?_)
        refine ev_iconst dX4_bribe_51 ci_m1 ?_
        exact ev_ireti (M := MX4_bribe) (ty := .int) dX4_bribe_52 rfl rfl rfl h
      · have h := h.2 c9
        refine ev_iconst dX4_bribe_39 ci_1 ?_
        refine ev_goto (M := MX4_bribe) (tgt := 44) dX4_bribe_40 rfl ?_
        refine ev_istore (M := MX4_bribe) (ls2 := [.ref 0, .int p0, .int p1, .int p2, .int 1, uJ, uJ]) dX4_bribe_44 (Nat.le_of_ble_eq_true rfl) rfl ?_
        refine ev_iload dX4_bribe_46 rfl ?_
        refine ev_if_ne (M := MX4_bribe) (tgt := 53) dX4_bribe_48 rfl (fun _ => ?_) (fun z => absurd z (by decide))
        refine ev_iconst dX4_bribe_53 ci_m1 ?_
        refine ev_istore (M := MX4_bribe) (ls2 := [.ref 0, .int p0, .int p1, .int p2, .int 1, .int (-1), uJ]) dX4_bribe_54 (Nat.le_of_ble_eq_true rfl) rfl ?_
        refine ev_iconst dX4_bribe_56 ci_0 ?_
        refine ev_istore (M := MX4_bribe) (ls2 := [.ref 0, .int p0, .int p1, .int p2, .int 1, .int (-1), .int 0]) dX4_bribe_57 (Nat.le_of_ble_eq_true rfl) rfl ?_
        exact h
set_option maxRecDepth 4000 in
theorem bk_X4_bribe_59 {q : Int32 → DD → Prop} {d : DD} {l1 : Int32} {l2 : Int32} {l3 : Int32} {l4 : Int32} {l5 : Int32} {l6 : Int32} (h : (((1 <<< ((d 1 1) &&& 31)) ≤ l6 → ((0 ≤ l5 → ((¬ l3 = 0 → q l5 d) ∧ (l3 = 0 → (Cn SX MJ6_bitCount_0f7a4 [.int l5] d (rI fun r5 d4 => q r5 d4))))) ∧ (¬ 0 ≤ l5 → q (-4) d))) ∧ (¬ (1 <<< ((d 1 1) &&& 31)) ≤ l6 → ((l5 < 0 → Ev SX MX4_bribe 91 [.ref 0, .int l1, .int l2, .int l3, .int l4, .int l5, .int l6] [] d (rI q)) ∧ (¬ l5 < 0 → (Cn SX MJ6_bitCount_0f7a4 [.int l6] d (rI fun r8 d7 => (Cn SX MJ6_bitCount_0f7a4 [.int l5] d7 (rI fun r10 d9 => ((r10 ≤ r8 → Ev SX MX4_bribe 59 [.ref 0, .int l1, .int l2, .int l3, .int l4, .int l5, .int (l6 + 1)] [] d9 (rI q)) ∧ (¬ r10 ≤ r8 → Ev SX MX4_bribe 91 [.ref 0, .int l1, .int l2, .int l3, .int l4, .int l5, .int l6] [] d9 (rI q)))))))))))) : Ev SX MX4_bribe 59 [.ref 0, .int l1, .int l2, .int l3, .int l4, .int l5, .int l6] [] d (rI q) := by
  refine ev_iload dX4_bribe_59 rfl ?_
  refine ev_iconst dX4_bribe_61 ci_1 ?_
  refine ev_aload_n dX4_bribe_62 rfl ?_
  refine ev_getr (M := MX4_bribe) (r := 1) 0 dX4_bribe_63 sX_0 ck4 (Nat.le_of_ble_eq_true rfl) rfl w256 ?_
  refine ev_get 1 dX4_bribe_66 sX_1 ck0 (Nat.le_of_ble_eq_true rfl) rfl w88 ?_
  refine ev_ishl dX4_bribe_69 ?_
  refine ev_icmp_ge (M := MX4_bribe) (tgt := 130) dX4_bribe_70 rfl (fun c1 => ?_) (fun c1 => ?_)
  · have h := h.1 c1
    refine ev_iload dX4_bribe_130 rfl ?_
    refine ev_if_ge (M := MX4_bribe) (tgt := 138) dX4_bribe_132 rfl (fun c2 => ?_) (fun c2 => ?_)
    · have h := h.1 c2
      refine ev_iload_n dX4_bribe_138 rfl ?_
      refine ev_if_ne (M := MX4_bribe) (tgt := 150) dX4_bribe_139 rfl (fun c3 => ?_) (fun c3 => ?_)
      · have h := h.1 c3
        refine ev_iload dX4_bribe_150 rfl ?_
        exact ev_ireti (M := MX4_bribe) (ty := .int) dX4_bribe_152 rfl rfl rfl h
      · have h := h.2 c3
        refine ev_iload dX4_bribe_142 rfl ?_
        refine ev_callSi (M := MX4_bribe) (M2 := MJ6_bitCount_0f7a4) (As := [.int l5]) (rest := []) dX4_bribe_144 w637 moJ6_bitCount_0f7a4 rfl ⟨Nat.le_of_ble_eq_true rfl, Nat.le_of_ble_eq_true rfl⟩ rfl rfl (Nat.le_of_ble_eq_true rfl) h (fun r5 d4 h => ?_)
        have h := rI_dn h
        refine ev_goto (M := MX4_bribe) (tgt := 152) dX4_bribe_147 rfl ?_
        exact ev_ireti (M := MX4_bribe) (ty := .int) dX4_bribe_152 rfl rfl rfl h
    · have h := h.2 c2
      refine ev_bipush dX4_bribe_135 cb_m4 ?_
      exact ev_ireti (M := MX4_bribe) (ty := .int) dX4_bribe_137 rfl rfl rfl h
  · have h := h.2 c1
    refine ev_iload dX4_bribe_73 rfl ?_
    refine ev_if_lt (M := MX4_bribe) (tgt := 91) dX4_bribe_75 rfl (fun c6 => ?_) (fun c6 => ?_)
    · have h := h.1 c6
      exact h
    · have h := h.2 c6
      refine ev_iload dX4_bribe_78 rfl ?_
      refine ev_callSi (M := MX4_bribe) (M2 := MJ6_bitCount_0f7a4) (As := [.int l6]) (rest := []) dX4_bribe_80 w637 moJ6_bitCount_0f7a4 rfl ⟨Nat.le_of_ble_eq_true rfl, Nat.le_of_ble_eq_true rfl⟩ rfl rfl (Nat.le_of_ble_eq_true rfl) h (fun r8 d7 h => ?_)
      have h := rI_dn h
      refine ev_iload dX4_bribe_83 rfl ?_
      refine ev_callSi (M := MX4_bribe) (M2 := MJ6_bitCount_0f7a4) (As := [.int l5]) (rest := [.int r8]) dX4_bribe_85 w637 moJ6_bitCount_0f7a4 rfl ⟨Nat.le_of_ble_eq_true rfl, Nat.le_of_ble_eq_true rfl⟩ rfl rfl (Nat.le_of_ble_eq_true rfl) h (fun r10 d9 h => ?_)
      have h := rI_dn h
      refine ev_icmp_ge (M := MX4_bribe) (tgt := 124) dX4_bribe_88 rfl (fun c11 => ?_) (fun c11 => ?_)
      · have h := h.1 c11
        refine ev_iinc (M := MX4_bribe) (ls2 := [.ref 0, .int l1, .int l2, .int l3, .int l4, .int l5, .int (l6 + 1)]) dX4_bribe_124 rfl (iin ci_1) (Nat.le_of_ble_eq_true rfl) rfl ?_
        refine ev_goto (M := MX4_bribe) (tgt := 59) dX4_bribe_127 rfl ?_
        exact h
      · have h := h.2 c11
        exact h
set_option maxRecDepth 4000 in
theorem bk_X4_bribe_91 {q : Int32 → DD → Prop} {d : DD} {l1 : Int32} {l2 : Int32} {l3 : Int32} {l4 : Int32} {l5 : Int32} {l6 : Int32} (h : (Cn SX MX1_run [.ref 38, .ref 1, .int l6] d (rV fun d1 => (Cn SX MX1_allOut [.ref 38, .ref 1, .int l1, .int l2] d1 (rI fun r3 d2 => ((r3 = 0 → Ev SX MX4_bribe 59 [.ref 0, .int l1, .int l2, .int l3, .int l4, .int l5, .int (l6 + 1)] [] d2 (rI q)) ∧ (¬ r3 = 0 → Ev SX MX4_bribe 59 [.ref 0, .int l1, .int l2, .int l3, .int l4, .int l6, .int (l6 + 1)] [] d2 (rI q)))))))) : Ev SX MX4_bribe 91 [.ref 0, .int l1, .int l2, .int l3, .int l4, .int l5, .int l6] [] d (rI q) := by
  refine ev_aload_n dX4_bribe_91 rfl ?_
  refine ev_getr (M := MX4_bribe) (r := 38) 6 dX4_bribe_92 sX_0 ck4 (Nat.le_of_ble_eq_true rfl) rfl w262 ?_
  refine ev_aload_n dX4_bribe_95 rfl ?_
  refine ev_getr (M := MX4_bribe) (r := 1) 0 dX4_bribe_96 sX_0 ck4 (Nat.le_of_ble_eq_true rfl) rfl w256 ?_
  refine ev_iload dX4_bribe_99 rfl ?_
  refine ev_callVv (M := MX4_bribe) (M2 := MX1_run) (As := [.ref 1, .int l6]) (rest := []) dX4_bribe_101 sX_38 ck1 rfl w539 moX1_run rfl ⟨Nat.le_of_ble_eq_true rfl, Nat.le_of_ble_eq_true rfl⟩ rfl rfl (Nat.le_of_ble_eq_true rfl) h (fun d1 h => ?_)
  have h := rV_dn h
  refine ev_aload_n dX4_bribe_104 rfl ?_
  refine ev_getr (M := MX4_bribe) (r := 38) 6 dX4_bribe_105 sX_0 ck4 (Nat.le_of_ble_eq_true rfl) rfl w262 ?_
  refine ev_aload_n dX4_bribe_108 rfl ?_
  refine ev_getr (M := MX4_bribe) (r := 1) 0 dX4_bribe_109 sX_0 ck4 (Nat.le_of_ble_eq_true rfl) rfl w256 ?_
  refine ev_iload_n dX4_bribe_112 rfl ?_
  refine ev_iload_n dX4_bribe_113 rfl ?_
  refine ev_callVi (M := MX4_bribe) (M2 := MX1_allOut) (As := [.ref 1, .int l1, .int l2]) (rest := []) dX4_bribe_114 sX_38 ck1 rfl w643 moX1_allOut rfl ⟨Nat.le_of_ble_eq_true rfl, Nat.le_of_ble_eq_true rfl⟩ rfl rfl (Nat.le_of_ble_eq_true rfl) h (fun r3 d2 h => ?_)
  have h := rI_dn h
  refine ev_if_eq (M := MX4_bribe) (tgt := 124) dX4_bribe_117 rfl (fun c4 => ?_) (fun c4 => ?_)
  · have h := h.1 c4
    refine ev_iinc (M := MX4_bribe) (ls2 := [.ref 0, .int l1, .int l2, .int l3, .int l4, .int l5, .int (l6 + 1)]) dX4_bribe_124 rfl (iin ci_1) (Nat.le_of_ble_eq_true rfl) rfl ?_
    refine ev_goto (M := MX4_bribe) (tgt := 59) dX4_bribe_127 rfl ?_
    exact h
  · have h := h.2 c4
    refine ev_iload dX4_bribe_120 rfl ?_
    refine ev_istore (M := MX4_bribe) (ls2 := [.ref 0, .int l1, .int l2, .int l3, .int l4, .int l6, .int l6]) dX4_bribe_122 (Nat.le_of_ble_eq_true rfl) rfl ?_
    refine ev_iinc (M := MX4_bribe) (ls2 := [.ref 0, .int l1, .int l2, .int l3, .int l4, .int l6, .int (l6 + 1)]) dX4_bribe_124 rfl (iin ci_1) (Nat.le_of_ble_eq_true rfl) rfl ?_
    refine ev_goto (M := MX4_bribe) (tgt := 59) dX4_bribe_127 rfl ?_
    exact h
-- X4_teach
set_option maxRecDepth 4000 in
theorem cn_X4_teach {q : Int32 → DD → Prop} {d : DD} {p0 : Int32} (h : (Cn SX MX4_within [.int p0, .int 0, .int 1] d (rI fun r2 d1 => ((¬ r2 = 0 → (Cn SX MX1_run [.ref 38, .ref 1, .int 0] d1 (rV fun d4 => (Cn SX MX1_away [.ref 38, .ref 1] d4 (rI fun r6 d5 => (Cn SX MX0_become [.ref 23, .ref 1] d5 (rV fun d7 => Ev SX MX4_teach 51 [.ref 0, .int p0, .int r6, .int (-1), .int 0, uJ] [] d7 (rI q)))))))) ∧ (r2 = 0 → q (-1) d1))))) : Cn SX MX4_teach [.ref 0, .int p0] d (rI q) := by
  refine cn_of (ls := [.ref 0, .int p0, uJ, uJ, uJ, uJ]) (by decide) rfl rfl (Nat.le_of_ble_eq_true rfl) ?_
  refine ev_iload_n dX4_teach_0 rfl ?_
  refine ev_iconst dX4_teach_1 ci_0 ?_
  refine ev_iconst dX4_teach_2 ci_1 ?_
  refine ev_callSi (M := MX4_teach) (M2 := MX4_within) (As := [.int p0, .int 0, .int 1]) (rest := []) dX4_teach_3 w300 moX4_within rfl ⟨Nat.le_of_ble_eq_true rfl, Nat.le_of_ble_eq_true rfl⟩ rfl rfl (Nat.le_of_ble_eq_true rfl) h (fun r2 d1 h => ?_)
  have h := rI_dn h
  refine ev_if_ne (M := MX4_teach) (tgt := 11) dX4_teach_6 rfl (fun c3 => ?_) (fun c3 => ?_)
  · have h := h.1 c3
    refine ev_aload_n dX4_teach_11 rfl ?_
    refine ev_getr (M := MX4_teach) (r := 38) 6 dX4_teach_12 sX_0 ck4 (Nat.le_of_ble_eq_true rfl) rfl w262 ?_
    refine ev_aload_n dX4_teach_15 rfl ?_
    refine ev_getr (M := MX4_teach) (r := 1) 0 dX4_teach_16 sX_0 ck4 (Nat.le_of_ble_eq_true rfl) rfl w256 ?_
    refine ev_iconst dX4_teach_19 ci_0 ?_
    refine ev_callVv (M := MX4_teach) (M2 := MX1_run) (As := [.ref 1, .int 0]) (rest := []) dX4_teach_20 sX_38 ck1 rfl w539 moX1_run rfl ⟨Nat.le_of_ble_eq_true rfl, Nat.le_of_ble_eq_true rfl⟩ rfl rfl (Nat.le_of_ble_eq_true rfl) h (fun d4 h => ?_)
    have h := rV_dn h
    refine ev_aload_n dX4_teach_23 rfl ?_
    refine ev_getr (M := MX4_teach) (r := 38) 6 dX4_teach_24 sX_0 ck4 (Nat.le_of_ble_eq_true rfl) rfl w262 ?_
    refine ev_aload_n dX4_teach_27 rfl ?_
    refine ev_getr (M := MX4_teach) (r := 1) 0 dX4_teach_28 sX_0 ck4 (Nat.le_of_ble_eq_true rfl) rfl w256 ?_
    refine ev_callVi (M := MX4_teach) (M2 := MX1_away) (As := [.ref 1]) (rest := []) dX4_teach_31 sX_38 ck1 rfl w583 moX1_away rfl ⟨Nat.le_of_ble_eq_true rfl, Nat.le_of_ble_eq_true rfl⟩ rfl rfl (Nat.le_of_ble_eq_true rfl) h (fun r6 d5 h => ?_)
    have h := rI_dn h
    refine ev_istore_n (M := MX4_teach) (ls2 := [.ref 0, .int p0, .int r6, uJ, uJ, uJ]) 2 dX4_teach_34 rfl (Nat.le_of_ble_eq_true rfl) rfl ?_
    refine ev_iconst dX4_teach_35 ci_m1 ?_
    refine ev_istore_n (M := MX4_teach) (ls2 := [.ref 0, .int p0, .int r6, .int (-1), uJ, uJ]) 3 dX4_teach_36 rfl (Nat.le_of_ble_eq_true rfl) rfl ?_
    refine ev_aload_n dX4_teach_37 rfl ?_
    refine ev_getr (M := MX4_teach) (r := 23) 2 dX4_teach_38 sX_0 ck4 (Nat.le_of_ble_eq_true rfl) rfl w258 ?_
    refine ev_aload_n dX4_teach_41 rfl ?_
    refine ev_getr (M := MX4_teach) (r := 1) 0 dX4_teach_42 sX_0 ck4 (Nat.le_of_ble_eq_true rfl) rfl w256 ?_
    refine ev_callVv (M := MX4_teach) (M2 := MX0_become) (As := [.ref 1]) (rest := []) dX4_teach_45 sX_23 ck0 rfl w431 moX0_become rfl ⟨Nat.le_of_ble_eq_true rfl, Nat.le_of_ble_eq_true rfl⟩ rfl rfl (Nat.le_of_ble_eq_true rfl) h (fun d7 h => ?_)
    have h := rV_dn h
    refine ev_iconst dX4_teach_48 ci_0 ?_
    refine ev_istore (M := MX4_teach) (ls2 := [.ref 0, .int p0, .int r6, .int (-1), .int 0, uJ]) dX4_teach_49 (Nat.le_of_ble_eq_true rfl) rfl ?_
    exact h
  · have h := h.2 c3
    refine ev_iconst dX4_teach_9 ci_m1 ?_
    exact ev_ireti (M := MX4_teach) (ty := .int) dX4_teach_10 rfl rfl rfl h
set_option maxRecDepth 4000 in
theorem bk_X4_teach_51 {q : Int32 → DD → Prop} {d : DD} {l1 : Int32} {l2 : Int32} {l3 : Int32} {l4 : Int32} (h : (((d 1 1) ≤ l4 → ((0 ≤ l3 → ((¬ l1 = 0 → q l2 d) ∧ (l1 = 0 → q l3 d))) ∧ (¬ 0 ≤ l3 → q (-4) d))) ∧ (¬ (d 1 1) ≤ l4 → (vp_in l4 4 ∧ (∀ d4 : DD, d4 = (up d 29 l4.toNatClampNeg 9) → (Cn SX MX1_run [.ref 38, .ref 23, .int 0] d4 (rV fun d5 => (vp_in l4 4 ∧ (vp_in l4 4 ∧ (∀ d6 : DD, d6 = (up d5 29 l4.toNatClampNeg (d5 7 l4.toNatClampNeg)) → (Cn SX MX1_away [.ref 38, .ref 23] d6 (rI fun r8 d7 => ((l2 ≤ r8 → Ev SX MX4_teach 51 [.ref 0, .int l1, .int l2, .int l3, .int (l4 + 1), uJ] [] d7 (rI q)) ∧ (¬ l2 ≤ r8 → Ev SX MX4_teach 51 [.ref 0, .int l1, .int r8, .int l4, .int (l4 + 1), uJ] [] d7 (rI q))))))))))))))) : Ev SX MX4_teach 51 [.ref 0, .int l1, .int l2, .int l3, .int l4, uJ] [] d (rI q) := by
  refine ev_iload dX4_teach_51 rfl ?_
  refine ev_aload_n dX4_teach_53 rfl ?_
  refine ev_getr (M := MX4_teach) (r := 1) 0 dX4_teach_54 sX_0 ck4 (Nat.le_of_ble_eq_true rfl) rfl w256 ?_
  refine ev_get 1 dX4_teach_57 sX_1 ck0 (Nat.le_of_ble_eq_true rfl) rfl w88 ?_
  refine ev_icmp_ge (M := MX4_teach) (tgt := 138) dX4_teach_60 rfl (fun c1 => ?_) (fun c1 => ?_)
  · have h := h.1 c1
    refine ev_iload_n dX4_teach_138 rfl ?_
    refine ev_if_ge (M := MX4_teach) (tgt := 145) dX4_teach_139 rfl (fun c2 => ?_) (fun c2 => ?_)
    · have h := h.1 c2
      refine ev_iload_n dX4_teach_145 rfl ?_
      refine ev_if_ne (M := MX4_teach) (tgt := 153) dX4_teach_146 rfl (fun c3 => ?_) (fun c3 => ?_)
      · have h := h.1 c3
        refine ev_iload_n dX4_teach_153 rfl ?_
        exact ev_ireti (M := MX4_teach) (ty := .int) dX4_teach_154 rfl rfl rfl h
      · have h := h.2 c3
        refine ev_iload_n dX4_teach_149 rfl ?_
        refine ev_goto (M := MX4_teach) (tgt := 154) dX4_teach_150 rfl ?_
        exact ev_ireti (M := MX4_teach) (ty := .int) dX4_teach_154 rfl rfl rfl h
    · have h := h.2 c2
      refine ev_bipush dX4_teach_142 cb_m4 ?_
      exact ev_ireti (M := MX4_teach) (ty := .int) dX4_teach_144 rfl rfl rfl h
  · have h := h.2 c1
    refine ev_aload_n dX4_teach_63 rfl ?_
    refine ev_getr (M := MX4_teach) (r := 23) 2 dX4_teach_64 sX_0 ck4 (Nat.le_of_ble_eq_true rfl) rfl w258 ?_
    refine ev_getr (M := MX4_teach) (r := 29) 8 dX4_teach_67 sX_23 ck0 (Nat.le_of_ble_eq_true rfl) rfl w114 ?_
    refine ev_iload dX4_teach_70 rfl ?_
    refine ev_bipush dX4_teach_72 cb_9 ?_
    obtain ⟨g, h⟩ := h
    refine ev_iast dX4_teach_74 sX_29 g ?_
    refine ev_topd (fun d4 ed4 => ?_)
    have h := h d4 ed4
    refine ev_aload_n dX4_teach_75 rfl ?_
    refine ev_getr (M := MX4_teach) (r := 38) 6 dX4_teach_76 sX_0 ck4 (Nat.le_of_ble_eq_true rfl) rfl w262 ?_
    refine ev_aload_n dX4_teach_79 rfl ?_
    refine ev_getr (M := MX4_teach) (r := 23) 2 dX4_teach_80 sX_0 ck4 (Nat.le_of_ble_eq_true rfl) rfl w258 ?_
    refine ev_iconst dX4_teach_83 ci_0 ?_
    refine ev_callVv (M := MX4_teach) (M2 := MX1_run) (As := [.ref 23, .int 0]) (rest := []) dX4_teach_84 sX_38 ck1 rfl w539 moX1_run rfl ⟨Nat.le_of_ble_eq_true rfl, Nat.le_of_ble_eq_true rfl⟩ rfl rfl (Nat.le_of_ble_eq_true rfl) h (fun d5 h => ?_)
    have h := rV_dn h
    refine ev_aload_n dX4_teach_87 rfl ?_
    refine ev_getr (M := MX4_teach) (r := 23) 2 dX4_teach_88 sX_0 ck4 (Nat.le_of_ble_eq_true rfl) rfl w258 ?_
    refine ev_getr (M := MX4_teach) (r := 29) 8 dX4_teach_91 sX_23 ck0 (Nat.le_of_ble_eq_true rfl) rfl w114 ?_
    refine ev_iload dX4_teach_94 rfl ?_
    refine ev_aload_n dX4_teach_96 rfl ?_
    refine ev_getr (M := MX4_teach) (r := 1) 0 dX4_teach_97 sX_0 ck4 (Nat.le_of_ble_eq_true rfl) rfl w256 ?_
    refine ev_getr (M := MX4_teach) (r := 7) 8 dX4_teach_100 sX_1 ck0 (Nat.le_of_ble_eq_true rfl) rfl w114 ?_
    refine ev_iload dX4_teach_103 rfl ?_
    obtain ⟨g, h⟩ := h
    refine ev_iald dX4_teach_105 sX_7 g ?_
    obtain ⟨g, h⟩ := h
    refine ev_iast dX4_teach_106 sX_29 g ?_
    refine ev_topd (fun d6 ed6 => ?_)
    have h := h d6 ed6
    refine ev_aload_n dX4_teach_107 rfl ?_
    refine ev_getr (M := MX4_teach) (r := 38) 6 dX4_teach_108 sX_0 ck4 (Nat.le_of_ble_eq_true rfl) rfl w262 ?_
    refine ev_aload_n dX4_teach_111 rfl ?_
    refine ev_getr (M := MX4_teach) (r := 23) 2 dX4_teach_112 sX_0 ck4 (Nat.le_of_ble_eq_true rfl) rfl w258 ?_
    refine ev_callVi (M := MX4_teach) (M2 := MX1_away) (As := [.ref 23]) (rest := []) dX4_teach_115 sX_38 ck1 rfl w583 moX1_away rfl ⟨Nat.le_of_ble_eq_true rfl, Nat.le_of_ble_eq_true rfl⟩ rfl rfl (Nat.le_of_ble_eq_true rfl) h (fun r8 d7 h => ?_)
    have h := rI_dn h
    refine ev_istore (M := MX4_teach) (ls2 := [.ref 0, .int l1, .int l2, .int l3, .int l4, .int r8]) dX4_teach_118 (Nat.le_of_ble_eq_true rfl) rfl ?_
    refine ev_iload dX4_teach_120 rfl ?_
    refine ev_iload_n dX4_teach_122 rfl ?_
    refine ev_icmp_ge (M := MX4_teach) (tgt := 132) dX4_teach_123 rfl (fun c9 => ?_) (fun c9 => ?_)
    · have h := h.1 c9
      refine ev_iinc (M := MX4_teach) (ls2 := [.ref 0, .int l1, .int l2, .int l3, .int (l4 + 1), .int r8]) dX4_teach_132 rfl (iin ci_1) (Nat.le_of_ble_eq_true rfl) rfl ?_
      refine ev_goto (M := MX4_teach) (tgt := 51) dX4_teach_135 rfl ?_
      refine Ev.forget (ls2 := [.ref 0, .int l1, .int l2, .int l3, .int (l4 + 1), uJ]) ?_ (fun i v hi hv => lsub_of (bs := [false, false, false, false, false, true]) rfl i v hi hv)
      exact h
    · have h := h.2 c9
      refine ev_iload dX4_teach_126 rfl ?_
      refine ev_istore_n (M := MX4_teach) (ls2 := [.ref 0, .int l1, .int r8, .int l3, .int l4, .int r8]) 2 dX4_teach_128 rfl (Nat.le_of_ble_eq_true rfl) rfl ?_
      refine ev_iload dX4_teach_129 rfl ?_
      refine ev_istore_n (M := MX4_teach) (ls2 := [.ref 0, .int l1, .int r8, .int l4, .int l4, .int r8]) 3 dX4_teach_131 rfl (Nat.le_of_ble_eq_true rfl) rfl ?_
      refine ev_iinc (M := MX4_teach) (ls2 := [.ref 0, .int l1, .int r8, .int l4, .int (l4 + 1), .int r8]) dX4_teach_132 rfl (iin ci_1) (Nat.le_of_ble_eq_true rfl) rfl ?_
      refine ev_goto (M := MX4_teach) (tgt := 51) dX4_teach_135 rfl ?_
      refine Ev.forget (ls2 := [.ref 0, .int l1, .int r8, .int l4, .int (l4 + 1), uJ]) ?_ (fun i v hi hv => lsub_of (bs := [false, false, false, false, false, true]) rfl i v hi hv)
      exact h
-- X4_mean
set_option maxRecDepth 4000 in
theorem cn_X4_mean {q : Int64 → DD → Prop} {d : DD} {p0 : Int32} {p1 : Int32} (h : (Cn SX MX4_within [.int p0, .int 0, .int 10] d (rI fun r2 d1 => ((r2 = 0 → q (-1) d1) ∧ (¬ r2 = 0 → (Cn SX MX4_within [.int p1, .int 0, .int 1] d1 (rI fun r5 d4 => ((¬ r5 = 0 → Ev SX MX4_mean 28 [.ref 0, .int p0, .int p1, .long 0, uJ, .int 0] [] d4 (rL q)) ∧ (r5 = 0 → q (-1) d4))))))))) : Cn SX MX4_mean [.ref 0, .int p0, .int p1] d (rL q) := by
  refine cn_of (ls := [.ref 0, .int p0, .int p1, uJ, uJ, uJ]) (by decide) rfl rfl (Nat.le_of_ble_eq_true rfl) ?_
  refine ev_iload_n dX4_mean_0 rfl ?_
  refine ev_iconst dX4_mean_1 ci_0 ?_
  refine ev_bipush dX4_mean_2 cb_10 ?_
  refine ev_callSi (M := MX4_mean) (M2 := MX4_within) (As := [.int p0, .int 0, .int 10]) (rest := []) dX4_mean_4 w300 moX4_within rfl ⟨Nat.le_of_ble_eq_true rfl, Nat.le_of_ble_eq_true rfl⟩ rfl rfl (Nat.le_of_ble_eq_true rfl) h (fun r2 d1 h => ?_)
  have h := rI_dn h
  refine ev_if_eq (M := MX4_mean) (tgt := 19) dX4_mean_7 rfl (fun c3 => ?_) (fun c3 => ?_)
  · have h := h.1 c3
    refine ev_ldc2 dX4_mean_19 w656 ?_
    exact ev_lreti (M := MX4_mean) dX4_mean_22 rfl rfl h
  · have h := h.2 c3
    refine ev_iload_n dX4_mean_10 rfl ?_
    refine ev_iconst dX4_mean_11 ci_0 ?_
    refine ev_iconst dX4_mean_12 ci_1 ?_
    refine ev_callSi (M := MX4_mean) (M2 := MX4_within) (As := [.int p1, .int 0, .int 1]) (rest := []) dX4_mean_13 w300 moX4_within rfl ⟨Nat.le_of_ble_eq_true rfl, Nat.le_of_ble_eq_true rfl⟩ rfl rfl (Nat.le_of_ble_eq_true rfl) h (fun r5 d4 h => ?_)
    have h := rI_dn h
    refine ev_if_ne (M := MX4_mean) (tgt := 23) dX4_mean_16 rfl (fun c6 => ?_) (fun c6 => ?_)
    · have h := h.1 c6
      refine ev_lconst (M := MX4_mean) (v := 0) dX4_mean_23 rfl ?_
      refine ev_lstore_n (M := MX4_mean) (ls2 := [.ref 0, .int p0, .int p1, .long 0, uJ, uJ]) 3 dX4_mean_24 rfl (Nat.le_of_ble_eq_true rfl) rfl ?_
      refine ev_iconst dX4_mean_25 ci_0 ?_
      refine ev_istore (M := MX4_mean) (ls2 := [.ref 0, .int p0, .int p1, .long 0, uJ, .int 0]) dX4_mean_26 (Nat.le_of_ble_eq_true rfl) rfl ?_
      exact h
    · have h := h.2 c6
      refine ev_ldc2 dX4_mean_19 w656 ?_
      exact ev_lreti (M := MX4_mean) dX4_mean_22 rfl rfl h
set_option maxRecDepth 4000 in
theorem bk_X4_mean_28 {q : Int64 → DD → Prop} {d : DD} {l1 : Int32} {l2 : Int32} {l3 : Int64} {l5 : Int32} (h : (((1 <<< ((d 1 1) &&& 31)) ≤ l5 → (Cn SX MX4_power [.int 10, .int (d 1 1)] d (rI fun r3 d2 => (Cn SX MX4_inLowestTerms [.long l3, .long r3.toInt64, .int l2] d2 (rL fun r5 d4 => q r5 d4))))) ∧ (¬ (1 <<< ((d 1 1) &&& 31)) ≤ l5 → (Cn SX MX1_run [.ref 38, .ref 1, .int l5] d (rV fun d6 => (Cn SX MX4_weight [.ref 0, .int l5, .int l1] d6 (rL fun r8 d7 => (Cn SX MX1_away [.ref 38, .ref 1] d7 (rI fun r10 d9 => (∀ x11 : Int64, x11 = (l3 + (r8 * r10.toInt64)) → Ev SX MX4_mean 28 [.ref 0, .int l1, .int l2, .long x11, uJ, .int (l5 + 1)] [] d9 (rL q))))))))))) : Ev SX MX4_mean 28 [.ref 0, .int l1, .int l2, .long l3, uJ, .int l5] [] d (rL q) := by
  refine ev_iload dX4_mean_28 rfl ?_
  refine ev_iconst dX4_mean_30 ci_1 ?_
  refine ev_aload_n dX4_mean_31 rfl ?_
  refine ev_getr (M := MX4_mean) (r := 1) 0 dX4_mean_32 sX_0 ck4 (Nat.le_of_ble_eq_true rfl) rfl w256 ?_
  refine ev_get 1 dX4_mean_35 sX_1 ck0 (Nat.le_of_ble_eq_true rfl) rfl w88 ?_
  refine ev_ishl dX4_mean_38 ?_
  refine ev_icmp_ge (M := MX4_mean) (tgt := 84) dX4_mean_39 rfl (fun c1 => ?_) (fun c1 => ?_)
  · have h := h.1 c1
    refine ev_lload_n dX4_mean_84 rfl ?_
    refine ev_bipush dX4_mean_85 cb_10 ?_
    refine ev_aload_n dX4_mean_87 rfl ?_
    refine ev_getr (M := MX4_mean) (r := 1) 0 dX4_mean_88 sX_0 ck4 (Nat.le_of_ble_eq_true rfl) rfl w256 ?_
    refine ev_get 1 dX4_mean_91 sX_1 ck0 (Nat.le_of_ble_eq_true rfl) rfl w88 ?_
    refine ev_callSi (M := MX4_mean) (M2 := MX4_power) (As := [.int 10, .int (d 1 1)]) (rest := [.long l3]) dX4_mean_94 w617 moX4_power rfl ⟨Nat.le_of_ble_eq_true rfl, Nat.le_of_ble_eq_true rfl⟩ rfl rfl (Nat.le_of_ble_eq_true rfl) h (fun r3 d2 h => ?_)
    have h := rI_dn h
    refine ev_i2l dX4_mean_97 ?_
    refine ev_iload_n dX4_mean_98 rfl ?_
    refine ev_callSl (M := MX4_mean) (M2 := MX4_inLowestTerms) (As := [.long l3, .long r3.toInt64, .int l2]) (rest := []) dX4_mean_99 w661 moX4_inLowestTerms rfl ⟨Nat.le_of_ble_eq_true rfl, Nat.le_of_ble_eq_true rfl⟩ rfl rfl (Nat.le_of_ble_eq_true rfl) h (fun r5 d4 h => ?_)
    have h := rL_dn h
    exact ev_lreti (M := MX4_mean) dX4_mean_102 rfl rfl h
  · have h := h.2 c1
    refine ev_aload_n dX4_mean_42 rfl ?_
    refine ev_getr (M := MX4_mean) (r := 38) 6 dX4_mean_43 sX_0 ck4 (Nat.le_of_ble_eq_true rfl) rfl w262 ?_
    refine ev_aload_n dX4_mean_46 rfl ?_
    refine ev_getr (M := MX4_mean) (r := 1) 0 dX4_mean_47 sX_0 ck4 (Nat.le_of_ble_eq_true rfl) rfl w256 ?_
    refine ev_iload dX4_mean_50 rfl ?_
    refine ev_callVv (M := MX4_mean) (M2 := MX1_run) (As := [.ref 1, .int l5]) (rest := []) dX4_mean_52 sX_38 ck1 rfl w539 moX1_run rfl ⟨Nat.le_of_ble_eq_true rfl, Nat.le_of_ble_eq_true rfl⟩ rfl rfl (Nat.le_of_ble_eq_true rfl) h (fun d6 h => ?_)
    have h := rV_dn h
    refine ev_lload_n dX4_mean_55 rfl ?_
    refine ev_aload_n dX4_mean_56 rfl ?_
    refine ev_iload dX4_mean_57 rfl ?_
    refine ev_iload_n dX4_mean_59 rfl ?_
    refine ev_callVl (M := MX4_mean) (M2 := MX4_weight) (As := [.int l5, .int l1]) (rest := [.long l3]) dX4_mean_60 sX_0 ck4 rfl w657 moX4_weight rfl ⟨Nat.le_of_ble_eq_true rfl, Nat.le_of_ble_eq_true rfl⟩ rfl rfl (Nat.le_of_ble_eq_true rfl) h (fun r8 d7 h => ?_)
    have h := rL_dn h
    refine ev_aload_n dX4_mean_63 rfl ?_
    refine ev_getr (M := MX4_mean) (r := 38) 6 dX4_mean_64 sX_0 ck4 (Nat.le_of_ble_eq_true rfl) rfl w262 ?_
    refine ev_aload_n dX4_mean_67 rfl ?_
    refine ev_getr (M := MX4_mean) (r := 1) 0 dX4_mean_68 sX_0 ck4 (Nat.le_of_ble_eq_true rfl) rfl w256 ?_
    refine ev_callVi (M := MX4_mean) (M2 := MX1_away) (As := [.ref 1]) (rest := [.long r8, .long l3]) dX4_mean_71 sX_38 ck1 rfl w583 moX1_away rfl ⟨Nat.le_of_ble_eq_true rfl, Nat.le_of_ble_eq_true rfl⟩ rfl rfl (Nat.le_of_ble_eq_true rfl) h (fun r10 d9 h => ?_)
    have h := rI_dn h
    refine ev_i2l dX4_mean_74 ?_
    refine ev_lmul dX4_mean_75 ?_
    refine ev_ladd dX4_mean_76 ?_
    refine ev_topl (fun x11 ex11 => ?_)
    have h := h x11 ex11
    refine ev_lstore_n (M := MX4_mean) (ls2 := [.ref 0, .int l1, .int l2, .long x11, uJ, .int l5]) 3 dX4_mean_77 rfl (Nat.le_of_ble_eq_true rfl) rfl ?_
    refine ev_iinc (M := MX4_mean) (ls2 := [.ref 0, .int l1, .int l2, .long x11, uJ, .int (l5 + 1)]) dX4_mean_78 rfl (iin ci_1) (Nat.le_of_ble_eq_true rfl) rfl ?_
    refine ev_goto (M := MX4_mean) (tgt := 28) dX4_mean_81 rfl ?_
    exact h
-- X4_luck
set_option maxRecDepth 4000 in
theorem cn_X4_luck {q : Int64 → DD → Prop} {d : DD} {p0 : Int32} {p1 : Int32} {p2 : Int32} (h : (Cn SX MX4_within [.int p0, .int 0, .int 10] d (rI fun r2 d1 => ((r2 = 0 → q (-1) d1) ∧ (¬ r2 = 0 → (Cn SX MX0_hasPrisoner [.ref 1, .int p1] d1 (rI fun r5 d4 => ((r5 = 0 → q (-1) d4) ∧ (¬ r5 = 0 → (Cn SX MX4_within [.int p2, .int 0, .int 1] d4 (rI fun r8 d7 => ((¬ r8 = 0 → Ev SX MX4_luck 40 [.ref 0, .int p0, .int p1, .int p2, .long 0, uJ, .int 0] [] d7 (rL q)) ∧ (r8 = 0 → q (-1) d7))))))))))))) : Cn SX MX4_luck [.ref 0, .int p0, .int p1, .int p2] d (rL q) := by
  refine cn_of (ls := [.ref 0, .int p0, .int p1, .int p2, uJ, uJ, uJ]) (by decide) rfl rfl (Nat.le_of_ble_eq_true rfl) ?_
  refine ev_iload_n dX4_luck_0 rfl ?_
  refine ev_iconst dX4_luck_1 ci_0 ?_
  refine ev_bipush dX4_luck_2 cb_10 ?_
  refine ev_callSi (M := MX4_luck) (M2 := MX4_within) (As := [.int p0, .int 0, .int 10]) (rest := []) dX4_luck_4 w300 moX4_within rfl ⟨Nat.le_of_ble_eq_true rfl, Nat.le_of_ble_eq_true rfl⟩ rfl rfl (Nat.le_of_ble_eq_true rfl) h (fun r2 d1 h => ?_)
  have h := rI_dn h
  refine ev_if_eq (M := MX4_luck) (tgt := 30) dX4_luck_7 rfl (fun c3 => ?_) (fun c3 => ?_)
  · have h := h.1 c3
    refine ev_ldc2 dX4_luck_30 w656 ?_
    exact ev_lreti (M := MX4_luck) dX4_luck_33 rfl rfl h
  · have h := h.2 c3
    refine ev_aload_n dX4_luck_10 rfl ?_
    refine ev_getr (M := MX4_luck) (r := 1) 0 dX4_luck_11 sX_0 ck4 (Nat.le_of_ble_eq_true rfl) rfl w256 ?_
    refine ev_iload_n dX4_luck_14 rfl ?_
    refine ev_callVi (M := MX4_luck) (M2 := MX0_hasPrisoner) (As := [.int p1]) (rest := []) dX4_luck_15 sX_1 ck0 rfl w498 moX0_hasPrisoner rfl ⟨Nat.le_of_ble_eq_true rfl, Nat.le_of_ble_eq_true rfl⟩ rfl rfl (Nat.le_of_ble_eq_true rfl) h (fun r5 d4 h => ?_)
    have h := rI_dn h
    refine ev_if_eq (M := MX4_luck) (tgt := 30) dX4_luck_18 rfl (fun c6 => ?_) (fun c6 => ?_)
    · have h := h.1 c6
      refine ev_ldc2 dX4_luck_30 w656 ?_
      exact ev_lreti (M := MX4_luck) dX4_luck_33 rfl rfl h
    · have h := h.2 c6
      refine ev_iload_n dX4_luck_21 rfl ?_
      refine ev_iconst dX4_luck_22 ci_0 ?_
      refine ev_iconst dX4_luck_23 ci_1 ?_
      refine ev_callSi (M := MX4_luck) (M2 := MX4_within) (As := [.int p2, .int 0, .int 1]) (rest := []) dX4_luck_24 w300 moX4_within rfl ⟨Nat.le_of_ble_eq_true rfl, Nat.le_of_ble_eq_true rfl⟩ rfl rfl (Nat.le_of_ble_eq_true rfl) h (fun r8 d7 h => ?_)
      have h := rI_dn h
      refine ev_if_ne (M := MX4_luck) (tgt := 34) dX4_luck_27 rfl (fun c9 => ?_) (fun c9 => ?_)
      · have h := h.1 c9
        refine ev_lconst (M := MX4_luck) (v := 0) dX4_luck_34 rfl ?_
        refine ev_lstore (M := MX4_luck) (ls2 := [.ref 0, .int p0, .int p1, .int p2, .long 0, uJ, uJ]) dX4_luck_35 (Nat.le_of_ble_eq_true rfl) rfl ?_
        refine ev_iconst dX4_luck_37 ci_0 ?_
        refine ev_istore (M := MX4_luck) (ls2 := [.ref 0, .int p0, .int p1, .int p2, .long 0, uJ, .int 0]) dX4_luck_38 (Nat.le_of_ble_eq_true rfl) rfl ?_
        exact h
      · have h := h.2 c9
        refine ev_ldc2 dX4_luck_30 w656 ?_
        exact ev_lreti (M := MX4_luck) dX4_luck_33 rfl rfl h
set_option maxRecDepth 4000 in
theorem bk_X4_luck_40 {q : Int64 → DD → Prop} {d : DD} {l1 : Int32} {l2 : Int32} {l3 : Int32} {l4 : Int64} {l6 : Int32} (h : (((1 <<< ((d 1 1) &&& 31)) ≤ l6 → (Cn SX MX4_power [.int 10, .int (d 1 1)] d (rI fun r3 d2 => (Cn SX MX4_inLowestTerms [.long l4, .long r3.toInt64, .int l3] d2 (rL fun r5 d4 => q r5 d4))))) ∧ (¬ (1 <<< ((d 1 1) &&& 31)) ≤ l6 → (Cn SX MX1_run [.ref 38, .ref 1, .int l6] d (rV fun d6 => (Cn SX MX1_getsAway [.ref 38, .ref 1, .int l2] d6 (rI fun r8 d7 => ((¬ r8 = 0 → Ev SX MX4_luck 40 [.ref 0, .int l1, .int l2, .int l3, .long l4, uJ, .int (l6 + 1)] [] d7 (rL q)) ∧ (r8 = 0 → (Cn SX MX4_weight [.ref 0, .int l6, .int l1] d7 (rL fun r11 d10 => Ev SX MX4_luck 40 [.ref 0, .int l1, .int l2, .int l3, .long (l4 + r11), uJ, .int (l6 + 1)] [] d10 (rL q)))))))))))) : Ev SX MX4_luck 40 [.ref 0, .int l1, .int l2, .int l3, .long l4, uJ, .int l6] [] d (rL q) := by
  refine ev_iload dX4_luck_40 rfl ?_
  refine ev_iconst dX4_luck_42 ci_1 ?_
  refine ev_aload_n dX4_luck_43 rfl ?_
  refine ev_getr (M := MX4_luck) (r := 1) 0 dX4_luck_44 sX_0 ck4 (Nat.le_of_ble_eq_true rfl) rfl w256 ?_
  refine ev_get 1 dX4_luck_47 sX_1 ck0 (Nat.le_of_ble_eq_true rfl) rfl w88 ?_
  refine ev_ishl dX4_luck_50 ?_
  refine ev_icmp_ge (M := MX4_luck) (tgt := 100) dX4_luck_51 rfl (fun c1 => ?_) (fun c1 => ?_)
  · have h := h.1 c1
    refine ev_lload dX4_luck_100 rfl ?_
    refine ev_bipush dX4_luck_102 cb_10 ?_
    refine ev_aload_n dX4_luck_104 rfl ?_
    refine ev_getr (M := MX4_luck) (r := 1) 0 dX4_luck_105 sX_0 ck4 (Nat.le_of_ble_eq_true rfl) rfl w256 ?_
    refine ev_get 1 dX4_luck_108 sX_1 ck0 (Nat.le_of_ble_eq_true rfl) rfl w88 ?_
    refine ev_callSi (M := MX4_luck) (M2 := MX4_power) (As := [.int 10, .int (d 1 1)]) (rest := [.long l4]) dX4_luck_111 w617 moX4_power rfl ⟨Nat.le_of_ble_eq_true rfl, Nat.le_of_ble_eq_true rfl⟩ rfl rfl (Nat.le_of_ble_eq_true rfl) h (fun r3 d2 h => ?_)
    have h := rI_dn h
    refine ev_i2l dX4_luck_114 ?_
    refine ev_iload_n dX4_luck_115 rfl ?_
    refine ev_callSl (M := MX4_luck) (M2 := MX4_inLowestTerms) (As := [.long l4, .long r3.toInt64, .int l3]) (rest := []) dX4_luck_116 w661 moX4_inLowestTerms rfl ⟨Nat.le_of_ble_eq_true rfl, Nat.le_of_ble_eq_true rfl⟩ rfl rfl (Nat.le_of_ble_eq_true rfl) h (fun r5 d4 h => ?_)
    have h := rL_dn h
    exact ev_lreti (M := MX4_luck) dX4_luck_119 rfl rfl h
  · have h := h.2 c1
    refine ev_aload_n dX4_luck_54 rfl ?_
    refine ev_getr (M := MX4_luck) (r := 38) 6 dX4_luck_55 sX_0 ck4 (Nat.le_of_ble_eq_true rfl) rfl w262 ?_
    refine ev_aload_n dX4_luck_58 rfl ?_
    refine ev_getr (M := MX4_luck) (r := 1) 0 dX4_luck_59 sX_0 ck4 (Nat.le_of_ble_eq_true rfl) rfl w256 ?_
    refine ev_iload dX4_luck_62 rfl ?_
    refine ev_callVv (M := MX4_luck) (M2 := MX1_run) (As := [.ref 1, .int l6]) (rest := []) dX4_luck_64 sX_38 ck1 rfl w539 moX1_run rfl ⟨Nat.le_of_ble_eq_true rfl, Nat.le_of_ble_eq_true rfl⟩ rfl rfl (Nat.le_of_ble_eq_true rfl) h (fun d6 h => ?_)
    have h := rV_dn h
    refine ev_aload_n dX4_luck_67 rfl ?_
    refine ev_getr (M := MX4_luck) (r := 38) 6 dX4_luck_68 sX_0 ck4 (Nat.le_of_ble_eq_true rfl) rfl w262 ?_
    refine ev_aload_n dX4_luck_71 rfl ?_
    refine ev_getr (M := MX4_luck) (r := 1) 0 dX4_luck_72 sX_0 ck4 (Nat.le_of_ble_eq_true rfl) rfl w256 ?_
    refine ev_iload_n dX4_luck_75 rfl ?_
    refine ev_callVi (M := MX4_luck) (M2 := MX1_getsAway) (As := [.ref 1, .int l2]) (rest := []) dX4_luck_76 sX_38 ck1 rfl w608 moX1_getsAway rfl ⟨Nat.le_of_ble_eq_true rfl, Nat.le_of_ble_eq_true rfl⟩ rfl rfl (Nat.le_of_ble_eq_true rfl) h (fun r8 d7 h => ?_)
    have h := rI_dn h
    refine ev_if_ne (M := MX4_luck) (tgt := 94) dX4_luck_79 rfl (fun c9 => ?_) (fun c9 => ?_)
    · have h := h.1 c9
      refine ev_iinc (M := MX4_luck) (ls2 := [.ref 0, .int l1, .int l2, .int l3, .long l4, uJ, .int (l6 + 1)]) dX4_luck_94 rfl (iin ci_1) (Nat.le_of_ble_eq_true rfl) rfl ?_
      refine ev_goto (M := MX4_luck) (tgt := 40) dX4_luck_97 rfl ?_
      exact h
    · have h := h.2 c9
      refine ev_lload dX4_luck_82 rfl ?_
      refine ev_aload_n dX4_luck_84 rfl ?_
      refine ev_iload dX4_luck_85 rfl ?_
      refine ev_iload_n dX4_luck_87 rfl ?_
      refine ev_callVl (M := MX4_luck) (M2 := MX4_weight) (As := [.int l6, .int l1]) (rest := [.long l4]) dX4_luck_88 sX_0 ck4 rfl w657 moX4_weight rfl ⟨Nat.le_of_ble_eq_true rfl, Nat.le_of_ble_eq_true rfl⟩ rfl rfl (Nat.le_of_ble_eq_true rfl) h (fun r11 d10 h => ?_)
      have h := rL_dn h
      refine ev_ladd dX4_luck_91 ?_
      refine ev_lstore (M := MX4_luck) (ls2 := [.ref 0, .int l1, .int l2, .int l3, .long (l4 + r11), uJ, .int l6]) dX4_luck_92 (Nat.le_of_ble_eq_true rfl) rfl ?_
      refine ev_iinc (M := MX4_luck) (ls2 := [.ref 0, .int l1, .int l2, .int l3, .long (l4 + r11), uJ, .int (l6 + 1)]) dX4_luck_94 rfl (iin ci_1) (Nat.le_of_ble_eq_true rfl) rfl ?_
      refine ev_goto (M := MX4_luck) (tgt := 40) dX4_luck_97 rfl ?_
      exact h
-- X4_see
set_option maxRecDepth 4000 in
theorem cn_X4_see {q : Int32 → DD → Prop} {d : DD} {p0 : Int32} {p1 : Int32} {p2 : Int32} (h : (Cn SX MX0_hasTune [.ref 1, .int p0] d (rI fun r2 d1 => ((r2 = 0 → Ev SX MX4_see 43 [.ref 0, .int p0, .int p1, .int p2, uJ] [.int 0] d1 (rI q)) ∧ (¬ r2 = 0 → (Cn SX MX4_within [.int p1, .int 0, .int 159] d1 (rI fun r5 d4 => ((r5 = 0 → Ev SX MX4_see 43 [.ref 0, .int p0, .int p1, .int p2, uJ] [.int 0] d4 (rI q)) ∧ (¬ r5 = 0 → ((p2 = (-4) → Ev SX MX4_see 43 [.ref 0, .int p0, .int p1, .int p2, uJ] [.int 1] d4 (rI q)) ∧ (¬ p2 = (-4) → (Cn SX MX4_within [.int p2, .int 0, .int 9] d4 (rI fun r9 d8 => ((r9 = 0 → Ev SX MX4_see 43 [.ref 0, .int p0, .int p1, .int p2, uJ] [.int 0] d8 (rI q)) ∧ (¬ r9 = 0 → Ev SX MX4_see 43 [.ref 0, .int p0, .int p1, .int p2, uJ] [.int 1] d8 (rI q)))))))))))))))) : Cn SX MX4_see [.ref 0, .int p0, .int p1, .int p2] d (rI q) := by
  refine cn_of (ls := [.ref 0, .int p0, .int p1, .int p2, uJ]) (by decide) rfl rfl (Nat.le_of_ble_eq_true rfl) ?_
  refine ev_aload_n dX4_see_0 rfl ?_
  refine ev_getr (M := MX4_see) (r := 1) 0 dX4_see_1 sX_0 ck4 (Nat.le_of_ble_eq_true rfl) rfl w256 ?_
  refine ev_iload_n dX4_see_4 rfl ?_
  refine ev_callVi (M := MX4_see) (M2 := MX0_hasTune) (As := [.int p0]) (rest := []) dX4_see_5 sX_1 ck0 rfl w451 moX0_hasTune rfl ⟨Nat.le_of_ble_eq_true rfl, Nat.le_of_ble_eq_true rfl⟩ rfl rfl (Nat.le_of_ble_eq_true rfl) h (fun r2 d1 h => ?_)
  have h := rI_dn h
  refine ev_if_eq (M := MX4_see) (tgt := 42) dX4_see_8 rfl (fun c3 => ?_) (fun c3 => ?_)
  · have h := h.1 c3
    refine ev_iconst dX4_see_42 ci_0 ?_
    exact h
  · have h := h.2 c3
    refine ev_iload_n dX4_see_11 rfl ?_
    refine ev_iconst dX4_see_12 ci_0 ?_
    refine ev_sipush dX4_see_13 cs_159 ?_
    refine ev_callSi (M := MX4_see) (M2 := MX4_within) (As := [.int p1, .int 0, .int 159]) (rest := []) dX4_see_16 w300 moX4_within rfl ⟨Nat.le_of_ble_eq_true rfl, Nat.le_of_ble_eq_true rfl⟩ rfl rfl (Nat.le_of_ble_eq_true rfl) h (fun r5 d4 h => ?_)
    have h := rI_dn h
    refine ev_if_eq (M := MX4_see) (tgt := 42) dX4_see_19 rfl (fun c6 => ?_) (fun c6 => ?_)
    · have h := h.1 c6
      refine ev_iconst dX4_see_42 ci_0 ?_
      exact h
    · have h := h.2 c6
      refine ev_iload_n dX4_see_22 rfl ?_
      refine ev_bipush dX4_see_23 cb_m4 ?_
      refine ev_icmp_eq (M := MX4_see) (tgt := 38) dX4_see_25 rfl (fun c7 => ?_) (fun c7 => ?_)
      · have h := h.1 c7
        refine ev_iconst dX4_see_38 ci_1 ?_
        refine ev_goto (M := MX4_see) (tgt := 43) dX4_see_39 rfl ?_
        exact h
      · have h := h.2 c7
        refine ev_iload_n dX4_see_28 rfl ?_
        refine ev_iconst dX4_see_29 ci_0 ?_
        refine ev_bipush dX4_see_30 cb_9 ?_
        refine ev_callSi (M := MX4_see) (M2 := MX4_within) (As := [.int p2, .int 0, .int 9]) (rest := []) dX4_see_32 w300 moX4_within rfl ⟨Nat.le_of_ble_eq_true rfl, Nat.le_of_ble_eq_true rfl⟩ rfl rfl (Nat.le_of_ble_eq_true rfl) h (fun r9 d8 h => ?_)
        have h := rI_dn h
        refine ev_if_eq (M := MX4_see) (tgt := 42) dX4_see_35 rfl (fun c10 => ?_) (fun c10 => ?_)
        · have h := h.1 c10
          refine ev_iconst dX4_see_42 ci_0 ?_
          exact h
        · have h := h.2 c10
          refine ev_iconst dX4_see_38 ci_1 ?_
          refine ev_goto (M := MX4_see) (tgt := 43) dX4_see_39 rfl ?_
          exact h
set_option maxRecDepth 4000 in
theorem bk_X4_see_43 {q : Int32 → DD → Prop} {d : DD} {l1 : Int32} {l2 : Int32} {l3 : Int32} {k0 : Int32} (h : ((¬ k0 = 0 → (((d 0 11) < 6 → (vp_in (d 0 11) 6 ∧ (∀ d3 : DD, d3 = (up d 49 (d 0 11).toNatClampNeg l1) → (vp_in (d3 0 11) 6 ∧ (∀ d4 : DD, d4 = (up d3 50 (d3 0 11).toNatClampNeg l2) → (vp_in (d4 0 11) 6 ∧ (∀ d5 : DD, d5 = (up d4 51 (d4 0 11).toNatClampNeg l3) → (∀ d6 : DD, d6 = (up d5 0 11 ((d5 0 11) + 1)) → q (d6 0 11) d6)))))))) ∧ (¬ (d 0 11) < 6 → q (-3) d))) ∧ (k0 = 0 → q (-1) d))) : Ev SX MX4_see 43 [.ref 0, .int l1, .int l2, .int l3, uJ] [.int k0] d (rI q) := by
  refine ev_istore (M := MX4_see) (ls2 := [.ref 0, .int l1, .int l2, .int l3, .int k0]) dX4_see_43 (Nat.le_of_ble_eq_true rfl) rfl ?_
  refine ev_iload dX4_see_45 rfl ?_
  refine ev_if_ne (M := MX4_see) (tgt := 52) dX4_see_47 rfl (fun c1 => ?_) (fun c1 => ?_)
  · have h := h.1 c1
    refine ev_aload_n dX4_see_52 rfl ?_
    refine ev_get 11 dX4_see_53 sX_0 ck4 (Nat.le_of_ble_eq_true rfl) rfl w267 ?_
    refine ev_bipush dX4_see_56 cb_6 ?_
    refine ev_icmp_lt (M := MX4_see) (tgt := 64) dX4_see_58 rfl (fun c2 => ?_) (fun c2 => ?_)
    · have h := h.1 c2
      refine ev_aload_n dX4_see_64 rfl ?_
      refine ev_getr (M := MX4_see) (r := 49) 8 dX4_see_65 sX_0 ck4 (Nat.le_of_ble_eq_true rfl) rfl w264 ?_
      refine ev_aload_n dX4_see_68 rfl ?_
      refine ev_get 11 dX4_see_69 sX_0 ck4 (Nat.le_of_ble_eq_true rfl) rfl w267 ?_
      refine ev_iload_n dX4_see_72 rfl ?_
      obtain ⟨g, h⟩ := h
      refine ev_iast dX4_see_73 sX_49 g ?_
      refine ev_topd (fun d3 ed3 => ?_)
      have h := h d3 ed3
      refine ev_aload_n dX4_see_74 rfl ?_
      refine ev_getr (M := MX4_see) (r := 50) 9 dX4_see_75 sX_0 ck4 (Nat.le_of_ble_eq_true rfl) rfl w265 ?_
      refine ev_aload_n dX4_see_78 rfl ?_
      refine ev_get 11 dX4_see_79 sX_0 ck4 (Nat.le_of_ble_eq_true rfl) rfl w267 ?_
      refine ev_iload_n dX4_see_82 rfl ?_
      obtain ⟨g, h⟩ := h
      refine ev_iast dX4_see_83 sX_50 g ?_
      refine ev_topd (fun d4 ed4 => ?_)
      have h := h d4 ed4
      refine ev_aload_n dX4_see_84 rfl ?_
      refine ev_getr (M := MX4_see) (r := 51) 10 dX4_see_85 sX_0 ck4 (Nat.le_of_ble_eq_true rfl) rfl w266 ?_
      refine ev_aload_n dX4_see_88 rfl ?_
      refine ev_get 11 dX4_see_89 sX_0 ck4 (Nat.le_of_ble_eq_true rfl) rfl w267 ?_
      refine ev_iload_n dX4_see_92 rfl ?_
      obtain ⟨g, h⟩ := h
      refine ev_iast dX4_see_93 sX_51 g ?_
      refine ev_topd (fun d5 ed5 => ?_)
      have h := h d5 ed5
      refine ev_aload_n dX4_see_94 rfl ?_
      refine ev_dup dX4_see_95 rfl ?_
      refine ev_get 11 dX4_see_96 sX_0 ck4 (Nat.le_of_ble_eq_true rfl) rfl w267 ?_
      refine ev_iconst dX4_see_99 ci_1 ?_
      refine ev_iadd dX4_see_100 ?_
      refine ev_put 11 dX4_see_101 sX_0 ck4 (Nat.le_of_ble_eq_true rfl) rfl w267 rfl rfl rfl ?_
      refine ev_topd (fun d6 ed6 => ?_)
      have h := h d6 ed6
      refine ev_aload_n dX4_see_104 rfl ?_
      refine ev_get 11 dX4_see_105 sX_0 ck4 (Nat.le_of_ble_eq_true rfl) rfl w267 ?_
      exact ev_ireti (M := MX4_see) (ty := .int) dX4_see_108 rfl rfl rfl h
    · have h := h.2 c2
      refine ev_bipush dX4_see_61 cb_m3 ?_
      exact ev_ireti (M := MX4_see) (ty := .int) dX4_see_63 rfl rfl rfl h
  · have h := h.2 c1
    refine ev_iconst dX4_see_50 ci_m1 ?_
    exact ev_ireti (M := MX4_see) (ty := .int) dX4_see_51 rfl rfl rfl h
-- X4_forget
theorem cn_X4_forget {q : Int32 → DD → Prop} {d : DD} {p0 : Int32} (h : (Cn SX MX4_within [.int p0, .int 0, .int (d 0 11)] d (rI fun r2 d1 => ((¬ r2 = 0 → (∀ d4 : DD, d4 = (up d1 0 11 p0) → q (d 0 11) d4)) ∧ (r2 = 0 → q (-1) d1))))) : Cn SX MX4_forget [.ref 0, .int p0] d (rI q) := by
  refine cn_of (ls := [.ref 0, .int p0, uJ]) (by decide) rfl rfl (Nat.le_of_ble_eq_true rfl) ?_
  refine ev_aload_n dX4_forget_0 rfl ?_
  refine ev_get 11 dX4_forget_1 sX_0 ck4 (Nat.le_of_ble_eq_true rfl) rfl w267 ?_
  refine ev_istore_n (M := MX4_forget) (ls2 := [.ref 0, .int p0, .int (d 0 11)]) 2 dX4_forget_4 rfl (Nat.le_of_ble_eq_true rfl) rfl ?_
  refine ev_iload_n dX4_forget_5 rfl ?_
  refine ev_iconst dX4_forget_6 ci_0 ?_
  refine ev_iload_n dX4_forget_7 rfl ?_
  refine ev_callSi (M := MX4_forget) (M2 := MX4_within) (As := [.int p0, .int 0, .int (d 0 11)]) (rest := []) dX4_forget_8 w300 moX4_within rfl ⟨Nat.le_of_ble_eq_true rfl, Nat.le_of_ble_eq_true rfl⟩ rfl rfl (Nat.le_of_ble_eq_true rfl) h (fun r2 d1 h => ?_)
  have h := rI_dn h
  refine ev_if_ne (M := MX4_forget) (tgt := 16) dX4_forget_11 rfl (fun c3 => ?_) (fun c3 => ?_)
  · have h := h.1 c3
    refine ev_aload_n dX4_forget_16 rfl ?_
    refine ev_iload_n dX4_forget_17 rfl ?_
    refine ev_put 11 dX4_forget_18 sX_0 ck4 (Nat.le_of_ble_eq_true rfl) rfl w267 rfl rfl rfl ?_
    refine ev_topd (fun d4 ed4 => ?_)
    have h := h d4 ed4
    refine ev_iload_n dX4_forget_21 rfl ?_
    exact ev_ireti (M := MX4_forget) (ty := .int) dX4_forget_22 rfl rfl rfl h
  · have h := h.2 c3
    refine ev_iconst dX4_forget_14 ci_m1 ?_
    exact ev_ireti (M := MX4_forget) (ty := .int) dX4_forget_15 rfl rfl rfl h
-- X4_fits
theorem cn_X4_fits {q : Int32 → DD → Prop} {d : DD} {p0 : Int32} (h : (Cn SX MX0_hasTune [.ref 1, .int p0] d (rI fun r2 d1 => ((r2 = 0 → q (-1) d1) ∧ (¬ r2 = 0 → (Cn SX MX4_fittingKinds [.ref 0, .int p0] d1 (rI fun r5 d4 => q r5 d4))))))) : Cn SX MX4_fits [.ref 0, .int p0] d (rI q) := by
  refine cn_of (ls := [.ref 0, .int p0]) (by decide) rfl rfl (Nat.le_of_ble_eq_true rfl) ?_
  refine ev_aload_n dX4_fits_0 rfl ?_
  refine ev_getr (M := MX4_fits) (r := 1) 0 dX4_fits_1 sX_0 ck4 (Nat.le_of_ble_eq_true rfl) rfl w256 ?_
  refine ev_iload_n dX4_fits_4 rfl ?_
  refine ev_callVi (M := MX4_fits) (M2 := MX0_hasTune) (As := [.int p0]) (rest := []) dX4_fits_5 sX_1 ck0 rfl w451 moX0_hasTune rfl ⟨Nat.le_of_ble_eq_true rfl, Nat.le_of_ble_eq_true rfl⟩ rfl rfl (Nat.le_of_ble_eq_true rfl) h (fun r2 d1 h => ?_)
  have h := rI_dn h
  refine ev_if_eq (M := MX4_fits) (tgt := 19) dX4_fits_8 rfl (fun c3 => ?_) (fun c3 => ?_)
  · have h := h.1 c3
    refine ev_iconst dX4_fits_19 ci_m1 ?_
    exact ev_ireti (M := MX4_fits) (ty := .int) dX4_fits_20 rfl rfl rfl h
  · have h := h.2 c3
    refine ev_aload_n dX4_fits_11 rfl ?_
    refine ev_iload_n dX4_fits_12 rfl ?_
    refine ev_callVi (M := MX4_fits) (M2 := MX4_fittingKinds) (As := [.int p0]) (rest := []) dX4_fits_13 sX_0 ck4 rfl w680 moX4_fittingKinds rfl ⟨Nat.le_of_ble_eq_true rfl, Nat.le_of_ble_eq_true rfl⟩ rfl rfl (Nat.le_of_ble_eq_true rfl) h (fun r5 d4 h => ?_)
    have h := rI_dn h
    refine ev_goto (M := MX4_fits) (tgt := 20) dX4_fits_16 rfl ?_
    exact ev_ireti (M := MX4_fits) (ty := .int) dX4_fits_20 rfl rfl rfl h
-- X4_listen
set_option maxRecDepth 4000 in
theorem cn_X4_listen {q : Int32 → DD → Prop} {d : DD} {p0 : Int32} {p1 : Int32} (h : (Cn SX MX0_hasTune [.ref 1, .int p0] d (rI fun r2 d1 => ((r2 = 0 → q (-1) d1) ∧ (¬ r2 = 0 → (Cn SX MX4_within [.int p1, .int 0, .int 1] d1 (rI fun r5 d4 => ((¬ r5 = 0 → (Cn SX MX4_fittingKinds [.ref 0, .int p0] d4 (rI fun r8 d7 => (Cn SX MJ6_bitCount_0f7a4 [.int r8] d7 (rI fun r10 d9 => Ev SX MX4_listen 40 [.ref 0, .int p0, .int p1, .int r8, .int r10, .int (-1), .int 0, uJ] [] d9 (rI q)))))) ∧ (r5 = 0 → q (-1) d4))))))))) : Cn SX MX4_listen [.ref 0, .int p0, .int p1] d (rI q) := by
  refine cn_of (ls := [.ref 0, .int p0, .int p1, uJ, uJ, uJ, uJ, uJ]) (by decide) rfl rfl (Nat.le_of_ble_eq_true rfl) ?_
  refine ev_aload_n dX4_listen_0 rfl ?_
  refine ev_getr (M := MX4_listen) (r := 1) 0 dX4_listen_1 sX_0 ck4 (Nat.le_of_ble_eq_true rfl) rfl w256 ?_
  refine ev_iload_n dX4_listen_4 rfl ?_
  refine ev_callVi (M := MX4_listen) (M2 := MX0_hasTune) (As := [.int p0]) (rest := []) dX4_listen_5 sX_1 ck0 rfl w451 moX0_hasTune rfl ⟨Nat.le_of_ble_eq_true rfl, Nat.le_of_ble_eq_true rfl⟩ rfl rfl (Nat.le_of_ble_eq_true rfl) h (fun r2 d1 h => ?_)
  have h := rI_dn h
  refine ev_if_eq (M := MX4_listen) (tgt := 20) dX4_listen_8 rfl (fun c3 => ?_) (fun c3 => ?_)
  · have h := h.1 c3
    refine ev_iconst dX4_listen_20 ci_m1 ?_
    exact ev_ireti (M := MX4_listen) (ty := .int) dX4_listen_21 rfl rfl rfl h
  · have h := h.2 c3
    refine ev_iload_n dX4_listen_11 rfl ?_
    refine ev_iconst dX4_listen_12 ci_0 ?_
    refine ev_iconst dX4_listen_13 ci_1 ?_
    refine ev_callSi (M := MX4_listen) (M2 := MX4_within) (As := [.int p1, .int 0, .int 1]) (rest := []) dX4_listen_14 w300 moX4_within rfl ⟨Nat.le_of_ble_eq_true rfl, Nat.le_of_ble_eq_true rfl⟩ rfl rfl (Nat.le_of_ble_eq_true rfl) h (fun r5 d4 h => ?_)
    have h := rI_dn h
    refine ev_if_ne (M := MX4_listen) (tgt := 22) dX4_listen_17 rfl (fun c6 => ?_) (fun c6 => ?_)
    · have h := h.1 c6
      refine ev_aload_n dX4_listen_22 rfl ?_
      refine ev_iload_n dX4_listen_23 rfl ?_
      refine ev_callVi (M := MX4_listen) (M2 := MX4_fittingKinds) (As := [.int p0]) (rest := []) dX4_listen_24 sX_0 ck4 rfl w680 moX4_fittingKinds rfl ⟨Nat.le_of_ble_eq_true rfl, Nat.le_of_ble_eq_true rfl⟩ rfl rfl (Nat.le_of_ble_eq_true rfl) h (fun r8 d7 h => ?_)
      have h := rI_dn h
      refine ev_istore_n (M := MX4_listen) (ls2 := [.ref 0, .int p0, .int p1, .int r8, uJ, uJ, uJ, uJ]) 3 dX4_listen_27 rfl (Nat.le_of_ble_eq_true rfl) rfl ?_
      refine ev_iload_n dX4_listen_28 rfl ?_
      refine ev_callSi (M := MX4_listen) (M2 := MJ6_bitCount_0f7a4) (As := [.int r8]) (rest := []) dX4_listen_29 w637 moJ6_bitCount_0f7a4 rfl ⟨Nat.le_of_ble_eq_true rfl, Nat.le_of_ble_eq_true rfl⟩ rfl rfl (Nat.le_of_ble_eq_true rfl) h (fun r10 d9 h => ?_)
      have h := rI_dn h
      refine ev_istore (M := MX4_listen) (ls2 := [.ref 0, .int p0, .int p1, .int r8, .int r10, uJ, uJ, uJ]) dX4_listen_32 (Nat.le_of_ble_eq_true rfl) rfl ?_
      refine ev_iconst dX4_listen_34 ci_m1 ?_
      refine ev_istore (M := MX4_listen) (ls2 := [.ref 0, .int p0, .int p1, .int r8, .int r10, .int (-1), uJ, uJ]) dX4_listen_35 (Nat.le_of_ble_eq_true rfl) rfl ?_
      refine ev_iconst dX4_listen_37 ci_0 ?_
      refine ev_istore (M := MX4_listen) (ls2 := [.ref 0, .int p0, .int p1, .int r8, .int r10, .int (-1), .int 0, uJ]) dX4_listen_38 (Nat.le_of_ble_eq_true rfl) rfl ?_
      exact h
    · have h := h.2 c6
      refine ev_iconst dX4_listen_20 ci_m1 ?_
      exact ev_ireti (M := MX4_listen) (ty := .int) dX4_listen_21 rfl rfl rfl h
set_option maxRecDepth 4000 in
theorem bk_X4_listen_40 {q : Int32 → DD → Prop} {d : DD} {l1 : Int32} {l2 : Int32} {l3 : Int32} {l4 : Int32} {l5 : Int32} {l6 : Int32} (h : ((160 ≤ l6 → ((0 ≤ l5 → ((¬ l2 = 0 → q l4 d) ∧ (l2 = 0 → q l5 d))) ∧ (¬ 0 ≤ l5 → q (-4) d))) ∧ (¬ 160 ≤ l6 → (Cn SX MX4_leftAtWorst [.ref 0, .int l1, .int l3, .int l6] d (rI fun r5 d4 => ((l4 ≤ r5 → Ev SX MX4_listen 40 [.ref 0, .int l1, .int l2, .int l3, .int l4, .int l5, .int (l6 + 1), uJ] [] d4 (rI q)) ∧ (¬ l4 ≤ r5 → Ev SX MX4_listen 40 [.ref 0, .int l1, .int l2, .int l3, .int r5, .int l6, .int (l6 + 1), uJ] [] d4 (rI q)))))))) : Ev SX MX4_listen 40 [.ref 0, .int l1, .int l2, .int l3, .int l4, .int l5, .int l6, uJ] [] d (rI q) := by
  refine ev_iload dX4_listen_40 rfl ?_
  refine ev_sipush dX4_listen_42 cs_160 ?_
  refine ev_icmp_ge (M := MX4_listen) (tgt := 79) dX4_listen_45 rfl (fun c1 => ?_) (fun c1 => ?_)
  · have h := h.1 c1
    refine ev_iload dX4_listen_79 rfl ?_
    refine ev_if_ge (M := MX4_listen) (tgt := 87) dX4_listen_81 rfl (fun c2 => ?_) (fun c2 => ?_)
    · have h := h.1 c2
      refine ev_iload_n dX4_listen_87 rfl ?_
      refine ev_if_ne (M := MX4_listen) (tgt := 96) dX4_listen_88 rfl (fun c3 => ?_) (fun c3 => ?_)
      · have h := h.1 c3
        refine ev_iload dX4_listen_96 rfl ?_
        exact ev_ireti (M := MX4_listen) (ty := .int) dX4_listen_98 rfl rfl rfl h
      · have h := h.2 c3
        refine ev_iload dX4_listen_91 rfl ?_
        refine ev_goto (M := MX4_listen) (tgt := 98) dX4_listen_93 rfl ?_
        exact ev_ireti (M := MX4_listen) (ty := .int) dX4_listen_98 rfl rfl rfl h
    · have h := h.2 c2
      refine ev_bipush dX4_listen_84 cb_m4 ?_
      exact ev_ireti (M := MX4_listen) (ty := .int) dX4_listen_86 rfl rfl rfl h
  · have h := h.2 c1
    refine ev_aload_n dX4_listen_48 rfl ?_
    refine ev_iload_n dX4_listen_49 rfl ?_
    refine ev_iload_n dX4_listen_50 rfl ?_
    refine ev_iload dX4_listen_51 rfl ?_
    refine ev_callVi (M := MX4_listen) (M2 := MX4_leftAtWorst) (As := [.int l1, .int l3, .int l6]) (rest := []) dX4_listen_53 sX_0 ck4 rfl w688 moX4_leftAtWorst rfl ⟨Nat.le_of_ble_eq_true rfl, Nat.le_of_ble_eq_true rfl⟩ rfl rfl (Nat.le_of_ble_eq_true rfl) h (fun r5 d4 h => ?_)
    have h := rI_dn h
    refine ev_istore (M := MX4_listen) (ls2 := [.ref 0, .int l1, .int l2, .int l3, .int l4, .int l5, .int l6, .int r5]) dX4_listen_56 (Nat.le_of_ble_eq_true rfl) rfl ?_
    refine ev_iload dX4_listen_58 rfl ?_
    refine ev_iload dX4_listen_60 rfl ?_
    refine ev_icmp_ge (M := MX4_listen) (tgt := 73) dX4_listen_62 rfl (fun c6 => ?_) (fun c6 => ?_)
    · have h := h.1 c6
      refine ev_iinc (M := MX4_listen) (ls2 := [.ref 0, .int l1, .int l2, .int l3, .int l4, .int l5, .int (l6 + 1), .int r5]) dX4_listen_73 rfl (iin ci_1) (Nat.le_of_ble_eq_true rfl) rfl ?_
      refine ev_goto (M := MX4_listen) (tgt := 40) dX4_listen_76 rfl ?_
      refine Ev.forget (ls2 := [.ref 0, .int l1, .int l2, .int l3, .int l4, .int l5, .int (l6 + 1), uJ]) ?_ (fun i v hi hv => lsub_of (bs := [false, false, false, false, false, false, false, true]) rfl i v hi hv)
      exact h
    · have h := h.2 c6
      refine ev_iload dX4_listen_65 rfl ?_
      refine ev_istore (M := MX4_listen) (ls2 := [.ref 0, .int l1, .int l2, .int l3, .int r5, .int l5, .int l6, .int r5]) dX4_listen_67 (Nat.le_of_ble_eq_true rfl) rfl ?_
      refine ev_iload dX4_listen_69 rfl ?_
      refine ev_istore (M := MX4_listen) (ls2 := [.ref 0, .int l1, .int l2, .int l3, .int r5, .int l6, .int l6, .int r5]) dX4_listen_71 (Nat.le_of_ble_eq_true rfl) rfl ?_
      refine ev_iinc (M := MX4_listen) (ls2 := [.ref 0, .int l1, .int l2, .int l3, .int r5, .int l6, .int (l6 + 1), .int r5]) dX4_listen_73 rfl (iin ci_1) (Nat.le_of_ble_eq_true rfl) rfl ?_
      refine ev_goto (M := MX4_listen) (tgt := 40) dX4_listen_76 rfl ?_
      refine Ev.forget (ls2 := [.ref 0, .int l1, .int l2, .int l3, .int r5, .int l6, .int (l6 + 1), uJ]) ?_ (fun i v hi hv => lsub_of (bs := [false, false, false, false, false, false, false, true]) rfl i v hi hv)
      exact h
-- X4_drift
set_option maxRecDepth 4000 in
theorem cn_X4_drift {q : Int32 → DD → Prop} {d : DD} {p0 : Int32} {p1 : Int32} {p2 : Int32} (h : (Cn SX MX4_within [.int p1, .int 1, .int 20] d (rI fun r2 d1 => ((r2 = 0 → q (-1) d1) ∧ (¬ r2 = 0 → (Cn SX MX4_within [.int p2, .int 0, .int 1] d1 (rI fun r5 d4 => ((¬ r5 = 0 → ((1 ≤ (d4 1 0) → (Cn SX MX0_become [.ref 23, .ref 1] d4 (rV fun d8 => Ev SX MX4_drift 58 [.ref 0, .int p0, .int p1, .int p2, .int p0, .int 0, .int 0, .int 0, uJ] [] d8 (rI q)))) ∧ (¬ 1 ≤ (d4 1 0) → q (-2) d4))) ∧ (r5 = 0 → q (-1) d4))))))))) : Cn SX MX4_drift [.ref 0, .int p0, .int p1, .int p2] d (rI q) := by
  refine cn_of (ls := [.ref 0, .int p0, .int p1, .int p2, uJ, uJ, uJ, uJ, uJ]) (by decide) rfl rfl (Nat.le_of_ble_eq_true rfl) ?_
  refine ev_iload_n dX4_drift_0 rfl ?_
  refine ev_iconst dX4_drift_1 ci_1 ?_
  refine ev_bipush dX4_drift_2 cb_20 ?_
  refine ev_callSi (M := MX4_drift) (M2 := MX4_within) (As := [.int p1, .int 1, .int 20]) (rest := []) dX4_drift_4 w300 moX4_within rfl ⟨Nat.le_of_ble_eq_true rfl, Nat.le_of_ble_eq_true rfl⟩ rfl rfl (Nat.le_of_ble_eq_true rfl) h (fun r2 d1 h => ?_)
  have h := rI_dn h
  refine ev_if_eq (M := MX4_drift) (tgt := 19) dX4_drift_7 rfl (fun c3 => ?_) (fun c3 => ?_)
  · have h := h.1 c3
    refine ev_iconst dX4_drift_19 ci_m1 ?_
    exact ev_ireti (M := MX4_drift) (ty := .int) dX4_drift_20 rfl rfl rfl h
  · have h := h.2 c3
    refine ev_iload_n dX4_drift_10 rfl ?_
    refine ev_iconst dX4_drift_11 ci_0 ?_
    refine ev_iconst dX4_drift_12 ci_1 ?_
    refine ev_callSi (M := MX4_drift) (M2 := MX4_within) (As := [.int p2, .int 0, .int 1]) (rest := []) dX4_drift_13 w300 moX4_within rfl ⟨Nat.le_of_ble_eq_true rfl, Nat.le_of_ble_eq_true rfl⟩ rfl rfl (Nat.le_of_ble_eq_true rfl) h (fun r5 d4 h => ?_)
    have h := rI_dn h
    refine ev_if_ne (M := MX4_drift) (tgt := 21) dX4_drift_16 rfl (fun c6 => ?_) (fun c6 => ?_)
    · have h := h.1 c6
      refine ev_aload_n dX4_drift_21 rfl ?_
      refine ev_getr (M := MX4_drift) (r := 1) 0 dX4_drift_22 sX_0 ck4 (Nat.le_of_ble_eq_true rfl) rfl w256 ?_
      refine ev_get 0 dX4_drift_25 sX_1 ck0 (Nat.le_of_ble_eq_true rfl) rfl w84 ?_
      refine ev_iconst dX4_drift_28 ci_1 ?_
      refine ev_icmp_ge (M := MX4_drift) (tgt := 35) dX4_drift_29 rfl (fun c7 => ?_) (fun c7 => ?_)
      · have h := h.1 c7
        refine ev_aload_n dX4_drift_35 rfl ?_
        refine ev_getr (M := MX4_drift) (r := 23) 2 dX4_drift_36 sX_0 ck4 (Nat.le_of_ble_eq_true rfl) rfl w258 ?_
        refine ev_aload_n dX4_drift_39 rfl ?_
        refine ev_getr (M := MX4_drift) (r := 1) 0 dX4_drift_40 sX_0 ck4 (Nat.le_of_ble_eq_true rfl) rfl w256 ?_
        refine ev_callVv (M := MX4_drift) (M2 := MX0_become) (As := [.ref 1]) (rest := []) dX4_drift_43 sX_23 ck0 rfl w431 moX0_become rfl ⟨Nat.le_of_ble_eq_true rfl, Nat.le_of_ble_eq_true rfl⟩ rfl rfl (Nat.le_of_ble_eq_true rfl) h (fun d8 h => ?_)
        have h := rV_dn h
        refine ev_iload_n dX4_drift_46 rfl ?_
        refine ev_istore (M := MX4_drift) (ls2 := [.ref 0, .int p0, .int p1, .int p2, .int p0, uJ, uJ, uJ, uJ]) dX4_drift_47 (Nat.le_of_ble_eq_true rfl) rfl ?_
        refine ev_iconst dX4_drift_49 ci_0 ?_
        refine ev_istore (M := MX4_drift) (ls2 := [.ref 0, .int p0, .int p1, .int p2, .int p0, .int 0, uJ, uJ, uJ]) dX4_drift_50 (Nat.le_of_ble_eq_true rfl) rfl ?_
        refine ev_iconst dX4_drift_52 ci_0 ?_
        refine ev_istore (M := MX4_drift) (ls2 := [.ref 0, .int p0, .int p1, .int p2, .int p0, .int 0, .int 0, uJ, uJ]) dX4_drift_53 (Nat.le_of_ble_eq_true rfl) rfl ?_
        refine ev_iconst dX4_drift_55 ci_0 ?_
        refine ev_istore (M := MX4_drift) (ls2 := [.ref 0, .int p0, .int p1, .int p2, .int p0, .int 0, .int 0, .int 0, uJ]) dX4_drift_56 (Nat.le_of_ble_eq_true rfl) rfl ?_
        exact h
      · have h := h.2 c7
        refine ev_bipush dX4_drift_32 cb_m2 ?_
        exact ev_ireti (M := MX4_drift) (ty := .int) dX4_drift_34 rfl rfl rfl h
    · have h := h.2 c6
      refine ev_iconst dX4_drift_19 ci_m1 ?_
      exact ev_ireti (M := MX4_drift) (ty := .int) dX4_drift_20 rfl rfl rfl h
set_option maxRecDepth 4000 in
theorem bk_X4_drift_58 {q : Int32 → DD → Prop} {d : DD} {l1 : Int32} {l2 : Int32} {l3 : Int32} {l4 : Int32} {l5 : Int32} {l6 : Int32} {l7 : Int32} (h : ((l2 ≤ l7 → ((¬ l3 = 0 → q l6 d) ∧ (l3 = 0 → q l5 d))) ∧ (¬ l2 ≤ l7 → (Cn SX MX4_nextSeed [.int l4] d (rI fun r4 d3 => (Cn SX MX4_middleBits [.int r4] d3 (rI fun r6 d5 => ((¬ (d5 23 0) = 0) ∧ (∀ x7 : Int32, x7 = (jrem r6 (d5 23 0)) → (Cn SX MX4_nextSeed [.int r4] d5 (rI fun r9 d8 => (Cn SX MX4_middleBits [.int r9] d8 (rI fun r11 d10 => (Cn SX MX0_spoil [.ref 23, .int x7, .int r11] d10 (rV fun d12 => (Cn SX MX1_run [.ref 38, .ref 23, .int 0] d12 (rV fun d13 => (Cn SX MX1_away [.ref 38, .ref 23] d13 (rI fun r15 d14 => (∀ x16 : Int32, x16 = (if l5 < r15 then r15 else l5) → (Cn SX MX1_cost [.ref 38, .ref 23] d14 (rI fun r18 d17 => Ev SX MX4_drift 58 [.ref 0, .int l1, .int l2, .int l3, .int r9, .int x16, .int (l6 + r18), .int (l7 + 1), uJ] [] d17 (rI q))))))))))))))))))))))) : Ev SX MX4_drift 58 [.ref 0, .int l1, .int l2, .int l3, .int l4, .int l5, .int l6, .int l7, uJ] [] d (rI q) := by
  refine ev_iload dX4_drift_58 rfl ?_
  refine ev_iload_n dX4_drift_60 rfl ?_
  refine ev_icmp_ge (M := MX4_drift) (tgt := 159) dX4_drift_61 rfl (fun c1 => ?_) (fun c1 => ?_)
  · have h := h.1 c1
    refine ev_iload_n dX4_drift_159 rfl ?_
    refine ev_if_ne (M := MX4_drift) (tgt := 168) dX4_drift_160 rfl (fun c2 => ?_) (fun c2 => ?_)
    · have h := h.1 c2
      refine ev_iload dX4_drift_168 rfl ?_
      exact ev_ireti (M := MX4_drift) (ty := .int) dX4_drift_170 rfl rfl rfl h
    · have h := h.2 c2
      refine ev_iload dX4_drift_163 rfl ?_
      refine ev_goto (M := MX4_drift) (tgt := 170) dX4_drift_165 rfl ?_
      exact ev_ireti (M := MX4_drift) (ty := .int) dX4_drift_170 rfl rfl rfl h
  · have h := h.2 c1
    refine ev_iload dX4_drift_64 rfl ?_
    refine ev_callSi (M := MX4_drift) (M2 := MX4_nextSeed) (As := [.int l4]) (rest := []) dX4_drift_66 w697 moX4_nextSeed rfl ⟨Nat.le_of_ble_eq_true rfl, Nat.le_of_ble_eq_true rfl⟩ rfl rfl (Nat.le_of_ble_eq_true rfl) h (fun r4 d3 h => ?_)
    have h := rI_dn h
    refine ev_istore (M := MX4_drift) (ls2 := [.ref 0, .int l1, .int l2, .int l3, .int r4, .int l5, .int l6, .int l7, uJ]) dX4_drift_69 (Nat.le_of_ble_eq_true rfl) rfl ?_
    refine ev_iload dX4_drift_71 rfl ?_
    refine ev_callSi (M := MX4_drift) (M2 := MX4_middleBits) (As := [.int r4]) (rest := []) dX4_drift_73 w701 moX4_middleBits rfl ⟨Nat.le_of_ble_eq_true rfl, Nat.le_of_ble_eq_true rfl⟩ rfl rfl (Nat.le_of_ble_eq_true rfl) h (fun r6 d5 h => ?_)
    have h := rI_dn h
    refine ev_aload_n dX4_drift_76 rfl ?_
    refine ev_getr (M := MX4_drift) (r := 23) 2 dX4_drift_77 sX_0 ck4 (Nat.le_of_ble_eq_true rfl) rfl w258 ?_
    refine ev_get 0 dX4_drift_80 sX_23 ck0 (Nat.le_of_ble_eq_true rfl) rfl w84 ?_
    obtain ⟨g, h⟩ := h
    refine ev_irem dX4_drift_83 g ?_
    refine ev_topi (fun x7 ex7 => ?_)
    have h := h x7 ex7
    refine ev_istore (M := MX4_drift) (ls2 := [.ref 0, .int l1, .int l2, .int l3, .int r4, .int l5, .int l6, .int l7, .int x7]) dX4_drift_84 (Nat.le_of_ble_eq_true rfl) rfl ?_
    refine ev_iload dX4_drift_86 rfl ?_
    refine ev_callSi (M := MX4_drift) (M2 := MX4_nextSeed) (As := [.int r4]) (rest := []) dX4_drift_88 w697 moX4_nextSeed rfl ⟨Nat.le_of_ble_eq_true rfl, Nat.le_of_ble_eq_true rfl⟩ rfl rfl (Nat.le_of_ble_eq_true rfl) h (fun r9 d8 h => ?_)
    have h := rI_dn h
    refine ev_istore (M := MX4_drift) (ls2 := [.ref 0, .int l1, .int l2, .int l3, .int r9, .int l5, .int l6, .int l7, .int x7]) dX4_drift_91 (Nat.le_of_ble_eq_true rfl) rfl ?_
    refine ev_aload_n dX4_drift_93 rfl ?_
    refine ev_getr (M := MX4_drift) (r := 23) 2 dX4_drift_94 sX_0 ck4 (Nat.le_of_ble_eq_true rfl) rfl w258 ?_
    refine ev_iload dX4_drift_97 rfl ?_
    refine ev_iload dX4_drift_99 rfl ?_
    refine ev_callSi (M := MX4_drift) (M2 := MX4_middleBits) (As := [.int r9]) (rest := [.int x7, .ref 23]) dX4_drift_101 w701 moX4_middleBits rfl ⟨Nat.le_of_ble_eq_true rfl, Nat.le_of_ble_eq_true rfl⟩ rfl rfl (Nat.le_of_ble_eq_true rfl) h (fun r11 d10 h => ?_)
    have h := rI_dn h
    refine ev_callVv (M := MX4_drift) (M2 := MX0_spoil) (As := [.int x7, .int r11]) (rest := []) dX4_drift_104 sX_23 ck0 rfl w704 moX0_spoil rfl ⟨Nat.le_of_ble_eq_true rfl, Nat.le_of_ble_eq_true rfl⟩ rfl rfl (Nat.le_of_ble_eq_true rfl) h (fun d12 h => ?_)
    have h := rV_dn h
    refine ev_aload_n dX4_drift_107 rfl ?_
    refine ev_getr (M := MX4_drift) (r := 38) 6 dX4_drift_108 sX_0 ck4 (Nat.le_of_ble_eq_true rfl) rfl w262 ?_
    refine ev_aload_n dX4_drift_111 rfl ?_
    refine ev_getr (M := MX4_drift) (r := 23) 2 dX4_drift_112 sX_0 ck4 (Nat.le_of_ble_eq_true rfl) rfl w258 ?_
    refine ev_iconst dX4_drift_115 ci_0 ?_
    refine ev_callVv (M := MX4_drift) (M2 := MX1_run) (As := [.ref 23, .int 0]) (rest := []) dX4_drift_116 sX_38 ck1 rfl w539 moX1_run rfl ⟨Nat.le_of_ble_eq_true rfl, Nat.le_of_ble_eq_true rfl⟩ rfl rfl (Nat.le_of_ble_eq_true rfl) h (fun d13 h => ?_)
    have h := rV_dn h
    refine ev_iload dX4_drift_119 rfl ?_
    refine ev_aload_n dX4_drift_121 rfl ?_
    refine ev_getr (M := MX4_drift) (r := 38) 6 dX4_drift_122 sX_0 ck4 (Nat.le_of_ble_eq_true rfl) rfl w262 ?_
    refine ev_aload_n dX4_drift_125 rfl ?_
    refine ev_getr (M := MX4_drift) (r := 23) 2 dX4_drift_126 sX_0 ck4 (Nat.le_of_ble_eq_true rfl) rfl w258 ?_
    refine ev_callVi (M := MX4_drift) (M2 := MX1_away) (As := [.ref 23]) (rest := [.int l5]) dX4_drift_129 sX_38 ck1 rfl w583 moX1_away rfl ⟨Nat.le_of_ble_eq_true rfl, Nat.le_of_ble_eq_true rfl⟩ rfl rfl (Nat.le_of_ble_eq_true rfl) h (fun r15 d14 h => ?_)
    have h := rI_dn h
    refine ev_mmax dX4_drift_132 w692 w484 w65 w485 (Nat.le_of_ble_eq_true rfl) (Nat.le_of_ble_eq_true rfl) ?_
    refine ev_topi (fun x16 ex16 => ?_)
    have h := h x16 ex16
    refine ev_istore (M := MX4_drift) (ls2 := [.ref 0, .int l1, .int l2, .int l3, .int r9, .int x16, .int l6, .int l7, .int x7]) dX4_drift_135 (Nat.le_of_ble_eq_true rfl) rfl ?_
    refine ev_iload dX4_drift_137 rfl ?_
    refine ev_aload_n dX4_drift_139 rfl ?_
    refine ev_getr (M := MX4_drift) (r := 38) 6 dX4_drift_140 sX_0 ck4 (Nat.le_of_ble_eq_true rfl) rfl w262 ?_
    refine ev_aload_n dX4_drift_143 rfl ?_
    refine ev_getr (M := MX4_drift) (r := 23) 2 dX4_drift_144 sX_0 ck4 (Nat.le_of_ble_eq_true rfl) rfl w258 ?_
    refine ev_callVi (M := MX4_drift) (M2 := MX1_cost) (As := [.ref 23]) (rest := [.int l6]) dX4_drift_147 sX_38 ck1 rfl w591 moX1_cost rfl ⟨Nat.le_of_ble_eq_true rfl, Nat.le_of_ble_eq_true rfl⟩ rfl rfl (Nat.le_of_ble_eq_true rfl) h (fun r18 d17 h => ?_)
    have h := rI_dn h
    refine ev_iadd dX4_drift_150 ?_
    refine ev_istore (M := MX4_drift) (ls2 := [.ref 0, .int l1, .int l2, .int l3, .int r9, .int x16, .int (l6 + r18), .int l7, .int x7]) dX4_drift_151 (Nat.le_of_ble_eq_true rfl) rfl ?_
    refine ev_iinc (M := MX4_drift) (ls2 := [.ref 0, .int l1, .int l2, .int l3, .int r9, .int x16, .int (l6 + r18), .int (l7 + 1), .int x7]) dX4_drift_153 rfl (iin ci_1) (Nat.le_of_ble_eq_true rfl) rfl ?_
    refine ev_goto (M := MX4_drift) (tgt := 58) dX4_drift_156 rfl ?_
    refine Ev.forget (ls2 := [.ref 0, .int l1, .int l2, .int l3, .int r9, .int x16, .int (l6 + r18), .int (l7 + 1), uJ]) ?_ (fun i v hi hv => lsub_of (bs := [false, false, false, false, false, false, false, false, true]) rfl i v hi hv)
    exact h
-- X4_keep
theorem cn_X4_keep {q : Int32 → DD → Prop} {d : DD} {p0 : Int32} (h : (Cn SX MX4_within [.int p0, .int 0, .int 1] d (rI fun r2 d1 => ((¬ r2 = 0 → (vp_in p0 2 ∧ (((d1 35 p0.toNatClampNeg) = 0 → Ev SX MX4_keep 25 [.ref 0, .int p0, uJ] [.int 0] d1 (rI q)) ∧ (¬ (d1 35 p0.toNatClampNeg) = 0 → Ev SX MX4_keep 25 [.ref 0, .int p0, uJ] [.int 1] d1 (rI q))))) ∧ (r2 = 0 → q (-1) d1))))) : Cn SX MX4_keep [.ref 0, .int p0] d (rI q) := by
  refine cn_of (ls := [.ref 0, .int p0, uJ]) (by decide) rfl rfl (Nat.le_of_ble_eq_true rfl) ?_
  refine ev_iload_n dX4_keep_0 rfl ?_
  refine ev_iconst dX4_keep_1 ci_0 ?_
  refine ev_iconst dX4_keep_2 ci_1 ?_
  refine ev_callSi (M := MX4_keep) (M2 := MX4_within) (As := [.int p0, .int 0, .int 1]) (rest := []) dX4_keep_3 w300 moX4_within rfl ⟨Nat.le_of_ble_eq_true rfl, Nat.le_of_ble_eq_true rfl⟩ rfl rfl (Nat.le_of_ble_eq_true rfl) h (fun r2 d1 h => ?_)
  have h := rI_dn h
  refine ev_if_ne (M := MX4_keep) (tgt := 11) dX4_keep_6 rfl (fun c3 => ?_) (fun c3 => ?_)
  · have h := h.1 c3
    refine ev_aload_n dX4_keep_11 rfl ?_
    refine ev_getr (M := MX4_keep) (r := 35) 4 dX4_keep_12 sX_0 ck4 (Nat.le_of_ble_eq_true rfl) rfl w260 ?_
    refine ev_iload_n dX4_keep_15 rfl ?_
    obtain ⟨g, h⟩ := h
    refine ev_zald dX4_keep_16 sX_35 g ?_
    refine ev_if_eq (M := MX4_keep) (tgt := 24) dX4_keep_17 rfl (fun c4 => ?_) (fun c4 => ?_)
    · have h := h.1 c4
      refine ev_iconst dX4_keep_24 ci_0 ?_
      exact h
    · have h := h.2 c4
      refine ev_iconst dX4_keep_20 ci_1 ?_
      refine ev_goto (M := MX4_keep) (tgt := 25) dX4_keep_21 rfl ?_
      exact h
  · have h := h.2 c3
    refine ev_iconst dX4_keep_9 ci_m1 ?_
    exact ev_ireti (M := MX4_keep) (ty := .int) dX4_keep_10 rfl rfl rfl h
theorem bk_X4_keep_25 {q : Int32 → DD → Prop} {d : DD} {l1 : Int32} {k0 : Int32} (h : (vp_in l1 2 ∧ ∀ b1 : Nat, isH b1 → b1 = imB l1 → (Cn SX MX0_become [.ref b1, .ref 1] d (rV fun d2 => (vp_in l1 2 ∧ (∀ d3 : DD, d3 = (up d2 35 l1.toNatClampNeg 1) → q k0 d3)))))) : Ev SX MX4_keep 25 [.ref 0, .int l1, uJ] [.int k0] d (rI q) := by
  refine ev_istore_n (M := MX4_keep) (ls2 := [.ref 0, .int l1, .int k0]) 2 dX4_keep_25 rfl (Nat.le_of_ble_eq_true rfl) rfl ?_
  refine ev_aload_n dX4_keep_26 rfl ?_
  refine ev_getr (M := MX4_keep) (r := 34) 3 dX4_keep_27 sX_0 ck4 (Nat.le_of_ble_eq_true rfl) rfl w259 ?_
  refine ev_iload_n dX4_keep_30 rfl ?_
  obtain ⟨g, h⟩ := h
  refine ev_aaldh dX4_keep_31 sX_34 g (fun b1 Hb1 eb1 => ?_)
  have h := h b1 Hb1 eb1
  refine ev_aload_n dX4_keep_32 rfl ?_
  refine ev_getr (M := MX4_keep) (r := 1) 0 dX4_keep_33 sX_0 ck4 (Nat.le_of_ble_eq_true rfl) rfl w256 ?_
  refine ev_callVv (M := MX4_keep) (M2 := MX0_become) (As := [.ref 1]) (rest := []) dX4_keep_36 (hH_0 Hb1) ck0 rfl w431 moX0_become rfl ⟨Nat.le_of_ble_eq_true rfl, Nat.le_of_ble_eq_true rfl⟩ rfl rfl (Nat.le_of_ble_eq_true rfl) h (fun d2 h => ?_)
  have h := rV_dn h
  refine ev_aload_n dX4_keep_39 rfl ?_
  refine ev_getr (M := MX4_keep) (r := 35) 4 dX4_keep_40 sX_0 ck4 (Nat.le_of_ble_eq_true rfl) rfl w260 ?_
  refine ev_iload_n dX4_keep_43 rfl ?_
  refine ev_iconst dX4_keep_44 ci_1 ?_
  obtain ⟨g, h⟩ := h
  refine ev_zast (M := MX4_keep) (y := 1) dX4_keep_45 sX_35 g rfl ?_
  refine ev_topd (fun d3 ed3 => ?_)
  have h := h d3 ed3
  refine ev_iload_n dX4_keep_46 rfl ?_
  exact ev_ireti (M := MX4_keep) (ty := .int) dX4_keep_47 rfl rfl rfl h
-- X4_back
theorem cn_X4_back {q : Int32 → DD → Prop} {d : DD} {p0 : Int32} (h : (Cn SX MX4_within [.int p0, .int 0, .int 1] d (rI fun r2 d1 => ((¬ r2 = 0 → (vp_in p0 2 ∧ ((¬ (d1 35 p0.toNatClampNeg) = 0 → (vp_in p0 2 ∧ ∀ b5 : Nat, isH b5 → b5 = imB p0 → (Cn SX MX0_become [.ref 1, .ref b5] d1 (rV fun d6 => (Cn SX MX0_allNotes [.ref 1] d6 (rI fun r8 d7 => q r8 d7)))))) ∧ ((d1 35 p0.toNatClampNeg) = 0 → q (-2) d1)))) ∧ (r2 = 0 → q (-1) d1))))) : Cn SX MX4_back [.ref 0, .int p0] d (rI q) := by
  refine cn_of (ls := [.ref 0, .int p0]) (by decide) rfl rfl (Nat.le_of_ble_eq_true rfl) ?_
  refine ev_iload_n dX4_back_0 rfl ?_
  refine ev_iconst dX4_back_1 ci_0 ?_
  refine ev_iconst dX4_back_2 ci_1 ?_
  refine ev_callSi (M := MX4_back) (M2 := MX4_within) (As := [.int p0, .int 0, .int 1]) (rest := []) dX4_back_3 w300 moX4_within rfl ⟨Nat.le_of_ble_eq_true rfl, Nat.le_of_ble_eq_true rfl⟩ rfl rfl (Nat.le_of_ble_eq_true rfl) h (fun r2 d1 h => ?_)
  have h := rI_dn h
  refine ev_if_ne (M := MX4_back) (tgt := 11) dX4_back_6 rfl (fun c3 => ?_) (fun c3 => ?_)
  · have h := h.1 c3
    refine ev_aload_n dX4_back_11 rfl ?_
    refine ev_getr (M := MX4_back) (r := 35) 4 dX4_back_12 sX_0 ck4 (Nat.le_of_ble_eq_true rfl) rfl w260 ?_
    refine ev_iload_n dX4_back_15 rfl ?_
    obtain ⟨g, h⟩ := h
    refine ev_zald dX4_back_16 sX_35 g ?_
    refine ev_if_ne (M := MX4_back) (tgt := 23) dX4_back_17 rfl (fun c4 => ?_) (fun c4 => ?_)
    · have h := h.1 c4
      refine ev_aload_n dX4_back_23 rfl ?_
      refine ev_getr (M := MX4_back) (r := 1) 0 dX4_back_24 sX_0 ck4 (Nat.le_of_ble_eq_true rfl) rfl w256 ?_
      refine ev_aload_n dX4_back_27 rfl ?_
      refine ev_getr (M := MX4_back) (r := 34) 3 dX4_back_28 sX_0 ck4 (Nat.le_of_ble_eq_true rfl) rfl w259 ?_
      refine ev_iload_n dX4_back_31 rfl ?_
      obtain ⟨g, h⟩ := h
      refine ev_aaldh dX4_back_32 sX_34 g (fun b5 Hb5 eb5 => ?_)
      have h := h b5 Hb5 eb5
      refine ev_callVv (M := MX4_back) (M2 := MX0_become) (As := [.ref b5]) (rest := []) dX4_back_33 sX_1 ck0 rfl w431 moX0_become rfl ⟨Nat.le_of_ble_eq_true rfl, Nat.le_of_ble_eq_true rfl⟩ rfl rfl (Nat.le_of_ble_eq_true rfl) h (fun d6 h => ?_)
      have h := rV_dn h
      refine ev_aload_n dX4_back_36 rfl ?_
      refine ev_getr (M := MX4_back) (r := 1) 0 dX4_back_37 sX_0 ck4 (Nat.le_of_ble_eq_true rfl) rfl w256 ?_
      refine ev_callVi (M := MX4_back) (M2 := MX0_allNotes) (As := []) (rest := []) dX4_back_40 sX_1 ck0 rfl w716 moX0_allNotes rfl ⟨Nat.le_of_ble_eq_true rfl, Nat.le_of_ble_eq_true rfl⟩ rfl rfl (Nat.le_of_ble_eq_true rfl) h (fun r8 d7 h => ?_)
      have h := rI_dn h
      exact ev_ireti (M := MX4_back) (ty := .int) dX4_back_43 rfl rfl rfl h
    · have h := h.2 c4
      refine ev_bipush dX4_back_20 cb_m2 ?_
      exact ev_ireti (M := MX4_back) (ty := .int) dX4_back_22 rfl rfl rfl h
  · have h := h.2 c3
    refine ev_iconst dX4_back_9 ci_m1 ?_
    exact ev_ireti (M := MX4_back) (ty := .int) dX4_back_10 rfl rfl rfl h
-- X4_sheet
theorem cn_X4_sheet {q : Int32 → DD → Prop} {d : DD} {p0 : Int32} {p1 : Int32} {p2 : Int32} (h : (Cn SX MX4_within [.int p0, .int 0, .int 3] d (rI fun r2 d1 => ((r2 = 0 → q (-1) d1) ∧ (¬ r2 = 0 → (Cn SX MX4_within [.int p1, .int 0, .int 2] d1 (rI fun r5 d4 => ((r5 = 0 → q (-1) d4) ∧ (¬ r5 = 0 → ((p2 ≤ 40 → ((0 ≤ p2 → (vp_in p0 4 ∧ ∀ b9 : Nat, isSh b9 → b9 = shB p0 → (Cn SX MX2_renew [.ref b9, .int p1, .int p2] d4 (rV fun d10 => q 1 d10)))) ∧ (¬ 0 ≤ p2 → q (-14) d4))) ∧ (¬ p2 ≤ 40 → q (-1) d4))))))))))) : Cn SX MX4_sheet [.ref 0, .int p0, .int p1, .int p2] d (rI q) := by
  refine cn_of (ls := [.ref 0, .int p0, .int p1, .int p2]) (by decide) rfl rfl (Nat.le_of_ble_eq_true rfl) ?_
  refine ev_iload_n dX4_sheet_0 rfl ?_
  refine ev_iconst dX4_sheet_1 ci_0 ?_
  refine ev_iconst dX4_sheet_2 ci_3 ?_
  refine ev_callSi (M := MX4_sheet) (M2 := MX4_within) (As := [.int p0, .int 0, .int 3]) (rest := []) dX4_sheet_3 w300 moX4_within rfl ⟨Nat.le_of_ble_eq_true rfl, Nat.le_of_ble_eq_true rfl⟩ rfl rfl (Nat.le_of_ble_eq_true rfl) h (fun r2 d1 h => ?_)
  have h := rI_dn h
  refine ev_if_eq (M := MX4_sheet) (tgt := 24) dX4_sheet_6 rfl (fun c3 => ?_) (fun c3 => ?_)
  · have h := h.1 c3
    refine ev_iconst dX4_sheet_24 ci_m1 ?_
    exact ev_ireti (M := MX4_sheet) (ty := .int) dX4_sheet_25 rfl rfl rfl h
  · have h := h.2 c3
    refine ev_iload_n dX4_sheet_9 rfl ?_
    refine ev_iconst dX4_sheet_10 ci_0 ?_
    refine ev_iconst dX4_sheet_11 ci_2 ?_
    refine ev_callSi (M := MX4_sheet) (M2 := MX4_within) (As := [.int p1, .int 0, .int 2]) (rest := []) dX4_sheet_12 w300 moX4_within rfl ⟨Nat.le_of_ble_eq_true rfl, Nat.le_of_ble_eq_true rfl⟩ rfl rfl (Nat.le_of_ble_eq_true rfl) h (fun r5 d4 h => ?_)
    have h := rI_dn h
    refine ev_if_eq (M := MX4_sheet) (tgt := 24) dX4_sheet_15 rfl (fun c6 => ?_) (fun c6 => ?_)
    · have h := h.1 c6
      refine ev_iconst dX4_sheet_24 ci_m1 ?_
      exact ev_ireti (M := MX4_sheet) (ty := .int) dX4_sheet_25 rfl rfl rfl h
    · have h := h.2 c6
      refine ev_iload_n dX4_sheet_18 rfl ?_
      refine ev_bipush dX4_sheet_19 cb_40 ?_
      refine ev_icmp_le (M := MX4_sheet) (tgt := 26) dX4_sheet_21 rfl (fun c7 => ?_) (fun c7 => ?_)
      · have h := h.1 c7
        refine ev_iload_n dX4_sheet_26 rfl ?_
        refine ev_if_ge (M := MX4_sheet) (tgt := 33) dX4_sheet_27 rfl (fun c8 => ?_) (fun c8 => ?_)
        · have h := h.1 c8
          refine ev_aload_n dX4_sheet_33 rfl ?_
          refine ev_getr (M := MX4_sheet) (r := 48) 7 dX4_sheet_34 sX_0 ck4 (Nat.le_of_ble_eq_true rfl) rfl w263 ?_
          refine ev_iload_n dX4_sheet_37 rfl ?_
          obtain ⟨g, h⟩ := h
          refine ev_aalds dX4_sheet_38 sX_48 g (fun b9 Hb9 eb9 => ?_)
          have h := h b9 Hb9 eb9
          refine ev_iload_n dX4_sheet_39 rfl ?_
          refine ev_iload_n dX4_sheet_40 rfl ?_
          refine ev_callVv (M := MX4_sheet) (M2 := MX2_renew) (As := [.int p1, .int p2]) (rest := []) dX4_sheet_41 (hS_0 Hb9) ck2 rfl w724 moX2_renew rfl ⟨Nat.le_of_ble_eq_true rfl, Nat.le_of_ble_eq_true rfl⟩ rfl rfl (Nat.le_of_ble_eq_true rfl) h (fun d10 h => ?_)
          have h := rV_dn h
          refine ev_iconst dX4_sheet_44 ci_1 ?_
          exact ev_ireti (M := MX4_sheet) (ty := .int) dX4_sheet_45 rfl rfl rfl h
        · have h := h.2 c8
          refine ev_bipush dX4_sheet_30 cb_m14 ?_
          exact ev_ireti (M := MX4_sheet) (ty := .int) dX4_sheet_32 rfl rfl rfl h
      · have h := h.2 c7
        refine ev_iconst dX4_sheet_24 ci_m1 ?_
        exact ev_ireti (M := MX4_sheet) (ty := .int) dX4_sheet_25 rfl rfl rfl h
-- X4_lay
theorem cn_X4_lay {q : Int32 → DD → Prop} {d : DD} {p0 : Int32} {p1 : Int32} {p2 : Int32} (h : (Cn SX MX4_within [.int p0, .int 0, .int 3] d (rI fun r2 d1 => ((¬ r2 = 0 → (vp_in p0 4 ∧ ∀ b4 : Nat, isSh b4 → b4 = shB p0 → ((¬ (d1 b4 0) = 0 → (Cn SX MX2_hasCell [.ref b4, .long p1.toInt64] d1 (rI fun r7 d6 => ((¬ r7 = 0 → (Cn SX MX2_narrowed [.int (d6 b4 1), .int p2] d6 (rI fun r10 d9 => (vp_in p1 40 ∧ (∀ d11 : DD, d11 = (up d9 (b4 + 1) p1.toNatClampNeg r10) → q 1 d11))))) ∧ (r7 = 0 → q (-12) d6))))) ∧ ((d1 b4 0) = 0 → q (-11) d1)))) ∧ (r2 = 0 → q (-1) d1))))) : Cn SX MX4_lay [.ref 0, .int p0, .int p1, .int p2] d (rI q) := by
  refine cn_of (ls := [.ref 0, .int p0, .int p1, .int p2, uJ]) (by decide) rfl rfl (Nat.le_of_ble_eq_true rfl) ?_
  refine ev_iload_n dX4_lay_0 rfl ?_
  refine ev_iconst dX4_lay_1 ci_0 ?_
  refine ev_iconst dX4_lay_2 ci_3 ?_
  refine ev_callSi (M := MX4_lay) (M2 := MX4_within) (As := [.int p0, .int 0, .int 3]) (rest := []) dX4_lay_3 w300 moX4_within rfl ⟨Nat.le_of_ble_eq_true rfl, Nat.le_of_ble_eq_true rfl⟩ rfl rfl (Nat.le_of_ble_eq_true rfl) h (fun r2 d1 h => ?_)
  have h := rI_dn h
  refine ev_if_ne (M := MX4_lay) (tgt := 11) dX4_lay_6 rfl (fun c3 => ?_) (fun c3 => ?_)
  · have h := h.1 c3
    refine ev_aload_n dX4_lay_11 rfl ?_
    refine ev_getr (M := MX4_lay) (r := 48) 7 dX4_lay_12 sX_0 ck4 (Nat.le_of_ble_eq_true rfl) rfl w263 ?_
    refine ev_iload_n dX4_lay_15 rfl ?_
    obtain ⟨g, h⟩ := h
    refine ev_aalds dX4_lay_16 sX_48 g (fun b4 Hb4 eb4 => ?_)
    have h := h b4 Hb4 eb4
    refine ev_astore (M := MX4_lay) (ls2 := [.ref 0, .int p0, .int p1, .int p2, .ref b4]) dX4_lay_17 (Nat.le_of_ble_eq_true rfl) rfl ?_
    refine ev_aload dX4_lay_19 rfl ?_
    refine ev_get 0 dX4_lay_21 (hS_0 Hb4) ck2 (Nat.le_of_ble_eq_true rfl) rfl w240 ?_
    refine ev_if_ne (M := MX4_lay) (tgt := 30) dX4_lay_24 rfl (fun c5 => ?_) (fun c5 => ?_)
    · have h := h.1 c5
      refine ev_aload dX4_lay_30 rfl ?_
      refine ev_iload_n dX4_lay_32 rfl ?_
      refine ev_i2l dX4_lay_33 ?_
      refine ev_callVi (M := MX4_lay) (M2 := MX2_hasCell) (As := [.long p1.toInt64]) (rest := []) dX4_lay_34 (hS_0 Hb4) ck2 rfl w732 moX2_hasCell rfl ⟨Nat.le_of_ble_eq_true rfl, Nat.le_of_ble_eq_true rfl⟩ rfl rfl (Nat.le_of_ble_eq_true rfl) h (fun r7 d6 h => ?_)
      have h := rI_dn h
      refine ev_if_ne (M := MX4_lay) (tgt := 43) dX4_lay_37 rfl (fun c8 => ?_) (fun c8 => ?_)
      · have h := h.1 c8
        refine ev_aload dX4_lay_43 rfl ?_
        refine ev_getr (M := MX4_lay) (r := (b4 + 1)) 3 dX4_lay_45 (hS_0 Hb4) ck2 (Nat.le_of_ble_eq_true rfl) rfl w246 ?_
        refine ev_iload_n dX4_lay_48 rfl ?_
        refine ev_aload dX4_lay_49 rfl ?_
        refine ev_get 1 dX4_lay_51 (hS_0 Hb4) ck2 (Nat.le_of_ble_eq_true rfl) rfl w242 ?_
        refine ev_iload_n dX4_lay_54 rfl ?_
        refine ev_callSi (M := MX4_lay) (M2 := MX2_narrowed) (As := [.int (d6 b4 1), .int p2]) (rest := [.int p1, .ref (b4 + 1)]) dX4_lay_55 w736 moX2_narrowed rfl ⟨Nat.le_of_ble_eq_true rfl, Nat.le_of_ble_eq_true rfl⟩ rfl rfl (Nat.le_of_ble_eq_true rfl) h (fun r10 d9 h => ?_)
        have h := rI_dn h
        obtain ⟨g, h⟩ := h
        refine ev_iast dX4_lay_58 (hS_1 Hb4) g ?_
        refine ev_topd (fun d11 ed11 => ?_)
        have h := h d11 ed11
        refine ev_iconst dX4_lay_59 ci_1 ?_
        exact ev_ireti (M := MX4_lay) (ty := .int) dX4_lay_60 rfl rfl rfl h
      · have h := h.2 c8
        refine ev_bipush dX4_lay_40 cb_m12 ?_
        exact ev_ireti (M := MX4_lay) (ty := .int) dX4_lay_42 rfl rfl rfl h
    · have h := h.2 c5
      refine ev_bipush dX4_lay_27 cb_m11 ?_
      exact ev_ireti (M := MX4_lay) (ty := .int) dX4_lay_29 rfl rfl rfl h
  · have h := h.2 c3
    refine ev_iconst dX4_lay_9 ci_m1 ?_
    exact ev_ireti (M := MX4_lay) (ty := .int) dX4_lay_10 rfl rfl rfl h
-- X4_read
set_option maxRecDepth 4000 in
theorem cn_X4_read {q : Int32 → DD → Prop} {d : DD} {p0 : Int32} {p1 : Int32} {p2 : Int32} {p3 : Int32} (h : (Cn SX MX4_within [.int p0, .int 0, .int 3] d (rI fun r2 d1 => ((r2 = 0 → q (-1) d1) ∧ (¬ r2 = 0 → (Cn SX MX4_within [.int p1, .int 0, .int 2] d1 (rI fun r5 d4 => ((r5 = 0 → q (-1) d4) ∧ (¬ r5 = 0 → (Cn SX MX4_within [.int p3, .int 0, .int 20] d4 (rI fun r8 d7 => ((¬ r8 = 0 → (vp_in p0 4 ∧ ∀ b10 : Nat, isSh b10 → b10 = shB p0 → ((¬ p3 = 0 → (Cn SX MX2_faultAs [.ref b10, .int p1] d7 (rI fun r13 d12 => Ev SX MX4_read 54 [.ref 0, .int p0, .int p1, .int p2, .int p3, .ref b10, uJ, uJ, uJ, uJ, uJ] [.int r13] d12 (rI q)))) ∧ (p3 = 0 → Ev SX MX4_read 54 [.ref 0, .int p0, .int p1, .int p2, .int p3, .ref b10, uJ, uJ, uJ, uJ, uJ] [.int 0] d7 (rI q))))) ∧ (r8 = 0 → q (-1) d7))))))))))))) : Cn SX MX4_read [.ref 0, .int p0, .int p1, .int p2, .int p3] d (rI q) := by
  refine cn_of (ls := [.ref 0, .int p0, .int p1, .int p2, .int p3, uJ, uJ, uJ, uJ, uJ, uJ]) (by decide) rfl rfl (Nat.le_of_ble_eq_true rfl) ?_
  refine ev_iload_n dX4_read_0 rfl ?_
  refine ev_iconst dX4_read_1 ci_0 ?_
  refine ev_iconst dX4_read_2 ci_3 ?_
  refine ev_callSi (M := MX4_read) (M2 := MX4_within) (As := [.int p0, .int 0, .int 3]) (rest := []) dX4_read_3 w300 moX4_within rfl ⟨Nat.le_of_ble_eq_true rfl, Nat.le_of_ble_eq_true rfl⟩ rfl rfl (Nat.le_of_ble_eq_true rfl) h (fun r2 d1 h => ?_)
  have h := rI_dn h
  refine ev_if_eq (M := MX4_read) (tgt := 29) dX4_read_6 rfl (fun c3 => ?_) (fun c3 => ?_)
  · have h := h.1 c3
    refine ev_iconst dX4_read_29 ci_m1 ?_
    exact ev_ireti (M := MX4_read) (ty := .int) dX4_read_30 rfl rfl rfl h
  · have h := h.2 c3
    refine ev_iload_n dX4_read_9 rfl ?_
    refine ev_iconst dX4_read_10 ci_0 ?_
    refine ev_iconst dX4_read_11 ci_2 ?_
    refine ev_callSi (M := MX4_read) (M2 := MX4_within) (As := [.int p1, .int 0, .int 2]) (rest := []) dX4_read_12 w300 moX4_within rfl ⟨Nat.le_of_ble_eq_true rfl, Nat.le_of_ble_eq_true rfl⟩ rfl rfl (Nat.le_of_ble_eq_true rfl) h (fun r5 d4 h => ?_)
    have h := rI_dn h
    refine ev_if_eq (M := MX4_read) (tgt := 29) dX4_read_15 rfl (fun c6 => ?_) (fun c6 => ?_)
    · have h := h.1 c6
      refine ev_iconst dX4_read_29 ci_m1 ?_
      exact ev_ireti (M := MX4_read) (ty := .int) dX4_read_30 rfl rfl rfl h
    · have h := h.2 c6
      refine ev_iload dX4_read_18 rfl ?_
      refine ev_iconst dX4_read_20 ci_0 ?_
      refine ev_bipush dX4_read_21 cb_20 ?_
      refine ev_callSi (M := MX4_read) (M2 := MX4_within) (As := [.int p3, .int 0, .int 20]) (rest := []) dX4_read_23 w300 moX4_within rfl ⟨Nat.le_of_ble_eq_true rfl, Nat.le_of_ble_eq_true rfl⟩ rfl rfl (Nat.le_of_ble_eq_true rfl) h (fun r8 d7 h => ?_)
      have h := rI_dn h
      refine ev_if_ne (M := MX4_read) (tgt := 31) dX4_read_26 rfl (fun c9 => ?_) (fun c9 => ?_)
      · have h := h.1 c9
        refine ev_aload_n dX4_read_31 rfl ?_
        refine ev_getr (M := MX4_read) (r := 48) 7 dX4_read_32 sX_0 ck4 (Nat.le_of_ble_eq_true rfl) rfl w263 ?_
        refine ev_iload_n dX4_read_35 rfl ?_
        obtain ⟨g, h⟩ := h
        refine ev_aalds dX4_read_36 sX_48 g (fun b10 Hb10 eb10 => ?_)
        have h := h b10 Hb10 eb10
        refine ev_astore (M := MX4_read) (ls2 := [.ref 0, .int p0, .int p1, .int p2, .int p3, .ref b10, uJ, uJ, uJ, uJ, uJ]) dX4_read_37 (Nat.le_of_ble_eq_true rfl) rfl ?_
        refine ev_iload dX4_read_39 rfl ?_
        refine ev_if_ne (M := MX4_read) (tgt := 48) dX4_read_41 rfl (fun c11 => ?_) (fun c11 => ?_)
        · have h := h.1 c11
          refine ev_aload dX4_read_48 rfl ?_
          refine ev_iload_n dX4_read_50 rfl ?_
          refine ev_callVi (M := MX4_read) (M2 := MX2_faultAs) (As := [.int p1]) (rest := []) dX4_read_51 (hS_0 Hb10) ck2 rfl w743 moX2_faultAs rfl ⟨Nat.le_of_ble_eq_true rfl, Nat.le_of_ble_eq_true rfl⟩ rfl rfl (Nat.le_of_ble_eq_true rfl) h (fun r13 d12 h => ?_)
          have h := rI_dn h
          exact h
        · have h := h.2 c11
          refine ev_iconst dX4_read_44 ci_0 ?_
          refine ev_goto (M := MX4_read) (tgt := 54) dX4_read_45 rfl ?_
          exact h
      · have h := h.2 c9
        refine ev_iconst dX4_read_29 ci_m1 ?_
        exact ev_ireti (M := MX4_read) (ty := .int) dX4_read_30 rfl rfl rfl h
set_option maxRecDepth 4000 in
theorem bk_X4_read_54 {q : Int32 → DD → Prop} {d : DD} {l1 : Int32} {l2 : Int32} {l3 : Int32} {l4 : Int32} {l5 : Nat} (Hl5 : isSh l5) {k0 : Int32} (h : (Cn SX MX0_become [.ref 23, .ref 1] d (rV fun d1 => Ev SX MX4_read 73 [.ref 0, .int l1, .int l2, .int l3, .int l4, .ref l5, .int k0, .int 0, .int 0, uJ, uJ] [] d1 (rI q)))) : Ev SX MX4_read 54 [.ref 0, .int l1, .int l2, .int l3, .int l4, .ref l5, uJ, uJ, uJ, uJ, uJ] [.int k0] d (rI q) := by
  refine ev_istore (M := MX4_read) (ls2 := [.ref 0, .int l1, .int l2, .int l3, .int l4, .ref l5, .int k0, uJ, uJ, uJ, uJ]) dX4_read_54 (Nat.le_of_ble_eq_true rfl) rfl ?_
  refine ev_iconst dX4_read_56 ci_0 ?_
  refine ev_istore (M := MX4_read) (ls2 := [.ref 0, .int l1, .int l2, .int l3, .int l4, .ref l5, .int k0, .int 0, uJ, uJ, uJ]) dX4_read_57 (Nat.le_of_ble_eq_true rfl) rfl ?_
  refine ev_aload_n dX4_read_59 rfl ?_
  refine ev_getr (M := MX4_read) (r := 23) 2 dX4_read_60 sX_0 ck4 (Nat.le_of_ble_eq_true rfl) rfl w258 ?_
  refine ev_aload_n dX4_read_63 rfl ?_
  refine ev_getr (M := MX4_read) (r := 1) 0 dX4_read_64 sX_0 ck4 (Nat.le_of_ble_eq_true rfl) rfl w256 ?_
  refine ev_callVv (M := MX4_read) (M2 := MX0_become) (As := [.ref 1]) (rest := []) dX4_read_67 sX_23 ck0 rfl w431 moX0_become rfl ⟨Nat.le_of_ble_eq_true rfl, Nat.le_of_ble_eq_true rfl⟩ rfl rfl (Nat.le_of_ble_eq_true rfl) h (fun d1 h => ?_)
  have h := rV_dn h
  refine ev_iconst dX4_read_70 ci_0 ?_
  refine ev_istore (M := MX4_read) (ls2 := [.ref 0, .int l1, .int l2, .int l3, .int l4, .ref l5, .int k0, .int 0, .int 0, uJ, uJ]) dX4_read_71 (Nat.le_of_ble_eq_true rfl) rfl ?_
  exact h
set_option maxRecDepth 4000 in
theorem bk_X4_read_73 {q : Int32 → DD → Prop} {d : DD} {l1 : Int32} {l2 : Int32} {l3 : Int32} {l4 : Int32} {l5 : Nat} (Hl5 : isSh l5) {l6 : Int32} {l7 : Int32} {l8 : Int32} (h : ((l4 ≤ l8 → Ev SX MX4_read 168 [.ref 0, .int l1, .int l2, .int l3, .int l4, .ref l5, .int l6, .int l7, .int l8, uJ, uJ] [] d (rI q)) ∧ (¬ l4 ≤ l8 → ((¬ l6 = 0 → Ev SX MX4_read 168 [.ref 0, .int l1, .int l2, .int l3, .int l4, .ref l5, .int l6, .int l7, .int l8, uJ, uJ] [] d (rI q)) ∧ (l6 = 0 → (∀ x3 : Int64, x3 = (l3.toInt64 + (2 * l8).toInt64) → (Cn SX MX2_hasCell [.ref l5, .long x3] d (rI fun r5 d4 => ((r5 = 0 → Ev SX MX4_read 73 [.ref 0, .int l1, .int l2, .int l3, .int l4, .ref l5, .int 2, .int l7, .int (l8 + 1), uJ, uJ] [] d4 (rI q)) ∧ (¬ r5 = 0 → (Cn SX MX2_hasCell [.ref l5, .long (x3 + 1)] d4 (rI fun r8 d7 => ((¬ r8 = 0 → (vp_in x3.toInt32 40 ∧ (vp_in (x3.toInt32 + 1) 40 ∧ (Cn SX MX0_rebind [.ref 23, .int (d7 (l5 + 1) x3.toInt32.toNatClampNeg), .int (d7 (l5 + 1) (x3.toInt32 + 1).toNatClampNeg)] d7 (rI fun r11 d10 => ((0 ≤ r11 → Ev SX MX4_read 73 [.ref 0, .int l1, .int l2, .int l3, .int l4, .ref l5, .int l6, .int (l7 + 1), .int (l8 + 1), uJ, uJ] [] d10 (rI q)) ∧ (¬ 0 ≤ r11 → q ((-20) - l8) d10))))))) ∧ (r8 = 0 → Ev SX MX4_read 73 [.ref 0, .int l1, .int l2, .int l3, .int l4, .ref l5, .int 2, .int l7, .int (l8 + 1), uJ, uJ] [] d7 (rI q))))))))))))))) : Ev SX MX4_read 73 [.ref 0, .int l1, .int l2, .int l3, .int l4, .ref l5, .int l6, .int l7, .int l8, uJ, uJ] [] d (rI q) := by
  refine ev_iload dX4_read_73 rfl ?_
  refine ev_iload dX4_read_75 rfl ?_
  refine ev_icmp_ge (M := MX4_read) (tgt := 168) dX4_read_77 rfl (fun c1 => ?_) (fun c1 => ?_)
  · have h := h.1 c1
    exact h
  · have h := h.2 c1
    refine ev_iload dX4_read_80 rfl ?_
    refine ev_if_ne (M := MX4_read) (tgt := 168) dX4_read_82 rfl (fun c2 => ?_) (fun c2 => ?_)
    · have h := h.1 c2
      exact h
    · have h := h.2 c2
      refine ev_iload_n dX4_read_85 rfl ?_
      refine ev_i2l dX4_read_86 ?_
      refine ev_iconst dX4_read_87 ci_2 ?_
      refine ev_iload dX4_read_88 rfl ?_
      refine ev_imul dX4_read_90 ?_
      refine ev_i2l dX4_read_91 ?_
      refine ev_ladd dX4_read_92 ?_
      refine ev_topl (fun x3 ex3 => ?_)
      have h := h x3 ex3
      refine ev_lstore (M := MX4_read) (ls2 := [.ref 0, .int l1, .int l2, .int l3, .int l4, .ref l5, .int l6, .int l7, .int l8, .long x3, uJ]) dX4_read_93 (Nat.le_of_ble_eq_true rfl) rfl ?_
      refine ev_aload dX4_read_95 rfl ?_
      refine ev_lload dX4_read_97 rfl ?_
      refine ev_callVi (M := MX4_read) (M2 := MX2_hasCell) (As := [.long x3]) (rest := []) dX4_read_99 (hS_0 Hl5) ck2 rfl w732 moX2_hasCell rfl ⟨Nat.le_of_ble_eq_true rfl, Nat.le_of_ble_eq_true rfl⟩ rfl rfl (Nat.le_of_ble_eq_true rfl) h (fun r5 d4 h => ?_)
      have h := rI_dn h
      refine ev_if_eq (M := MX4_read) (tgt := 117) dX4_read_102 rfl (fun c6 => ?_) (fun c6 => ?_)
      · have h := h.1 c6
        refine ev_iconst dX4_read_117 ci_2 ?_
        refine ev_istore (M := MX4_read) (ls2 := [.ref 0, .int l1, .int l2, .int l3, .int l4, .ref l5, .int 2, .int l7, .int l8, .long x3, uJ]) dX4_read_118 (Nat.le_of_ble_eq_true rfl) rfl ?_
        refine ev_goto (M := MX4_read) (tgt := 162) dX4_read_120 rfl ?_
        refine ev_iinc (M := MX4_read) (ls2 := [.ref 0, .int l1, .int l2, .int l3, .int l4, .ref l5, .int 2, .int l7, .int (l8 + 1), .long x3, uJ]) dX4_read_162 rfl (iin ci_1) (Nat.le_of_ble_eq_true rfl) rfl ?_
        refine ev_goto (M := MX4_read) (tgt := 73) dX4_read_165 rfl ?_
        refine Ev.forget (ls2 := [.ref 0, .int l1, .int l2, .int l3, .int l4, .ref l5, .int 2, .int l7, .int (l8 + 1), uJ, uJ]) ?_ (fun i v hi hv => lsub_of (bs := [false, false, false, false, false, false, false, false, false, true, false]) rfl i v hi hv)
        exact h
      · have h := h.2 c6
        refine ev_aload dX4_read_105 rfl ?_
        refine ev_lload dX4_read_107 rfl ?_
        refine ev_lconst (M := MX4_read) (v := 1) dX4_read_109 rfl ?_
        refine ev_ladd dX4_read_110 ?_
        refine ev_callVi (M := MX4_read) (M2 := MX2_hasCell) (As := [.long (x3 + 1)]) (rest := []) dX4_read_111 (hS_0 Hl5) ck2 rfl w732 moX2_hasCell rfl ⟨Nat.le_of_ble_eq_true rfl, Nat.le_of_ble_eq_true rfl⟩ rfl rfl (Nat.le_of_ble_eq_true rfl) h (fun r8 d7 h => ?_)
        have h := rI_dn h
        refine ev_if_ne (M := MX4_read) (tgt := 123) dX4_read_114 rfl (fun c9 => ?_) (fun c9 => ?_)
        · have h := h.1 c9
          refine ev_aload_n dX4_read_123 rfl ?_
          refine ev_getr (M := MX4_read) (r := 23) 2 dX4_read_124 sX_0 ck4 (Nat.le_of_ble_eq_true rfl) rfl w258 ?_
          refine ev_aload dX4_read_127 rfl ?_
          refine ev_getr (M := MX4_read) (r := (l5 + 1)) 3 dX4_read_129 (hS_0 Hl5) ck2 (Nat.le_of_ble_eq_true rfl) rfl w246 ?_
          refine ev_lload dX4_read_132 rfl ?_
          refine ev_l2i dX4_read_134 ?_
          obtain ⟨g, h⟩ := h
          refine ev_iald dX4_read_135 (hS_1 Hl5) g ?_
          refine ev_aload dX4_read_136 rfl ?_
          refine ev_getr (M := MX4_read) (r := (l5 + 1)) 3 dX4_read_138 (hS_0 Hl5) ck2 (Nat.le_of_ble_eq_true rfl) rfl w246 ?_
          refine ev_lload dX4_read_141 rfl ?_
          refine ev_l2i dX4_read_143 ?_
          refine ev_iconst dX4_read_144 ci_1 ?_
          refine ev_iadd dX4_read_145 ?_
          obtain ⟨g, h⟩ := h
          refine ev_iald dX4_read_146 (hS_1 Hl5) g ?_
          refine ev_callVi (M := MX4_read) (M2 := MX0_rebind) (As := [.int (d7 (l5 + 1) x3.toInt32.toNatClampNeg), .int (d7 (l5 + 1) (x3.toInt32 + 1).toNatClampNeg)]) (rest := []) dX4_read_147 sX_23 ck0 rfl w525 moX0_rebind rfl ⟨Nat.le_of_ble_eq_true rfl, Nat.le_of_ble_eq_true rfl⟩ rfl rfl (Nat.le_of_ble_eq_true rfl) h (fun r11 d10 h => ?_)
          have h := rI_dn h
          refine ev_if_ge (M := MX4_read) (tgt := 159) dX4_read_150 rfl (fun c12 => ?_) (fun c12 => ?_)
          · have h := h.1 c12
            refine ev_iinc (M := MX4_read) (ls2 := [.ref 0, .int l1, .int l2, .int l3, .int l4, .ref l5, .int l6, .int (l7 + 1), .int l8, .long x3, uJ]) dX4_read_159 rfl (iin ci_1) (Nat.le_of_ble_eq_true rfl) rfl ?_
            refine ev_iinc (M := MX4_read) (ls2 := [.ref 0, .int l1, .int l2, .int l3, .int l4, .ref l5, .int l6, .int (l7 + 1), .int (l8 + 1), .long x3, uJ]) dX4_read_162 rfl (iin ci_1) (Nat.le_of_ble_eq_true rfl) rfl ?_
            refine ev_goto (M := MX4_read) (tgt := 73) dX4_read_165 rfl ?_
            refine Ev.forget (ls2 := [.ref 0, .int l1, .int l2, .int l3, .int l4, .ref l5, .int l6, .int (l7 + 1), .int (l8 + 1), uJ, uJ]) ?_ (fun i v hi hv => lsub_of (bs := [false, false, false, false, false, false, false, false, false, true, false]) rfl i v hi hv)
            exact h
          · have h := h.2 c12
            refine ev_bipush dX4_read_153 cb_m20 ?_
            refine ev_iload dX4_read_155 rfl ?_
            refine ev_isub dX4_read_157 ?_
            exact ev_ireti (M := MX4_read) (ty := .int) dX4_read_158 rfl rfl rfl h
        · have h := h.2 c9
          refine ev_iconst dX4_read_117 ci_2 ?_
          refine ev_istore (M := MX4_read) (ls2 := [.ref 0, .int l1, .int l2, .int l3, .int l4, .ref l5, .int 2, .int l7, .int l8, .long x3, uJ]) dX4_read_118 (Nat.le_of_ble_eq_true rfl) rfl ?_
          refine ev_goto (M := MX4_read) (tgt := 162) dX4_read_120 rfl ?_
          refine ev_iinc (M := MX4_read) (ls2 := [.ref 0, .int l1, .int l2, .int l3, .int l4, .ref l5, .int 2, .int l7, .int (l8 + 1), .long x3, uJ]) dX4_read_162 rfl (iin ci_1) (Nat.le_of_ble_eq_true rfl) rfl ?_
          refine ev_goto (M := MX4_read) (tgt := 73) dX4_read_165 rfl ?_
          refine Ev.forget (ls2 := [.ref 0, .int l1, .int l2, .int l3, .int l4, .ref l5, .int 2, .int l7, .int (l8 + 1), uJ, uJ]) ?_ (fun i v hi hv => lsub_of (bs := [false, false, false, false, false, false, false, false, false, true, false]) rfl i v hi hv)
          exact h
set_option maxRecDepth 4000 in
theorem bk_X4_read_168 {q : Int32 → DD → Prop} {d : DD} {l1 : Int32} {l2 : Int32} {l3 : Int32} {l4 : Int32} {l5 : Nat} (Hl5 : isSh l5) {l6 : Int32} {l7 : Int32} {l8 : Int32} (h : (Cn SX MX0_become [.ref 1, .ref 23] d (rV fun d1 => (∀ d2 : DD, d2 = (up d1 0 12 l6) → q l7 d2)))) : Ev SX MX4_read 168 [.ref 0, .int l1, .int l2, .int l3, .int l4, .ref l5, .int l6, .int l7, .int l8, uJ, uJ] [] d (rI q) := by
  refine ev_aload_n dX4_read_168 rfl ?_
  refine ev_getr (M := MX4_read) (r := 1) 0 dX4_read_169 sX_0 ck4 (Nat.le_of_ble_eq_true rfl) rfl w256 ?_
  refine ev_aload_n dX4_read_172 rfl ?_
  refine ev_getr (M := MX4_read) (r := 23) 2 dX4_read_173 sX_0 ck4 (Nat.le_of_ble_eq_true rfl) rfl w258 ?_
  refine ev_callVv (M := MX4_read) (M2 := MX0_become) (As := [.ref 23]) (rest := []) dX4_read_176 sX_1 ck0 rfl w431 moX0_become rfl ⟨Nat.le_of_ble_eq_true rfl, Nat.le_of_ble_eq_true rfl⟩ rfl rfl (Nat.le_of_ble_eq_true rfl) h (fun d1 h => ?_)
  have h := rV_dn h
  refine ev_aload_n dX4_read_179 rfl ?_
  refine ev_iload dX4_read_180 rfl ?_
  refine ev_put 12 dX4_read_182 sX_0 ck4 (Nat.le_of_ble_eq_true rfl) rfl w268 rfl rfl rfl ?_
  refine ev_topd (fun d2 ed2 => ?_)
  have h := h d2 ed2
  refine ev_iload dX4_read_185 rfl ?_
  exact ev_ireti (M := MX4_read) (ty := .int) dX4_read_187 rfl rfl rfl h
-- X4_torn
theorem cn_X4_torn {q : Int32 → DD → Prop} {d : DD}  (h : q (d 0 12) d) : Cn SX MX4_torn [.ref 0] d (rI q) := by
  refine cn_of (ls := [.ref 0]) (by decide) rfl rfl (Nat.le_of_ble_eq_true rfl) ?_
  refine ev_aload_n dX4_torn_0 rfl ?_
  refine ev_get 12 dX4_torn_1 sX_0 ck4 (Nat.le_of_ble_eq_true rfl) rfl w268 ?_
  exact ev_ireti (M := MX4_torn) (ty := .int) dX4_torn_4 rfl rfl rfl h
-- X4_count
set_option maxRecDepth 4000 in
theorem cn_X4_count {q : Int32 → DD → Prop} {d : DD} {p0 : Int32} (h : ((p0 = 0 → q (d 0 11) d) ∧ (¬ p0 = 0 → ((p0 = 1 → (((d 35 0) = 0 → (((d 35 1) = 0 → q (0 + 0) d) ∧ (¬ (d 35 1) = 0 → q (0 + 1) d))) ∧ (¬ (d 35 0) = 0 → (((d 35 1) = 0 → q (1 + 0) d) ∧ (¬ (d 35 1) = 0 → q (1 + 1) d))))) ∧ (¬ p0 = 1 → ((p0 = 2 → q (d 36 1) d) ∧ (¬ p0 = 2 → ((p0 = 3 → (vp_in 0 4 ∧ ∀ b8 : Nat, isSh b8 → b8 = shB 0 → (((d b8 0) = 0 → q (-4) d) ∧ (¬ (d b8 0) = 0 → (vp_in 0 4 ∧ ∀ b10 : Nat, isSh b10 → b10 = shB 0 → q (d b10 2) d))))) ∧ (¬ p0 = 3 → ((p0 = 4 → (Cn SX MX0_allNotes [.ref 1] d (rI fun r13 d12 => q r13 d12))) ∧ (¬ p0 = 4 → ((p0 = 5 → (Cn SX MX0_allLengths [.ref 1] d (rI fun r16 d15 => q r16 d15))) ∧ (¬ p0 = 5 → q (-1) d))))))))))))) : Cn SX MX4_count [.ref 0, .int p0] d (rI q) := by
  refine cn_of (ls := [.ref 0, .int p0]) (by decide) rfl rfl (Nat.le_of_ble_eq_true rfl) ?_
  refine ev_iload_n dX4_count_0 rfl ?_
  by_cases c1 : p0 = 0
  · have h := h.1 c1
    refine ev_tsw (M := MX4_count) (tgt := 40) dX4_count_1 0 (sw_eq 0 c1 (by decide)) (by decide) (by decide) rfl rfl ?_
    refine ev_aload_n dX4_count_40 rfl ?_
    refine ev_get 11 dX4_count_41 sX_0 ck4 (Nat.le_of_ble_eq_true rfl) rfl w267 ?_
    exact ev_ireti (M := MX4_count) (ty := .int) dX4_count_44 rfl rfl rfl h
  · have h := h.2 c1
    by_cases c2 : p0 = 1
    · have h := h.1 c2
      refine ev_tsw (M := MX4_count) (tgt := 45) dX4_count_1 1 (sw_eq 1 c2 (by decide)) (by decide) (by decide) rfl rfl ?_
      refine ev_aload_n dX4_count_45 rfl ?_
      refine ev_getr (M := MX4_count) (r := 35) 4 dX4_count_46 sX_0 ck4 (Nat.le_of_ble_eq_true rfl) rfl w260 ?_
      refine ev_iconst dX4_count_49 ci_0 ?_
      refine ev_zald dX4_count_50 sX_35 (inb_of (by decide)) ?_
      rw [show ((0 : Int32)).toNatClampNeg = 0 from rfl]
      refine ev_if_eq (M := MX4_count) (tgt := 58) dX4_count_51 rfl (fun c3 => ?_) (fun c3 => ?_)
      · have h := h.1 c3
        refine ev_iconst dX4_count_58 ci_0 ?_
        refine ev_aload_n dX4_count_59 rfl ?_
        refine ev_getr (M := MX4_count) (r := 35) 4 dX4_count_60 sX_0 ck4 (Nat.le_of_ble_eq_true rfl) rfl w260 ?_
        refine ev_iconst dX4_count_63 ci_1 ?_
        refine ev_zald dX4_count_64 sX_35 (inb_of (by decide)) ?_
        rw [show ((1 : Int32)).toNatClampNeg = 1 from rfl]
        refine ev_if_eq (M := MX4_count) (tgt := 72) dX4_count_65 rfl (fun c4 => ?_) (fun c4 => ?_)
        · have h := h.1 c4
          refine ev_iconst dX4_count_72 ci_0 ?_
          refine ev_iadd dX4_count_73 ?_
          exact ev_ireti (M := MX4_count) (ty := .int) dX4_count_74 rfl rfl rfl h
        · have h := h.2 c4
          refine ev_iconst dX4_count_68 ci_1 ?_
          refine ev_goto (M := MX4_count) (tgt := 73) dX4_count_69 rfl ?_
          refine ev_iadd dX4_count_73 ?_
          exact ev_ireti (M := MX4_count) (ty := .int) dX4_count_74 rfl rfl rfl h
      · have h := h.2 c3
        refine ev_iconst dX4_count_54 ci_1 ?_
        refine ev_goto (M := MX4_count) (tgt := 59) dX4_count_55 rfl ?_
        refine ev_aload_n dX4_count_59 rfl ?_
        refine ev_getr (M := MX4_count) (r := 35) 4 dX4_count_60 sX_0 ck4 (Nat.le_of_ble_eq_true rfl) rfl w260 ?_
        refine ev_iconst dX4_count_63 ci_1 ?_
        refine ev_zald dX4_count_64 sX_35 (inb_of (by decide)) ?_
        rw [show ((1 : Int32)).toNatClampNeg = 1 from rfl]
        refine ev_if_eq (M := MX4_count) (tgt := 72) dX4_count_65 rfl (fun c5 => ?_) (fun c5 => ?_)
        · have h := h.1 c5
          refine ev_iconst dX4_count_72 ci_0 ?_
          refine ev_iadd dX4_count_73 ?_
          exact ev_ireti (M := MX4_count) (ty := .int) dX4_count_74 rfl rfl rfl h
        · have h := h.2 c5
          refine ev_iconst dX4_count_68 ci_1 ?_
          refine ev_goto (M := MX4_count) (tgt := 73) dX4_count_69 rfl ?_
          refine ev_iadd dX4_count_73 ?_
          exact ev_ireti (M := MX4_count) (ty := .int) dX4_count_74 rfl rfl rfl h
    · have h := h.2 c2
      by_cases c6 : p0 = 2
      · have h := h.1 c6
        refine ev_tsw (M := MX4_count) (tgt := 75) dX4_count_1 2 (sw_eq 2 c6 (by decide)) (by decide) (by decide) rfl rfl ?_
        refine ev_aload_n dX4_count_75 rfl ?_
        refine ev_getr (M := MX4_count) (r := 36) 5 dX4_count_76 sX_0 ck4 (Nat.le_of_ble_eq_true rfl) rfl w261 ?_
        refine ev_get 1 dX4_count_79 sX_36 ck3 (Nat.le_of_ble_eq_true rfl) rfl w168 ?_
        exact ev_ireti (M := MX4_count) (ty := .int) dX4_count_82 rfl rfl rfl h
      · have h := h.2 c6
        by_cases c7 : p0 = 3
        · have h := h.1 c7
          refine ev_tsw (M := MX4_count) (tgt := 83) dX4_count_1 3 (sw_eq 3 c7 (by decide)) (by decide) (by decide) rfl rfl ?_
          refine ev_aload_n dX4_count_83 rfl ?_
          refine ev_getr (M := MX4_count) (r := 48) 7 dX4_count_84 sX_0 ck4 (Nat.le_of_ble_eq_true rfl) rfl w263 ?_
          refine ev_iconst dX4_count_87 ci_0 ?_
          obtain ⟨g, h⟩ := h
          refine ev_aalds dX4_count_88 sX_48 g (fun b8 Hb8 eb8 => ?_)
          have h := h b8 Hb8 eb8
          refine ev_get 0 dX4_count_89 (hS_0 Hb8) ck2 (Nat.le_of_ble_eq_true rfl) rfl w240 ?_
          refine ev_if_eq (M := MX4_count) (tgt := 107) dX4_count_92 rfl (fun c9 => ?_) (fun c9 => ?_)
          · have h := h.1 c9
            refine ev_bipush dX4_count_107 cb_m4 ?_
            exact ev_ireti (M := MX4_count) (ty := .int) dX4_count_109 rfl rfl rfl h
          · have h := h.2 c9
            refine ev_aload_n dX4_count_95 rfl ?_
            refine ev_getr (M := MX4_count) (r := 48) 7 dX4_count_96 sX_0 ck4 (Nat.le_of_ble_eq_true rfl) rfl w263 ?_
            refine ev_iconst dX4_count_99 ci_0 ?_
            obtain ⟨g, h⟩ := h
            refine ev_aalds dX4_count_100 sX_48 g (fun b10 Hb10 eb10 => ?_)
            have h := h b10 Hb10 eb10
            refine ev_get 2 dX4_count_101 (hS_0 Hb10) ck2 (Nat.le_of_ble_eq_true rfl) rfl w244 ?_
            refine ev_goto (M := MX4_count) (tgt := 109) dX4_count_104 rfl ?_
            exact ev_ireti (M := MX4_count) (ty := .int) dX4_count_109 rfl rfl rfl h
        · have h := h.2 c7
          by_cases c11 : p0 = 4
          · have h := h.1 c11
            refine ev_tsw (M := MX4_count) (tgt := 110) dX4_count_1 4 (sw_eq 4 c11 (by decide)) (by decide) (by decide) rfl rfl ?_
            refine ev_aload_n dX4_count_110 rfl ?_
            refine ev_getr (M := MX4_count) (r := 1) 0 dX4_count_111 sX_0 ck4 (Nat.le_of_ble_eq_true rfl) rfl w256 ?_
            refine ev_callVi (M := MX4_count) (M2 := MX0_allNotes) (As := []) (rest := []) dX4_count_114 sX_1 ck0 rfl w716 moX0_allNotes rfl ⟨Nat.le_of_ble_eq_true rfl, Nat.le_of_ble_eq_true rfl⟩ rfl rfl (Nat.le_of_ble_eq_true rfl) h (fun r13 d12 h => ?_)
            have h := rI_dn h
            exact ev_ireti (M := MX4_count) (ty := .int) dX4_count_117 rfl rfl rfl h
          · have h := h.2 c11
            by_cases c14 : p0 = 5
            · have h := h.1 c14
              refine ev_tsw (M := MX4_count) (tgt := 118) dX4_count_1 5 (sw_eq 5 c14 (by decide)) (by decide) (by decide) rfl rfl ?_
              refine ev_aload_n dX4_count_118 rfl ?_
              refine ev_getr (M := MX4_count) (r := 1) 0 dX4_count_119 sX_0 ck4 (Nat.le_of_ble_eq_true rfl) rfl w256 ?_
              refine ev_callVi (M := MX4_count) (M2 := MX0_allLengths) (As := []) (rest := []) dX4_count_122 sX_1 ck0 rfl w755 moX0_allLengths rfl ⟨Nat.le_of_ble_eq_true rfl, Nat.le_of_ble_eq_true rfl⟩ rfl rfl (Nat.le_of_ble_eq_true rfl) h (fun r16 d15 h => ?_)
              have h := rI_dn h
              exact ev_ireti (M := MX4_count) (ty := .int) dX4_count_125 rfl rfl rfl h
            · have h := h.2 c14
              have nc1 := sw_ne 0 c1 (by decide)
              have nc2 := sw_ne 1 c2 (by decide)
              have nc6 := sw_ne 2 c6 (by decide)
              have nc7 := sw_ne 3 c7 (by decide)
              have nc11 := sw_ne 4 c11 (by decide)
              have nc14 := sw_ne 5 c14 (by decide)
              refine ev_tswD (M := MX4_count) (tgt := 126) dX4_count_1 (by omega) rfl ?_
              refine ev_iconst dX4_count_126 ci_m1 ?_
              exact ev_ireti (M := MX4_count) (ty := .int) dX4_count_127 rfl rfl rfl h
-- X4_within
theorem cn_X4_within {q : Int32 → DD → Prop} {d : DD} {p0 : Int32} {p1 : Int32} {p2 : Int32} (h : ((p0 < p1 → q 0 d) ∧ (¬ p0 < p1 → ((p2 < p0 → q 0 d) ∧ (¬ p2 < p0 → q 1 d))))) : Cn SX MX4_within [.int p0, .int p1, .int p2] d (rI q) := by
  refine cn_of (ls := [.int p0, .int p1, .int p2]) (by decide) rfl rfl (Nat.le_of_ble_eq_true rfl) ?_
  refine ev_iload_n dX4_within_0 rfl ?_
  refine ev_iload_n dX4_within_1 rfl ?_
  refine ev_icmp_lt (M := MX4_within) (tgt := 14) dX4_within_2 rfl (fun c1 => ?_) (fun c1 => ?_)
  · have h := h.1 c1
    refine ev_iconst dX4_within_14 ci_0 ?_
    exact ev_ireti (M := MX4_within) (ty := .boolean) dX4_within_15 rfl rfl rfl h
  · have h := h.2 c1
    refine ev_iload_n dX4_within_5 rfl ?_
    refine ev_iload_n dX4_within_6 rfl ?_
    refine ev_icmp_gt (M := MX4_within) (tgt := 14) dX4_within_7 rfl (fun c2 => ?_) (fun c2 => ?_)
    · have h := h.1 c2
      refine ev_iconst dX4_within_14 ci_0 ?_
      exact ev_ireti (M := MX4_within) (ty := .boolean) dX4_within_15 rfl rfl rfl h
    · have h := h.2 c2
      refine ev_iconst dX4_within_10 ci_1 ?_
      refine ev_goto (M := MX4_within) (tgt := 15) dX4_within_11 rfl ?_
      exact ev_ireti (M := MX4_within) (ty := .boolean) dX4_within_15 rfl rfl rfl h
-- X4_exchange
theorem cn_X4_exchange {q : Int32 → DD → Prop} {d : DD} {p0 np0 : Nat} (Hp0 : SX[p0]? = some (0, np0, [])) {p1 : Int32} {p2 : Int32} (h : (vp_in p1 np0 ∧ (∀ x1 : Int32, x1 = (d p0 p1.toNatClampNeg) → (vp_in p1 np0 ∧ (∀ d2 : DD, d2 = (up d p0 p1.toNatClampNeg p2) → q x1 d2))))) : Cn SX MX4_exchange [.ref p0, .int p1, .int p2] d (rI q) := by
  refine cn_of (ls := [.ref p0, .int p1, .int p2, uJ]) (by decide) rfl rfl (Nat.le_of_ble_eq_true rfl) ?_
  refine ev_aload_n dX4_exchange_0 rfl ?_
  refine ev_iload_n dX4_exchange_1 rfl ?_
  obtain ⟨g, h⟩ := h
  refine ev_iald dX4_exchange_2 Hp0 g ?_
  refine ev_topi (fun x1 ex1 => ?_)
  have h := h x1 ex1
  refine ev_istore_n (M := MX4_exchange) (ls2 := [.ref p0, .int p1, .int p2, .int x1]) 3 dX4_exchange_3 rfl (Nat.le_of_ble_eq_true rfl) rfl ?_
  refine ev_aload_n dX4_exchange_4 rfl ?_
  refine ev_iload_n dX4_exchange_5 rfl ?_
  refine ev_iload_n dX4_exchange_6 rfl ?_
  obtain ⟨g, h⟩ := h
  refine ev_iast dX4_exchange_7 Hp0 g ?_
  refine ev_topd (fun d2 ed2 => ?_)
  have h := h d2 ed2
  refine ev_iload_n dX4_exchange_8 rfl ?_
  exact ev_ireti (M := MX4_exchange) (ty := .int) dX4_exchange_9 rfl rfl rfl h
-- X4_power
theorem cn_X4_power {q : Int32 → DD → Prop} {d : DD} {p0 : Int32} {p1 : Int32} (h : Ev SX MX4_power 4 [.int p0, .int p1, .int 1, .int 0] [] d (rI q)) : Cn SX MX4_power [.int p0, .int p1] d (rI q) := by
  refine cn_of (ls := [.int p0, .int p1, uJ, uJ]) (by decide) rfl rfl (Nat.le_of_ble_eq_true rfl) ?_
  refine ev_iconst dX4_power_0 ci_1 ?_
  refine ev_istore_n (M := MX4_power) (ls2 := [.int p0, .int p1, .int 1, uJ]) 2 dX4_power_1 rfl (Nat.le_of_ble_eq_true rfl) rfl ?_
  refine ev_iconst dX4_power_2 ci_0 ?_
  refine ev_istore_n (M := MX4_power) (ls2 := [.int p0, .int p1, .int 1, .int 0]) 3 dX4_power_3 rfl (Nat.le_of_ble_eq_true rfl) rfl ?_
  exact h
theorem bk_X4_power_4 {q : Int32 → DD → Prop} {d : DD} {l0 : Int32} {l1 : Int32} {l2 : Int32} {l3 : Int32} (h : ((l1 ≤ l3 → q l2 d) ∧ (¬ l1 ≤ l3 → Ev SX MX4_power 4 [.int l0, .int l1, .int (l2 * l0), .int (l3 + 1)] [] d (rI q)))) : Ev SX MX4_power 4 [.int l0, .int l1, .int l2, .int l3] [] d (rI q) := by
  refine ev_iload_n dX4_power_4 rfl ?_
  refine ev_iload_n dX4_power_5 rfl ?_
  refine ev_icmp_ge (M := MX4_power) (tgt := 19) dX4_power_6 rfl (fun c1 => ?_) (fun c1 => ?_)
  · have h := h.1 c1
    refine ev_iload_n dX4_power_19 rfl ?_
    exact ev_ireti (M := MX4_power) (ty := .int) dX4_power_20 rfl rfl rfl h
  · have h := h.2 c1
    refine ev_iload_n dX4_power_9 rfl ?_
    refine ev_iload_n dX4_power_10 rfl ?_
    refine ev_imul dX4_power_11 ?_
    refine ev_istore_n (M := MX4_power) (ls2 := [.int l0, .int l1, .int (l2 * l0), .int l3]) 2 dX4_power_12 rfl (Nat.le_of_ble_eq_true rfl) rfl ?_
    refine ev_iinc (M := MX4_power) (ls2 := [.int l0, .int l1, .int (l2 * l0), .int (l3 + 1)]) dX4_power_13 rfl (iin ci_1) (Nat.le_of_ble_eq_true rfl) rfl ?_
    refine ev_goto (M := MX4_power) (tgt := 4) dX4_power_16 rfl ?_
    exact h
-- X4_spread
theorem cn_X4_spread {q : DD → Prop} {d : DD} {p0 : Int32} {p1 : Int32} {p2 np2 : Nat} (Hp2 : SX[p2]? = some (0, np2, [])) {p3 : Int32} (h : Ev SX MX4_spread 8 [.int p0, .int p1, .ref p2, .int p3, .int p0, .int (p3 - 1)] [] d (rV q)) : Cn SX MX4_spread [.int p0, .int p1, .ref p2, .int p3] d (rV q) := by
  refine cn_of (ls := [.int p0, .int p1, .ref p2, .int p3, uJ, uJ]) (by decide) rfl rfl (Nat.le_of_ble_eq_true rfl) ?_
  refine ev_iload_n dX4_spread_0 rfl ?_
  refine ev_istore (M := MX4_spread) (ls2 := [.int p0, .int p1, .ref p2, .int p3, .int p0, uJ]) dX4_spread_1 (Nat.le_of_ble_eq_true rfl) rfl ?_
  refine ev_iload_n dX4_spread_3 rfl ?_
  refine ev_iconst dX4_spread_4 ci_1 ?_
  refine ev_isub dX4_spread_5 ?_
  refine ev_istore (M := MX4_spread) (ls2 := [.int p0, .int p1, .ref p2, .int p3, .int p0, .int (p3 - 1)]) dX4_spread_6 (Nat.le_of_ble_eq_true rfl) rfl ?_
  exact h
theorem bk_X4_spread_8 {q : DD → Prop} {d : DD} {l0 : Int32} {l1 : Int32} {p2 np2 : Nat} (Hp2 : SX[p2]? = some (0, np2, [])) {l3 : Int32} {l4 : Int32} {l5 : Int32} (h : ((l5 < 0 → q d) ∧ (¬ l5 < 0 → ((l1 ≤ 0 → q d) ∧ (¬ l1 ≤ 0 → ((¬ l1 = 0) ∧ (vp_in l5 np2 ∧ (∀ d3 : DD, d3 = (up d p2 l5.toNatClampNeg (jrem l4 l1)) → ((¬ l1 = 0) ∧ Ev SX MX4_spread 8 [.int l0, .int l1, .ref p2, .int l3, .int (l4 / l1), .int (l5 + (-1))] [] d3 (rV q)))))))))) : Ev SX MX4_spread 8 [.int l0, .int l1, .ref p2, .int l3, .int l4, .int l5] [] d (rV q) := by
  refine ev_iload dX4_spread_8 rfl ?_
  refine ev_if_lt (M := MX4_spread) (tgt := 37) dX4_spread_10 rfl (fun c1 => ?_) (fun c1 => ?_)
  · have h := h.1 c1
    exact ev_ret (M := MX4_spread) dX4_spread_37 rfl rfl h
  · have h := h.2 c1
    refine ev_iload_n dX4_spread_13 rfl ?_
    refine ev_if_le (M := MX4_spread) (tgt := 37) dX4_spread_14 rfl (fun c2 => ?_) (fun c2 => ?_)
    · have h := h.1 c2
      exact ev_ret (M := MX4_spread) dX4_spread_37 rfl rfl h
    · have h := h.2 c2
      refine ev_aload_n dX4_spread_17 rfl ?_
      refine ev_iload dX4_spread_18 rfl ?_
      refine ev_iload dX4_spread_20 rfl ?_
      refine ev_iload_n dX4_spread_22 rfl ?_
      obtain ⟨g, h⟩ := h
      refine ev_irem dX4_spread_23 g ?_
      obtain ⟨g, h⟩ := h
      refine ev_iast dX4_spread_24 Hp2 g ?_
      refine ev_topd (fun d3 ed3 => ?_)
      have h := h d3 ed3
      refine ev_iload dX4_spread_25 rfl ?_
      refine ev_iload_n dX4_spread_27 rfl ?_
      obtain ⟨g, h⟩ := h
      refine ev_idiv dX4_spread_28 g ?_
      refine ev_istore (M := MX4_spread) (ls2 := [.int l0, .int l1, .ref p2, .int l3, .int (l4 / l1), .int l5]) dX4_spread_29 (Nat.le_of_ble_eq_true rfl) rfl ?_
      refine ev_iinc (M := MX4_spread) (ls2 := [.int l0, .int l1, .ref p2, .int l3, .int (l4 / l1), .int (l5 + (-1))]) dX4_spread_31 rfl (iin ci_m1) (Nat.le_of_ble_eq_true rfl) rfl ?_
      refine ev_goto (M := MX4_spread) (tgt := 8) dX4_spread_34 rfl ?_
      exact h
-- X4_weight
theorem cn_X4_weight {q : Int64 → DD → Prop} {d : DD} {p0 : Int32} {p1 : Int32} (h : Ev SX MX4_weight 5 [.ref 0, .int p0, .int p1, .long 1, uJ, .int 0] [] d (rL q)) : Cn SX MX4_weight [.ref 0, .int p0, .int p1] d (rL q) := by
  refine cn_of (ls := [.ref 0, .int p0, .int p1, uJ, uJ, uJ]) (by decide) rfl rfl (Nat.le_of_ble_eq_true rfl) ?_
  refine ev_lconst (M := MX4_weight) (v := 1) dX4_weight_0 rfl ?_
  refine ev_lstore_n (M := MX4_weight) (ls2 := [.ref 0, .int p0, .int p1, .long 1, uJ, uJ]) 3 dX4_weight_1 rfl (Nat.le_of_ble_eq_true rfl) rfl ?_
  refine ev_iconst dX4_weight_2 ci_0 ?_
  refine ev_istore (M := MX4_weight) (ls2 := [.ref 0, .int p0, .int p1, .long 1, uJ, .int 0]) dX4_weight_3 (Nat.le_of_ble_eq_true rfl) rfl ?_
  exact h
theorem bk_X4_weight_5 {q : Int64 → DD → Prop} {d : DD} {l1 : Int32} {l2 : Int32} {l3 : Int64} {l5 : Int32} (h : (((d 1 1) ≤ l5 → q l3 d) ∧ (¬ (d 1 1) ≤ l5 → ((¬ ((l1 >>> (l5 &&& 31)) &&& 1) = 1 → (∀ x3 : Int64, x3 = (l3 * (10 - l2).toInt64) → Ev SX MX4_weight 5 [.ref 0, .int l1, .int l2, .long x3, uJ, .int (l5 + 1)] [] d (rL q))) ∧ (((l1 >>> (l5 &&& 31)) &&& 1) = 1 → (∀ x4 : Int64, x4 = (l3 * l2.toInt64) → Ev SX MX4_weight 5 [.ref 0, .int l1, .int l2, .long x4, uJ, .int (l5 + 1)] [] d (rL q))))))) : Ev SX MX4_weight 5 [.ref 0, .int l1, .int l2, .long l3, uJ, .int l5] [] d (rL q) := by
  refine ev_iload dX4_weight_5 rfl ?_
  refine ev_aload_n dX4_weight_7 rfl ?_
  refine ev_getr (M := MX4_weight) (r := 1) 0 dX4_weight_8 sX_0 ck4 (Nat.le_of_ble_eq_true rfl) rfl w256 ?_
  refine ev_get 1 dX4_weight_11 sX_1 ck0 (Nat.le_of_ble_eq_true rfl) rfl w88 ?_
  refine ev_icmp_ge (M := MX4_weight) (tgt := 46) dX4_weight_14 rfl (fun c1 => ?_) (fun c1 => ?_)
  · have h := h.1 c1
    refine ev_lload_n dX4_weight_46 rfl ?_
    exact ev_lreti (M := MX4_weight) dX4_weight_47 rfl rfl h
  · have h := h.2 c1
    refine ev_lload_n dX4_weight_17 rfl ?_
    refine ev_iload_n dX4_weight_18 rfl ?_
    refine ev_iload dX4_weight_19 rfl ?_
    refine ev_ishr dX4_weight_21 ?_
    refine ev_iconst dX4_weight_22 ci_1 ?_
    refine ev_iand dX4_weight_23 ?_
    refine ev_iconst dX4_weight_24 ci_1 ?_
    refine ev_icmp_ne (M := MX4_weight) (tgt := 33) dX4_weight_25 rfl (fun c2 => ?_) (fun c2 => ?_)
    · have h := h.1 c2
      refine ev_bipush dX4_weight_33 cb_10 ?_
      refine ev_iload_n dX4_weight_35 rfl ?_
      refine ev_isub dX4_weight_36 ?_
      refine ev_i2l dX4_weight_37 ?_
      refine ev_lmul dX4_weight_38 ?_
      refine ev_topl (fun x3 ex3 => ?_)
      have h := h x3 ex3
      refine ev_lstore_n (M := MX4_weight) (ls2 := [.ref 0, .int l1, .int l2, .long x3, uJ, .int l5]) 3 dX4_weight_39 rfl (Nat.le_of_ble_eq_true rfl) rfl ?_
      refine ev_iinc (M := MX4_weight) (ls2 := [.ref 0, .int l1, .int l2, .long x3, uJ, .int (l5 + 1)]) dX4_weight_40 rfl (iin ci_1) (Nat.le_of_ble_eq_true rfl) rfl ?_
      refine ev_goto (M := MX4_weight) (tgt := 5) dX4_weight_43 rfl ?_
      exact h
    · have h := h.2 c2
      refine ev_iload_n dX4_weight_28 rfl ?_
      refine ev_i2l dX4_weight_29 ?_
      refine ev_goto (M := MX4_weight) (tgt := 38) dX4_weight_30 rfl ?_
      refine ev_lmul dX4_weight_38 ?_
      refine ev_topl (fun x4 ex4 => ?_)
      have h := h x4 ex4
      refine ev_lstore_n (M := MX4_weight) (ls2 := [.ref 0, .int l1, .int l2, .long x4, uJ, .int l5]) 3 dX4_weight_39 rfl (Nat.le_of_ble_eq_true rfl) rfl ?_
      refine ev_iinc (M := MX4_weight) (ls2 := [.ref 0, .int l1, .int l2, .long x4, uJ, .int (l5 + 1)]) dX4_weight_40 rfl (iin ci_1) (Nat.le_of_ble_eq_true rfl) rfl ?_
      refine ev_goto (M := MX4_weight) (tgt := 5) dX4_weight_43 rfl ?_
      exact h
-- X4_inLowestTerms
set_option maxRecDepth 4000 in
theorem cn_X4_inLowestTerms {q : Int64 → DD → Prop} {d : DD} {p0 : Int64} {p1 : Int64} {p2 : Int32} (h : Ev SX MX4_inLowestTerms 9 [.long p0, uJ, .long p1, uJ, .int p2, .long p1, uJ, .long p0, uJ, .int 0, uJ, uJ] [] d (rL q)) : Cn SX MX4_inLowestTerms [.long p0, .long p1, .int p2] d (rL q) := by
  refine cn_of (ls := [.long p0, uJ, .long p1, uJ, .int p2, uJ, uJ, uJ, uJ, uJ, uJ, uJ]) (by decide) rfl rfl (Nat.le_of_ble_eq_true rfl) ?_
  refine ev_lload_n dX4_inLowestTerms_0 rfl ?_
  refine ev_lstore (M := MX4_inLowestTerms) (ls2 := [.long p0, uJ, .long p1, uJ, .int p2, .long p1, uJ, uJ, uJ, uJ, uJ, uJ]) dX4_inLowestTerms_1 (Nat.le_of_ble_eq_true rfl) rfl ?_
  refine ev_lload_n dX4_inLowestTerms_3 rfl ?_
  refine ev_lstore (M := MX4_inLowestTerms) (ls2 := [.long p0, uJ, .long p1, uJ, .int p2, .long p1, uJ, .long p0, uJ, uJ, uJ, uJ]) dX4_inLowestTerms_4 (Nat.le_of_ble_eq_true rfl) rfl ?_
  refine ev_iconst dX4_inLowestTerms_6 ci_0 ?_
  refine ev_istore (M := MX4_inLowestTerms) (ls2 := [.long p0, uJ, .long p1, uJ, .int p2, .long p1, uJ, .long p0, uJ, .int 0, uJ, uJ]) dX4_inLowestTerms_7 (Nat.le_of_ble_eq_true rfl) rfl ?_
  exact h
set_option maxRecDepth 4000 in
theorem bk_X4_inLowestTerms_9 {q : Int64 → DD → Prop} {d : DD} {l0 : Int64} {l2 : Int64} {l4 : Int32} {l5 : Int64} {l7 : Int64} {l9 : Int32} (h : ((100 ≤ l9 → Ev SX MX4_inLowestTerms 44 [.long l0, uJ, .long l2, uJ, .int l4, .long l5, uJ, .long l7, uJ, .int l9, uJ, uJ] [] d (rL q)) ∧ (¬ 100 ≤ l9 → (((lg_cmp l7 0) = 0 → Ev SX MX4_inLowestTerms 44 [.long l0, uJ, .long l2, uJ, .int l4, .long l5, uJ, .long l7, uJ, .int l9, uJ, uJ] [] d (rL q)) ∧ (¬ (lg_cmp l7 0) = 0 → ((¬ l7 = 0) ∧ (∀ x3 : Int64, x3 = (jreml l5 l7) → Ev SX MX4_inLowestTerms 9 [.long l0, uJ, .long l2, uJ, .int l4, .long l7, uJ, .long x3, uJ, .int (l9 + 1), uJ, uJ] [] d (rL q)))))))) : Ev SX MX4_inLowestTerms 9 [.long l0, uJ, .long l2, uJ, .int l4, .long l5, uJ, .long l7, uJ, .int l9, uJ, uJ] [] d (rL q) := by
  refine ev_iload dX4_inLowestTerms_9 rfl ?_
  refine ev_bipush dX4_inLowestTerms_11 cb_100 ?_
  refine ev_icmp_ge (M := MX4_inLowestTerms) (tgt := 44) dX4_inLowestTerms_13 rfl (fun c1 => ?_) (fun c1 => ?_)
  · have h := h.1 c1
    exact h
  · have h := h.2 c1
    refine ev_lload dX4_inLowestTerms_16 rfl ?_
    refine ev_lconst (M := MX4_inLowestTerms) (v := 0) dX4_inLowestTerms_18 rfl ?_
    refine ev_lcmp dX4_inLowestTerms_19 ?_
    refine ev_if_eq (M := MX4_inLowestTerms) (tgt := 44) dX4_inLowestTerms_20 rfl (fun c2 => ?_) (fun c2 => ?_)
    · have h := h.1 c2
      exact h
    · have h := h.2 c2
      refine ev_lload dX4_inLowestTerms_23 rfl ?_
      refine ev_lload dX4_inLowestTerms_25 rfl ?_
      obtain ⟨g, h⟩ := h
      refine ev_lrem dX4_inLowestTerms_27 g ?_
      refine ev_topl (fun x3 ex3 => ?_)
      have h := h x3 ex3
      refine ev_lstore (M := MX4_inLowestTerms) (ls2 := [.long l0, uJ, .long l2, uJ, .int l4, .long l5, uJ, .long l7, uJ, .int l9, .long x3, uJ]) dX4_inLowestTerms_28 (Nat.le_of_ble_eq_true rfl) rfl ?_
      refine ev_lload dX4_inLowestTerms_30 rfl ?_
      refine ev_lstore (M := MX4_inLowestTerms) (ls2 := [.long l0, uJ, .long l2, uJ, .int l4, .long l7, uJ, .long l7, uJ, .int l9, .long x3, uJ]) dX4_inLowestTerms_32 (Nat.le_of_ble_eq_true rfl) rfl ?_
      refine ev_lload dX4_inLowestTerms_34 rfl ?_
      refine ev_lstore (M := MX4_inLowestTerms) (ls2 := [.long l0, uJ, .long l2, uJ, .int l4, .long l7, uJ, .long x3, uJ, .int l9, .long x3, uJ]) dX4_inLowestTerms_36 (Nat.le_of_ble_eq_true rfl) rfl ?_
      refine ev_iinc (M := MX4_inLowestTerms) (ls2 := [.long l0, uJ, .long l2, uJ, .int l4, .long l7, uJ, .long x3, uJ, .int (l9 + 1), .long x3, uJ]) dX4_inLowestTerms_38 rfl (iin ci_1) (Nat.le_of_ble_eq_true rfl) rfl ?_
      refine ev_goto (M := MX4_inLowestTerms) (tgt := 9) dX4_inLowestTerms_41 rfl ?_
      refine Ev.forget (ls2 := [.long l0, uJ, .long l2, uJ, .int l4, .long l7, uJ, .long x3, uJ, .int (l9 + 1), uJ, uJ]) ?_ (fun i v hi hv => lsub_of (bs := [false, false, false, false, false, false, false, false, false, false, true, false]) rfl i v hi hv)
      exact h
set_option maxRecDepth 4000 in
theorem bk_X4_inLowestTerms_44 {q : Int64 → DD → Prop} {d : DD} {l0 : Int64} {l2 : Int64} {l4 : Int32} {l5 : Int64} {l7 : Int64} {l9 : Int32} (h : ((¬ l4 = 0 → (((lg_cmp l5 0) ≤ 0 → q l2 d) ∧ (¬ (lg_cmp l5 0) ≤ 0 → ((¬ l5 = 0) ∧ q (l2 / l5) d)))) ∧ (l4 = 0 → (((lg_cmp l5 0) ≤ 0 → q l0 d) ∧ (¬ (lg_cmp l5 0) ≤ 0 → ((¬ l5 = 0) ∧ q (l0 / l5) d)))))) : Ev SX MX4_inLowestTerms 44 [.long l0, uJ, .long l2, uJ, .int l4, .long l5, uJ, .long l7, uJ, .int l9, uJ, uJ] [] d (rL q) := by
  refine ev_iload dX4_inLowestTerms_44 rfl ?_
  refine ev_if_ne (M := MX4_inLowestTerms) (tgt := 53) dX4_inLowestTerms_46 rfl (fun c1 => ?_) (fun c1 => ?_)
  · have h := h.1 c1
    refine ev_lload_n dX4_inLowestTerms_53 rfl ?_
    refine ev_lstore (M := MX4_inLowestTerms) (ls2 := [.long l0, uJ, .long l2, uJ, .int l4, .long l5, uJ, .long l7, uJ, .long l2, uJ, uJ]) dX4_inLowestTerms_54 (Nat.le_of_ble_eq_true rfl) rfl ?_
    refine ev_lload dX4_inLowestTerms_56 rfl ?_
    refine ev_lconst (M := MX4_inLowestTerms) (v := 0) dX4_inLowestTerms_58 rfl ?_
    refine ev_lcmp dX4_inLowestTerms_59 ?_
    refine ev_if_le (M := MX4_inLowestTerms) (tgt := 71) dX4_inLowestTerms_60 rfl (fun c2 => ?_) (fun c2 => ?_)
    · have h := h.1 c2
      refine ev_lload dX4_inLowestTerms_71 rfl ?_
      exact ev_lreti (M := MX4_inLowestTerms) dX4_inLowestTerms_73 rfl rfl h
    · have h := h.2 c2
      refine ev_lload dX4_inLowestTerms_63 rfl ?_
      refine ev_lload dX4_inLowestTerms_65 rfl ?_
      obtain ⟨g, h⟩ := h
      refine ev_ldiv dX4_inLowestTerms_67 g ?_
      refine ev_goto (M := MX4_inLowestTerms) (tgt := 73) dX4_inLowestTerms_68 rfl ?_
      exact ev_lreti (M := MX4_inLowestTerms) dX4_inLowestTerms_73 rfl rfl h
  · have h := h.2 c1
    refine ev_lload_n dX4_inLowestTerms_49 rfl ?_
    refine ev_goto (M := MX4_inLowestTerms) (tgt := 54) dX4_inLowestTerms_50 rfl ?_
    refine ev_lstore (M := MX4_inLowestTerms) (ls2 := [.long l0, uJ, .long l2, uJ, .int l4, .long l5, uJ, .long l7, uJ, .long l0, uJ, uJ]) dX4_inLowestTerms_54 (Nat.le_of_ble_eq_true rfl) rfl ?_
    refine ev_lload dX4_inLowestTerms_56 rfl ?_
    refine ev_lconst (M := MX4_inLowestTerms) (v := 0) dX4_inLowestTerms_58 rfl ?_
    refine ev_lcmp dX4_inLowestTerms_59 ?_
    refine ev_if_le (M := MX4_inLowestTerms) (tgt := 71) dX4_inLowestTerms_60 rfl (fun c3 => ?_) (fun c3 => ?_)
    · have h := h.1 c3
      refine ev_lload dX4_inLowestTerms_71 rfl ?_
      exact ev_lreti (M := MX4_inLowestTerms) dX4_inLowestTerms_73 rfl rfl h
    · have h := h.2 c3
      refine ev_lload dX4_inLowestTerms_63 rfl ?_
      refine ev_lload dX4_inLowestTerms_65 rfl ?_
      obtain ⟨g, h⟩ := h
      refine ev_ldiv dX4_inLowestTerms_67 g ?_
      refine ev_goto (M := MX4_inLowestTerms) (tgt := 73) dX4_inLowestTerms_68 rfl ?_
      exact ev_lreti (M := MX4_inLowestTerms) dX4_inLowestTerms_73 rfl rfl h
-- X4_fittingKinds
set_option maxRecDepth 4000 in
theorem cn_X4_fittingKinds {q : Int32 → DD → Prop} {d : DD} {p0 : Int32} (h : Ev SX MX4_fittingKinds 4 [.ref 0, .int p0, .int 0, .int 0, uJ, uJ] [] d (rI q)) : Cn SX MX4_fittingKinds [.ref 0, .int p0] d (rI q) := by
  refine cn_of (ls := [.ref 0, .int p0, uJ, uJ, uJ, uJ]) (by decide) rfl rfl (Nat.le_of_ble_eq_true rfl) ?_
  refine ev_iconst dX4_fittingKinds_0 ci_0 ?_
  refine ev_istore_n (M := MX4_fittingKinds) (ls2 := [.ref 0, .int p0, .int 0, uJ, uJ, uJ]) 2 dX4_fittingKinds_1 rfl (Nat.le_of_ble_eq_true rfl) rfl ?_
  refine ev_iconst dX4_fittingKinds_2 ci_0 ?_
  refine ev_istore_n (M := MX4_fittingKinds) (ls2 := [.ref 0, .int p0, .int 0, .int 0, uJ, uJ]) 3 dX4_fittingKinds_3 rfl (Nat.le_of_ble_eq_true rfl) rfl ?_
  exact h
set_option maxRecDepth 4000 in
theorem bk_X4_fittingKinds_4 {q : Int32 → DD → Prop} {d : DD} {l1 : Int32} {l2 : Int32} {l3 : Int32} (h : ((4 ≤ l3 → q l2 d) ∧ (¬ 4 ≤ l3 → Ev SX MX4_fittingKinds 15 [.ref 0, .int l1, .int l2, .int l3, .int 1, .int 0] [] d (rI q)))) : Ev SX MX4_fittingKinds 4 [.ref 0, .int l1, .int l2, .int l3, uJ, uJ] [] d (rI q) := by
  refine ev_iload_n dX4_fittingKinds_4 rfl ?_
  refine ev_iconst dX4_fittingKinds_5 ci_4 ?_
  refine ev_icmp_ge (M := MX4_fittingKinds) (tgt := 87) dX4_fittingKinds_6 rfl (fun c1 => ?_) (fun c1 => ?_)
  · have h := h.1 c1
    refine ev_iload_n dX4_fittingKinds_87 rfl ?_
    exact ev_ireti (M := MX4_fittingKinds) (ty := .int) dX4_fittingKinds_88 rfl rfl rfl h
  · have h := h.2 c1
    refine ev_iconst dX4_fittingKinds_9 ci_1 ?_
    refine ev_istore (M := MX4_fittingKinds) (ls2 := [.ref 0, .int l1, .int l2, .int l3, .int 1, uJ]) dX4_fittingKinds_10 (Nat.le_of_ble_eq_true rfl) rfl ?_
    refine ev_iconst dX4_fittingKinds_12 ci_0 ?_
    refine ev_istore (M := MX4_fittingKinds) (ls2 := [.ref 0, .int l1, .int l2, .int l3, .int 1, .int 0]) dX4_fittingKinds_13 (Nat.le_of_ble_eq_true rfl) rfl ?_
    exact h
set_option maxRecDepth 4000 in
theorem bk_X4_fittingKinds_15 {q : Int32 → DD → Prop} {d : DD} {l1 : Int32} {l2 : Int32} {l3 : Int32} {l4 : Int32} {l5 : Int32} (h : (((d 0 11) ≤ l5 → ((l4 = 0 → Ev SX MX4_fittingKinds 4 [.ref 0, .int l1, .int l2, .int (l3 + 1), uJ, uJ] [] d (rI q)) ∧ (¬ l4 = 0 → (∀ x3 : Int32, x3 = (l2 ||| (1 <<< (l3 &&& 31))) → Ev SX MX4_fittingKinds 4 [.ref 0, .int l1, .int x3, .int (l3 + 1), uJ, uJ] [] d (rI q))))) ∧ (¬ (d 0 11) ≤ l5 → (vp_in l5 6 ∧ ((¬ (d 49 l5.toNatClampNeg) = l1 → Ev SX MX4_fittingKinds 15 [.ref 0, .int l1, .int l2, .int l3, .int l4, .int (l5 + 1)] [] d (rI q)) ∧ ((d 49 l5.toNatClampNeg) = l1 → (vp_in l5 6 ∧ (Cn SX MX0_noteAs [.ref 1, .int l1, .int l3, .int (d 50 l5.toNatClampNeg)] d (rI fun r6 d5 => (vp_in l5 6 ∧ ((r6 = (d5 51 l5.toNatClampNeg) → Ev SX MX4_fittingKinds 15 [.ref 0, .int l1, .int l2, .int l3, .int l4, .int (l5 + 1)] [] d5 (rI q)) ∧ (¬ r6 = (d5 51 l5.toNatClampNeg) → Ev SX MX4_fittingKinds 15 [.ref 0, .int l1, .int l2, .int l3, .int 0, .int (l5 + 1)] [] d5 (rI q))))))))))))) : Ev SX MX4_fittingKinds 15 [.ref 0, .int l1, .int l2, .int l3, .int l4, .int l5] [] d (rI q) := by
  refine ev_iload dX4_fittingKinds_15 rfl ?_
  refine ev_aload_n dX4_fittingKinds_17 rfl ?_
  refine ev_get 11 dX4_fittingKinds_18 sX_0 ck4 (Nat.le_of_ble_eq_true rfl) rfl w267 ?_
  refine ev_icmp_ge (M := MX4_fittingKinds) (tgt := 70) dX4_fittingKinds_21 rfl (fun c1 => ?_) (fun c1 => ?_)
  · have h := h.1 c1
    refine ev_iload dX4_fittingKinds_70 rfl ?_
    refine ev_if_eq (M := MX4_fittingKinds) (tgt := 81) dX4_fittingKinds_72 rfl (fun c2 => ?_) (fun c2 => ?_)
    · have h := h.1 c2
      refine ev_iinc (M := MX4_fittingKinds) (ls2 := [.ref 0, .int l1, .int l2, .int (l3 + 1), .int l4, .int l5]) dX4_fittingKinds_81 rfl (iin ci_1) (Nat.le_of_ble_eq_true rfl) rfl ?_
      refine ev_goto (M := MX4_fittingKinds) (tgt := 4) dX4_fittingKinds_84 rfl ?_
      refine Ev.forget (ls2 := [.ref 0, .int l1, .int l2, .int (l3 + 1), uJ, uJ]) ?_ (fun i v hi hv => lsub_of (bs := [false, false, false, false, true, true]) rfl i v hi hv)
      exact h
    · have h := h.2 c2
      refine ev_iload_n dX4_fittingKinds_75 rfl ?_
      refine ev_iconst dX4_fittingKinds_76 ci_1 ?_
      refine ev_iload_n dX4_fittingKinds_77 rfl ?_
      refine ev_ishl dX4_fittingKinds_78 ?_
      refine ev_ior dX4_fittingKinds_79 ?_
      refine ev_topi (fun x3 ex3 => ?_)
      have h := h x3 ex3
      refine ev_istore_n (M := MX4_fittingKinds) (ls2 := [.ref 0, .int l1, .int x3, .int l3, .int l4, .int l5]) 2 dX4_fittingKinds_80 rfl (Nat.le_of_ble_eq_true rfl) rfl ?_
      refine ev_iinc (M := MX4_fittingKinds) (ls2 := [.ref 0, .int l1, .int x3, .int (l3 + 1), .int l4, .int l5]) dX4_fittingKinds_81 rfl (iin ci_1) (Nat.le_of_ble_eq_true rfl) rfl ?_
      refine ev_goto (M := MX4_fittingKinds) (tgt := 4) dX4_fittingKinds_84 rfl ?_
      refine Ev.forget (ls2 := [.ref 0, .int l1, .int x3, .int (l3 + 1), uJ, uJ]) ?_ (fun i v hi hv => lsub_of (bs := [false, false, false, false, true, true]) rfl i v hi hv)
      exact h
  · have h := h.2 c1
    refine ev_aload_n dX4_fittingKinds_24 rfl ?_
    refine ev_getr (M := MX4_fittingKinds) (r := 49) 8 dX4_fittingKinds_25 sX_0 ck4 (Nat.le_of_ble_eq_true rfl) rfl w264 ?_
    refine ev_iload dX4_fittingKinds_28 rfl ?_
    obtain ⟨g, h⟩ := h
    refine ev_iald dX4_fittingKinds_30 sX_49 g ?_
    refine ev_iload_n dX4_fittingKinds_31 rfl ?_
    refine ev_icmp_ne (M := MX4_fittingKinds) (tgt := 64) dX4_fittingKinds_32 rfl (fun c4 => ?_) (fun c4 => ?_)
    · have h := h.1 c4
      refine ev_iinc (M := MX4_fittingKinds) (ls2 := [.ref 0, .int l1, .int l2, .int l3, .int l4, .int (l5 + 1)]) dX4_fittingKinds_64 rfl (iin ci_1) (Nat.le_of_ble_eq_true rfl) rfl ?_
      refine ev_goto (M := MX4_fittingKinds) (tgt := 15) dX4_fittingKinds_67 rfl ?_
      exact h
    · have h := h.2 c4
      refine ev_aload_n dX4_fittingKinds_35 rfl ?_
      refine ev_getr (M := MX4_fittingKinds) (r := 1) 0 dX4_fittingKinds_36 sX_0 ck4 (Nat.le_of_ble_eq_true rfl) rfl w256 ?_
      refine ev_iload_n dX4_fittingKinds_39 rfl ?_
      refine ev_iload_n dX4_fittingKinds_40 rfl ?_
      refine ev_aload_n dX4_fittingKinds_41 rfl ?_
      refine ev_getr (M := MX4_fittingKinds) (r := 50) 9 dX4_fittingKinds_42 sX_0 ck4 (Nat.le_of_ble_eq_true rfl) rfl w265 ?_
      refine ev_iload dX4_fittingKinds_45 rfl ?_
      obtain ⟨g, h⟩ := h
      refine ev_iald dX4_fittingKinds_47 sX_50 g ?_
      refine ev_callVi (M := MX4_fittingKinds) (M2 := MX0_noteAs) (As := [.int l1, .int l3, .int (d 50 l5.toNatClampNeg)]) (rest := []) dX4_fittingKinds_48 sX_1 ck0 rfl w475 moX0_noteAs rfl ⟨Nat.le_of_ble_eq_true rfl, Nat.le_of_ble_eq_true rfl⟩ rfl rfl (Nat.le_of_ble_eq_true rfl) h (fun r6 d5 h => ?_)
      have h := rI_dn h
      refine ev_aload_n dX4_fittingKinds_51 rfl ?_
      refine ev_getr (M := MX4_fittingKinds) (r := 51) 10 dX4_fittingKinds_52 sX_0 ck4 (Nat.le_of_ble_eq_true rfl) rfl w266 ?_
      refine ev_iload dX4_fittingKinds_55 rfl ?_
      obtain ⟨g, h⟩ := h
      refine ev_iald dX4_fittingKinds_57 sX_51 g ?_
      refine ev_icmp_eq (M := MX4_fittingKinds) (tgt := 64) dX4_fittingKinds_58 rfl (fun c7 => ?_) (fun c7 => ?_)
      · have h := h.1 c7
        refine ev_iinc (M := MX4_fittingKinds) (ls2 := [.ref 0, .int l1, .int l2, .int l3, .int l4, .int (l5 + 1)]) dX4_fittingKinds_64 rfl (iin ci_1) (Nat.le_of_ble_eq_true rfl) rfl ?_
        refine ev_goto (M := MX4_fittingKinds) (tgt := 15) dX4_fittingKinds_67 rfl ?_
        exact h
      · have h := h.2 c7
        refine ev_iconst dX4_fittingKinds_61 ci_0 ?_
        refine ev_istore (M := MX4_fittingKinds) (ls2 := [.ref 0, .int l1, .int l2, .int l3, .int 0, .int l5]) dX4_fittingKinds_62 (Nat.le_of_ble_eq_true rfl) rfl ?_
        refine ev_iinc (M := MX4_fittingKinds) (ls2 := [.ref 0, .int l1, .int l2, .int l3, .int 0, .int (l5 + 1)]) dX4_fittingKinds_64 rfl (iin ci_1) (Nat.le_of_ble_eq_true rfl) rfl ?_
        refine ev_goto (M := MX4_fittingKinds) (tgt := 15) dX4_fittingKinds_67 rfl ?_
        exact h
-- X4_leftAtWorst
set_option maxRecDepth 4000 in
theorem cn_X4_leftAtWorst {q : Int32 → DD → Prop} {d : DD} {p0 : Int32} {p1 : Int32} {p2 : Int32} (h : Ev SX MX4_leftAtWorst 6 [.ref 0, .int p0, .int p1, .int p2, .int 0, .int 0, uJ, uJ, uJ] [] d (rI q)) : Cn SX MX4_leftAtWorst [.ref 0, .int p0, .int p1, .int p2] d (rI q) := by
  refine cn_of (ls := [.ref 0, .int p0, .int p1, .int p2, uJ, uJ, uJ, uJ, uJ]) (by decide) rfl rfl (Nat.le_of_ble_eq_true rfl) ?_
  refine ev_iconst dX4_leftAtWorst_0 ci_0 ?_
  refine ev_istore (M := MX4_leftAtWorst) (ls2 := [.ref 0, .int p0, .int p1, .int p2, .int 0, uJ, uJ, uJ, uJ]) dX4_leftAtWorst_1 (Nat.le_of_ble_eq_true rfl) rfl ?_
  refine ev_iconst dX4_leftAtWorst_3 ci_0 ?_
  refine ev_istore (M := MX4_leftAtWorst) (ls2 := [.ref 0, .int p0, .int p1, .int p2, .int 0, .int 0, uJ, uJ, uJ]) dX4_leftAtWorst_4 (Nat.le_of_ble_eq_true rfl) rfl ?_
  exact h
set_option maxRecDepth 4000 in
theorem bk_X4_leftAtWorst_6 {q : Int32 → DD → Prop} {d : DD} {l1 : Int32} {l2 : Int32} {l3 : Int32} {l4 : Int32} {l5 : Int32} (h : ((4 ≤ l5 → q l4 d) ∧ (¬ 4 ≤ l5 → Ev SX MX4_leftAtWorst 18 [.ref 0, .int l1, .int l2, .int l3, .int l4, .int l5, .int 0, .int 0, uJ] [] d (rI q)))) : Ev SX MX4_leftAtWorst 6 [.ref 0, .int l1, .int l2, .int l3, .int l4, .int l5, uJ, uJ, uJ] [] d (rI q) := by
  refine ev_iload dX4_leftAtWorst_6 rfl ?_
  refine ev_iconst dX4_leftAtWorst_8 ci_4 ?_
  refine ev_icmp_ge (M := MX4_leftAtWorst) (tgt := 100) dX4_leftAtWorst_9 rfl (fun c1 => ?_) (fun c1 => ?_)
  · have h := h.1 c1
    refine ev_iload dX4_leftAtWorst_100 rfl ?_
    exact ev_ireti (M := MX4_leftAtWorst) (ty := .int) dX4_leftAtWorst_102 rfl rfl rfl h
  · have h := h.2 c1
    refine ev_iconst dX4_leftAtWorst_12 ci_0 ?_
    refine ev_istore (M := MX4_leftAtWorst) (ls2 := [.ref 0, .int l1, .int l2, .int l3, .int l4, .int l5, .int 0, uJ, uJ]) dX4_leftAtWorst_13 (Nat.le_of_ble_eq_true rfl) rfl ?_
    refine ev_iconst dX4_leftAtWorst_15 ci_0 ?_
    refine ev_istore (M := MX4_leftAtWorst) (ls2 := [.ref 0, .int l1, .int l2, .int l3, .int l4, .int l5, .int 0, .int 0, uJ]) dX4_leftAtWorst_16 (Nat.le_of_ble_eq_true rfl) rfl ?_
    exact h
set_option maxRecDepth 4000 in
theorem bk_X4_leftAtWorst_18 {q : Int32 → DD → Prop} {d : DD} {l1 : Int32} {l2 : Int32} {l3 : Int32} {l4 : Int32} {l5 : Int32} {l6 : Int32} {l7 : Int32} (h : ((4 ≤ l7 → (∀ x2 : Int32, x2 = (if l4 < l6 then l6 else l4) → Ev SX MX4_leftAtWorst 6 [.ref 0, .int l1, .int l2, .int l3, .int x2, .int (l5 + 1), uJ, uJ, uJ] [] d (rI q))) ∧ (¬ 4 ≤ l7 → ((¬ (((l2 >>> (l5 &&& 31)) &&& (l2 >>> (l7 &&& 31))) &&& 1) = 1 → Ev SX MX4_leftAtWorst 44 [.ref 0, .int l1, .int l2, .int l3, .int l4, .int l5, .int l6, .int l7, uJ] [.int 0] d (rI q)) ∧ ((((l2 >>> (l5 &&& 31)) &&& (l2 >>> (l7 &&& 31))) &&& 1) = 1 → Ev SX MX4_leftAtWorst 44 [.ref 0, .int l1, .int l2, .int l3, .int l4, .int l5, .int l6, .int l7, uJ] [.int 1] d (rI q)))))) : Ev SX MX4_leftAtWorst 18 [.ref 0, .int l1, .int l2, .int l3, .int l4, .int l5, .int l6, .int l7, uJ] [] d (rI q) := by
  refine ev_iload dX4_leftAtWorst_18 rfl ?_
  refine ev_iconst dX4_leftAtWorst_20 ci_4 ?_
  refine ev_icmp_ge (M := MX4_leftAtWorst) (tgt := 85) dX4_leftAtWorst_21 rfl (fun c1 => ?_) (fun c1 => ?_)
  · have h := h.1 c1
    refine ev_iload dX4_leftAtWorst_85 rfl ?_
    refine ev_iload dX4_leftAtWorst_87 rfl ?_
    refine ev_mmax dX4_leftAtWorst_89 w692 w484 w65 w485 (Nat.le_of_ble_eq_true rfl) (Nat.le_of_ble_eq_true rfl) ?_
    refine ev_topi (fun x2 ex2 => ?_)
    have h := h x2 ex2
    refine ev_istore (M := MX4_leftAtWorst) (ls2 := [.ref 0, .int l1, .int l2, .int l3, .int x2, .int l5, .int l6, .int l7, uJ]) dX4_leftAtWorst_92 (Nat.le_of_ble_eq_true rfl) rfl ?_
    refine ev_iinc (M := MX4_leftAtWorst) (ls2 := [.ref 0, .int l1, .int l2, .int l3, .int x2, .int (l5 + 1), .int l6, .int l7, uJ]) dX4_leftAtWorst_94 rfl (iin ci_1) (Nat.le_of_ble_eq_true rfl) rfl ?_
    refine ev_goto (M := MX4_leftAtWorst) (tgt := 6) dX4_leftAtWorst_97 rfl ?_
    refine Ev.forget (ls2 := [.ref 0, .int l1, .int l2, .int l3, .int x2, .int (l5 + 1), uJ, uJ, uJ]) ?_ (fun i v hi hv => lsub_of (bs := [false, false, false, false, false, false, true, true, false]) rfl i v hi hv)
    exact h
  · have h := h.2 c1
    refine ev_iload_n dX4_leftAtWorst_24 rfl ?_
    refine ev_iload dX4_leftAtWorst_25 rfl ?_
    refine ev_ishr dX4_leftAtWorst_27 ?_
    refine ev_iload_n dX4_leftAtWorst_28 rfl ?_
    refine ev_iload dX4_leftAtWorst_29 rfl ?_
    refine ev_ishr dX4_leftAtWorst_31 ?_
    refine ev_iand dX4_leftAtWorst_32 ?_
    refine ev_iconst dX4_leftAtWorst_33 ci_1 ?_
    refine ev_iand dX4_leftAtWorst_34 ?_
    refine ev_iconst dX4_leftAtWorst_35 ci_1 ?_
    refine ev_icmp_ne (M := MX4_leftAtWorst) (tgt := 43) dX4_leftAtWorst_36 rfl (fun c3 => ?_) (fun c3 => ?_)
    · have h := h.1 c3
      refine ev_iconst dX4_leftAtWorst_43 ci_0 ?_
      exact h
    · have h := h.2 c3
      refine ev_iconst dX4_leftAtWorst_39 ci_1 ?_
      refine ev_goto (M := MX4_leftAtWorst) (tgt := 44) dX4_leftAtWorst_40 rfl ?_
      exact h
set_option maxRecDepth 4000 in
theorem bk_X4_leftAtWorst_44 {q : Int32 → DD → Prop} {d : DD} {l1 : Int32} {l2 : Int32} {l3 : Int32} {l4 : Int32} {l5 : Int32} {l6 : Int32} {l7 : Int32} {k0 : Int32} (h : ((k0 = 0 → Ev SX MX4_leftAtWorst 18 [.ref 0, .int l1, .int l2, .int l3, .int l4, .int l5, .int l6, .int (l7 + 1), uJ] [] d (rI q)) ∧ (¬ k0 = 0 → (Cn SX MX0_noteAs [.ref 1, .int l1, .int l5, .int l3] d (rI fun r3 d2 => (Cn SX MX0_noteAs [.ref 1, .int l1, .int l7, .int l3] d2 (rI fun r5 d4 => ((¬ r3 = r5 → Ev SX MX4_leftAtWorst 18 [.ref 0, .int l1, .int l2, .int l3, .int l4, .int l5, .int l6, .int (l7 + 1), uJ] [] d4 (rI q)) ∧ (r3 = r5 → Ev SX MX4_leftAtWorst 18 [.ref 0, .int l1, .int l2, .int l3, .int l4, .int l5, .int (l6 + 1), .int (l7 + 1), uJ] [] d4 (rI q)))))))))) : Ev SX MX4_leftAtWorst 44 [.ref 0, .int l1, .int l2, .int l3, .int l4, .int l5, .int l6, .int l7, uJ] [.int k0] d (rI q) := by
  refine ev_istore (M := MX4_leftAtWorst) (ls2 := [.ref 0, .int l1, .int l2, .int l3, .int l4, .int l5, .int l6, .int l7, .int k0]) dX4_leftAtWorst_44 (Nat.le_of_ble_eq_true rfl) rfl ?_
  refine ev_iload dX4_leftAtWorst_46 rfl ?_
  refine ev_if_eq (M := MX4_leftAtWorst) (tgt := 79) dX4_leftAtWorst_48 rfl (fun c1 => ?_) (fun c1 => ?_)
  · have h := h.1 c1
    refine ev_iinc (M := MX4_leftAtWorst) (ls2 := [.ref 0, .int l1, .int l2, .int l3, .int l4, .int l5, .int l6, .int (l7 + 1), .int k0]) dX4_leftAtWorst_79 rfl (iin ci_1) (Nat.le_of_ble_eq_true rfl) rfl ?_
    refine ev_goto (M := MX4_leftAtWorst) (tgt := 18) dX4_leftAtWorst_82 rfl ?_
    refine Ev.forget (ls2 := [.ref 0, .int l1, .int l2, .int l3, .int l4, .int l5, .int l6, .int (l7 + 1), uJ]) ?_ (fun i v hi hv => lsub_of (bs := [false, false, false, false, false, false, false, false, true]) rfl i v hi hv)
    exact h
  · have h := h.2 c1
    refine ev_aload_n dX4_leftAtWorst_51 rfl ?_
    refine ev_getr (M := MX4_leftAtWorst) (r := 1) 0 dX4_leftAtWorst_52 sX_0 ck4 (Nat.le_of_ble_eq_true rfl) rfl w256 ?_
    refine ev_iload_n dX4_leftAtWorst_55 rfl ?_
    refine ev_iload dX4_leftAtWorst_56 rfl ?_
    refine ev_iload_n dX4_leftAtWorst_58 rfl ?_
    refine ev_callVi (M := MX4_leftAtWorst) (M2 := MX0_noteAs) (As := [.int l1, .int l5, .int l3]) (rest := []) dX4_leftAtWorst_59 sX_1 ck0 rfl w475 moX0_noteAs rfl ⟨Nat.le_of_ble_eq_true rfl, Nat.le_of_ble_eq_true rfl⟩ rfl rfl (Nat.le_of_ble_eq_true rfl) h (fun r3 d2 h => ?_)
    have h := rI_dn h
    refine ev_aload_n dX4_leftAtWorst_62 rfl ?_
    refine ev_getr (M := MX4_leftAtWorst) (r := 1) 0 dX4_leftAtWorst_63 sX_0 ck4 (Nat.le_of_ble_eq_true rfl) rfl w256 ?_
    refine ev_iload_n dX4_leftAtWorst_66 rfl ?_
    refine ev_iload dX4_leftAtWorst_67 rfl ?_
    refine ev_iload_n dX4_leftAtWorst_69 rfl ?_
    refine ev_callVi (M := MX4_leftAtWorst) (M2 := MX0_noteAs) (As := [.int l1, .int l7, .int l3]) (rest := [.int r3]) dX4_leftAtWorst_70 sX_1 ck0 rfl w475 moX0_noteAs rfl ⟨Nat.le_of_ble_eq_true rfl, Nat.le_of_ble_eq_true rfl⟩ rfl rfl (Nat.le_of_ble_eq_true rfl) h (fun r5 d4 h => ?_)
    have h := rI_dn h
    refine ev_icmp_ne (M := MX4_leftAtWorst) (tgt := 79) dX4_leftAtWorst_73 rfl (fun c6 => ?_) (fun c6 => ?_)
    · have h := h.1 c6
      refine ev_iinc (M := MX4_leftAtWorst) (ls2 := [.ref 0, .int l1, .int l2, .int l3, .int l4, .int l5, .int l6, .int (l7 + 1), .int k0]) dX4_leftAtWorst_79 rfl (iin ci_1) (Nat.le_of_ble_eq_true rfl) rfl ?_
      refine ev_goto (M := MX4_leftAtWorst) (tgt := 18) dX4_leftAtWorst_82 rfl ?_
      refine Ev.forget (ls2 := [.ref 0, .int l1, .int l2, .int l3, .int l4, .int l5, .int l6, .int (l7 + 1), uJ]) ?_ (fun i v hi hv => lsub_of (bs := [false, false, false, false, false, false, false, false, true]) rfl i v hi hv)
      exact h
    · have h := h.2 c6
      refine ev_iinc (M := MX4_leftAtWorst) (ls2 := [.ref 0, .int l1, .int l2, .int l3, .int l4, .int l5, .int (l6 + 1), .int l7, .int k0]) dX4_leftAtWorst_76 rfl (iin ci_1) (Nat.le_of_ble_eq_true rfl) rfl ?_
      refine ev_iinc (M := MX4_leftAtWorst) (ls2 := [.ref 0, .int l1, .int l2, .int l3, .int l4, .int l5, .int (l6 + 1), .int (l7 + 1), .int k0]) dX4_leftAtWorst_79 rfl (iin ci_1) (Nat.le_of_ble_eq_true rfl) rfl ?_
      refine ev_goto (M := MX4_leftAtWorst) (tgt := 18) dX4_leftAtWorst_82 rfl ?_
      refine Ev.forget (ls2 := [.ref 0, .int l1, .int l2, .int l3, .int l4, .int l5, .int (l6 + 1), .int (l7 + 1), uJ]) ?_ (fun i v hi hv => lsub_of (bs := [false, false, false, false, false, false, false, false, true]) rfl i v hi hv)
      exact h
-- X4_nextSeed
theorem cn_X4_nextSeed {q : Int32 → DD → Prop} {d : DD} {p0 : Int32} (h : q ((p0 * 1103515245) + 12345) d) : Cn SX MX4_nextSeed [.int p0] d (rI q) := by
  refine cn_of (ls := [.int p0]) (by decide) rfl rfl (Nat.le_of_ble_eq_true rfl) ?_
  refine ev_iload_n dX4_nextSeed_0 rfl ?_
  refine ev_ldcw dX4_nextSeed_1 w700 ?_
  refine ev_imul dX4_nextSeed_4 ?_
  refine ev_sipush dX4_nextSeed_5 cs_12345 ?_
  refine ev_iadd dX4_nextSeed_8 ?_
  exact ev_ireti (M := MX4_nextSeed) (ty := .int) dX4_nextSeed_9 rfl rfl rfl h
-- X4_middleBits
theorem cn_X4_middleBits {q : Int32 → DD → Prop} {d : DD} {p0 : Int32} (h : q ((p0.toUInt32 >>> (Int32.toUInt32 16 &&& Int32.toUInt32 31)).toInt32 &&& 32767) d) : Cn SX MX4_middleBits [.int p0] d (rI q) := by
  refine cn_of (ls := [.int p0]) (by decide) rfl rfl (Nat.le_of_ble_eq_true rfl) ?_
  refine ev_iload_n dX4_middleBits_0 rfl ?_
  refine ev_bipush dX4_middleBits_1 cb_16 ?_
  refine ev_iushr dX4_middleBits_3 ?_
  refine ev_sipush dX4_middleBits_4 cs_32767 ?_
  refine ev_iand dX4_middleBits_7 ?_
  exact ev_ireti (M := MX4_middleBits) (ty := .int) dX4_middleBits_8 rfl rfl rfl h
-- J6_bitCount_0f7a4
theorem cn_J6_bitCount_0f7a4 {q : Int32 → DD → Prop} {d : DD} {p0 : Int32} (h : (∀ x1 : Int32, x1 = (p0 - ((p0.toUInt32 >>> (Int32.toUInt32 1 &&& Int32.toUInt32 31)).toInt32 &&& 1431655765)) → (∀ x2 : Int32, x2 = ((x1 &&& 858993459) + ((x1.toUInt32 >>> (Int32.toUInt32 2 &&& Int32.toUInt32 31)).toInt32 &&& 858993459)) → (∀ x3 : Int32, x3 = ((x2 + (x2.toUInt32 >>> (Int32.toUInt32 4 &&& Int32.toUInt32 31)).toInt32) &&& 252645135) → (∀ x4 : Int32, x4 = (x3 + (x3.toUInt32 >>> (Int32.toUInt32 8 &&& Int32.toUInt32 31)).toInt32) → (∀ x5 : Int32, x5 = (x4 + (x4.toUInt32 >>> (Int32.toUInt32 16 &&& Int32.toUInt32 31)).toInt32) → q (x5 &&& 63) d)))))) : Cn SX MJ6_bitCount_0f7a4 [.int p0] d (rI q) := by
  refine cn_of (ls := [.int p0]) (by decide) rfl rfl (Nat.le_of_ble_eq_true rfl) ?_
  refine ev_iload_n dJ6_bitCount_0f7a4_0 rfl ?_
  refine ev_iload_n dJ6_bitCount_0f7a4_1 rfl ?_
  refine ev_iconst dJ6_bitCount_0f7a4_2 ci_1 ?_
  refine ev_iushr dJ6_bitCount_0f7a4_3 ?_
  refine ev_ldcw dJ6_bitCount_0f7a4_4 w640 ?_
  refine ev_iand dJ6_bitCount_0f7a4_7 ?_
  refine ev_isub dJ6_bitCount_0f7a4_8 ?_
  refine ev_topi (fun x1 ex1 => ?_)
  have h := h x1 ex1
  refine ev_istore_n (M := MJ6_bitCount_0f7a4) (ls2 := [.int x1]) 0 dJ6_bitCount_0f7a4_9 rfl (Nat.le_of_ble_eq_true rfl) rfl ?_
  refine ev_iload_n dJ6_bitCount_0f7a4_10 rfl ?_
  refine ev_ldcw dJ6_bitCount_0f7a4_11 w641 ?_
  refine ev_iand dJ6_bitCount_0f7a4_14 ?_
  refine ev_iload_n dJ6_bitCount_0f7a4_15 rfl ?_
  refine ev_iconst dJ6_bitCount_0f7a4_16 ci_2 ?_
  refine ev_iushr dJ6_bitCount_0f7a4_17 ?_
  refine ev_ldcw dJ6_bitCount_0f7a4_18 w641 ?_
  refine ev_iand dJ6_bitCount_0f7a4_21 ?_
  refine ev_iadd dJ6_bitCount_0f7a4_22 ?_
  refine ev_topi (fun x2 ex2 => ?_)
  have h := h x2 ex2
  refine ev_istore_n (M := MJ6_bitCount_0f7a4) (ls2 := [.int x2]) 0 dJ6_bitCount_0f7a4_23 rfl (Nat.le_of_ble_eq_true rfl) rfl ?_
  refine ev_iload_n dJ6_bitCount_0f7a4_24 rfl ?_
  refine ev_iload_n dJ6_bitCount_0f7a4_25 rfl ?_
  refine ev_iconst dJ6_bitCount_0f7a4_26 ci_4 ?_
  refine ev_iushr dJ6_bitCount_0f7a4_27 ?_
  refine ev_iadd dJ6_bitCount_0f7a4_28 ?_
  refine ev_ldcw dJ6_bitCount_0f7a4_29 w642 ?_
  refine ev_iand dJ6_bitCount_0f7a4_32 ?_
  refine ev_topi (fun x3 ex3 => ?_)
  have h := h x3 ex3
  refine ev_istore_n (M := MJ6_bitCount_0f7a4) (ls2 := [.int x3]) 0 dJ6_bitCount_0f7a4_33 rfl (Nat.le_of_ble_eq_true rfl) rfl ?_
  refine ev_iload_n dJ6_bitCount_0f7a4_34 rfl ?_
  refine ev_iload_n dJ6_bitCount_0f7a4_35 rfl ?_
  refine ev_bipush dJ6_bitCount_0f7a4_36 cb_8 ?_
  refine ev_iushr dJ6_bitCount_0f7a4_38 ?_
  refine ev_iadd dJ6_bitCount_0f7a4_39 ?_
  refine ev_topi (fun x4 ex4 => ?_)
  have h := h x4 ex4
  refine ev_istore_n (M := MJ6_bitCount_0f7a4) (ls2 := [.int x4]) 0 dJ6_bitCount_0f7a4_40 rfl (Nat.le_of_ble_eq_true rfl) rfl ?_
  refine ev_iload_n dJ6_bitCount_0f7a4_41 rfl ?_
  refine ev_iload_n dJ6_bitCount_0f7a4_42 rfl ?_
  refine ev_bipush dJ6_bitCount_0f7a4_43 cb_16 ?_
  refine ev_iushr dJ6_bitCount_0f7a4_45 ?_
  refine ev_iadd dJ6_bitCount_0f7a4_46 ?_
  refine ev_topi (fun x5 ex5 => ?_)
  have h := h x5 ex5
  refine ev_istore_n (M := MJ6_bitCount_0f7a4) (ls2 := [.int x5]) 0 dJ6_bitCount_0f7a4_47 rfl (Nat.le_of_ble_eq_true rfl) rfl ?_
  refine ev_iload_n dJ6_bitCount_0f7a4_48 rfl ?_
  refine ev_bipush dJ6_bitCount_0f7a4_49 cb_63 ?_
  refine ev_iand dJ6_bitCount_0f7a4_51 ?_
  exact ev_ireti (M := MJ6_bitCount_0f7a4) (ty := .int) dJ6_bitCount_0f7a4_52 rfl rfl rfl h
