section
/-! ===== the class's constructor ===== -/
theorem dX4_init_0 : decode cX4_init 0 = .ok (.aload_n 0, 1) := by decide +kernel
theorem dX4_init_1 : decode cX4_init 1 = .ok (.invokespecial 1, 3) := by decide +kernel
theorem dX4_init_4 : decode cX4_init 4 = .ok (.aload_n 0, 1) := by decide +kernel
theorem dX4_init_5 : decode cX4_init 5 = .ok (.new 7, 3) := by decide +kernel
theorem dX4_init_8 : decode cX4_init 8 = .ok (.dup, 1) := by decide +kernel
theorem dX4_init_9 : decode cX4_init 9 = .ok (.invokespecial 9, 3) := by decide +kernel
theorem dX4_init_12 : decode cX4_init 12 = .ok (.putfield 10, 3) := by decide +kernel
theorem dX4_init_15 : decode cX4_init 15 = .ok (.aload_n 0, 1) := by decide +kernel
theorem dX4_init_16 : decode cX4_init 16 = .ok (.new 7, 3) := by decide +kernel
theorem dX4_init_19 : decode cX4_init 19 = .ok (.dup, 1) := by decide +kernel
theorem dX4_init_20 : decode cX4_init 20 = .ok (.invokespecial 9, 3) := by decide +kernel
theorem dX4_init_23 : decode cX4_init 23 = .ok (.putfield 16, 3) := by decide +kernel
theorem dX4_init_26 : decode cX4_init 26 = .ok (.aload_n 0, 1) := by decide +kernel
theorem dX4_init_27 : decode cX4_init 27 = .ok (.new 7, 3) := by decide +kernel
theorem dX4_init_30 : decode cX4_init 30 = .ok (.dup, 1) := by decide +kernel
theorem dX4_init_31 : decode cX4_init 31 = .ok (.invokespecial 9, 3) := by decide +kernel
theorem dX4_init_34 : decode cX4_init 34 = .ok (.putfield 19, 3) := by decide +kernel
theorem dX4_init_37 : decode cX4_init 37 = .ok (.aload_n 0, 1) := by decide +kernel
theorem dX4_init_38 : decode cX4_init 38 = .ok (.iconst 2, 1) := by decide +kernel
theorem dX4_init_39 : decode cX4_init 39 = .ok (.anewarray 7, 3) := by decide +kernel
theorem dX4_init_42 : decode cX4_init 42 = .ok (.putfield 22, 3) := by decide +kernel
theorem dX4_init_45 : decode cX4_init 45 = .ok (.aload_n 0, 1) := by decide +kernel
theorem dX4_init_46 : decode cX4_init 46 = .ok (.iconst 2, 1) := by decide +kernel
theorem dX4_init_47 : decode cX4_init 47 = .ok (.newarray .boolean, 2) := by decide +kernel
theorem dX4_init_49 : decode cX4_init 49 = .ok (.putfield 26, 3) := by decide +kernel
theorem dX4_init_52 : decode cX4_init 52 = .ok (.aload_n 0, 1) := by decide +kernel
theorem dX4_init_53 : decode cX4_init 53 = .ok (.new 30, 3) := by decide +kernel
theorem dX4_init_56 : decode cX4_init 56 = .ok (.dup, 1) := by decide +kernel
theorem dX4_init_57 : decode cX4_init 57 = .ok (.invokespecial 32, 3) := by decide +kernel
theorem dX4_init_60 : decode cX4_init 60 = .ok (.putfield 33, 3) := by decide +kernel
theorem dX4_init_63 : decode cX4_init 63 = .ok (.aload_n 0, 1) := by decide +kernel
theorem dX4_init_64 : decode cX4_init 64 = .ok (.new 37, 3) := by decide +kernel
theorem dX4_init_67 : decode cX4_init 67 = .ok (.dup, 1) := by decide +kernel
theorem dX4_init_68 : decode cX4_init 68 = .ok (.invokespecial 39, 3) := by decide +kernel
theorem dX4_init_71 : decode cX4_init 71 = .ok (.putfield 40, 3) := by decide +kernel
theorem dX4_init_74 : decode cX4_init 74 = .ok (.aload_n 0, 1) := by decide +kernel
theorem dX4_init_75 : decode cX4_init 75 = .ok (.iconst 4, 1) := by decide +kernel
theorem dX4_init_76 : decode cX4_init 76 = .ok (.anewarray 44, 3) := by decide +kernel
theorem dX4_init_79 : decode cX4_init 79 = .ok (.putfield 46, 3) := by decide +kernel
theorem dX4_init_82 : decode cX4_init 82 = .ok (.aload_n 0, 1) := by decide +kernel
theorem dX4_init_83 : decode cX4_init 83 = .ok (.bipush 6, 2) := by decide +kernel
theorem dX4_init_85 : decode cX4_init 85 = .ok (.newarray .int, 2) := by decide +kernel
theorem dX4_init_87 : decode cX4_init 87 = .ok (.putfield 50, 3) := by decide +kernel
theorem dX4_init_90 : decode cX4_init 90 = .ok (.aload_n 0, 1) := by decide +kernel
theorem dX4_init_91 : decode cX4_init 91 = .ok (.bipush 6, 2) := by decide +kernel
theorem dX4_init_93 : decode cX4_init 93 = .ok (.newarray .int, 2) := by decide +kernel
theorem dX4_init_95 : decode cX4_init 95 = .ok (.putfield 54, 3) := by decide +kernel
theorem dX4_init_98 : decode cX4_init 98 = .ok (.aload_n 0, 1) := by decide +kernel
theorem dX4_init_99 : decode cX4_init 99 = .ok (.bipush 6, 2) := by decide +kernel
theorem dX4_init_101 : decode cX4_init 101 = .ok (.newarray .int, 2) := by decide +kernel
theorem dX4_init_103 : decode cX4_init 103 = .ok (.putfield 57, 3) := by decide +kernel
theorem dX4_init_106 : decode cX4_init 106 = .ok (.aload_n 0, 1) := by decide +kernel
theorem dX4_init_107 : decode cX4_init 107 = .ok (.iconst 0, 1) := by decide +kernel
theorem dX4_init_108 : decode cX4_init 108 = .ok (.putfield 60, 3) := by decide +kernel
theorem dX4_init_111 : decode cX4_init 111 = .ok (.aload_n 0, 1) := by decide +kernel
theorem dX4_init_112 : decode cX4_init 112 = .ok (.iconst 0, 1) := by decide +kernel
theorem dX4_init_113 : decode cX4_init 113 = .ok (.putfield 64, 3) := by decide +kernel
theorem dX4_init_116 : decode cX4_init 116 = .ok (.iconst 0, 1) := by decide +kernel
theorem dX4_init_117 : decode cX4_init 117 = .ok (.istore_n 1, 1) := by decide +kernel
theorem dX4_init_118 : decode cX4_init 118 = .ok (.iload_n 1, 1) := by decide +kernel
theorem dX4_init_119 : decode cX4_init 119 = .ok (.iconst 2, 1) := by decide +kernel
theorem dX4_init_120 : decode cX4_init 120 = .ok (.if_icmp .ge 22, 3) := by decide +kernel
theorem dX4_init_123 : decode cX4_init 123 = .ok (.aload_n 0, 1) := by decide +kernel
theorem dX4_init_124 : decode cX4_init 124 = .ok (.getfield 22, 3) := by decide +kernel
theorem dX4_init_127 : decode cX4_init 127 = .ok (.iload_n 1, 1) := by decide +kernel
theorem dX4_init_128 : decode cX4_init 128 = .ok (.new 7, 3) := by decide +kernel
theorem dX4_init_131 : decode cX4_init 131 = .ok (.dup, 1) := by decide +kernel
theorem dX4_init_132 : decode cX4_init 132 = .ok (.invokespecial 9, 3) := by decide +kernel
theorem dX4_init_135 : decode cX4_init 135 = .ok (.aastore, 1) := by decide +kernel
theorem dX4_init_136 : decode cX4_init 136 = .ok (.iinc 1 1, 3) := by decide +kernel
theorem dX4_init_139 : decode cX4_init 139 = .ok (.goto (-21), 3) := by decide +kernel
theorem dX4_init_142 : decode cX4_init 142 = .ok (.iconst 0, 1) := by decide +kernel
theorem dX4_init_143 : decode cX4_init 143 = .ok (.istore_n 1, 1) := by decide +kernel
theorem dX4_init_144 : decode cX4_init 144 = .ok (.iload_n 1, 1) := by decide +kernel
theorem dX4_init_145 : decode cX4_init 145 = .ok (.iconst 4, 1) := by decide +kernel
theorem dX4_init_146 : decode cX4_init 146 = .ok (.if_icmp .ge 22, 3) := by decide +kernel
theorem dX4_init_149 : decode cX4_init 149 = .ok (.aload_n 0, 1) := by decide +kernel
theorem dX4_init_150 : decode cX4_init 150 = .ok (.getfield 46, 3) := by decide +kernel
theorem dX4_init_153 : decode cX4_init 153 = .ok (.iload_n 1, 1) := by decide +kernel
theorem dX4_init_154 : decode cX4_init 154 = .ok (.new 44, 3) := by decide +kernel
theorem dX4_init_157 : decode cX4_init 157 = .ok (.dup, 1) := by decide +kernel
theorem dX4_init_158 : decode cX4_init 158 = .ok (.invokespecial 67, 3) := by decide +kernel
theorem dX4_init_161 : decode cX4_init 161 = .ok (.aastore, 1) := by decide +kernel
theorem dX4_init_162 : decode cX4_init 162 = .ok (.iinc 1 1, 3) := by decide +kernel
theorem dX4_init_165 : decode cX4_init 165 = .ok (.goto (-21), 3) := by decide +kernel
theorem dX4_init_168 : decode cX4_init 168 = .ok (.return_, 1) := by decide +kernel
def MX4_init : MM := (RX4, yX4_init, cX4_init, 2, none, 0, 2, 32)
theorem raw_X4 : ∀ j, j < 13 → defaultValue (tyX4 j) = vp_V [.null, .null, .null, .null, .null, .null, .null, .null, .null, .null, .null, .int 0, .int 0] j := by
  intro j hj
  match j, hj with
  | 0, _ => rfl
  | 1, _ => rfl
  | 2, _ => rfl
  | 3, _ => rfl
  | 4, _ => rfl
  | 5, _ => rfl
  | 6, _ => rfl
  | 7, _ => rfl
  | 8, _ => rfl
  | 9, _ => rfl
  | 10, _ => rfl
  | 11, _ => rfl
  | 12, _ => rfl
  | n + 13, h => exact absurd h (by omega)
def hShp (b : Nat) : List Shp := [(4, 0, [none, none, none, some (b + 1), some (b + 2), some (b + 3), some (b + 4), some (b + 5), some (b + 6), some (b + 7), some (b + 8), some (b + 9), some (b + 10)]), (0, 4, []), (0, 4, []), (0, 4, []), (0, 4, []), (0, 32, []), (0, 4, []), (0, 4, []), (0, 4, []), (0, 4, []), (0, 6, [])]
def sShp (b : Nat) : List Shp := [(4, 2, [none, none, none, some (b + 1)]), (0, 40, [])]
def xShp : Shp := SX.getD 0 (0, 0, [])
def tShp : List Shp := [SX.getD 36 (0, 0, []), SX.getD 37 (0, 0, [])]
def yShp : List Shp := (SX.drop 38).take 10
theorem sx_split : SX = [xShp] ++ (hShp 1 ++ (hShp 12 ++ (hShp 23 ++ ([(2, 2, [some 52, some 63])] ++ ([(1, 2, [])] ++ (tShp ++ (yShp ++ ([(3, 4, [some 74, some 76, some 78, some 80])] ++ ([(0, 6, [])] ++ ([(0, 6, [])] ++ ([(0, 6, [])] ++ (hShp 52 ++ (hShp 63 ++ (sShp 74 ++ (sShp 76 ++ (sShp 78 ++ sShp 80)))))))))))))))) := by decide +kernel
theorem app2 {a a' b b' : va_W} (h1 : a = a') (h2 : b = b') : a ++ b = a' ++ b' := by rw [h1, h2]
theorem ref2 {ad : Nat → Nat} {a b : Nat} (h0 : ad 52 = a) (h1 : ad 63 = b) : refsOf ad [some 52, some 63] = va_up (va_up (fun _ => none) 0 (some a)) 1 (some b) := by
  funext j
  match j with
  | 0 => show some (ad 52) = _; rw [h0]; rfl
  | 1 => show some (ad 63) = _; rw [h1]; rfl
  | n + 2 => rfl
theorem ref4 {ad : Nat → Nat} {a b c d : Nat} (h0 : ad 74 = a) (h1 : ad 76 = b) (h2 : ad 78 = c) (h3 : ad 80 = d) : refsOf ad [some 74, some 76, some 78, some 80] = va_up (va_up (va_up (va_up (fun _ => none) 0 (some a)) 1 (some b)) 2 (some c)) 3 (some d) := by
  funext j
  match j with
  | 0 => show some (ad 74) = _; rw [h0]; rfl
  | 1 => show some (ad 76) = _; rw [h1]; rfl
  | 2 => show some (ad 78) = _; rw [h2]; rfl
  | 3 => show some (ad 80) = _; rw [h3]; rfl
  | n + 4 => rfl
set_option maxHeartbeats 2000000 in
set_option maxRecDepth 100000 in
theorem c_X4_init (cA : Nat → ClassId) : Ci MX4_init cA 81 890 4 [.null, .null, .null, .null, .null, .null, .null, .null, .null, .null, .null, .int 0, .int 0] (fun q0 w => ∃ ad : Nat → Nat, ad 0 = q0 ∧ w.Perm (wsOf ad cA SX (fun _ _ => 0))) := by
  refine ci_of (by decide) rfl rfl rfl (by decide) (fun q0 => ?_)
  refine g_aload_n dX4_init_0 rfl ?_
  refine g_obj dX4_init_1 w72 (by decide) (by decide) ?_
  refine g_aload_n dX4_init_4 rfl ?_
  refine gh_new (fs := [.int 0, .int 0, .int 0, .null, .null, .null, .null, .null, .null, .null, .null, .null, .null]) dX4_init_5 ck0 w75 w76 w55 raw_X0 (by decide) (by decide) (fun q5_3 => ?_)
  refine g_dup dX4_init_8 ?_
  refine gh_ninit (j0 := 0) dX4_init_9 (c_X0_init cA) rfl rfl rfl w78 w55 w79 (by decide +kernel) ⟨by decide, by decide⟩ (Nat.le_of_ble_eq_true rfl) (by decide) (by decide) (fun w hw => ?_)
  obtain ⟨a0, rfl⟩ := hw
  refine gh_putF 0 dX4_init_12 ck4 (by decide) w256 rfl rfl rfl rfl (Nat.le_of_ble_eq_true rfl) (fs2 := [.ref q5_3, .null, .null, .null, .null, .null, .null, .null, .null, .null, .null, .int 0, .int 0]) rfl ?_
  refine g_aload_n dX4_init_15 rfl ?_
  refine gh_new (fs := [.int 0, .int 0, .int 0, .null, .null, .null, .null, .null, .null, .null, .null, .null, .null]) dX4_init_16 ck0 w75 w76 w55 raw_X0 (by decide) (by decide) (fun q16_8 => ?_)
  refine g_dup dX4_init_19 ?_
  refine gh_ninit (j0 := 0) dX4_init_20 (c_X0_init cA) rfl rfl rfl w78 w55 w79 (by decide +kernel) ⟨by decide, by decide⟩ (Nat.le_of_ble_eq_true rfl) (by decide) (by decide) (fun w hw => ?_)
  obtain ⟨a1, rfl⟩ := hw
  refine gh_putF 1 dX4_init_23 ck4 (by decide) w257 rfl rfl rfl rfl (Nat.le_of_ble_eq_true rfl) (fs2 := [.ref q5_3, .ref q16_8, .null, .null, .null, .null, .null, .null, .null, .null, .null, .int 0, .int 0]) rfl ?_
  refine g_aload_n dX4_init_26 rfl ?_
  refine gh_new (fs := [.int 0, .int 0, .int 0, .null, .null, .null, .null, .null, .null, .null, .null, .null, .null]) dX4_init_27 ck0 w75 w76 w55 raw_X0 (by decide) (by decide) (fun q27_13 => ?_)
  refine g_dup dX4_init_30 ?_
  refine gh_ninit (j0 := 0) dX4_init_31 (c_X0_init cA) rfl rfl rfl w78 w55 w79 (by decide +kernel) ⟨by decide, by decide⟩ (Nat.le_of_ble_eq_true rfl) (by decide) (by decide) (fun w hw => ?_)
  obtain ⟨a2, rfl⟩ := hw
  refine gh_putF 2 dX4_init_34 ck4 (by decide) w258 rfl rfl rfl rfl (Nat.le_of_ble_eq_true rfl) (fs2 := [.ref q5_3, .ref q16_8, .ref q27_13, .null, .null, .null, .null, .null, .null, .null, .null, .int 0, .int 0]) rfl ?_
  refine g_aload_n dX4_init_37 rfl ?_
  refine g_iconst (v := 2) dX4_init_38 (by decide +kernel) ?_
  refine gh_newq (N := 2) (t := 2) dX4_init_39 w75 (Or.inl ⟨rfl, rfl⟩) (by decide +kernel) (by decide) (by decide) (by decide) (fun q39 => ?_)
  refine gh_putF 3 dX4_init_42 ck4 (by decide) w259 rfl rfl rfl rfl (Nat.le_of_ble_eq_true rfl) (fs2 := [.ref q5_3, .ref q16_8, .ref q27_13, .ref q39, .null, .null, .null, .null, .null, .null, .null, .int 0, .int 0]) rfl ?_
  refine g_aload_n dX4_init_45 rfl ?_
  refine g_iconst (v := 2) dX4_init_46 (by decide +kernel) ?_
  refine gh_newz (N := 2) dX4_init_47 (by decide +kernel) (by decide) (by decide) (by decide) (fun q47 => ?_)
  refine gh_putF 4 dX4_init_49 ck4 (by decide) w260 rfl rfl rfl rfl (Nat.le_of_ble_eq_true rfl) (fs2 := [.ref q5_3, .ref q16_8, .ref q27_13, .ref q39, .ref q47, .null, .null, .null, .null, .null, .null, .int 0, .int 0]) rfl ?_
  refine g_aload_n dX4_init_52 rfl ?_
  refine gh_new (fs := [.null, .int 0, .int 0, .int 0, .int 0, .int 0, .int 0]) dX4_init_53 ck3 w160 w161 w56 raw_X3 (by decide) (by decide) (fun q53_26 => ?_)
  refine g_dup dX4_init_56 ?_
  refine gh_ninit (j0 := 1) dX4_init_57 (c_X3_init cA) rfl rfl rfl w163 w56 w164 (by decide +kernel) ⟨by decide, by decide⟩ (Nat.le_of_ble_eq_true rfl) (by decide) (by decide) (fun w hw => ?_)
  obtain ⟨a3, rfl⟩ := hw
  refine gh_putF 5 dX4_init_60 ck4 (by decide) w261 rfl rfl rfl rfl (Nat.le_of_ble_eq_true rfl) (fs2 := [.ref q5_3, .ref q16_8, .ref q27_13, .ref q39, .ref q47, .ref q53_26, .null, .null, .null, .null, .null, .int 0, .int 0]) rfl ?_
  refine g_aload_n dX4_init_63 rfl ?_
  refine gh_new (fs := [.null, .null, .null, .null, .null, .null, .null, .null, .null, .int 0]) dX4_init_64 ck1 w191 w192 w57 raw_X1 (by decide) (by decide) (fun q64_31 => ?_)
  refine g_dup dX4_init_67 ?_
  refine gh_ninit (j0 := 2) dX4_init_68 (c_X1_init cA) rfl rfl rfl w194 w57 w195 (by decide +kernel) ⟨by decide, by decide⟩ (Nat.le_of_ble_eq_true rfl) (by decide) (by decide) (fun w hw => ?_)
  obtain ⟨a4, rfl⟩ := hw
  refine gh_putF 6 dX4_init_71 ck4 (by decide) w262 rfl rfl rfl rfl (Nat.le_of_ble_eq_true rfl) (fs2 := [.ref q5_3, .ref q16_8, .ref q27_13, .ref q39, .ref q47, .ref q53_26, .ref q64_31, .null, .null, .null, .null, .int 0, .int 0]) rfl ?_
  refine g_aload_n dX4_init_74 rfl ?_
  refine g_iconst (v := 4) dX4_init_75 (by decide +kernel) ?_
  refine gh_newq (N := 4) (t := 3) dX4_init_76 w232 (Or.inr ⟨rfl, rfl⟩) (by decide +kernel) (by decide) (by decide) (by decide) (fun q76 => ?_)
  refine Gv.perm (w2 := (q0, .inr (4, [.ref q5_3, .ref q16_8, .ref q27_13, .ref q39, .ref q47, .ref q53_26, .ref q64_31, .null, .null, .null, .null, .int 0, .int 0])) :: (q39, .inl (cA 2, 2, .inr (.inr (.inr (.inr (fun _ => none)))))) :: (q76, .inl (cA 3, 4, .inr (.inr (.inr (.inr (fun _ => none)))))) :: (([] ++ wH cA q5_3 a0 ++ wH cA q16_8 a1 ++ wH cA q27_13 a2) ++ ([(q47, .inl (cA 1, 2, .inl (fun _ => 0)))] ++ wT3 cA q53_26 a3 ++ wY cA q64_31 a4))) (by have := @pm_in (q0, .inr (4, [.ref q5_3, .ref q16_8, .ref q27_13, .ref q39, .ref q47, .ref q53_26, .ref q64_31, .null, .null, .null, .null, .int 0, .int 0])) (q39, .inl (cA 2, 2, .inr (.inr (.inr (.inr (fun _ => none)))))) (q76, .inl (cA 3, 4, .inr (.inr (.inr (.inr (fun _ => none)))))) ([] ++ wH cA q5_3 a0 ++ wH cA q16_8 a1 ++ wH cA q27_13 a2) ([(q47, .inl (cA 1, 2, .inl (fun _ => 0)))] ++ wT3 cA q53_26 a3 ++ wY cA q64_31 a4); simpa only [List.append_assoc, List.nil_append] using this) ?_
  refine gh_putF 7 dX4_init_79 ck4 (by decide) w263 rfl rfl rfl rfl (Nat.le_of_ble_eq_true rfl) (fs2 := [.ref q5_3, .ref q16_8, .ref q27_13, .ref q39, .ref q47, .ref q53_26, .ref q64_31, .ref q76, .null, .null, .null, .int 0, .int 0]) rfl ?_
  refine g_aload_n dX4_init_82 rfl ?_
  refine g_bipush (v := 6) dX4_init_83 (by decide +kernel) ?_
  refine gk_newi (N := 6) dX4_init_85 (by decide +kernel) (by decide) (by decide) (by decide) (fun q85 => ?_)
  refine gh_putF 8 dX4_init_87 ck4 (by decide) w264 rfl rfl rfl rfl (Nat.le_of_ble_eq_true rfl) (fs2 := [.ref q5_3, .ref q16_8, .ref q27_13, .ref q39, .ref q47, .ref q53_26, .ref q64_31, .ref q76, .ref q85, .null, .null, .int 0, .int 0]) rfl ?_
  refine g_aload_n dX4_init_90 rfl ?_
  refine g_bipush (v := 6) dX4_init_91 (by decide +kernel) ?_
  refine gk_newi (N := 6) dX4_init_93 (by decide +kernel) (by decide) (by decide) (by decide) (fun q93 => ?_)
  refine gh_putF 9 dX4_init_95 ck4 (by decide) w265 rfl rfl rfl rfl (Nat.le_of_ble_eq_true rfl) (fs2 := [.ref q5_3, .ref q16_8, .ref q27_13, .ref q39, .ref q47, .ref q53_26, .ref q64_31, .ref q76, .ref q85, .ref q93, .null, .int 0, .int 0]) rfl ?_
  refine g_aload_n dX4_init_98 rfl ?_
  refine g_bipush (v := 6) dX4_init_99 (by decide +kernel) ?_
  refine gk_newi (N := 6) dX4_init_101 (by decide +kernel) (by decide) (by decide) (by decide) (fun q101 => ?_)
  refine gh_putF 10 dX4_init_103 ck4 (by decide) w266 rfl rfl rfl rfl (Nat.le_of_ble_eq_true rfl) (fs2 := [.ref q5_3, .ref q16_8, .ref q27_13, .ref q39, .ref q47, .ref q53_26, .ref q64_31, .ref q76, .ref q85, .ref q93, .ref q101, .int 0, .int 0]) rfl ?_
  refine g_aload_n dX4_init_106 rfl ?_
  refine g_iconst (v := 0) dX4_init_107 (by decide +kernel) ?_
  refine gh_put 11 dX4_init_108 ck4 (by decide) w267 rfl rfl rfl (Nat.le_of_ble_eq_true rfl) (fs2 := [.ref q5_3, .ref q16_8, .ref q27_13, .ref q39, .ref q47, .ref q53_26, .ref q64_31, .ref q76, .ref q85, .ref q93, .ref q101, .int 0, .int 0]) rfl ?_
  refine g_aload_n dX4_init_111 rfl ?_
  refine g_iconst (v := 0) dX4_init_112 (by decide +kernel) ?_
  refine gh_put 12 dX4_init_113 ck4 (by decide) w268 rfl rfl rfl (Nat.le_of_ble_eq_true rfl) (fs2 := [.ref q5_3, .ref q16_8, .ref q27_13, .ref q39, .ref q47, .ref q53_26, .ref q64_31, .ref q76, .ref q85, .ref q93, .ref q101, .int 0, .int 0]) rfl ?_
  refine g_iconst (v := 0) dX4_init_116 (by decide +kernel) ?_
  refine g_istore_n 1 dX4_init_117 rfl (by decide) (ls2 := [.ref q0, .int 0]) rfl ?_
  refine g_iload_n dX4_init_118 rfl ?_
  refine g_iconst (v := 2) dX4_init_119 (by decide +kernel) ?_
  refine g_icmp_ge (tgt := 142) dX4_init_120 (by decide) (fun c => absurd c (by decide)) (fun _ => ?_)
  refine g_aload_n dX4_init_123 rfl ?_
  refine gh_get 3 dX4_init_124 ck4 (by decide) rfl w259 ?_
  refine g_iload_n dX4_init_127 rfl ?_
  refine gk_new (fs := [.int 0, .int 0, .int 0, .null, .null, .null, .null, .null, .null, .null, .null, .null, .null]) dX4_init_128 ck0 w75 w76 w55 raw_X0 (by decide) (by decide) (fun q128_65 => ?_)
  refine g_dup dX4_init_131 ?_
  refine gk_ninit (j0 := 0) dX4_init_132 (c_X0_init cA) rfl rfl rfl w78 w55 w79 (by decide +kernel) ⟨by decide, by decide⟩ (Nat.le_of_ble_eq_true rfl) (by decide) (by decide) (fun w hw => ?_)
  obtain ⟨a5, rfl⟩ := hw
  refine gk_aast1 0 dX4_init_135 ck0 rfl List.mem_cons_self (by decide +kernel) (by decide) (by decide) ?_
  refine g_iinc (v := 1) dX4_init_136 rfl (by decide +kernel) (by decide) (ls2 := [.ref q0, .int 1]) rfl ?_
  refine g_goto (tgt := 118) dX4_init_139 (by decide) ?_
  refine g_iload_n dX4_init_118 rfl ?_
  refine g_iconst (v := 2) dX4_init_119 (by decide +kernel) ?_
  refine g_icmp_ge (tgt := 142) dX4_init_120 (by decide) (fun c => absurd c (by decide)) (fun _ => ?_)
  refine g_aload_n dX4_init_123 rfl ?_
  refine gh_get 3 dX4_init_124 ck4 (by decide) rfl w259 ?_
  refine g_iload_n dX4_init_127 rfl ?_
  refine gk_new (fs := [.int 0, .int 0, .int 0, .null, .null, .null, .null, .null, .null, .null, .null, .null, .null]) dX4_init_128 ck0 w75 w76 w55 raw_X0 (by decide) (by decide) (fun q128_77 => ?_)
  refine g_dup dX4_init_131 ?_
  refine gk_ninit (j0 := 0) dX4_init_132 (c_X0_init cA) rfl rfl rfl w78 w55 w79 (by decide +kernel) ⟨by decide, by decide⟩ (Nat.le_of_ble_eq_true rfl) (by decide) (by decide) (fun w hw => ?_)
  obtain ⟨a6, rfl⟩ := hw
  refine gk_aast1 1 dX4_init_135 ck0 rfl List.mem_cons_self (by decide +kernel) (by decide) (by decide) ?_
  refine g_iinc (v := 2) dX4_init_136 rfl (by decide +kernel) (by decide) (ls2 := [.ref q0, .int 2]) rfl ?_
  refine g_goto (tgt := 118) dX4_init_139 (by decide) ?_
  refine g_iload_n dX4_init_118 rfl ?_
  refine g_iconst (v := 2) dX4_init_119 (by decide +kernel) ?_
  refine g_icmp_ge (tgt := 142) dX4_init_120 (by decide) (fun _ => ?_) (fun c => absurd (by decide) c)
  refine g_iconst (v := 0) dX4_init_142 (by decide +kernel) ?_
  refine g_istore_n 1 dX4_init_143 rfl (by decide) (ls2 := [.ref q0, .int 0]) rfl ?_
  refine g_iload_n dX4_init_144 rfl ?_
  refine g_iconst (v := 4) dX4_init_145 (by decide +kernel) ?_
  refine g_icmp_ge (tgt := 168) dX4_init_146 (by decide) (fun c => absurd c (by decide)) (fun _ => ?_)
  refine g_aload_n dX4_init_149 rfl ?_
  refine gh_get 7 dX4_init_150 ck4 (by decide) rfl w263 ?_
  refine g_iload_n dX4_init_153 rfl ?_
  refine gk_new (fs := [.int 0, .int 0, .int 0, .null]) dX4_init_154 ck2 w232 w234 w58 raw_X2 (by decide) (by decide) (fun q154_94 => ?_)
  refine g_dup dX4_init_157 ?_
  refine gk_ninit (j0 := 3) dX4_init_158 (c_X2_init cA) rfl rfl rfl w236 w58 w237 (by decide +kernel) ⟨by decide, by decide⟩ (Nat.le_of_ble_eq_true rfl) (by decide) (by decide) (fun w hw => ?_)
  obtain ⟨a7, rfl⟩ := hw
  refine gk_aast2 0 dX4_init_161 ck2 rfl List.mem_cons_self (by decide +kernel) (by decide) (by decide) ?_
  refine g_iinc (v := 1) dX4_init_162 rfl (by decide +kernel) (by decide) (ls2 := [.ref q0, .int 1]) rfl ?_
  refine g_goto (tgt := 144) dX4_init_165 (by decide) ?_
  refine g_iload_n dX4_init_144 rfl ?_
  refine g_iconst (v := 4) dX4_init_145 (by decide +kernel) ?_
  refine g_icmp_ge (tgt := 168) dX4_init_146 (by decide) (fun c => absurd c (by decide)) (fun _ => ?_)
  refine g_aload_n dX4_init_149 rfl ?_
  refine gh_get 7 dX4_init_150 ck4 (by decide) rfl w263 ?_
  refine g_iload_n dX4_init_153 rfl ?_
  refine gk_new (fs := [.int 0, .int 0, .int 0, .null]) dX4_init_154 ck2 w232 w234 w58 raw_X2 (by decide) (by decide) (fun q154_106 => ?_)
  refine g_dup dX4_init_157 ?_
  refine gk_ninit (j0 := 3) dX4_init_158 (c_X2_init cA) rfl rfl rfl w236 w58 w237 (by decide +kernel) ⟨by decide, by decide⟩ (Nat.le_of_ble_eq_true rfl) (by decide) (by decide) (fun w hw => ?_)
  obtain ⟨a8, rfl⟩ := hw
  refine gk_aast2 1 dX4_init_161 ck2 rfl List.mem_cons_self (by decide +kernel) (by decide) (by decide) ?_
  refine g_iinc (v := 2) dX4_init_162 rfl (by decide +kernel) (by decide) (ls2 := [.ref q0, .int 2]) rfl ?_
  refine g_goto (tgt := 144) dX4_init_165 (by decide) ?_
  refine g_iload_n dX4_init_144 rfl ?_
  refine g_iconst (v := 4) dX4_init_145 (by decide +kernel) ?_
  refine g_icmp_ge (tgt := 168) dX4_init_146 (by decide) (fun c => absurd c (by decide)) (fun _ => ?_)
  refine g_aload_n dX4_init_149 rfl ?_
  refine gh_get 7 dX4_init_150 ck4 (by decide) rfl w263 ?_
  refine g_iload_n dX4_init_153 rfl ?_
  refine gk_new (fs := [.int 0, .int 0, .int 0, .null]) dX4_init_154 ck2 w232 w234 w58 raw_X2 (by decide) (by decide) (fun q154_118 => ?_)
  refine g_dup dX4_init_157 ?_
  refine gk_ninit (j0 := 3) dX4_init_158 (c_X2_init cA) rfl rfl rfl w236 w58 w237 (by decide +kernel) ⟨by decide, by decide⟩ (Nat.le_of_ble_eq_true rfl) (by decide) (by decide) (fun w hw => ?_)
  obtain ⟨a9, rfl⟩ := hw
  refine gk_aast2 2 dX4_init_161 ck2 rfl List.mem_cons_self (by decide +kernel) (by decide) (by decide) ?_
  refine g_iinc (v := 3) dX4_init_162 rfl (by decide +kernel) (by decide) (ls2 := [.ref q0, .int 3]) rfl ?_
  refine g_goto (tgt := 144) dX4_init_165 (by decide) ?_
  refine g_iload_n dX4_init_144 rfl ?_
  refine g_iconst (v := 4) dX4_init_145 (by decide +kernel) ?_
  refine g_icmp_ge (tgt := 168) dX4_init_146 (by decide) (fun c => absurd c (by decide)) (fun _ => ?_)
  refine g_aload_n dX4_init_149 rfl ?_
  refine gh_get 7 dX4_init_150 ck4 (by decide) rfl w263 ?_
  refine g_iload_n dX4_init_153 rfl ?_
  refine gk_new (fs := [.int 0, .int 0, .int 0, .null]) dX4_init_154 ck2 w232 w234 w58 raw_X2 (by decide) (by decide) (fun q154_130 => ?_)
  refine g_dup dX4_init_157 ?_
  refine gk_ninit (j0 := 3) dX4_init_158 (c_X2_init cA) rfl rfl rfl w236 w58 w237 (by decide +kernel) ⟨by decide, by decide⟩ (Nat.le_of_ble_eq_true rfl) (by decide) (by decide) (fun w hw => ?_)
  obtain ⟨a10, rfl⟩ := hw
  refine gk_aast2 3 dX4_init_161 ck2 rfl List.mem_cons_self (by decide +kernel) (by decide) (by decide) ?_
  refine g_iinc (v := 4) dX4_init_162 rfl (by decide +kernel) (by decide) (ls2 := [.ref q0, .int 4]) rfl ?_
  refine g_goto (tgt := 144) dX4_init_165 (by decide) ?_
  refine g_iload_n dX4_init_144 rfl ?_
  refine g_iconst (v := 4) dX4_init_145 (by decide +kernel) ?_
  refine g_icmp_ge (tgt := 168) dX4_init_146 (by decide) (fun _ => ?_) (fun c => absurd (by decide) c)
  refine g_ret dX4_init_168 (by decide) (by decide) ⟨fun k => [q0, q5_3, a0 1, a0 2, a0 3, a0 4, a0 5, a0 6, a0 7, a0 8, a0 9, a0 10, q16_8, a1 1, a1 2, a1 3, a1 4, a1 5, a1 6, a1 7, a1 8, a1 9, a1 10, q27_13, a2 1, a2 2, a2 3, a2 4, a2 5, a2 6, a2 7, a2 8, a2 9, a2 10, q39, q47, q53_26, a3 1, q64_31, a4 1, a4 2, a4 3, a4 4, a4 5, a4 6, a4 7, a4 8, a4 9, q76, q85, q93, q101, q128_65, a5 1, a5 2, a5 3, a5 4, a5 5, a5 6, a5 7, a5 8, a5 9, a5 10, q128_77, a6 1, a6 2, a6 3, a6 4, a6 5, a6 6, a6 7, a6 8, a6 9, a6 10, q154_94, a7 1, q154_106, a8 1, q154_118, a9 1, q154_130, a10 1].getD k 0, rfl, ?_⟩
  generalize had : (fun k => [q0, q5_3, a0 1, a0 2, a0 3, a0 4, a0 5, a0 6, a0 7, a0 8, a0 9, a0 10, q16_8, a1 1, a1 2, a1 3, a1 4, a1 5, a1 6, a1 7, a1 8, a1 9, a1 10, q27_13, a2 1, a2 2, a2 3, a2 4, a2 5, a2 6, a2 7, a2 8, a2 9, a2 10, q39, q47, q53_26, a3 1, q64_31, a4 1, a4 2, a4 3, a4 4, a4 5, a4 6, a4 7, a4 8, a4 9, q76, q85, q93, q101, q128_65, a5 1, a5 2, a5 3, a5 4, a5 5, a5 6, a5 7, a5 8, a5 9, a5 10, q128_77, a6 1, a6 2, a6 3, a6 4, a6 5, a6 6, a6 7, a6 8, a6 9, a6 10, q154_94, a7 1, q154_106, a8 1, q154_118, a9 1, q154_130, a10 1].getD k 0 : Nat → Nat) = ad
  have k0 : ad 0 = q0 := by rw [← had]; rfl
  have k1 : ad 1 = q5_3 := by rw [← had]; rfl
  have k2 : ad 2 = a0 1 := by rw [← had]; rfl
  have k3 : ad 3 = a0 2 := by rw [← had]; rfl
  have k4 : ad 4 = a0 3 := by rw [← had]; rfl
  have k5 : ad 5 = a0 4 := by rw [← had]; rfl
  have k6 : ad 6 = a0 5 := by rw [← had]; rfl
  have k7 : ad 7 = a0 6 := by rw [← had]; rfl
  have k8 : ad 8 = a0 7 := by rw [← had]; rfl
  have k9 : ad 9 = a0 8 := by rw [← had]; rfl
  have k10 : ad 10 = a0 9 := by rw [← had]; rfl
  have k11 : ad 11 = a0 10 := by rw [← had]; rfl
  have k12 : ad 12 = q16_8 := by rw [← had]; rfl
  have k13 : ad 13 = a1 1 := by rw [← had]; rfl
  have k14 : ad 14 = a1 2 := by rw [← had]; rfl
  have k15 : ad 15 = a1 3 := by rw [← had]; rfl
  have k16 : ad 16 = a1 4 := by rw [← had]; rfl
  have k17 : ad 17 = a1 5 := by rw [← had]; rfl
  have k18 : ad 18 = a1 6 := by rw [← had]; rfl
  have k19 : ad 19 = a1 7 := by rw [← had]; rfl
  have k20 : ad 20 = a1 8 := by rw [← had]; rfl
  have k21 : ad 21 = a1 9 := by rw [← had]; rfl
  have k22 : ad 22 = a1 10 := by rw [← had]; rfl
  have k23 : ad 23 = q27_13 := by rw [← had]; rfl
  have k24 : ad 24 = a2 1 := by rw [← had]; rfl
  have k25 : ad 25 = a2 2 := by rw [← had]; rfl
  have k26 : ad 26 = a2 3 := by rw [← had]; rfl
  have k27 : ad 27 = a2 4 := by rw [← had]; rfl
  have k28 : ad 28 = a2 5 := by rw [← had]; rfl
  have k29 : ad 29 = a2 6 := by rw [← had]; rfl
  have k30 : ad 30 = a2 7 := by rw [← had]; rfl
  have k31 : ad 31 = a2 8 := by rw [← had]; rfl
  have k32 : ad 32 = a2 9 := by rw [← had]; rfl
  have k33 : ad 33 = a2 10 := by rw [← had]; rfl
  have k34 : ad 34 = q39 := by rw [← had]; rfl
  have k35 : ad 35 = q47 := by rw [← had]; rfl
  have k36 : ad 36 = q53_26 := by rw [← had]; rfl
  have k37 : ad 37 = a3 1 := by rw [← had]; rfl
  have k38 : ad 38 = q64_31 := by rw [← had]; rfl
  have k39 : ad 39 = a4 1 := by rw [← had]; rfl
  have k40 : ad 40 = a4 2 := by rw [← had]; rfl
  have k41 : ad 41 = a4 3 := by rw [← had]; rfl
  have k42 : ad 42 = a4 4 := by rw [← had]; rfl
  have k43 : ad 43 = a4 5 := by rw [← had]; rfl
  have k44 : ad 44 = a4 6 := by rw [← had]; rfl
  have k45 : ad 45 = a4 7 := by rw [← had]; rfl
  have k46 : ad 46 = a4 8 := by rw [← had]; rfl
  have k47 : ad 47 = a4 9 := by rw [← had]; rfl
  have k48 : ad 48 = q76 := by rw [← had]; rfl
  have k49 : ad 49 = q85 := by rw [← had]; rfl
  have k50 : ad 50 = q93 := by rw [← had]; rfl
  have k51 : ad 51 = q101 := by rw [← had]; rfl
  have k52 : ad 52 = q128_65 := by rw [← had]; rfl
  have k53 : ad 53 = a5 1 := by rw [← had]; rfl
  have k54 : ad 54 = a5 2 := by rw [← had]; rfl
  have k55 : ad 55 = a5 3 := by rw [← had]; rfl
  have k56 : ad 56 = a5 4 := by rw [← had]; rfl
  have k57 : ad 57 = a5 5 := by rw [← had]; rfl
  have k58 : ad 58 = a5 6 := by rw [← had]; rfl
  have k59 : ad 59 = a5 7 := by rw [← had]; rfl
  have k60 : ad 60 = a5 8 := by rw [← had]; rfl
  have k61 : ad 61 = a5 9 := by rw [← had]; rfl
  have k62 : ad 62 = a5 10 := by rw [← had]; rfl
  have k63 : ad 63 = q128_77 := by rw [← had]; rfl
  have k64 : ad 64 = a6 1 := by rw [← had]; rfl
  have k65 : ad 65 = a6 2 := by rw [← had]; rfl
  have k66 : ad 66 = a6 3 := by rw [← had]; rfl
  have k67 : ad 67 = a6 4 := by rw [← had]; rfl
  have k68 : ad 68 = a6 5 := by rw [← had]; rfl
  have k69 : ad 69 = a6 6 := by rw [← had]; rfl
  have k70 : ad 70 = a6 7 := by rw [← had]; rfl
  have k71 : ad 71 = a6 8 := by rw [← had]; rfl
  have k72 : ad 72 = a6 9 := by rw [← had]; rfl
  have k73 : ad 73 = a6 10 := by rw [← had]; rfl
  have k74 : ad 74 = q154_94 := by rw [← had]; rfl
  have k75 : ad 75 = a7 1 := by rw [← had]; rfl
  have k76 : ad 76 = q154_106 := by rw [← had]; rfl
  have k77 : ad 77 = a8 1 := by rw [← had]; rfl
  have k78 : ad 78 = q154_118 := by rw [← had]; rfl
  have k79 : ad 79 = a9 1 := by rw [← had]; rfl
  have k80 : ad 80 = q154_130 := by rw [← had]; rfl
  have k81 : ad 81 = a10 1 := by rw [← had]; rfl
  clear had
  have e : wsOf ad cA SX (fun _ _ => 0) = (q0, .inr (4, [.ref q5_3, .ref q16_8, .ref q27_13, .ref q39, .ref q47, .ref q53_26, .ref q64_31, .ref q76, .ref q85, .ref q93, .ref q101, .int 0, .int 0])) :: (([] ++ wH cA q5_3 a0 ++ wH cA q16_8 a1 ++ wH cA q27_13 a2) ++ ((q39, .inl (cA 2, 2, .inr (.inr (.inr (.inr (va_up (va_up (fun _ => none) 0 (some q128_65)) 1 (some q128_77))))))) :: (([(q47, .inl (cA 1, 2, .inl (fun _ => 0)))] ++ wT3 cA q53_26 a3 ++ wY cA q64_31 a4) ++ ((q76, .inl (cA 3, 4, .inr (.inr (.inr (.inr (va_up (va_up (va_up (va_up (fun _ => none) 0 (some q154_94)) 1 (some q154_106)) 2 (some q154_118)) 3 (some q154_130))))))) :: ([(q85, .inl (cA 0, 6, .inl (fun _ => 0)))] ++ [(q93, .inl (cA 0, 6, .inl (fun _ => 0)))] ++ [(q101, .inl (cA 0, 6, .inl (fun _ => 0)))] ++ wH cA q128_65 a5 ++ wH cA q128_77 a6 ++ wS cA q154_94 a7 ++ wS cA q154_106 a8 ++ wS cA q154_118 a9 ++ wS cA q154_130 a10))))) := by
    rw [wsF_0, sx_split]
    simp only [wsF_app]
    simp only [List.append_assoc, List.nil_append]
    have p0 : wsF ad cA 0 ([xShp]) (fun _ _ => 0) = [(q0, .inr (4, [.ref q5_3, .ref q16_8, .ref q27_13, .ref q39, .ref q47, .ref q53_26, .ref q64_31, .ref q76, .ref q85, .ref q93, .ref q101, .int 0, .int 0]))] := by
      show [(ad 0, (.inr (4, [.ref (ad 1), .ref (ad 12), .ref (ad 23), .ref (ad 34), .ref (ad 35), .ref (ad 36), .ref (ad 38), .ref (ad 48), .ref (ad 49), .ref (ad 50), .ref (ad 51), .int 0, .int 0]) : va_E))] = _; rw [k0, k1, k12, k23, k34, k35, k36, k38, k48, k49, k50, k51]
    have p1 : wsF ad cA 1 (hShp 1) (fun _ _ => 0) = wH cA q5_3 a0 := by
      show wH cA (ad 1) (fun i => ad (1 + i)) = _
      rw [k1]; unfold wH; rw [show (fun i => ad (1 + i)) 1 = a0 1 from k2, show (fun i => ad (1 + i)) 2 = a0 2 from k3, show (fun i => ad (1 + i)) 3 = a0 3 from k4, show (fun i => ad (1 + i)) 4 = a0 4 from k5, show (fun i => ad (1 + i)) 5 = a0 5 from k6, show (fun i => ad (1 + i)) 6 = a0 6 from k7, show (fun i => ad (1 + i)) 7 = a0 7 from k8, show (fun i => ad (1 + i)) 8 = a0 8 from k9, show (fun i => ad (1 + i)) 9 = a0 9 from k10, show (fun i => ad (1 + i)) 10 = a0 10 from k11]
    have p12 : wsF ad cA 12 (hShp 12) (fun _ _ => 0) = wH cA q16_8 a1 := by
      show wH cA (ad 12) (fun i => ad (12 + i)) = _
      rw [k12]; unfold wH; rw [show (fun i => ad (12 + i)) 1 = a1 1 from k13, show (fun i => ad (12 + i)) 2 = a1 2 from k14, show (fun i => ad (12 + i)) 3 = a1 3 from k15, show (fun i => ad (12 + i)) 4 = a1 4 from k16, show (fun i => ad (12 + i)) 5 = a1 5 from k17, show (fun i => ad (12 + i)) 6 = a1 6 from k18, show (fun i => ad (12 + i)) 7 = a1 7 from k19, show (fun i => ad (12 + i)) 8 = a1 8 from k20, show (fun i => ad (12 + i)) 9 = a1 9 from k21, show (fun i => ad (12 + i)) 10 = a1 10 from k22]
    have p23 : wsF ad cA 23 (hShp 23) (fun _ _ => 0) = wH cA q27_13 a2 := by
      show wH cA (ad 23) (fun i => ad (23 + i)) = _
      rw [k23]; unfold wH; rw [show (fun i => ad (23 + i)) 1 = a2 1 from k24, show (fun i => ad (23 + i)) 2 = a2 2 from k25, show (fun i => ad (23 + i)) 3 = a2 3 from k26, show (fun i => ad (23 + i)) 4 = a2 4 from k27, show (fun i => ad (23 + i)) 5 = a2 5 from k28, show (fun i => ad (23 + i)) 6 = a2 6 from k29, show (fun i => ad (23 + i)) 7 = a2 7 from k30, show (fun i => ad (23 + i)) 8 = a2 8 from k31, show (fun i => ad (23 + i)) 9 = a2 9 from k32, show (fun i => ad (23 + i)) 10 = a2 10 from k33]
    have p34 : wsF ad cA 34 ([(2, 2, [some 52, some 63])]) (fun _ _ => 0) = [(q39, .inl (cA 2, 2, .inr (.inr (.inr (.inr (va_up (va_up (fun _ => none) 0 (some q128_65)) 1 (some q128_77)))))))] := by
      show [(ad 34, (.inl (cA 2, 2, .inr (.inr (.inr (.inr (refsOf ad [some 52, some 63]))))) : va_E))] = _; rw [ref2 k52 k63, k34]
    have p35 : wsF ad cA 35 ([(1, 2, [])]) (fun _ _ => 0) = [(q47, .inl (cA 1, 2, .inl (fun _ => 0)))] := by
      show [(ad 35, _)] = _; rw [k35]; rfl
    have p36 : wsF ad cA 36 (tShp) (fun _ _ => 0) = wT3 cA q53_26 a3 := by
      show wT3 cA (ad 36) (fun i => ad (36 + i)) = _
      rw [k36]; unfold wT3; rw [show (fun i => ad (36 + i)) 1 = a3 1 from k37]
    have p38 : wsF ad cA 38 (yShp) (fun _ _ => 0) = wY cA q64_31 a4 := by
      show wY cA (ad 38) (fun i => ad (38 + i)) = _
      rw [k38]; unfold wY; rw [show (fun i => ad (38 + i)) 1 = a4 1 from k39, show (fun i => ad (38 + i)) 2 = a4 2 from k40, show (fun i => ad (38 + i)) 3 = a4 3 from k41, show (fun i => ad (38 + i)) 4 = a4 4 from k42, show (fun i => ad (38 + i)) 5 = a4 5 from k43, show (fun i => ad (38 + i)) 6 = a4 6 from k44, show (fun i => ad (38 + i)) 7 = a4 7 from k45, show (fun i => ad (38 + i)) 8 = a4 8 from k46, show (fun i => ad (38 + i)) 9 = a4 9 from k47]
    have p48 : wsF ad cA 48 ([(3, 4, [some 74, some 76, some 78, some 80])]) (fun _ _ => 0) = [(q76, .inl (cA 3, 4, .inr (.inr (.inr (.inr (va_up (va_up (va_up (va_up (fun _ => none) 0 (some q154_94)) 1 (some q154_106)) 2 (some q154_118)) 3 (some q154_130)))))))] := by
      show [(ad 48, (.inl (cA 3, 4, .inr (.inr (.inr (.inr (refsOf ad [some 74, some 76, some 78, some 80]))))) : va_E))] = _; rw [ref4 k74 k76 k78 k80, k48]
    have p49 : wsF ad cA 49 ([(0, 6, [])]) (fun _ _ => 0) = [(q85, .inl (cA 0, 6, .inl (fun _ => 0)))] := by
      show [(ad 49, _)] = _; rw [k49]; rfl
    have p50 : wsF ad cA 50 ([(0, 6, [])]) (fun _ _ => 0) = [(q93, .inl (cA 0, 6, .inl (fun _ => 0)))] := by
      show [(ad 50, _)] = _; rw [k50]; rfl
    have p51 : wsF ad cA 51 ([(0, 6, [])]) (fun _ _ => 0) = [(q101, .inl (cA 0, 6, .inl (fun _ => 0)))] := by
      show [(ad 51, _)] = _; rw [k51]; rfl
    have p52 : wsF ad cA 52 (hShp 52) (fun _ _ => 0) = wH cA q128_65 a5 := by
      show wH cA (ad 52) (fun i => ad (52 + i)) = _
      rw [k52]; unfold wH; rw [show (fun i => ad (52 + i)) 1 = a5 1 from k53, show (fun i => ad (52 + i)) 2 = a5 2 from k54, show (fun i => ad (52 + i)) 3 = a5 3 from k55, show (fun i => ad (52 + i)) 4 = a5 4 from k56, show (fun i => ad (52 + i)) 5 = a5 5 from k57, show (fun i => ad (52 + i)) 6 = a5 6 from k58, show (fun i => ad (52 + i)) 7 = a5 7 from k59, show (fun i => ad (52 + i)) 8 = a5 8 from k60, show (fun i => ad (52 + i)) 9 = a5 9 from k61, show (fun i => ad (52 + i)) 10 = a5 10 from k62]
    have p63 : wsF ad cA 63 (hShp 63) (fun _ _ => 0) = wH cA q128_77 a6 := by
      show wH cA (ad 63) (fun i => ad (63 + i)) = _
      rw [k63]; unfold wH; rw [show (fun i => ad (63 + i)) 1 = a6 1 from k64, show (fun i => ad (63 + i)) 2 = a6 2 from k65, show (fun i => ad (63 + i)) 3 = a6 3 from k66, show (fun i => ad (63 + i)) 4 = a6 4 from k67, show (fun i => ad (63 + i)) 5 = a6 5 from k68, show (fun i => ad (63 + i)) 6 = a6 6 from k69, show (fun i => ad (63 + i)) 7 = a6 7 from k70, show (fun i => ad (63 + i)) 8 = a6 8 from k71, show (fun i => ad (63 + i)) 9 = a6 9 from k72, show (fun i => ad (63 + i)) 10 = a6 10 from k73]
    have p74 : wsF ad cA 74 (sShp 74) (fun _ _ => 0) = wS cA q154_94 a7 := by
      show wS cA (ad 74) (fun i => ad (74 + i)) = _
      rw [k74]; unfold wS; rw [show (fun i => ad (74 + i)) 1 = a7 1 from k75]
    have p76 : wsF ad cA 76 (sShp 76) (fun _ _ => 0) = wS cA q154_106 a8 := by
      show wS cA (ad 76) (fun i => ad (76 + i)) = _
      rw [k76]; unfold wS; rw [show (fun i => ad (76 + i)) 1 = a8 1 from k77]
    have p78 : wsF ad cA 78 (sShp 78) (fun _ _ => 0) = wS cA q154_118 a9 := by
      show wS cA (ad 78) (fun i => ad (78 + i)) = _
      rw [k78]; unfold wS; rw [show (fun i => ad (78 + i)) 1 = a9 1 from k79]
    have p80 : wsF ad cA 80 (sShp 80) (fun _ _ => 0) = wS cA q154_130 a10 := by
      show wS cA (ad 80) (fun i => ad (80 + i)) = _
      rw [k80]; unfold wS; rw [show (fun i => ad (80 + i)) 1 = a10 1 from k81]
    refine (app2 p0 (app2 p1 (app2 p12 (app2 p23 (app2 p34 (app2 p35 (app2 p36 (app2 p38 (app2 p48 (app2 p49 (app2 p50 (app2 p51 (app2 p52 (app2 p63 (app2 p74 (app2 p76 (app2 p78 (p80)))))))))))))))))).trans ?_
    simp only [List.cons_append, List.nil_append]
  rw [e]
  have := @pm_out (q0, .inr (4, [.ref q5_3, .ref q16_8, .ref q27_13, .ref q39, .ref q47, .ref q53_26, .ref q64_31, .ref q76, .ref q85, .ref q93, .ref q101, .int 0, .int 0])) (q39, .inl (cA 2, 2, .inr (.inr (.inr (.inr (va_up (va_up (fun _ => none) 0 (some q128_65)) 1 (some q128_77))))))) (q76, .inl (cA 3, 4, .inr (.inr (.inr (.inr (va_up (va_up (va_up (va_up (fun _ => none) 0 (some q154_94)) 1 (some q154_106)) 2 (some q154_118)) 3 (some q154_130))))))) ([] ++ wH cA q5_3 a0 ++ wH cA q16_8 a1 ++ wH cA q27_13 a2) ([(q47, .inl (cA 1, 2, .inl (fun _ => 0)))] ++ wT3 cA q53_26 a3 ++ wY cA q64_31 a4) ([(q85, .inl (cA 0, 6, .inl (fun _ => 0)))] ++ [(q93, .inl (cA 0, 6, .inl (fun _ => 0)))] ++ [(q101, .inl (cA 0, 6, .inl (fun _ => 0)))] ++ wH cA q128_65 a5 ++ wH cA q128_77 a6 ++ wS cA q154_94 a7 ++ wS cA q154_106 a8 ++ wS cA q154_118 a9 ++ wS cA q154_130 a10)
  simpa only [List.append_assoc, List.nil_append] using this
end
section
/-! ===== the reference's constructor ===== -/
theorem dX5_init_0 : decode cX5_init 0 = .ok (.aload_n 0, 1) := by decide +kernel
theorem dX5_init_1 : decode cX5_init 1 = .ok (.invokespecial 1, 3) := by decide +kernel
theorem dX5_init_4 : decode cX5_init 4 = .ok (.aload_n 0, 1) := by decide +kernel
theorem dX5_init_5 : decode cX5_init 5 = .ok (.sipush 350, 3) := by decide +kernel
theorem dX5_init_8 : decode cX5_init 8 = .ok (.newarray .int, 2) := by decide +kernel
theorem dX5_init_10 : decode cX5_init 10 = .ok (.putfield 7, 3) := by decide +kernel
theorem dX5_init_13 : decode cX5_init 13 = .ok (.aload_n 0, 1) := by decide +kernel
theorem dX5_init_14 : decode cX5_init 14 = .ok (.bipush 70, 2) := by decide +kernel
theorem dX5_init_16 : decode cX5_init 16 = .ok (.newarray .int, 2) := by decide +kernel
theorem dX5_init_18 : decode cX5_init 18 = .ok (.putfield 13, 3) := by decide +kernel
theorem dX5_init_21 : decode cX5_init 21 = .ok (.aload_n 0, 1) := by decide +kernel
theorem dX5_init_22 : decode cX5_init 22 = .ok (.sipush 160, 3) := by decide +kernel
theorem dX5_init_25 : decode cX5_init 25 = .ok (.newarray .int, 2) := by decide +kernel
theorem dX5_init_27 : decode cX5_init 27 = .ok (.putfield 16, 3) := by decide +kernel
theorem dX5_init_30 : decode cX5_init 30 = .ok (.aload_n 0, 1) := by decide +kernel
theorem dX5_init_31 : decode cX5_init 31 = .ok (.bipush 7, 2) := by decide +kernel
theorem dX5_init_33 : decode cX5_init 33 = .ok (.newarray .int, 2) := by decide +kernel
theorem dX5_init_35 : decode cX5_init 35 = .ok (.dup, 1) := by decide +kernel
theorem dX5_init_36 : decode cX5_init 36 = .ok (.iconst 0, 1) := by decide +kernel
theorem dX5_init_37 : decode cX5_init 37 = .ok (.iconst 0, 1) := by decide +kernel
theorem dX5_init_38 : decode cX5_init 38 = .ok (.iastore, 1) := by decide +kernel
theorem dX5_init_39 : decode cX5_init 39 = .ok (.dup, 1) := by decide +kernel
theorem dX5_init_40 : decode cX5_init 40 = .ok (.iconst 1, 1) := by decide +kernel
theorem dX5_init_41 : decode cX5_init 41 = .ok (.iconst 5, 1) := by decide +kernel
theorem dX5_init_42 : decode cX5_init 42 = .ok (.iastore, 1) := by decide +kernel
theorem dX5_init_43 : decode cX5_init 43 = .ok (.dup, 1) := by decide +kernel
theorem dX5_init_44 : decode cX5_init 44 = .ok (.iconst 2, 1) := by decide +kernel
theorem dX5_init_45 : decode cX5_init 45 = .ok (.bipush 10, 2) := by decide +kernel
theorem dX5_init_47 : decode cX5_init 47 = .ok (.iastore, 1) := by decide +kernel
theorem dX5_init_48 : decode cX5_init 48 = .ok (.dup, 1) := by decide +kernel
theorem dX5_init_49 : decode cX5_init 49 = .ok (.iconst 3, 1) := by decide +kernel
theorem dX5_init_50 : decode cX5_init 50 = .ok (.bipush 15, 2) := by decide +kernel
theorem dX5_init_52 : decode cX5_init 52 = .ok (.iastore, 1) := by decide +kernel
theorem dX5_init_53 : decode cX5_init 53 = .ok (.dup, 1) := by decide +kernel
theorem dX5_init_54 : decode cX5_init 54 = .ok (.iconst 4, 1) := by decide +kernel
theorem dX5_init_55 : decode cX5_init 55 = .ok (.bipush 22, 2) := by decide +kernel
theorem dX5_init_57 : decode cX5_init 57 = .ok (.iastore, 1) := by decide +kernel
theorem dX5_init_58 : decode cX5_init 58 = .ok (.dup, 1) := by decide +kernel
theorem dX5_init_59 : decode cX5_init 59 = .ok (.iconst 5, 1) := by decide +kernel
theorem dX5_init_60 : decode cX5_init 60 = .ok (.bipush 28, 2) := by decide +kernel
theorem dX5_init_62 : decode cX5_init 62 = .ok (.iastore, 1) := by decide +kernel
theorem dX5_init_63 : decode cX5_init 63 = .ok (.dup, 1) := by decide +kernel
theorem dX5_init_64 : decode cX5_init 64 = .ok (.bipush 6, 2) := by decide +kernel
theorem dX5_init_66 : decode cX5_init 66 = .ok (.bipush 33, 2) := by decide +kernel
theorem dX5_init_68 : decode cX5_init 68 = .ok (.iastore, 1) := by decide +kernel
theorem dX5_init_69 : decode cX5_init 69 = .ok (.putfield 19, 3) := by decide +kernel
theorem dX5_init_72 : decode cX5_init 72 = .ok (.aload_n 0, 1) := by decide +kernel
theorem dX5_init_73 : decode cX5_init 73 = .ok (.bipush 33, 2) := by decide +kernel
theorem dX5_init_75 : decode cX5_init 75 = .ok (.newarray .int, 2) := by decide +kernel
theorem dX5_init_77 : decode cX5_init 77 = .ok (.dup, 1) := by decide +kernel
theorem dX5_init_78 : decode cX5_init 78 = .ok (.iconst 0, 1) := by decide +kernel
theorem dX5_init_79 : decode cX5_init 79 = .ok (.bipush 112, 2) := by decide +kernel
theorem dX5_init_81 : decode cX5_init 81 = .ok (.iastore, 1) := by decide +kernel
theorem dX5_init_82 : decode cX5_init 82 = .ok (.dup, 1) := by decide +kernel
theorem dX5_init_83 : decode cX5_init 83 = .ok (.iconst 1, 1) := by decide +kernel
theorem dX5_init_84 : decode cX5_init 84 = .ok (.bipush 108, 2) := by decide +kernel
theorem dX5_init_86 : decode cX5_init 86 = .ok (.iastore, 1) := by decide +kernel
theorem dX5_init_87 : decode cX5_init 87 = .ok (.dup, 1) := by decide +kernel
theorem dX5_init_88 : decode cX5_init 88 = .ok (.iconst 2, 1) := by decide +kernel
theorem dX5_init_89 : decode cX5_init 89 = .ok (.bipush 97, 2) := by decide +kernel
theorem dX5_init_91 : decode cX5_init 91 = .ok (.iastore, 1) := by decide +kernel
theorem dX5_init_92 : decode cX5_init 92 = .ok (.dup, 1) := by decide +kernel
theorem dX5_init_93 : decode cX5_init 93 = .ok (.iconst 3, 1) := by decide +kernel
theorem dX5_init_94 : decode cX5_init 94 = .ok (.bipush 105, 2) := by decide +kernel
theorem dX5_init_96 : decode cX5_init 96 = .ok (.iastore, 1) := by decide +kernel
theorem dX5_init_97 : decode cX5_init 97 = .ok (.dup, 1) := by decide +kernel
theorem dX5_init_98 : decode cX5_init 98 = .ok (.iconst 4, 1) := by decide +kernel
theorem dX5_init_99 : decode cX5_init 99 = .ok (.bipush 110, 2) := by decide +kernel
theorem dX5_init_101 : decode cX5_init 101 = .ok (.iastore, 1) := by decide +kernel
theorem dX5_init_102 : decode cX5_init 102 = .ok (.dup, 1) := by decide +kernel
theorem dX5_init_103 : decode cX5_init 103 = .ok (.iconst 5, 1) := by decide +kernel
theorem dX5_init_104 : decode cX5_init 104 = .ok (.bipush 114, 2) := by decide +kernel
theorem dX5_init_106 : decode cX5_init 106 = .ok (.iastore, 1) := by decide +kernel
theorem dX5_init_107 : decode cX5_init 107 = .ok (.dup, 1) := by decide +kernel
theorem dX5_init_108 : decode cX5_init 108 = .ok (.bipush 6, 2) := by decide +kernel
theorem dX5_init_110 : decode cX5_init 110 = .ok (.bipush 111, 2) := by decide +kernel
theorem dX5_init_112 : decode cX5_init 112 = .ok (.iastore, 1) := by decide +kernel
theorem dX5_init_113 : decode cX5_init 113 = .ok (.dup, 1) := by decide +kernel
theorem dX5_init_114 : decode cX5_init 114 = .ok (.bipush 7, 2) := by decide +kernel
theorem dX5_init_116 : decode cX5_init 116 = .ok (.bipush 110, 2) := by decide +kernel
theorem dX5_init_118 : decode cX5_init 118 = .ok (.iastore, 1) := by decide +kernel
theorem dX5_init_119 : decode cX5_init 119 = .ok (.dup, 1) := by decide +kernel
theorem dX5_init_120 : decode cX5_init 120 = .ok (.bipush 8, 2) := by decide +kernel
theorem dX5_init_122 : decode cX5_init 122 = .ok (.bipush 100, 2) := by decide +kernel
theorem dX5_init_124 : decode cX5_init 124 = .ok (.iastore, 1) := by decide +kernel
theorem dX5_init_125 : decode cX5_init 125 = .ok (.dup, 1) := by decide +kernel
theorem dX5_init_126 : decode cX5_init 126 = .ok (.bipush 9, 2) := by decide +kernel
theorem dX5_init_128 : decode cX5_init 128 = .ok (.bipush 111, 2) := by decide +kernel
theorem dX5_init_130 : decode cX5_init 130 = .ok (.iastore, 1) := by decide +kernel
theorem dX5_init_131 : decode cX5_init 131 = .ok (.dup, 1) := by decide +kernel
theorem dX5_init_132 : decode cX5_init 132 = .ok (.bipush 10, 2) := by decide +kernel
theorem dX5_init_134 : decode cX5_init 134 = .ok (.bipush 102, 2) := by decide +kernel
theorem dX5_init_136 : decode cX5_init 136 = .ok (.iastore, 1) := by decide +kernel
theorem dX5_init_137 : decode cX5_init 137 = .ok (.dup, 1) := by decide +kernel
theorem dX5_init_138 : decode cX5_init 138 = .ok (.bipush 11, 2) := by decide +kernel
theorem dX5_init_140 : decode cX5_init 140 = .ok (.bipush 117, 2) := by decide +kernel
theorem dX5_init_142 : decode cX5_init 142 = .ok (.iastore, 1) := by decide +kernel
theorem dX5_init_143 : decode cX5_init 143 = .ok (.dup, 1) := by decide +kernel
theorem dX5_init_144 : decode cX5_init 144 = .ok (.bipush 12, 2) := by decide +kernel
theorem dX5_init_146 : decode cX5_init 146 = .ok (.bipush 103, 2) := by decide +kernel
theorem dX5_init_148 : decode cX5_init 148 = .ok (.iastore, 1) := by decide +kernel
theorem dX5_init_149 : decode cX5_init 149 = .ok (.dup, 1) := by decide +kernel
theorem dX5_init_150 : decode cX5_init 150 = .ok (.bipush 13, 2) := by decide +kernel
theorem dX5_init_152 : decode cX5_init 152 = .ok (.bipush 117, 2) := by decide +kernel
theorem dX5_init_154 : decode cX5_init 154 = .ok (.iastore, 1) := by decide +kernel
theorem dX5_init_155 : decode cX5_init 155 = .ok (.dup, 1) := by decide +kernel
theorem dX5_init_156 : decode cX5_init 156 = .ok (.bipush 14, 2) := by decide +kernel
theorem dX5_init_158 : decode cX5_init 158 = .ok (.bipush 101, 2) := by decide +kernel
theorem dX5_init_160 : decode cX5_init 160 = .ok (.iastore, 1) := by decide +kernel
theorem dX5_init_161 : decode cX5_init 161 = .ok (.dup, 1) := by decide +kernel
theorem dX5_init_162 : decode cX5_init 162 = .ok (.bipush 15, 2) := by decide +kernel
theorem dX5_init_164 : decode cX5_init 164 = .ok (.bipush 108, 2) := by decide +kernel
theorem dX5_init_166 : decode cX5_init 166 = .ok (.iastore, 1) := by decide +kernel
theorem dX5_init_167 : decode cX5_init 167 = .ok (.dup, 1) := by decide +kernel
theorem dX5_init_168 : decode cX5_init 168 = .ok (.bipush 16, 2) := by decide +kernel
theorem dX5_init_170 : decode cX5_init 170 = .ok (.bipush 117, 2) := by decide +kernel
theorem dX5_init_172 : decode cX5_init 172 = .ok (.iastore, 1) := by decide +kernel
theorem dX5_init_173 : decode cX5_init 173 = .ok (.dup, 1) := by decide +kernel
theorem dX5_init_174 : decode cX5_init 174 = .ok (.bipush 17, 2) := by decide +kernel
theorem dX5_init_176 : decode cX5_init 176 = .ok (.bipush 108, 2) := by decide +kernel
theorem dX5_init_178 : decode cX5_init 178 = .ok (.iastore, 1) := by decide +kernel
theorem dX5_init_179 : decode cX5_init 179 = .ok (.dup, 1) := by decide +kernel
theorem dX5_init_180 : decode cX5_init 180 = .ok (.bipush 18, 2) := by decide +kernel
theorem dX5_init_182 : decode cX5_init 182 = .ok (.bipush 108, 2) := by decide +kernel
theorem dX5_init_184 : decode cX5_init 184 = .ok (.iastore, 1) := by decide +kernel
theorem dX5_init_185 : decode cX5_init 185 = .ok (.dup, 1) := by decide +kernel
theorem dX5_init_186 : decode cX5_init 186 = .ok (.bipush 19, 2) := by decide +kernel
theorem dX5_init_188 : decode cX5_init 188 = .ok (.bipush 97, 2) := by decide +kernel
theorem dX5_init_190 : decode cX5_init 190 = .ok (.iastore, 1) := by decide +kernel
theorem dX5_init_191 : decode cX5_init 191 = .ok (.dup, 1) := by decide +kernel
theorem dX5_init_192 : decode cX5_init 192 = .ok (.bipush 20, 2) := by decide +kernel
theorem dX5_init_194 : decode cX5_init 194 = .ok (.bipush 98, 2) := by decide +kernel
theorem dX5_init_196 : decode cX5_init 196 = .ok (.iastore, 1) := by decide +kernel
theorem dX5_init_197 : decode cX5_init 197 = .ok (.dup, 1) := by decide +kernel
theorem dX5_init_198 : decode cX5_init 198 = .ok (.bipush 21, 2) := by decide +kernel
theorem dX5_init_200 : decode cX5_init 200 = .ok (.bipush 121, 2) := by decide +kernel
theorem dX5_init_202 : decode cX5_init 202 = .ok (.iastore, 1) := by decide +kernel
theorem dX5_init_203 : decode cX5_init 203 = .ok (.dup, 1) := by decide +kernel
theorem dX5_init_204 : decode cX5_init 204 = .ok (.bipush 22, 2) := by decide +kernel
theorem dX5_init_206 : decode cX5_init 206 = .ok (.bipush 112, 2) := by decide +kernel
theorem dX5_init_208 : decode cX5_init 208 = .ok (.iastore, 1) := by decide +kernel
theorem dX5_init_209 : decode cX5_init 209 = .ok (.dup, 1) := by decide +kernel
theorem dX5_init_210 : decode cX5_init 210 = .ok (.bipush 23, 2) := by decide +kernel
theorem dX5_init_212 : decode cX5_init 212 = .ok (.bipush 108, 2) := by decide +kernel
theorem dX5_init_214 : decode cX5_init 214 = .ok (.iastore, 1) := by decide +kernel
theorem dX5_init_215 : decode cX5_init 215 = .ok (.dup, 1) := by decide +kernel
theorem dX5_init_216 : decode cX5_init 216 = .ok (.bipush 24, 2) := by decide +kernel
theorem dX5_init_218 : decode cX5_init 218 = .ok (.bipush 97, 2) := by decide +kernel
theorem dX5_init_220 : decode cX5_init 220 = .ok (.iastore, 1) := by decide +kernel
theorem dX5_init_221 : decode cX5_init 221 = .ok (.dup, 1) := by decide +kernel
theorem dX5_init_222 : decode cX5_init 222 = .ok (.bipush 25, 2) := by decide +kernel
theorem dX5_init_224 : decode cX5_init 224 = .ok (.bipush 121, 2) := by decide +kernel
theorem dX5_init_226 : decode cX5_init 226 = .ok (.iastore, 1) := by decide +kernel
theorem dX5_init_227 : decode cX5_init 227 = .ok (.dup, 1) := by decide +kernel
theorem dX5_init_228 : decode cX5_init 228 = .ok (.bipush 26, 2) := by decide +kernel
theorem dX5_init_230 : decode cX5_init 230 = .ok (.bipush 101, 2) := by decide +kernel
theorem dX5_init_232 : decode cX5_init 232 = .ok (.iastore, 1) := by decide +kernel
theorem dX5_init_233 : decode cX5_init 233 = .ok (.dup, 1) := by decide +kernel
theorem dX5_init_234 : decode cX5_init 234 = .ok (.bipush 27, 2) := by decide +kernel
theorem dX5_init_236 : decode cX5_init 236 = .ok (.bipush 114, 2) := by decide +kernel
theorem dX5_init_238 : decode cX5_init 238 = .ok (.iastore, 1) := by decide +kernel
theorem dX5_init_239 : decode cX5_init 239 = .ok (.dup, 1) := by decide +kernel
theorem dX5_init_240 : decode cX5_init 240 = .ok (.bipush 28, 2) := by decide +kernel
theorem dX5_init_242 : decode cX5_init 242 = .ok (.bipush 98, 2) := by decide +kernel
theorem dX5_init_244 : decode cX5_init 244 = .ok (.iastore, 1) := by decide +kernel
theorem dX5_init_245 : decode cX5_init 245 = .ok (.dup, 1) := by decide +kernel
theorem dX5_init_246 : decode cX5_init 246 = .ok (.bipush 29, 2) := by decide +kernel
theorem dX5_init_248 : decode cX5_init 248 = .ok (.bipush 111, 2) := by decide +kernel
theorem dX5_init_250 : decode cX5_init 250 = .ok (.iastore, 1) := by decide +kernel
theorem dX5_init_251 : decode cX5_init 251 = .ok (.dup, 1) := by decide +kernel
theorem dX5_init_252 : decode cX5_init 252 = .ok (.bipush 30, 2) := by decide +kernel
theorem dX5_init_254 : decode cX5_init 254 = .ok (.bipush 117, 2) := by decide +kernel
theorem dX5_init_256 : decode cX5_init 256 = .ok (.iastore, 1) := by decide +kernel
theorem dX5_init_257 : decode cX5_init 257 = .ok (.dup, 1) := by decide +kernel
theorem dX5_init_258 : decode cX5_init 258 = .ok (.bipush 31, 2) := by decide +kernel
theorem dX5_init_260 : decode cX5_init 260 = .ok (.bipush 110, 2) := by decide +kernel
theorem dX5_init_262 : decode cX5_init 262 = .ok (.iastore, 1) := by decide +kernel
theorem dX5_init_263 : decode cX5_init 263 = .ok (.dup, 1) := by decide +kernel
theorem dX5_init_264 : decode cX5_init 264 = .ok (.bipush 32, 2) := by decide +kernel
theorem dX5_init_266 : decode cX5_init 266 = .ok (.bipush 100, 2) := by decide +kernel
theorem dX5_init_268 : decode cX5_init 268 = .ok (.iastore, 1) := by decide +kernel
theorem dX5_init_269 : decode cX5_init 269 = .ok (.putfield 22, 3) := by decide +kernel
theorem dX5_init_272 : decode cX5_init 272 = .ok (.aload_n 0, 1) := by decide +kernel
theorem dX5_init_273 : decode cX5_init 273 = .ok (.iconst 4, 1) := by decide +kernel
theorem dX5_init_274 : decode cX5_init 274 = .ok (.newarray .int, 2) := by decide +kernel
theorem dX5_init_276 : decode cX5_init 276 = .ok (.putfield 25, 3) := by decide +kernel
theorem dX5_init_279 : decode cX5_init 279 = .ok (.aload_n 0, 1) := by decide +kernel
theorem dX5_init_280 : decode cX5_init 280 = .ok (.iconst 4, 1) := by decide +kernel
theorem dX5_init_281 : decode cX5_init 281 = .ok (.newarray .int, 2) := by decide +kernel
theorem dX5_init_283 : decode cX5_init 283 = .ok (.putfield 28, 3) := by decide +kernel
theorem dX5_init_286 : decode cX5_init 286 = .ok (.aload_n 0, 1) := by decide +kernel
theorem dX5_init_287 : decode cX5_init 287 = .ok (.iconst 4, 1) := by decide +kernel
theorem dX5_init_288 : decode cX5_init 288 = .ok (.newarray .int, 2) := by decide +kernel
theorem dX5_init_290 : decode cX5_init 290 = .ok (.putfield 31, 3) := by decide +kernel
theorem dX5_init_293 : decode cX5_init 293 = .ok (.aload_n 0, 1) := by decide +kernel
theorem dX5_init_294 : decode cX5_init 294 = .ok (.iconst 4, 1) := by decide +kernel
theorem dX5_init_295 : decode cX5_init 295 = .ok (.newarray .int, 2) := by decide +kernel
theorem dX5_init_297 : decode cX5_init 297 = .ok (.putfield 34, 3) := by decide +kernel
theorem dX5_init_300 : decode cX5_init 300 = .ok (.aload_n 0, 1) := by decide +kernel
theorem dX5_init_301 : decode cX5_init 301 = .ok (.iconst 4, 1) := by decide +kernel
theorem dX5_init_302 : decode cX5_init 302 = .ok (.newarray .int, 2) := by decide +kernel
theorem dX5_init_304 : decode cX5_init 304 = .ok (.putfield 37, 3) := by decide +kernel
theorem dX5_init_307 : decode cX5_init 307 = .ok (.aload_n 0, 1) := by decide +kernel
theorem dX5_init_308 : decode cX5_init 308 = .ok (.sipush 160, 3) := by decide +kernel
theorem dX5_init_311 : decode cX5_init 311 = .ok (.newarray .int, 2) := by decide +kernel
theorem dX5_init_313 : decode cX5_init 313 = .ok (.putfield 40, 3) := by decide +kernel
theorem dX5_init_316 : decode cX5_init 316 = .ok (.aload_n 0, 1) := by decide +kernel
theorem dX5_init_317 : decode cX5_init 317 = .ok (.bipush 18, 2) := by decide +kernel
theorem dX5_init_319 : decode cX5_init 319 = .ok (.newarray .int, 2) := by decide +kernel
theorem dX5_init_321 : decode cX5_init 321 = .ok (.putfield 43, 3) := by decide +kernel
theorem dX5_init_324 : decode cX5_init 324 = .ok (.aload_n 0, 1) := by decide +kernel
theorem dX5_init_325 : decode cX5_init 325 = .ok (.iconst 2, 1) := by decide +kernel
theorem dX5_init_326 : decode cX5_init 326 = .ok (.newarray .boolean, 2) := by decide +kernel
theorem dX5_init_328 : decode cX5_init 328 = .ok (.putfield 46, 3) := by decide +kernel
theorem dX5_init_331 : decode cX5_init 331 = .ok (.aload_n 0, 1) := by decide +kernel
theorem dX5_init_332 : decode cX5_init 332 = .ok (.iconst 4, 1) := by decide +kernel
theorem dX5_init_333 : decode cX5_init 333 = .ok (.newarray .int, 2) := by decide +kernel
theorem dX5_init_335 : decode cX5_init 335 = .ok (.dup, 1) := by decide +kernel
theorem dX5_init_336 : decode cX5_init 336 = .ok (.iconst 0, 1) := by decide +kernel
theorem dX5_init_337 : decode cX5_init 337 = .ok (.bipush (-4), 2) := by decide +kernel
theorem dX5_init_339 : decode cX5_init 339 = .ok (.iastore, 1) := by decide +kernel
theorem dX5_init_340 : decode cX5_init 340 = .ok (.dup, 1) := by decide +kernel
theorem dX5_init_341 : decode cX5_init 341 = .ok (.iconst 1, 1) := by decide +kernel
theorem dX5_init_342 : decode cX5_init 342 = .ok (.bipush (-4), 2) := by decide +kernel
theorem dX5_init_344 : decode cX5_init 344 = .ok (.iastore, 1) := by decide +kernel
theorem dX5_init_345 : decode cX5_init 345 = .ok (.dup, 1) := by decide +kernel
theorem dX5_init_346 : decode cX5_init 346 = .ok (.iconst 2, 1) := by decide +kernel
theorem dX5_init_347 : decode cX5_init 347 = .ok (.bipush (-4), 2) := by decide +kernel
theorem dX5_init_349 : decode cX5_init 349 = .ok (.iastore, 1) := by decide +kernel
theorem dX5_init_350 : decode cX5_init 350 = .ok (.dup, 1) := by decide +kernel
theorem dX5_init_351 : decode cX5_init 351 = .ok (.iconst 3, 1) := by decide +kernel
theorem dX5_init_352 : decode cX5_init 352 = .ok (.bipush (-4), 2) := by decide +kernel
theorem dX5_init_354 : decode cX5_init 354 = .ok (.iastore, 1) := by decide +kernel
theorem dX5_init_355 : decode cX5_init 355 = .ok (.putfield 50, 3) := by decide +kernel
theorem dX5_init_358 : decode cX5_init 358 = .ok (.aload_n 0, 1) := by decide +kernel
theorem dX5_init_359 : decode cX5_init 359 = .ok (.iconst 4, 1) := by decide +kernel
theorem dX5_init_360 : decode cX5_init 360 = .ok (.newarray .int, 2) := by decide +kernel
theorem dX5_init_362 : decode cX5_init 362 = .ok (.putfield 53, 3) := by decide +kernel
theorem dX5_init_365 : decode cX5_init 365 = .ok (.aload_n 0, 1) := by decide +kernel
theorem dX5_init_366 : decode cX5_init 366 = .ok (.sipush 160, 3) := by decide +kernel
theorem dX5_init_369 : decode cX5_init 369 = .ok (.newarray .int, 2) := by decide +kernel
theorem dX5_init_371 : decode cX5_init 371 = .ok (.putfield 56, 3) := by decide +kernel
theorem dX5_init_374 : decode cX5_init 374 = .ok (.return_, 1) := by decide +kernel
def MX5_init : MM := (RX5, yX5_init, cX5_init, 1, none, 0, 1, 12)
def mShp : Shp := SM.getD 0 (0, 0, [])
theorem sm_split : SM = [mShp] ++ ([(0, 350, [])] ++ ([(0, 70, [])] ++ ([(0, 160, [])] ++ ([(0, 7, [])] ++ ([(0, 33, [])] ++ ([(0, 4, [])] ++ ([(0, 4, [])] ++ ([(0, 4, [])] ++ ([(0, 4, [])] ++ ([(0, 4, [])] ++ ([(0, 160, [])] ++ ([(0, 18, [])] ++ ([(1, 2, [])] ++ ([(0, 4, [])] ++ ([(0, 4, [])] ++ ([(0, 160, [])])))))))))))))))) := by decide +kernel
theorem raw_X5 : ∀ j, j < 35 → defaultValue (tyX5 j) = vp_V [.null, .int 0, .int 0, .int 0, .null, .int 0, .int 0, .int 0, .int 0, .null, .int 0, .int 0, .int 0, .int 0, .int 0, .int 0, .int 0, .int 0, .null, .null, .null, .null, .null, .null, .null, .null, .int 0, .null, .int 0, .int 0, .null, .null, .null, .null, .int 0] j := by
  intro j hj
  match j, hj with
  | 0, _ => rfl
  | 1, _ => rfl
  | 2, _ => rfl
  | 3, _ => rfl
  | 4, _ => rfl
  | 5, _ => rfl
  | 6, _ => rfl
  | 7, _ => rfl
  | 8, _ => rfl
  | 9, _ => rfl
  | 10, _ => rfl
  | 11, _ => rfl
  | 12, _ => rfl
  | 13, _ => rfl
  | 14, _ => rfl
  | 15, _ => rfl
  | 16, _ => rfl
  | 17, _ => rfl
  | 18, _ => rfl
  | 19, _ => rfl
  | 20, _ => rfl
  | 21, _ => rfl
  | 22, _ => rfl
  | 23, _ => rfl
  | 24, _ => rfl
  | 25, _ => rfl
  | 26, _ => rfl
  | 27, _ => rfl
  | 28, _ => rfl
  | 29, _ => rfl
  | 30, _ => rfl
  | 31, _ => rfl
  | 32, _ => rfl
  | 33, _ => rfl
  | 34, _ => rfl
  | n + 35, h => exact absurd h (by omega)
def dM0 : DD := fun k => if k = 4 then upd (upd (upd (upd (upd (upd (upd (fun _ => 0) 0 0) 1 5) 2 10) 3 15) 4 22) 5 28) 6 33 else if k = 5 then upd (upd (upd (upd (upd (upd (upd (upd (upd (upd (upd (upd (upd (upd (upd (upd (upd (upd (upd (upd (upd (upd (upd (upd (upd (upd (upd (upd (upd (upd (upd (upd (upd (fun _ => 0) 0 112) 1 108) 2 97) 3 105) 4 110) 5 114) 6 111) 7 110) 8 100) 9 111) 10 102) 11 117) 12 103) 13 117) 14 101) 15 108) 16 117) 17 108) 18 108) 19 97) 20 98) 21 121) 22 112) 23 108) 24 97) 25 121) 26 101) 27 114) 28 98) 29 111) 30 117) 31 110) 32 100 else if k = 14 then upd (upd (upd (upd (fun _ => 0) 0 (-4)) 1 (-4)) 2 (-4)) 3 (-4) else fun _ => 0
theorem dM0_0 : dM0 0 = fun _ => 0 := (if_neg (by decide)).trans ((if_neg (by decide)).trans (if_neg (by decide)))
theorem dM0_1 : dM0 1 = fun _ => 0 := (if_neg (by decide)).trans ((if_neg (by decide)).trans (if_neg (by decide)))
theorem dM0_2 : dM0 2 = fun _ => 0 := (if_neg (by decide)).trans ((if_neg (by decide)).trans (if_neg (by decide)))
theorem dM0_3 : dM0 3 = fun _ => 0 := (if_neg (by decide)).trans ((if_neg (by decide)).trans (if_neg (by decide)))
theorem dM0_4 : dM0 4 = upd (upd (upd (upd (upd (upd (upd (fun _ => 0) 0 0) 1 5) 2 10) 3 15) 4 22) 5 28) 6 33 := if_pos rfl
theorem dM0_5 : dM0 5 = upd (upd (upd (upd (upd (upd (upd (upd (upd (upd (upd (upd (upd (upd (upd (upd (upd (upd (upd (upd (upd (upd (upd (upd (upd (upd (upd (upd (upd (upd (upd (upd (upd (fun _ => 0) 0 112) 1 108) 2 97) 3 105) 4 110) 5 114) 6 111) 7 110) 8 100) 9 111) 10 102) 11 117) 12 103) 13 117) 14 101) 15 108) 16 117) 17 108) 18 108) 19 97) 20 98) 21 121) 22 112) 23 108) 24 97) 25 121) 26 101) 27 114) 28 98) 29 111) 30 117) 31 110) 32 100 := (if_neg (by decide)).trans (if_pos rfl)
theorem dM0_6 : dM0 6 = fun _ => 0 := (if_neg (by decide)).trans ((if_neg (by decide)).trans (if_neg (by decide)))
theorem dM0_7 : dM0 7 = fun _ => 0 := (if_neg (by decide)).trans ((if_neg (by decide)).trans (if_neg (by decide)))
theorem dM0_8 : dM0 8 = fun _ => 0 := (if_neg (by decide)).trans ((if_neg (by decide)).trans (if_neg (by decide)))
theorem dM0_9 : dM0 9 = fun _ => 0 := (if_neg (by decide)).trans ((if_neg (by decide)).trans (if_neg (by decide)))
theorem dM0_10 : dM0 10 = fun _ => 0 := (if_neg (by decide)).trans ((if_neg (by decide)).trans (if_neg (by decide)))
theorem dM0_11 : dM0 11 = fun _ => 0 := (if_neg (by decide)).trans ((if_neg (by decide)).trans (if_neg (by decide)))
theorem dM0_12 : dM0 12 = fun _ => 0 := (if_neg (by decide)).trans ((if_neg (by decide)).trans (if_neg (by decide)))
theorem dM0_13 : dM0 13 = fun _ => 0 := (if_neg (by decide)).trans ((if_neg (by decide)).trans (if_neg (by decide)))
theorem dM0_14 : dM0 14 = upd (upd (upd (upd (fun _ => 0) 0 (-4)) 1 (-4)) 2 (-4)) 3 (-4) := (if_neg (by decide)).trans ((if_neg (by decide)).trans (if_pos rfl))
theorem dM0_15 : dM0 15 = fun _ => 0 := (if_neg (by decide)).trans ((if_neg (by decide)).trans (if_neg (by decide)))
theorem dM0_16 : dM0 16 = fun _ => 0 := (if_neg (by decide)).trans ((if_neg (by decide)).trans (if_neg (by decide)))
theorem slotsOf_0 {ad : Nat → Nat} {sl : List (Option Nat)} : slotsOf ad (fun _ => 0) sl = sl.map (fun o => match o with | none => Value.int 0 | some r => Value.ref (ad r)) := by
  refine List.ext_getElem? fun k => ?_
  simp only [slotsOf, List.getElem?_mapIdx, List.getElem?_map]
  cases sl[k]? with
  | none => rfl
  | some o => cases o <;> rfl
theorem wsF_1 {ad : Nat → Nat} {cA : Nat → ClassId} {n : Nat} {h : Shp} {d : DD} : wsF ad cA n [h] d = [(ad n, ent ad cA (d n) h)] := rfl
theorem mShp_ent {ad : Nat → Nat} {cA : Nat → ClassId} : ent ad cA (fun _ => 0) mShp = .inr (5, [.ref (ad 1), .int 0, .int 0, .int 0, .ref (ad 2), .int 0, .int 0, .int 0, .int 0, .ref (ad 3), .int 0, .int 0, .int 0, .int 0, .int 0, .int 0, .int 0, .int 0, .ref (ad 4), .ref (ad 5), .ref (ad 6), .ref (ad 7), .ref (ad 8), .ref (ad 9), .ref (ad 10), .ref (ad 11), .int 0, .ref (ad 12), .int 0, .int 0, .ref (ad 13), .ref (ad 14), .ref (ad 15), .ref (ad 16), .int 0]) := by
  show Sum.inr (5, slotsOf ad (fun _ => 0) [some 1, none, none, none, some 2, none, none, none, none, some 3, none, none, none, none, none, none, none, none, some 4, some 5, some 6, some 7, some 8, some 9, some 10, some 11, none, some 12, none, none, some 13, some 14, some 15, some 16, none]) = _
  rw [slotsOf_0]; rfl
set_option maxHeartbeats 2000000 in
set_option maxRecDepth 100000 in
theorem c_X5_init (cA : Nat → ClassId) : Ci MX5_init cA 16 988 5 [.null, .int 0, .int 0, .int 0, .null, .int 0, .int 0, .int 0, .int 0, .null, .int 0, .int 0, .int 0, .int 0, .int 0, .int 0, .int 0, .int 0, .null, .null, .null, .null, .null, .null, .null, .null, .int 0, .null, .int 0, .int 0, .null, .null, .null, .null, .int 0] (fun q0 w => ∃ ad : Nat → Nat, ad 0 = q0 ∧ w = wsOf ad cA SM dM0) := by
  refine ci_of (by decide) rfl rfl rfl (by decide) (fun q0 => ?_)
  refine g_aload_n dX5_init_0 rfl ?_
  refine g_obj dX5_init_1 w765 (by decide) (by decide) ?_
  refine g_aload_n dX5_init_4 rfl ?_
  refine g_sipush (v := 350) dX5_init_5 (by decide +kernel) ?_
  refine gh_newi (N := 350) dX5_init_8 (by decide +kernel) (by decide) (by decide) (by decide) (fun q8 => ?_)
  refine gh_putF 0 dX5_init_10 ck5 (by decide) w766 rfl rfl rfl rfl (Nat.le_of_ble_eq_true rfl) (fs2 := [.ref q8, .int 0, .int 0, .int 0, .null, .int 0, .int 0, .int 0, .int 0, .null, .int 0, .int 0, .int 0, .int 0, .int 0, .int 0, .int 0, .int 0, .null, .null, .null, .null, .null, .null, .null, .null, .int 0, .null, .int 0, .int 0, .null, .null, .null, .null, .int 0]) rfl ?_
  refine g_aload_n dX5_init_13 rfl ?_
  refine g_bipush (v := 70) dX5_init_14 (by decide +kernel) ?_
  refine gh_newi (N := 70) dX5_init_16 (by decide +kernel) (by decide) (by decide) (by decide) (fun q16 => ?_)
  refine gh_putF 4 dX5_init_18 ck5 (by decide) w770 rfl rfl rfl rfl (Nat.le_of_ble_eq_true rfl) (fs2 := [.ref q8, .int 0, .int 0, .int 0, .ref q16, .int 0, .int 0, .int 0, .int 0, .null, .int 0, .int 0, .int 0, .int 0, .int 0, .int 0, .int 0, .int 0, .null, .null, .null, .null, .null, .null, .null, .null, .int 0, .null, .int 0, .int 0, .null, .null, .null, .null, .int 0]) rfl ?_
  refine g_aload_n dX5_init_21 rfl ?_
  refine g_sipush (v := 160) dX5_init_22 (by decide +kernel) ?_
  refine gh_newi (N := 160) dX5_init_25 (by decide +kernel) (by decide) (by decide) (by decide) (fun q25 => ?_)
  refine gh_putF 9 dX5_init_27 ck5 (by decide) w775 rfl rfl rfl rfl (Nat.le_of_ble_eq_true rfl) (fs2 := [.ref q8, .int 0, .int 0, .int 0, .ref q16, .int 0, .int 0, .int 0, .int 0, .ref q25, .int 0, .int 0, .int 0, .int 0, .int 0, .int 0, .int 0, .int 0, .null, .null, .null, .null, .null, .null, .null, .null, .int 0, .null, .int 0, .int 0, .null, .null, .null, .null, .int 0]) rfl ?_
  refine g_aload_n dX5_init_30 rfl ?_
  refine g_bipush (v := 7) dX5_init_31 (by decide +kernel) ?_
  refine gh_newi (N := 7) dX5_init_33 (by decide +kernel) (by decide) (by decide) (by decide) (fun q33 => ?_)
  refine g_dup dX5_init_35 ?_
  refine g_iconst (v := 0) dX5_init_36 (by decide +kernel) ?_
  refine g_iconst (v := 0) dX5_init_37 (by decide +kernel) ?_
  refine gl_iast 0 dX5_init_38 (by decide +kernel) (by decide) (by decide) ?_
  refine g_dup dX5_init_39 ?_
  refine g_iconst (v := 1) dX5_init_40 (by decide +kernel) ?_
  refine g_iconst (v := 5) dX5_init_41 (by decide +kernel) ?_
  refine gl_iast 1 dX5_init_42 (by decide +kernel) (by decide) (by decide) ?_
  refine g_dup dX5_init_43 ?_
  refine g_iconst (v := 2) dX5_init_44 (by decide +kernel) ?_
  refine g_bipush (v := 10) dX5_init_45 (by decide +kernel) ?_
  refine gl_iast 2 dX5_init_47 (by decide +kernel) (by decide) (by decide) ?_
  refine g_dup dX5_init_48 ?_
  refine g_iconst (v := 3) dX5_init_49 (by decide +kernel) ?_
  refine g_bipush (v := 15) dX5_init_50 (by decide +kernel) ?_
  refine gl_iast 3 dX5_init_52 (by decide +kernel) (by decide) (by decide) ?_
  refine g_dup dX5_init_53 ?_
  refine g_iconst (v := 4) dX5_init_54 (by decide +kernel) ?_
  refine g_bipush (v := 22) dX5_init_55 (by decide +kernel) ?_
  refine gl_iast 4 dX5_init_57 (by decide +kernel) (by decide) (by decide) ?_
  refine g_dup dX5_init_58 ?_
  refine g_iconst (v := 5) dX5_init_59 (by decide +kernel) ?_
  refine g_bipush (v := 28) dX5_init_60 (by decide +kernel) ?_
  refine gl_iast 5 dX5_init_62 (by decide +kernel) (by decide) (by decide) ?_
  refine g_dup dX5_init_63 ?_
  refine g_bipush (v := 6) dX5_init_64 (by decide +kernel) ?_
  refine g_bipush (v := 33) dX5_init_66 (by decide +kernel) ?_
  refine gl_iast 6 dX5_init_68 (by decide +kernel) (by decide) (by decide) ?_
  refine gh_putF 18 dX5_init_69 ck5 (by decide) w784 rfl rfl rfl rfl (Nat.le_of_ble_eq_true rfl) (fs2 := [.ref q8, .int 0, .int 0, .int 0, .ref q16, .int 0, .int 0, .int 0, .int 0, .ref q25, .int 0, .int 0, .int 0, .int 0, .int 0, .int 0, .int 0, .int 0, .ref q33, .null, .null, .null, .null, .null, .null, .null, .int 0, .null, .int 0, .int 0, .null, .null, .null, .null, .int 0]) rfl ?_
  refine g_aload_n dX5_init_72 rfl ?_
  refine g_bipush (v := 33) dX5_init_73 (by decide +kernel) ?_
  refine gh_newi (N := 33) dX5_init_75 (by decide +kernel) (by decide) (by decide) (by decide) (fun q75 => ?_)
  refine g_dup dX5_init_77 ?_
  refine g_iconst (v := 0) dX5_init_78 (by decide +kernel) ?_
  refine g_bipush (v := 112) dX5_init_79 (by decide +kernel) ?_
  refine gl_iast 0 dX5_init_81 (by decide +kernel) (by decide) (by decide) ?_
  refine g_dup dX5_init_82 ?_
  refine g_iconst (v := 1) dX5_init_83 (by decide +kernel) ?_
  refine g_bipush (v := 108) dX5_init_84 (by decide +kernel) ?_
  refine gl_iast 1 dX5_init_86 (by decide +kernel) (by decide) (by decide) ?_
  refine g_dup dX5_init_87 ?_
  refine g_iconst (v := 2) dX5_init_88 (by decide +kernel) ?_
  refine g_bipush (v := 97) dX5_init_89 (by decide +kernel) ?_
  refine gl_iast 2 dX5_init_91 (by decide +kernel) (by decide) (by decide) ?_
  refine g_dup dX5_init_92 ?_
  refine g_iconst (v := 3) dX5_init_93 (by decide +kernel) ?_
  refine g_bipush (v := 105) dX5_init_94 (by decide +kernel) ?_
  refine gl_iast 3 dX5_init_96 (by decide +kernel) (by decide) (by decide) ?_
  refine g_dup dX5_init_97 ?_
  refine g_iconst (v := 4) dX5_init_98 (by decide +kernel) ?_
  refine g_bipush (v := 110) dX5_init_99 (by decide +kernel) ?_
  refine gl_iast 4 dX5_init_101 (by decide +kernel) (by decide) (by decide) ?_
  refine g_dup dX5_init_102 ?_
  refine g_iconst (v := 5) dX5_init_103 (by decide +kernel) ?_
  refine g_bipush (v := 114) dX5_init_104 (by decide +kernel) ?_
  refine gl_iast 5 dX5_init_106 (by decide +kernel) (by decide) (by decide) ?_
  refine g_dup dX5_init_107 ?_
  refine g_bipush (v := 6) dX5_init_108 (by decide +kernel) ?_
  refine g_bipush (v := 111) dX5_init_110 (by decide +kernel) ?_
  refine gl_iast 6 dX5_init_112 (by decide +kernel) (by decide) (by decide) ?_
  refine g_dup dX5_init_113 ?_
  refine g_bipush (v := 7) dX5_init_114 (by decide +kernel) ?_
  refine g_bipush (v := 110) dX5_init_116 (by decide +kernel) ?_
  refine gl_iast 7 dX5_init_118 (by decide +kernel) (by decide) (by decide) ?_
  refine g_dup dX5_init_119 ?_
  refine g_bipush (v := 8) dX5_init_120 (by decide +kernel) ?_
  refine g_bipush (v := 100) dX5_init_122 (by decide +kernel) ?_
  refine gl_iast 8 dX5_init_124 (by decide +kernel) (by decide) (by decide) ?_
  refine g_dup dX5_init_125 ?_
  refine g_bipush (v := 9) dX5_init_126 (by decide +kernel) ?_
  refine g_bipush (v := 111) dX5_init_128 (by decide +kernel) ?_
  refine gl_iast 9 dX5_init_130 (by decide +kernel) (by decide) (by decide) ?_
  refine g_dup dX5_init_131 ?_
  refine g_bipush (v := 10) dX5_init_132 (by decide +kernel) ?_
  refine g_bipush (v := 102) dX5_init_134 (by decide +kernel) ?_
  refine gl_iast 10 dX5_init_136 (by decide +kernel) (by decide) (by decide) ?_
  refine g_dup dX5_init_137 ?_
  refine g_bipush (v := 11) dX5_init_138 (by decide +kernel) ?_
  refine g_bipush (v := 117) dX5_init_140 (by decide +kernel) ?_
  refine gl_iast 11 dX5_init_142 (by decide +kernel) (by decide) (by decide) ?_
  refine g_dup dX5_init_143 ?_
  refine g_bipush (v := 12) dX5_init_144 (by decide +kernel) ?_
  refine g_bipush (v := 103) dX5_init_146 (by decide +kernel) ?_
  refine gl_iast 12 dX5_init_148 (by decide +kernel) (by decide) (by decide) ?_
  refine g_dup dX5_init_149 ?_
  refine g_bipush (v := 13) dX5_init_150 (by decide +kernel) ?_
  refine g_bipush (v := 117) dX5_init_152 (by decide +kernel) ?_
  refine gl_iast 13 dX5_init_154 (by decide +kernel) (by decide) (by decide) ?_
  refine g_dup dX5_init_155 ?_
  refine g_bipush (v := 14) dX5_init_156 (by decide +kernel) ?_
  refine g_bipush (v := 101) dX5_init_158 (by decide +kernel) ?_
  refine gl_iast 14 dX5_init_160 (by decide +kernel) (by decide) (by decide) ?_
  refine g_dup dX5_init_161 ?_
  refine g_bipush (v := 15) dX5_init_162 (by decide +kernel) ?_
  refine g_bipush (v := 108) dX5_init_164 (by decide +kernel) ?_
  refine gl_iast 15 dX5_init_166 (by decide +kernel) (by decide) (by decide) ?_
  refine g_dup dX5_init_167 ?_
  refine g_bipush (v := 16) dX5_init_168 (by decide +kernel) ?_
  refine g_bipush (v := 117) dX5_init_170 (by decide +kernel) ?_
  refine gl_iast 16 dX5_init_172 (by decide +kernel) (by decide) (by decide) ?_
  refine g_dup dX5_init_173 ?_
  refine g_bipush (v := 17) dX5_init_174 (by decide +kernel) ?_
  refine g_bipush (v := 108) dX5_init_176 (by decide +kernel) ?_
  refine gl_iast 17 dX5_init_178 (by decide +kernel) (by decide) (by decide) ?_
  refine g_dup dX5_init_179 ?_
  refine g_bipush (v := 18) dX5_init_180 (by decide +kernel) ?_
  refine g_bipush (v := 108) dX5_init_182 (by decide +kernel) ?_
  refine gl_iast 18 dX5_init_184 (by decide +kernel) (by decide) (by decide) ?_
  refine g_dup dX5_init_185 ?_
  refine g_bipush (v := 19) dX5_init_186 (by decide +kernel) ?_
  refine g_bipush (v := 97) dX5_init_188 (by decide +kernel) ?_
  refine gl_iast 19 dX5_init_190 (by decide +kernel) (by decide) (by decide) ?_
  refine g_dup dX5_init_191 ?_
  refine g_bipush (v := 20) dX5_init_192 (by decide +kernel) ?_
  refine g_bipush (v := 98) dX5_init_194 (by decide +kernel) ?_
  refine gl_iast 20 dX5_init_196 (by decide +kernel) (by decide) (by decide) ?_
  refine g_dup dX5_init_197 ?_
  refine g_bipush (v := 21) dX5_init_198 (by decide +kernel) ?_
  refine g_bipush (v := 121) dX5_init_200 (by decide +kernel) ?_
  refine gl_iast 21 dX5_init_202 (by decide +kernel) (by decide) (by decide) ?_
  refine g_dup dX5_init_203 ?_
  refine g_bipush (v := 22) dX5_init_204 (by decide +kernel) ?_
  refine g_bipush (v := 112) dX5_init_206 (by decide +kernel) ?_
  refine gl_iast 22 dX5_init_208 (by decide +kernel) (by decide) (by decide) ?_
  refine g_dup dX5_init_209 ?_
  refine g_bipush (v := 23) dX5_init_210 (by decide +kernel) ?_
  refine g_bipush (v := 108) dX5_init_212 (by decide +kernel) ?_
  refine gl_iast 23 dX5_init_214 (by decide +kernel) (by decide) (by decide) ?_
  refine g_dup dX5_init_215 ?_
  refine g_bipush (v := 24) dX5_init_216 (by decide +kernel) ?_
  refine g_bipush (v := 97) dX5_init_218 (by decide +kernel) ?_
  refine gl_iast 24 dX5_init_220 (by decide +kernel) (by decide) (by decide) ?_
  refine g_dup dX5_init_221 ?_
  refine g_bipush (v := 25) dX5_init_222 (by decide +kernel) ?_
  refine g_bipush (v := 121) dX5_init_224 (by decide +kernel) ?_
  refine gl_iast 25 dX5_init_226 (by decide +kernel) (by decide) (by decide) ?_
  refine g_dup dX5_init_227 ?_
  refine g_bipush (v := 26) dX5_init_228 (by decide +kernel) ?_
  refine g_bipush (v := 101) dX5_init_230 (by decide +kernel) ?_
  refine gl_iast 26 dX5_init_232 (by decide +kernel) (by decide) (by decide) ?_
  refine g_dup dX5_init_233 ?_
  refine g_bipush (v := 27) dX5_init_234 (by decide +kernel) ?_
  refine g_bipush (v := 114) dX5_init_236 (by decide +kernel) ?_
  refine gl_iast 27 dX5_init_238 (by decide +kernel) (by decide) (by decide) ?_
  refine g_dup dX5_init_239 ?_
  refine g_bipush (v := 28) dX5_init_240 (by decide +kernel) ?_
  refine g_bipush (v := 98) dX5_init_242 (by decide +kernel) ?_
  refine gl_iast 28 dX5_init_244 (by decide +kernel) (by decide) (by decide) ?_
  refine g_dup dX5_init_245 ?_
  refine g_bipush (v := 29) dX5_init_246 (by decide +kernel) ?_
  refine g_bipush (v := 111) dX5_init_248 (by decide +kernel) ?_
  refine gl_iast 29 dX5_init_250 (by decide +kernel) (by decide) (by decide) ?_
  refine g_dup dX5_init_251 ?_
  refine g_bipush (v := 30) dX5_init_252 (by decide +kernel) ?_
  refine g_bipush (v := 117) dX5_init_254 (by decide +kernel) ?_
  refine gl_iast 30 dX5_init_256 (by decide +kernel) (by decide) (by decide) ?_
  refine g_dup dX5_init_257 ?_
  refine g_bipush (v := 31) dX5_init_258 (by decide +kernel) ?_
  refine g_bipush (v := 110) dX5_init_260 (by decide +kernel) ?_
  refine gl_iast 31 dX5_init_262 (by decide +kernel) (by decide) (by decide) ?_
  refine g_dup dX5_init_263 ?_
  refine g_bipush (v := 32) dX5_init_264 (by decide +kernel) ?_
  refine g_bipush (v := 100) dX5_init_266 (by decide +kernel) ?_
  refine gl_iast 32 dX5_init_268 (by decide +kernel) (by decide) (by decide) ?_
  refine gh_putF 19 dX5_init_269 ck5 (by decide) w785 rfl rfl rfl rfl (Nat.le_of_ble_eq_true rfl) (fs2 := [.ref q8, .int 0, .int 0, .int 0, .ref q16, .int 0, .int 0, .int 0, .int 0, .ref q25, .int 0, .int 0, .int 0, .int 0, .int 0, .int 0, .int 0, .int 0, .ref q33, .ref q75, .null, .null, .null, .null, .null, .null, .int 0, .null, .int 0, .int 0, .null, .null, .null, .null, .int 0]) rfl ?_
  refine g_aload_n dX5_init_272 rfl ?_
  refine g_iconst (v := 4) dX5_init_273 (by decide +kernel) ?_
  refine gh_newi (N := 4) dX5_init_274 (by decide +kernel) (by decide) (by decide) (by decide) (fun q274 => ?_)
  refine gh_putF 20 dX5_init_276 ck5 (by decide) w786 rfl rfl rfl rfl (Nat.le_of_ble_eq_true rfl) (fs2 := [.ref q8, .int 0, .int 0, .int 0, .ref q16, .int 0, .int 0, .int 0, .int 0, .ref q25, .int 0, .int 0, .int 0, .int 0, .int 0, .int 0, .int 0, .int 0, .ref q33, .ref q75, .ref q274, .null, .null, .null, .null, .null, .int 0, .null, .int 0, .int 0, .null, .null, .null, .null, .int 0]) rfl ?_
  refine g_aload_n dX5_init_279 rfl ?_
  refine g_iconst (v := 4) dX5_init_280 (by decide +kernel) ?_
  refine gh_newi (N := 4) dX5_init_281 (by decide +kernel) (by decide) (by decide) (by decide) (fun q281 => ?_)
  refine gh_putF 21 dX5_init_283 ck5 (by decide) w787 rfl rfl rfl rfl (Nat.le_of_ble_eq_true rfl) (fs2 := [.ref q8, .int 0, .int 0, .int 0, .ref q16, .int 0, .int 0, .int 0, .int 0, .ref q25, .int 0, .int 0, .int 0, .int 0, .int 0, .int 0, .int 0, .int 0, .ref q33, .ref q75, .ref q274, .ref q281, .null, .null, .null, .null, .int 0, .null, .int 0, .int 0, .null, .null, .null, .null, .int 0]) rfl ?_
  refine g_aload_n dX5_init_286 rfl ?_
  refine g_iconst (v := 4) dX5_init_287 (by decide +kernel) ?_
  refine gh_newi (N := 4) dX5_init_288 (by decide +kernel) (by decide) (by decide) (by decide) (fun q288 => ?_)
  refine gh_putF 22 dX5_init_290 ck5 (by decide) w788 rfl rfl rfl rfl (Nat.le_of_ble_eq_true rfl) (fs2 := [.ref q8, .int 0, .int 0, .int 0, .ref q16, .int 0, .int 0, .int 0, .int 0, .ref q25, .int 0, .int 0, .int 0, .int 0, .int 0, .int 0, .int 0, .int 0, .ref q33, .ref q75, .ref q274, .ref q281, .ref q288, .null, .null, .null, .int 0, .null, .int 0, .int 0, .null, .null, .null, .null, .int 0]) rfl ?_
  refine g_aload_n dX5_init_293 rfl ?_
  refine g_iconst (v := 4) dX5_init_294 (by decide +kernel) ?_
  refine gh_newi (N := 4) dX5_init_295 (by decide +kernel) (by decide) (by decide) (by decide) (fun q295 => ?_)
  refine gh_putF 23 dX5_init_297 ck5 (by decide) w789 rfl rfl rfl rfl (Nat.le_of_ble_eq_true rfl) (fs2 := [.ref q8, .int 0, .int 0, .int 0, .ref q16, .int 0, .int 0, .int 0, .int 0, .ref q25, .int 0, .int 0, .int 0, .int 0, .int 0, .int 0, .int 0, .int 0, .ref q33, .ref q75, .ref q274, .ref q281, .ref q288, .ref q295, .null, .null, .int 0, .null, .int 0, .int 0, .null, .null, .null, .null, .int 0]) rfl ?_
  refine g_aload_n dX5_init_300 rfl ?_
  refine g_iconst (v := 4) dX5_init_301 (by decide +kernel) ?_
  refine gh_newi (N := 4) dX5_init_302 (by decide +kernel) (by decide) (by decide) (by decide) (fun q302 => ?_)
  refine gh_putF 24 dX5_init_304 ck5 (by decide) w790 rfl rfl rfl rfl (Nat.le_of_ble_eq_true rfl) (fs2 := [.ref q8, .int 0, .int 0, .int 0, .ref q16, .int 0, .int 0, .int 0, .int 0, .ref q25, .int 0, .int 0, .int 0, .int 0, .int 0, .int 0, .int 0, .int 0, .ref q33, .ref q75, .ref q274, .ref q281, .ref q288, .ref q295, .ref q302, .null, .int 0, .null, .int 0, .int 0, .null, .null, .null, .null, .int 0]) rfl ?_
  refine g_aload_n dX5_init_307 rfl ?_
  refine g_sipush (v := 160) dX5_init_308 (by decide +kernel) ?_
  refine gh_newi (N := 160) dX5_init_311 (by decide +kernel) (by decide) (by decide) (by decide) (fun q311 => ?_)
  refine gh_putF 25 dX5_init_313 ck5 (by decide) w791 rfl rfl rfl rfl (Nat.le_of_ble_eq_true rfl) (fs2 := [.ref q8, .int 0, .int 0, .int 0, .ref q16, .int 0, .int 0, .int 0, .int 0, .ref q25, .int 0, .int 0, .int 0, .int 0, .int 0, .int 0, .int 0, .int 0, .ref q33, .ref q75, .ref q274, .ref q281, .ref q288, .ref q295, .ref q302, .ref q311, .int 0, .null, .int 0, .int 0, .null, .null, .null, .null, .int 0]) rfl ?_
  refine g_aload_n dX5_init_316 rfl ?_
  refine g_bipush (v := 18) dX5_init_317 (by decide +kernel) ?_
  refine gh_newi (N := 18) dX5_init_319 (by decide +kernel) (by decide) (by decide) (by decide) (fun q319 => ?_)
  refine gh_putF 27 dX5_init_321 ck5 (by decide) w793 rfl rfl rfl rfl (Nat.le_of_ble_eq_true rfl) (fs2 := [.ref q8, .int 0, .int 0, .int 0, .ref q16, .int 0, .int 0, .int 0, .int 0, .ref q25, .int 0, .int 0, .int 0, .int 0, .int 0, .int 0, .int 0, .int 0, .ref q33, .ref q75, .ref q274, .ref q281, .ref q288, .ref q295, .ref q302, .ref q311, .int 0, .ref q319, .int 0, .int 0, .null, .null, .null, .null, .int 0]) rfl ?_
  refine g_aload_n dX5_init_324 rfl ?_
  refine g_iconst (v := 2) dX5_init_325 (by decide +kernel) ?_
  refine gh_newz (N := 2) dX5_init_326 (by decide +kernel) (by decide) (by decide) (by decide) (fun q326 => ?_)
  refine gh_putF 30 dX5_init_328 ck5 (by decide) w796 rfl rfl rfl rfl (Nat.le_of_ble_eq_true rfl) (fs2 := [.ref q8, .int 0, .int 0, .int 0, .ref q16, .int 0, .int 0, .int 0, .int 0, .ref q25, .int 0, .int 0, .int 0, .int 0, .int 0, .int 0, .int 0, .int 0, .ref q33, .ref q75, .ref q274, .ref q281, .ref q288, .ref q295, .ref q302, .ref q311, .int 0, .ref q319, .int 0, .int 0, .ref q326, .null, .null, .null, .int 0]) rfl ?_
  refine g_aload_n dX5_init_331 rfl ?_
  refine g_iconst (v := 4) dX5_init_332 (by decide +kernel) ?_
  refine gh_newi (N := 4) dX5_init_333 (by decide +kernel) (by decide) (by decide) (by decide) (fun q333 => ?_)
  refine g_dup dX5_init_335 ?_
  refine g_iconst (v := 0) dX5_init_336 (by decide +kernel) ?_
  refine g_bipush (v := (-4)) dX5_init_337 (by decide +kernel) ?_
  refine gl_iast 0 dX5_init_339 (by decide +kernel) (by decide) (by decide) ?_
  refine g_dup dX5_init_340 ?_
  refine g_iconst (v := 1) dX5_init_341 (by decide +kernel) ?_
  refine g_bipush (v := (-4)) dX5_init_342 (by decide +kernel) ?_
  refine gl_iast 1 dX5_init_344 (by decide +kernel) (by decide) (by decide) ?_
  refine g_dup dX5_init_345 ?_
  refine g_iconst (v := 2) dX5_init_346 (by decide +kernel) ?_
  refine g_bipush (v := (-4)) dX5_init_347 (by decide +kernel) ?_
  refine gl_iast 2 dX5_init_349 (by decide +kernel) (by decide) (by decide) ?_
  refine g_dup dX5_init_350 ?_
  refine g_iconst (v := 3) dX5_init_351 (by decide +kernel) ?_
  refine g_bipush (v := (-4)) dX5_init_352 (by decide +kernel) ?_
  refine gl_iast 3 dX5_init_354 (by decide +kernel) (by decide) (by decide) ?_
  refine gh_putF 31 dX5_init_355 ck5 (by decide) w797 rfl rfl rfl rfl (Nat.le_of_ble_eq_true rfl) (fs2 := [.ref q8, .int 0, .int 0, .int 0, .ref q16, .int 0, .int 0, .int 0, .int 0, .ref q25, .int 0, .int 0, .int 0, .int 0, .int 0, .int 0, .int 0, .int 0, .ref q33, .ref q75, .ref q274, .ref q281, .ref q288, .ref q295, .ref q302, .ref q311, .int 0, .ref q319, .int 0, .int 0, .ref q326, .ref q333, .null, .null, .int 0]) rfl ?_
  refine g_aload_n dX5_init_358 rfl ?_
  refine g_iconst (v := 4) dX5_init_359 (by decide +kernel) ?_
  refine gh_newi (N := 4) dX5_init_360 (by decide +kernel) (by decide) (by decide) (by decide) (fun q360 => ?_)
  refine gh_putF 32 dX5_init_362 ck5 (by decide) w798 rfl rfl rfl rfl (Nat.le_of_ble_eq_true rfl) (fs2 := [.ref q8, .int 0, .int 0, .int 0, .ref q16, .int 0, .int 0, .int 0, .int 0, .ref q25, .int 0, .int 0, .int 0, .int 0, .int 0, .int 0, .int 0, .int 0, .ref q33, .ref q75, .ref q274, .ref q281, .ref q288, .ref q295, .ref q302, .ref q311, .int 0, .ref q319, .int 0, .int 0, .ref q326, .ref q333, .ref q360, .null, .int 0]) rfl ?_
  refine g_aload_n dX5_init_365 rfl ?_
  refine g_sipush (v := 160) dX5_init_366 (by decide +kernel) ?_
  refine gh_newi (N := 160) dX5_init_369 (by decide +kernel) (by decide) (by decide) (by decide) (fun q369 => ?_)
  refine gh_putF 33 dX5_init_371 ck5 (by decide) w799 rfl rfl rfl rfl (Nat.le_of_ble_eq_true rfl) (fs2 := [.ref q8, .int 0, .int 0, .int 0, .ref q16, .int 0, .int 0, .int 0, .int 0, .ref q25, .int 0, .int 0, .int 0, .int 0, .int 0, .int 0, .int 0, .int 0, .ref q33, .ref q75, .ref q274, .ref q281, .ref q288, .ref q295, .ref q302, .ref q311, .int 0, .ref q319, .int 0, .int 0, .ref q326, .ref q333, .ref q360, .ref q369, .int 0]) rfl ?_
  refine g_ret dX5_init_374 (by decide) (by decide) ⟨fun k => [q0, q8, q16, q25, q33, q75, q274, q281, q288, q295, q302, q311, q319, q326, q333, q360, q369].getD k 0, rfl, ?_⟩
  generalize had : (fun k => [q0, q8, q16, q25, q33, q75, q274, q281, q288, q295, q302, q311, q319, q326, q333, q360, q369].getD k 0 : Nat → Nat) = ad
  have k0 : ad 0 = q0 := by rw [← had]; rfl
  have k1 : ad 1 = q8 := by rw [← had]; rfl
  have k2 : ad 2 = q16 := by rw [← had]; rfl
  have k3 : ad 3 = q25 := by rw [← had]; rfl
  have k4 : ad 4 = q33 := by rw [← had]; rfl
  have k5 : ad 5 = q75 := by rw [← had]; rfl
  have k6 : ad 6 = q274 := by rw [← had]; rfl
  have k7 : ad 7 = q281 := by rw [← had]; rfl
  have k8 : ad 8 = q288 := by rw [← had]; rfl
  have k9 : ad 9 = q295 := by rw [← had]; rfl
  have k10 : ad 10 = q302 := by rw [← had]; rfl
  have k11 : ad 11 = q311 := by rw [← had]; rfl
  have k12 : ad 12 = q319 := by rw [← had]; rfl
  have k13 : ad 13 = q326 := by rw [← had]; rfl
  have k14 : ad 14 = q333 := by rw [← had]; rfl
  have k15 : ad 15 = q360 := by rw [← had]; rfl
  have k16 : ad 16 = q369 := by rw [← had]; rfl
  clear had
  rw [wsF_0, sm_split]
  simp only [wsF_app]
  simp only [List.append_assoc, List.nil_append]
  have p0 : wsF ad cA 0 [mShp] dM0 = [(q0, .inr (5, [.ref q8, .int 0, .int 0, .int 0, .ref q16, .int 0, .int 0, .int 0, .int 0, .ref q25, .int 0, .int 0, .int 0, .int 0, .int 0, .int 0, .int 0, .int 0, .ref q33, .ref q75, .ref q274, .ref q281, .ref q288, .ref q295, .ref q302, .ref q311, .int 0, .ref q319, .int 0, .int 0, .ref q326, .ref q333, .ref q360, .ref q369, .int 0]))] := by
    rw [wsF_1, dM0_0, mShp_ent, k0, k1, k2, k3, k4, k5, k6, k7, k8, k9, k10, k11, k12, k13, k14, k15, k16]
  have p1 : wsF ad cA 1 [(0, 350, [])] dM0 = [(q8, .inl (cA 0, 350, .inl (fun _ => 0)))] := by
    rw [wsF_1, dM0_1, k1]; rfl
  have p2 : wsF ad cA 2 [(0, 70, [])] dM0 = [(q16, .inl (cA 0, 70, .inl (fun _ => 0)))] := by
    rw [wsF_1, dM0_2, k2]; rfl
  have p3 : wsF ad cA 3 [(0, 160, [])] dM0 = [(q25, .inl (cA 0, 160, .inl (fun _ => 0)))] := by
    rw [wsF_1, dM0_3, k3]; rfl
  have p4 : wsF ad cA 4 [(0, 7, [])] dM0 = [(q33, .inl (cA 0, 7, .inl (upd (upd (upd (upd (upd (upd (upd (fun _ => 0) 0 0) 1 5) 2 10) 3 15) 4 22) 5 28) 6 33)))] := by
    rw [wsF_1, dM0_4, k4]; rfl
  have p5 : wsF ad cA 5 [(0, 33, [])] dM0 = [(q75, .inl (cA 0, 33, .inl (upd (upd (upd (upd (upd (upd (upd (upd (upd (upd (upd (upd (upd (upd (upd (upd (upd (upd (upd (upd (upd (upd (upd (upd (upd (upd (upd (upd (upd (upd (upd (upd (upd (fun _ => 0) 0 112) 1 108) 2 97) 3 105) 4 110) 5 114) 6 111) 7 110) 8 100) 9 111) 10 102) 11 117) 12 103) 13 117) 14 101) 15 108) 16 117) 17 108) 18 108) 19 97) 20 98) 21 121) 22 112) 23 108) 24 97) 25 121) 26 101) 27 114) 28 98) 29 111) 30 117) 31 110) 32 100)))] := by
    rw [wsF_1, dM0_5, k5]; rfl
  have p6 : wsF ad cA 6 [(0, 4, [])] dM0 = [(q274, .inl (cA 0, 4, .inl (fun _ => 0)))] := by
    rw [wsF_1, dM0_6, k6]; rfl
  have p7 : wsF ad cA 7 [(0, 4, [])] dM0 = [(q281, .inl (cA 0, 4, .inl (fun _ => 0)))] := by
    rw [wsF_1, dM0_7, k7]; rfl
  have p8 : wsF ad cA 8 [(0, 4, [])] dM0 = [(q288, .inl (cA 0, 4, .inl (fun _ => 0)))] := by
    rw [wsF_1, dM0_8, k8]; rfl
  have p9 : wsF ad cA 9 [(0, 4, [])] dM0 = [(q295, .inl (cA 0, 4, .inl (fun _ => 0)))] := by
    rw [wsF_1, dM0_9, k9]; rfl
  have p10 : wsF ad cA 10 [(0, 4, [])] dM0 = [(q302, .inl (cA 0, 4, .inl (fun _ => 0)))] := by
    rw [wsF_1, dM0_10, k10]; rfl
  have p11 : wsF ad cA 11 [(0, 160, [])] dM0 = [(q311, .inl (cA 0, 160, .inl (fun _ => 0)))] := by
    rw [wsF_1, dM0_11, k11]; rfl
  have p12 : wsF ad cA 12 [(0, 18, [])] dM0 = [(q319, .inl (cA 0, 18, .inl (fun _ => 0)))] := by
    rw [wsF_1, dM0_12, k12]; rfl
  have p13 : wsF ad cA 13 [(1, 2, [])] dM0 = [(q326, .inl (cA 1, 2, .inl (fun _ => 0)))] := by
    rw [wsF_1, dM0_13, k13]; rfl
  have p14 : wsF ad cA 14 [(0, 4, [])] dM0 = [(q333, .inl (cA 0, 4, .inl (upd (upd (upd (upd (fun _ => 0) 0 (-4)) 1 (-4)) 2 (-4)) 3 (-4))))] := by
    rw [wsF_1, dM0_14, k14]; rfl
  have p15 : wsF ad cA 15 [(0, 4, [])] dM0 = [(q360, .inl (cA 0, 4, .inl (fun _ => 0)))] := by
    rw [wsF_1, dM0_15, k15]; rfl
  have p16 : wsF ad cA 16 [(0, 160, [])] dM0 = [(q369, .inl (cA 0, 160, .inl (fun _ => 0)))] := by
    rw [wsF_1, dM0_16, k16]; rfl
  refine Eq.trans ?_ (app2 p0 (app2 p1 (app2 p2 (app2 p3 (app2 p4 (app2 p5 (app2 p6 (app2 p7 (app2 p8 (app2 p9 (app2 p10 (app2 p11 (app2 p12 (app2 p13 (app2 p14 (app2 p15 (p16))))))))))))))))).symm
  simp only [List.cons_append, List.nil_append]
end
section
/-! ===== the first state of both ===== -/
def x00 : DD := fun _ _ => 0
theorem rel00 : Rel x00 dM0 := by
  have z0 : nI 0 = (0 : Int32) := rfl
  refine ⟨fun _ _ => 0, ?_, ?_, ?_, ?_, ?_, ?_, ?_, ?_, ?_, ?_, ?_⟩
  · exact ⟨Nat.zero_le _, Nat.zero_le _, Nat.zero_le _, fun t h => absurd h (Nat.not_lt_zero t), fun t h => absurd h (Nat.not_lt_zero t), fun t h => absurd h (Nat.not_lt_zero t)⟩
  · exact ⟨rfl, rfl, rfl, fun t h => absurd h (Nat.not_lt_zero t), fun t h => absurd h (Nat.not_lt_zero t), fun t h => absurd h (Nat.not_lt_zero t)⟩
  · exact ⟨by rw [dM0_0]; rfl, by rw [dM0_0]; rfl, by rw [dM0_0]; rfl, fun t h => absurd h (Nat.not_lt_zero t), fun t h => absurd h (Nat.not_lt_zero t), fun t h => absurd h (Nat.not_lt_zero t)⟩
  · exact ⟨0, (by omega), rfl, by rw [dM0_0]; rfl, fun i h => absurd h (Nat.not_lt_zero i)⟩
  · exact ⟨0, (by omega), rfl, by rw [dM0_0]; rfl, fun i h => absurd h (Nat.not_lt_zero i)⟩
  · exact fun k hk => Or.inl ⟨rfl, by rw [dM0_13]; rfl⟩
  · intro k hk
    refine Or.inl ⟨rfl, ?_⟩
    rw [dM0_14]
    match k, hk with
    | 0, _ => rfl
    | 1, _ => rfl
    | 2, _ => rfl
    | 3, _ => rfl
  · refine ⟨fun i hi => ?_, fun i hi => ?_⟩
    · rw [dM0_4]
      match i, hi with
      | 0, _ => rfl
      | 1, _ => rfl
      | 2, _ => rfl
      | 3, _ => rfl
      | 4, _ => rfl
      | 5, _ => rfl
      | 6, _ => rfl
    · rw [dM0_5]
      have : ∀ i : Fin 33, (upd (upd (upd (upd (upd (upd (upd (upd (upd (upd (upd (upd (upd (upd (upd (upd (upd (upd (upd (upd (upd (upd (upd (upd (upd (upd (upd (upd (upd (upd (upd (upd (upd (fun _ => 0) 0 112) 1 108) 2 97) 3 105) 4 110) 5 114) 6 111) 7 110) 8 100) 9 111) 10 102) 11 117) 12 103) 13 117) 14 101) 15 108) 16 117) 17 108) 18 108) 19 97) 20 98) 21 121) 22 112) 23 108) 24 97) 25 121) 26 101) 27 114) 28 98) 29 111) 30 117) 31 110) 32 100) i.1 = lettC.getD i.1 0 := by decide +kernel
      exact this ⟨i, hi⟩
  · rw [dM0_0]; rfl
  · rw [dM0_0]; exact Or.inl rfl
  · rw [dM0_0]; rfl
end
section
/-! THE CLAIM OUT OF ONE WALK OF THE LAW'S BODY. Your part is whole_start (and what it stands on); all else here is the same for every law, but numbers. -/
def R_law : String := "TuneWardLaw"
def lw_P (b : Addr) (xs : List Int32) (args : Array Value) (s : State) : Prop := args = #[.ref b] ∧ s.IntsAt b xs ∧ xs.length ≤ 320 ∧ (Jvm.Cond.and given_1 narrow_1).before args s = true
def lw_Q (_ : Array Value) (s : State) (o : Outcome) (t : State) : Prop := o = .returned (some (.int 1)) ∧ Framed s o t [] 600000 7302250
def lw_Z (below : List Frame) (a : Array Value) (s : State) : State → Prop := fun t => ∃ o, t.status = .running ∧ Ended t below o ∧ lw_Q a s o t
/-- the law's own end, with 1 on the stack, nothing written that was there before, its room as the claim has it -/
theorem lw_ret {p : Program} {l : Launch} {e : Env} {s : State} {m : MethodId} {below : List Frame} {meth : Method} {c : Code} {b : Nat} (hx : p.tables.exec = Jvm.exec) (hb : c.code = code) (hr : meth.sig.returnType = ret) (hlocks : meth.locks = false) {pc : Nat} {H : Heap} {ls : Array Slot} (hdg : decode code pc = .ok (.ireturn, 1)) : W p l e room_1 s m #[Value.ref b] below meth c H [] 600000 7302250 (lw_Z below #[Value.ref b] s) (F0 m pc ls [.int 1]) := by
  intro T hT X
  obtain ⟨fs, hret, hrun, hended, hW, hframe⟩ := X.leave (v := some (.int 1)) (hlocks := hlocks) (fun h => by rw [hr] at h; cases h)
  have hmeth' : T.vm.method? m = some meth := X.method'
  refine ⟨T.setFrames fs, ?_, .returned (some (.int 1)), hrun, hended, rfl, ⟨_, rfl⟩, hW, hframe⟩
  jvm_step X.here [X.here.top, hx, hb, hdg, hmeth', hr, ret, narrow_b1]
  (try refine ⟨rfl, ?_⟩); (try refine ⟨rfl, ?_⟩)
  first | (intro acts; rw [hret _ acts rfl rfl rfl]) | rw [hret _ _ rfl rfl rfl]
  exact Steps.refl _
/-- what holds at the law's entry: the machine, the code, the tables' words (any of lw_tbl by 'hts w (by decide +kernel)'), the script of L ints xs at the cell b, what the Statement gives of the start (any of its parts by flat_of_before) -/
def lw_At (p : Program) (s : State) (m : MethodId) (meth : Method) (c : Code) (b L : Nat) (xs : Nat → Int32) : Prop :=
  p.tables.exec = Jvm.exec ∧ c.code = code ∧ meth.sig.returnType = ret ∧ c.maxLocals = 4 ∧ s.vm.findClass R_law = some m.cls ∧ (∀ w ∈ lw_tbl, w.before #[Value.ref b] s = true) ∧ va_X b L xs s s.heap ∧ b < s.heap.size ∧ meth.locks = false ∧ (Jvm.Cond.and given_1 narrow_1).before #[Value.ref b] s = true
end
