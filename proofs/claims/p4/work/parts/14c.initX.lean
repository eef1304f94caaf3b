/-! ===== the class's constructor ===== -/
theorem dX4_init_0 : decode cX4_init 0 = .ok (.aload_n 0, 1) := by decide +kernel
theorem dX4_init_1 : decode cX4_init 1 = .ok (.invokespecial 1, 3) := by decide +kernel
theorem dX4_init_4 : decode cX4_init 4 = .ok (.aload_n 0, 1) := by decide +kernel
theorem dX4_init_5 : decode cX4_init 5 = .ok (.new 7, 3) := by decide +kernel
theorem dX4_init_8 : decode cX4_init 8 = .ok (.dup, 1) := by decide +kernel
theorem dX4_init_9 : decode cX4_init 9 = .ok (.invokespecial 9, 3) := by decide +kernel
theorem dX4_init_12 : decode cX4_init 12 = .ok (.putfield 10, 3) := by decide +kernel
theorem dX4_init_15 : decode cX4_init 15 = .ok (.aload_n 0, 1) := by decide +kernel
theorem dX4_init_16 : decode cX4_init 16 = .ok (.new 7, 3) := by decide +kernel
theorem dX4_init_19 : decode cX4_init 19 = .ok (.dup, 1) := by decide +kernel
theorem dX4_init_20 : decode cX4_init 20 = .ok (.invokespecial 9, 3) := by decide +kernel
theorem dX4_init_23 : decode cX4_init 23 = .ok (.putfield 16, 3) := by decide +kernel
theorem dX4_init_26 : decode cX4_init 26 = .ok (.aload_n 0, 1) := by decide +kernel
theorem dX4_init_27 : decode cX4_init 27 = .ok (.new 7, 3) := by decide +kernel
theorem dX4_init_30 : decode cX4_init 30 = .ok (.dup, 1) := by decide +kernel
theorem dX4_init_31 : decode cX4_init 31 = .ok (.invokespecial 9, 3) := by decide +kernel
theorem dX4_init_34 : decode cX4_init 34 = .ok (.putfield 19, 3) := by decide +kernel
theorem dX4_init_37 : decode cX4_init 37 = .ok (.aload_n 0, 1) := by decide +kernel
theorem dX4_init_38 : decode cX4_init 38 = .ok (.iconst 2, 1) := by decide +kernel
theorem dX4_init_39 : decode cX4_init 39 = .ok (.anewarray 7, 3) := by decide +kernel
theorem dX4_init_42 : decode cX4_init 42 = .ok (.putfield 22, 3) := by decide +kernel
theorem dX4_init_45 : decode cX4_init 45 = .ok (.aload_n 0, 1) := by decide +kernel
theorem dX4_init_46 : decode cX4_init 46 = .ok (.iconst 2, 1) := by decide +kernel
theorem dX4_init_47 : decode cX4_init 47 = .ok (.newarray .boolean, 2) := by decide +kernel
theorem dX4_init_49 : decode cX4_init 49 = .ok (.putfield 26, 3) := by decide +kernel
theorem dX4_init_52 : decode cX4_init 52 = .ok (.aload_n 0, 1) := by decide +kernel
theorem dX4_init_53 : decode cX4_init 53 = .ok (.new 30, 3) := by decide +kernel
theorem dX4_init_56 : decode cX4_init 56 = .ok (.dup, 1) := by decide +kernel
theorem dX4_init_57 : decode cX4_init 57 = .ok (.invokespecial 32, 3) := by decide +kernel
theorem dX4_init_60 : decode cX4_init 60 = .ok (.putfield 33, 3) := by decide +kernel
theorem dX4_init_63 : decode cX4_init 63 = .ok (.aload_n 0, 1) := by decide +kernel
theorem dX4_init_64 : decode cX4_init 64 = .ok (.new 37, 3) := by decide +kernel
theorem dX4_init_67 : decode cX4_init 67 = .ok (.dup, 1) := by decide +kernel
theorem dX4_init_68 : decode cX4_init 68 = .ok (.invokespecial 39, 3) := by decide +kernel
theorem dX4_init_71 : decode cX4_init 71 = .ok (.putfield 40, 3) := by decide +kernel
theorem dX4_init_74 : decode cX4_init 74 = .ok (.aload_n 0, 1) := by decide +kernel
theorem dX4_init_75 : decode cX4_init 75 = .ok (.iconst 4, 1) := by decide +kernel
theorem dX4_init_76 : decode cX4_init 76 = .ok (.anewarray 44, 3) := by decide +kernel
theorem dX4_init_79 : decode cX4_init 79 = .ok (.putfield 46, 3) := by decide +kernel
theorem dX4_init_82 : decode cX4_init 82 = .ok (.aload_n 0, 1) := by decide +kernel
theorem dX4_init_83 : decode cX4_init 83 = .ok (.bipush 6, 2) := by decide +kernel
theorem dX4_init_85 : decode cX4_init 85 = .ok (.newarray .int, 2) := by decide +kernel
theorem dX4_init_87 : decode cX4_init 87 = .ok (.putfield 50, 3) := by decide +kernel
theorem dX4_init_90 : decode cX4_init 90 = .ok (.aload_n 0, 1) := by decide +kernel
theorem dX4_init_91 : decode cX4_init 91 = .ok (.bipush 6, 2) := by decide +kernel
theorem dX4_init_93 : decode cX4_init 93 = .ok (.newarray .int, 2) := by decide +kernel
theorem dX4_init_95 : decode cX4_init 95 = .ok (.putfield 54, 3) := by decide +kernel
theorem dX4_init_98 : decode cX4_init 98 = .ok (.aload_n 0, 1) := by decide +kernel
theorem dX4_init_99 : decode cX4_init 99 = .ok (.bipush 6, 2) := by decide +kernel
theorem dX4_init_101 : decode cX4_init 101 = .ok (.newarray .int, 2) := by decide +kernel
theorem dX4_init_103 : decode cX4_init 103 = .ok (.putfield 57, 3) := by decide +kernel
theorem dX4_init_106 : decode cX4_init 106 = .ok (.aload_n 0, 1) := by decide +kernel
theorem dX4_init_107 : decode cX4_init 107 = .ok (.iconst 0, 1) := by decide +kernel
theorem dX4_init_108 : decode cX4_init 108 = .ok (.putfield 60, 3) := by decide +kernel
theorem dX4_init_111 : decode cX4_init 111 = .ok (.aload_n 0, 1) := by decide +kernel
theorem dX4_init_112 : decode cX4_init 112 = .ok (.iconst 0, 1) := by decide +kernel
theorem dX4_init_113 : decode cX4_init 113 = .ok (.putfield 64, 3) := by decide +kernel
theorem dX4_init_116 : decode cX4_init 116 = .ok (.iconst 0, 1) := by decide +kernel
theorem dX4_init_117 : decode cX4_init 117 = .ok (.istore_n 1, 1) := by decide +kernel
theorem dX4_init_118 : decode cX4_init 118 = .ok (.iload_n 1, 1) := by decide +kernel
theorem dX4_init_119 : decode cX4_init 119 = .ok (.iconst 2, 1) := by decide +kernel
theorem dX4_init_120 : decode cX4_init 120 = .ok (.if_icmp .ge 22, 3) := by decide +kernel
theorem dX4_init_123 : decode cX4_init 123 = .ok (.aload_n 0, 1) := by decide +kernel
theorem dX4_init_124 : decode cX4_init 124 = .ok (.getfield 22, 3) := by decide +kernel
theorem dX4_init_127 : decode cX4_init 127 = .ok (.iload_n 1, 1) := by decide +kernel
theorem dX4_init_128 : decode cX4_init 128 = .ok (.new 7, 3) := by decide +kernel
theorem dX4_init_131 : decode cX4_init 131 = .ok (.dup, 1) := by decide +kernel
theorem dX4_init_132 : decode cX4_init 132 = .ok (.invokespecial 9, 3) := by decide +kernel
theorem dX4_init_135 : decode cX4_init 135 = .ok (.aastore, 1) := by decide +kernel
theorem dX4_init_136 : decode cX4_init 136 = .ok (.iinc 1 1, 3) := by decide +kernel
theorem dX4_init_139 : decode cX4_init 139 = .ok (.goto (-21), 3) := by decide +kernel
theorem dX4_init_142 : decode cX4_init 142 = .ok (.iconst 0, 1) := by decide +kernel
theorem dX4_init_143 : decode cX4_init 143 = .ok (.istore_n 1, 1) := by decide +kernel
theorem dX4_init_144 : decode cX4_init 144 = .ok (.iload_n 1, 1) := by decide +kernel
theorem dX4_init_145 : decode cX4_init 145 = .ok (.iconst 4, 1) := by decide +kernel
theorem dX4_init_146 : decode cX4_init 146 = .ok (.if_icmp .ge 22, 3) := by decide +kernel
theorem dX4_init_149 : decode cX4_init 149 = .ok (.aload_n 0, 1) := by decide +kernel
theorem dX4_init_150 : decode cX4_init 150 = .ok (.getfield 46, 3) := by decide +kernel
theorem dX4_init_153 : decode cX4_init 153 = .ok (.iload_n 1, 1) := by decide +kernel
theorem dX4_init_154 : decode cX4_init 154 = .ok (.new 44, 3) := by decide +kernel
theorem dX4_init_157 : decode cX4_init 157 = .ok (.dup, 1) := by decide +kernel
theorem dX4_init_158 : decode cX4_init 158 = .ok (.invokespecial 67, 3) := by decide +kernel
theorem dX4_init_161 : decode cX4_init 161 = .ok (.aastore, 1) := by decide +kernel
theorem dX4_init_162 : decode cX4_init 162 = .ok (.iinc 1 1, 3) := by decide +kernel
theorem dX4_init_165 : decode cX4_init 165 = .ok (.goto (-21), 3) := by decide +kernel
theorem dX4_init_168 : decode cX4_init 168 = .ok (.return_, 1) := by decide +kernel
def MX4_init : MM := (RX4, yX4_init, cX4_init, 2, none, 0, 2, 32)
theorem raw_X4 : ∀ j, j < 13 → defaultValue (tyX4 j) = vp_V [.null, .null, .null, .null, .null, .null, .null, .null, .null, .null, .null, .int 0, .int 0] j := by
  intro j hj
  match j, hj with
  | 0, _ => rfl
  | 1, _ => rfl
  | 2, _ => rfl
  | 3, _ => rfl
  | 4, _ => rfl
  | 5, _ => rfl
  | 6, _ => rfl
  | 7, _ => rfl
  | 8, _ => rfl
  | 9, _ => rfl
  | 10, _ => rfl
  | 11, _ => rfl
  | 12, _ => rfl
  | n + 13, h => exact absurd h (by omega)
def hShp (b : Nat) : List Shp := [(4, 0, [none, none, none, some (b + 1), some (b + 2), some (b + 3), some (b + 4), some (b + 5), some (b + 6), some (b + 7), some (b + 8), some (b + 9), some (b + 10)]), (0, 4, []), (0, 4, []), (0, 4, []), (0, 4, []), (0, 32, []), (0, 4, []), (0, 4, []), (0, 4, []), (0, 4, []), (0, 6, [])]
def sShp (b : Nat) : List Shp := [(4, 2, [none, none, none, some (b + 1)]), (0, 40, [])]
def xShp : Shp := SX.getD 0 (0, 0, [])
def tShp : List Shp := [SX.getD 36 (0, 0, []), SX.getD 37 (0, 0, [])]
def yShp : List Shp := (SX.drop 38).take 10
theorem sx_split : SX = [xShp] ++ (hShp 1 ++ (hShp 12 ++ (hShp 23 ++ ([(2, 2, [some 52, some 63])] ++ ([(1, 2, [])] ++ (tShp ++ (yShp ++ ([(3, 4, [some 74, some 76, some 78, some 80])] ++ ([(0, 6, [])] ++ ([(0, 6, [])] ++ ([(0, 6, [])] ++ (hShp 52 ++ (hShp 63 ++ (sShp 74 ++ (sShp 76 ++ (sShp 78 ++ sShp 80)))))))))))))))) := by decide +kernel
theorem app2 {a a' b b' : va_W} (h1 : a = a') (h2 : b = b') : a ++ b = a' ++ b' := by rw [h1, h2]
theorem ref2 {ad : Nat → Nat} {a b : Nat} (h0 : ad 52 = a) (h1 : ad 63 = b) : refsOf ad [some 52, some 63] = va_up (va_up (fun _ => none) 0 (some a)) 1 (some b) := by
  funext j
  match j with
  | 0 => show some (ad 52) = _; rw [h0]; rfl
  | 1 => show some (ad 63) = _; rw [h1]; rfl
  | n + 2 => rfl
theorem ref4 {ad : Nat → Nat} {a b c d : Nat} (h0 : ad 74 = a) (h1 : ad 76 = b) (h2 : ad 78 = c) (h3 : ad 80 = d) : refsOf ad [some 74, some 76, some 78, some 80] = va_up (va_up (va_up (va_up (fun _ => none) 0 (some a)) 1 (some b)) 2 (some c)) 3 (some d) := by
  funext j
  match j with
  | 0 => show some (ad 74) = _; rw [h0]; rfl
  | 1 => show some (ad 76) = _; rw [h1]; rfl
  | 2 => show some (ad 78) = _; rw [h2]; rfl
  | 3 => show some (ad 80) = _; rw [h3]; rfl
  | n + 4 => rfl
set_option maxHeartbeats 2000000 in
set_option maxRecDepth 100000 in
theorem c_X4_init (cA : Nat → ClassId) : Ci MX4_init cA 81 890 4 [.null, .null, .null, .null, .null, .null, .null, .null, .null, .null, .null, .int 0, .int 0] (fun q0 w => ∃ ad : Nat → Nat, ad 0 = q0 ∧ w.Perm (wsOf ad cA SX (fun _ _ => 0))) := by
  refine ci_of (by decide) rfl rfl rfl (by decide) (fun q0 => ?_)
  refine g_aload_n dX4_init_0 rfl ?_
  refine g_obj dX4_init_1 w72 (by decide) (by decide) ?_
  refine g_aload_n dX4_init_4 rfl ?_
  refine gh_new (fs := [.int 0, .int 0, .int 0, .null, .null, .null, .null, .null, .null, .null, .null, .null, .null]) dX4_init_5 ck0 w75 w76 w55 raw_X0 (by decide) (by decide) (fun q5_3 => ?_)
  refine g_dup dX4_init_8 ?_
  refine gh_ninit (j0 := 0) dX4_init_9 (c_X0_init cA) rfl rfl rfl w78 w55 w79 (by decide +kernel) ⟨by decide, by decide⟩ (Nat.le_of_ble_eq_true rfl) (by decide) (by decide) (fun w hw => ?_)
  obtain ⟨a0, rfl⟩ := hw
  refine gh_putF 0 dX4_init_12 ck4 (by decide) w256 rfl rfl rfl rfl (Nat.le_of_ble_eq_true rfl) (fs2 := [.ref q5_3, .null, .null, .null, .null, .null, .null, .null, .null, .null, .null, .int 0, .int 0]) rfl ?_
  refine g_aload_n dX4_init_15 rfl ?_
  refine gh_new (fs := [.int 0, .int 0, .int 0, .null, .null, .null, .null, .null, .null, .null, .null, .null, .null]) dX4_init_16 ck0 w75 w76 w55 raw_X0 (by decide) (by decide) (fun q16_8 => ?_)
  refine g_dup dX4_init_19 ?_
  refine gh_ninit (j0 := 0) dX4_init_20 (c_X0_init cA) rfl rfl rfl w78 w55 w79 (by decide +kernel) ⟨by decide, by decide⟩ (Nat.le_of_ble_eq_true rfl) (by decide) (by decide) (fun w hw => ?_)
  obtain ⟨a1, rfl⟩ := hw
  refine gh_putF 1 dX4_init_23 ck4 (by decide) w257 rfl rfl rfl rfl (Nat.le_of_ble_eq_true rfl) (fs2 := [.ref q5_3, .ref q16_8, .null, .null, .null, .null, .null, .null, .null, .null, .null, .int 0, .int 0]) rfl ?_
  refine g_aload_n dX4_init_26 rfl ?_
  refine gh_new (fs := [.int 0, .int 0, .int 0, .null, .null, .null, .null, .null, .null, .null, .null, .null, .null]) dX4_init_27 ck0 w75 w76 w55 raw_X0 (by decide) (by decide) (fun q27_13 => ?_)
  refine g_dup dX4_init_30 ?_
  refine gh_ninit (j0 := 0) dX4_init_31 (c_X0_init cA) rfl rfl rfl w78 w55 w79 (by decide +kernel) ⟨by decide, by decide⟩ (Nat.le_of_ble_eq_true rfl) (by decide) (by decide) (fun w hw => ?_)
  obtain ⟨a2, rfl⟩ := hw
  refine gh_putF 2 dX4_init_34 ck4 (by decide) w258 rfl rfl rfl rfl (Nat.le_of_ble_eq_true rfl) (fs2 := [.ref q5_3, .ref q16_8, .ref q27_13, .null, .null, .null, .null, .null, .null, .null, .null, .int 0, .int 0]) rfl ?_
  refine g_aload_n dX4_init_37 rfl ?_
  refine g_iconst (v := 2) dX4_init_38 (by decide +kernel) ?_
  refine gh_newq (N := 2) (t := 2) dX4_init_39 w75 (Or.inl ⟨rfl, rfl⟩) (by decide +kernel) (by decide) (by decide) (by decide) (fun q39 => ?_)
  refine gh_putF 3 dX4_init_42 ck4 (by decide) w259 rfl rfl rfl rfl (Nat.le_of_ble_eq_true rfl) (fs2 := [.ref q5_3, .ref q16_8, .ref q27_13, .ref q39, .null, .null, .null, .null, .null, .null, .null, .int 0, .int 0]) rfl ?_
  refine g_aload_n dX4_init_45 rfl ?_
  refine g_iconst (v := 2) dX4_init_46 (by decide +kernel) ?_
  refine gh_newz (N := 2) dX4_init_47 (by decide +kernel) (by decide) (by decide) (by decide) (fun q47 => ?_)
  refine gh_putF 4 dX4_init_49 ck4 (by decide) w260 rfl rfl rfl rfl (Nat.le_of_ble_eq_true rfl) (fs2 := [.ref q5_3, .ref q16_8, .ref q27_13, .ref q39, .ref q47, .null, .null, .null, .null, .null, .null, .int 0, .int 0]) rfl ?_
  refine g_aload_n dX4_init_52 rfl ?_
  refine gh_new (fs := [.null, .int 0, .int 0, .int 0, .int 0, .int 0, .int 0]) dX4_init_53 ck3 w160 w161 w56 raw_X3 (by decide) (by decide) (fun q53_26 => ?_)
  refine g_dup dX4_init_56 ?_
  refine gh_ninit (j0 := 1) dX4_init_57 (c_X3_init cA) rfl rfl rfl w163 w56 w164 (by decide +kernel) ⟨by decide, by decide⟩ (Nat.le_of_ble_eq_true rfl) (by decide) (by decide) (fun w hw => ?_)
  obtain ⟨a3, rfl⟩ := hw
  refine gh_putF 5 dX4_init_60 ck4 (by decide) w261 rfl rfl rfl rfl (Nat.le_of_ble_eq_true rfl) (fs2 := [.ref q5_3, .ref q16_8, .ref q27_13, .ref q39, .ref q47, .ref q53_26, .null, .null, .null, .null, .null, .int 0, .int 0]) rfl ?_
  refine g_aload_n dX4_init_63 rfl ?_
  refine gh_new (fs := [.null, .null, .null, .null, .null, .null, .null, .null, .null, .int 0]) dX4_init_64 ck1 w191 w192 w57 raw_X1 (by decide) (by decide) (fun q64_31 => ?_)
  refine g_dup dX4_init_67 ?_
  refine gh_ninit (j0 := 2) dX4_init_68 (c_X1_init cA) rfl rfl rfl w194 w57 w195 (by decide +kernel) ⟨by decide, by decide⟩ (Nat.le_of_ble_eq_true rfl) (by decide) (by decide) (fun w hw => ?_)
  obtain ⟨a4, rfl⟩ := hw
  refine gh_putF 6 dX4_init_71 ck4 (by decide) w262 rfl rfl rfl rfl (Nat.le_of_ble_eq_true rfl) (fs2 := [.ref q5_3, .ref q16_8, .ref q27_13, .ref q39, .ref q47, .ref q53_26, .ref q64_31, .null, .null, .null, .null, .int 0, .int 0]) rfl ?_
  refine g_aload_n dX4_init_74 rfl ?_
  refine g_iconst (v := 4) dX4_init_75 (by decide +kernel) ?_
  refine gh_newq (N := 4) (t := 3) dX4_init_76 w232 (Or.inr ⟨rfl, rfl⟩) (by decide +kernel) (by decide) (by decide) (by decide) (fun q76 => ?_)
  refine Gv.perm (w2 := (q0, .inr (4, [.ref q5_3, .ref q16_8, .ref q27_13, .ref q39, .ref q47, .ref q53_26, .ref q64_31, .null, .null, .null, .null, .int 0, .int 0])) :: (q39, .inl (cA 2, 2, .inr (.inr (.inr (.inr (fun _ => none)))))) :: (q76, .inl (cA 3, 4, .inr (.inr (.inr (.inr (fun _ => none)))))) :: (([] ++ wH cA q5_3 a0 ++ wH cA q16_8 a1 ++ wH cA q27_13 a2) ++ ([(q47, .inl (cA 1, 2, .inl (fun _ => 0)))] ++ wT3 cA q53_26 a3 ++ wY cA q64_31 a4))) (by have := @pm_in (q0, .inr (4, [.ref q5_3, .ref q16_8, .ref q27_13, .ref q39, .ref q47, .ref q53_26, .ref q64_31, .null, .null, .null, .null, .int 0, .int 0])) (q39, .inl (cA 2, 2, .inr (.inr (.inr (.inr (fun _ => none)))))) (q76, .inl (cA 3, 4, .inr (.inr (.inr (.inr (fun _ => none)))))) ([] ++ wH cA q5_3 a0 ++ wH cA q16_8 a1 ++ wH cA q27_13 a2) ([(q47, .inl (cA 1, 2, .inl (fun _ => 0)))] ++ wT3 cA q53_26 a3 ++ wY cA q64_31 a4); simpa only [List.append_assoc, List.nil_append] using this) ?_
  refine gh_putF 7 dX4_init_79 ck4 (by decide) w263 rfl rfl rfl rfl (Nat.le_of_ble_eq_true rfl) (fs2 := [.ref q5_3, .ref q16_8, .ref q27_13, .ref q39, .ref q47, .ref q53_26, .ref q64_31, .ref q76, .null, .null, .null, .int 0, .int 0]) rfl ?_
  refine g_aload_n dX4_init_82 rfl ?_
  refine g_bipush (v := 6) dX4_init_83 (by decide +kernel) ?_
  refine gk_newi (N := 6) dX4_init_85 (by decide +kernel) (by decide) (by decide) (by decide) (fun q85 => ?_)
  refine gh_putF 8 dX4_init_87 ck4 (by decide) w264 rfl rfl rfl rfl (Nat.le_of_ble_eq_true rfl) (fs2 := [.ref q5_3, .ref q16_8, .ref q27_13, .ref q39, .ref q47, .ref q53_26, .ref q64_31, .ref q76, .ref q85, .null, .null, .int 0, .int 0]) rfl ?_
  refine g_aload_n dX4_init_90 rfl ?_
  refine g_bipush (v := 6) dX4_init_91 (by decide +kernel) ?_
  refine gk_newi (N := 6) dX4_init_93 (by decide +kernel) (by decide) (by decide) (by decide) (fun q93 => ?_)
  refine gh_putF 9 dX4_init_95 ck4 (by decide) w265 rfl rfl rfl rfl (Nat.le_of_ble_eq_true rfl) (fs2 := [.ref q5_3, .ref q16_8, .ref q27_13, .ref q39, .ref q47, .ref q53_26, .ref q64_31, .ref q76, .ref q85, .ref q93, .null, .int 0, .int 0]) rfl ?_
  refine g_aload_n dX4_init_98 rfl ?_
  refine g_bipush (v := 6) dX4_init_99 (by decide +kernel) ?_
  refine gk_newi (N := 6) dX4_init_101 (by decide +kernel) (by decide) (by decide) (by decide) (fun q101 => ?_)
  refine gh_putF 10 dX4_init_103 ck4 (by decide) w266 rfl rfl rfl rfl (Nat.le_of_ble_eq_true rfl) (fs2 := [.ref q5_3, .ref q16_8, .ref q27_13, .ref q39, .ref q47, .ref q53_26, .ref q64_31, .ref q76, .ref q85, .ref q93, .ref q101, .int 0, .int 0]) rfl ?_
  refine g_aload_n dX4_init_106 rfl ?_
  refine g_iconst (v := 0) dX4_init_107 (by decide +kernel) ?_
  refine gh_put 11 dX4_init_108 ck4 (by decide) w267 rfl rfl rfl (Nat.le_of_ble_eq_true rfl) (fs2 := [.ref q5_3, .ref q16_8, .ref q27_13, .ref q39, .ref q47, .ref q53_26, .ref q64_31, .ref q76, .ref q85, .ref q93, .ref q101, .int 0, .int 0]) rfl ?_
  refine g_aload_n dX4_init_111 rfl ?_
  refine g_iconst (v := 0) dX4_init_112 (by decide +kernel) ?_
  refine gh_put 12 dX4_init_113 ck4 (by decide) w268 rfl rfl rfl (Nat.le_of_ble_eq_true rfl) (fs2 := [.ref q5_3, .ref q16_8, .ref q27_13, .ref q39, .ref q47, .ref q53_26, .ref q64_31, .ref q76, .ref q85, .ref q93, .ref q101, .int 0, .int 0]) rfl ?_
  refine g_iconst (v := 0) dX4_init_116 (by decide +kernel) ?_
  refine g_istore_n 1 dX4_init_117 rfl (by decide) (ls2 := [.ref q0, .int 0]) rfl ?_
  refine g_iload_n dX4_init_118 rfl ?_
  refine g_iconst (v := 2) dX4_init_119 (by decide +kernel) ?_
  refine g_icmp_ge (tgt := 142) dX4_init_120 (by decide) (fun c => absurd c (by decide)) (fun _ => ?_)
  refine g_aload_n dX4_init_123 rfl ?_
  refine gh_get 3 dX4_init_124 ck4 (by decide) rfl w259 ?_
  refine g_iload_n dX4_init_127 rfl ?_
  refine gk_new (fs := [.int 0, .int 0, .int 0, .null, .null, .null, .null, .null, .null, .null, .null, .null, .null]) dX4_init_128 ck0 w75 w76 w55 raw_X0 (by decide) (by decide) (fun q128_65 => ?_)
  refine g_dup dX4_init_131 ?_
  refine gk_ninit (j0 := 0) dX4_init_132 (c_X0_init cA) rfl rfl rfl w78 w55 w79 (by decide +kernel) ⟨by decide, by decide⟩ (Nat.le_of_ble_eq_true rfl) (by decide) (by decide) (fun w hw => ?_)
  obtain ⟨a5, rfl⟩ := hw
  refine gk_aast1 0 dX4_init_135 ck0 rfl List.mem_cons_self (by decide +kernel) (by decide) (by decide) ?_
  refine g_iinc (v := 1) dX4_init_136 rfl (by decide +kernel) (by decide) (ls2 := [.ref q0, .int 1]) rfl ?_
  refine g_goto (tgt := 118) dX4_init_139 (by decide) ?_
  refine g_iload_n dX4_init_118 rfl ?_
  refine g_iconst (v := 2) dX4_init_119 (by decide +kernel) ?_
  refine g_icmp_ge (tgt := 142) dX4_init_120 (by decide) (fun c => absurd c (by decide)) (fun _ => ?_)
  refine g_aload_n dX4_init_123 rfl ?_
  refine gh_get 3 dX4_init_124 ck4 (by decide) rfl w259 ?_
  refine g_iload_n dX4_init_127 rfl ?_
  refine gk_new (fs := [.int 0, .int 0, .int 0, .null, .null, .null, .null, .null, .null, .null, .null, .null, .null]) dX4_init_128 ck0 w75 w76 w55 raw_X0 (by decide) (by decide) (fun q128_77 => ?_)
  refine g_dup dX4_init_131 ?_
  refine gk_ninit (j0 := 0) dX4_init_132 (c_X0_init cA) rfl rfl rfl w78 w55 w79 (by decide +kernel) ⟨by decide, by decide⟩ (Nat.le_of_ble_eq_true rfl) (by decide) (by decide) (fun w hw => ?_)
  obtain ⟨a6, rfl⟩ := hw
  refine gk_aast1 1 dX4_init_135 ck0 rfl List.mem_cons_self (by decide +kernel) (by decide) (by decide) ?_
  refine g_iinc (v := 2) dX4_init_136 rfl (by decide +kernel) (by decide) (ls2 := [.ref q0, .int 2]) rfl ?_
  refine g_goto (tgt := 118) dX4_init_139 (by decide) ?_
  refine g_iload_n dX4_init_118 rfl ?_
  refine g_iconst (v := 2) dX4_init_119 (by decide +kernel) ?_
  refine g_icmp_ge (tgt := 142) dX4_init_120 (by decide) (fun _ => ?_) (fun c => absurd (by decide) c)
  refine g_iconst (v := 0) dX4_init_142 (by decide +kernel) ?_
  refine g_istore_n 1 dX4_init_143 rfl (by decide) (ls2 := [.ref q0, .int 0]) rfl ?_
  refine g_iload_n dX4_init_144 rfl ?_
  refine g_iconst (v := 4) dX4_init_145 (by decide +kernel) ?_
  refine g_icmp_ge (tgt := 168) dX4_init_146 (by decide) (fun c => absurd c (by decide)) (fun _ => ?_)
  refine g_aload_n dX4_init_149 rfl ?_
  refine gh_get 7 dX4_init_150 ck4 (by decide) rfl w263 ?_
  refine g_iload_n dX4_init_153 rfl ?_
  refine gk_new (fs := [.int 0, .int 0, .int 0, .null]) dX4_init_154 ck2 w232 w234 w58 raw_X2 (by decide) (by decide) (fun q154_94 => ?_)
  refine g_dup dX4_init_157 ?_
  refine gk_ninit (j0 := 3) dX4_init_158 (c_X2_init cA) rfl rfl rfl w236 w58 w237 (by decide +kernel) ⟨by decide, by decide⟩ (Nat.le_of_ble_eq_true rfl) (by decide) (by decide) (fun w hw => ?_)
  obtain ⟨a7, rfl⟩ := hw
  refine gk_aast2 0 dX4_init_161 ck2 rfl List.mem_cons_self (by decide +kernel) (by decide) (by decide) ?_
  refine g_iinc (v := 1) dX4_init_162 rfl (by decide +kernel) (by decide) (ls2 := [.ref q0, .int 1]) rfl ?_
  refine g_goto (tgt := 144) dX4_init_165 (by decide) ?_
  refine g_iload_n dX4_init_144 rfl ?_
  refine g_iconst (v := 4) dX4_init_145 (by decide +kernel) ?_
  refine g_icmp_ge (tgt := 168) dX4_init_146 (by decide) (fun c => absurd c (by decide)) (fun _ => ?_)
  refine g_aload_n dX4_init_149 rfl ?_
  refine gh_get 7 dX4_init_150 ck4 (by decide) rfl w263 ?_
  refine g_iload_n dX4_init_153 rfl ?_
  refine gk_new (fs := [.int 0, .int 0, .int 0, .null]) dX4_init_154 ck2 w232 w234 w58 raw_X2 (by decide) (by decide) (fun q154_106 => ?_)
  refine g_dup dX4_init_157 ?_
  refine gk_ninit (j0 := 3) dX4_init_158 (c_X2_init cA) rfl rfl rfl w236 w58 w237 (by decide +kernel) ⟨by decide, by decide⟩ (Nat.le_of_ble_eq_true rfl) (by decide) (by decide) (fun w hw => ?_)
  obtain ⟨a8, rfl⟩ := hw
  refine gk_aast2 1 dX4_init_161 ck2 rfl List.mem_cons_self (by decide +kernel) (by decide) (by decide) ?_
  refine g_iinc (v := 2) dX4_init_162 rfl (by decide +kernel) (by decide) (ls2 := [.ref q0, .int 2]) rfl ?_
  refine g_goto (tgt := 144) dX4_init_165 (by decide) ?_
  refine g_iload_n dX4_init_144 rfl ?_
  refine g_iconst (v := 4) dX4_init_145 (by decide +kernel) ?_
  refine g_icmp_ge (tgt := 168) dX4_init_146 (by decide) (fun c => absurd c (by decide)) (fun _ => ?_)
  refine g_aload_n dX4_init_149 rfl ?_
  refine gh_get 7 dX4_init_150 ck4 (by decide) rfl w263 ?_
  refine g_iload_n dX4_init_153 rfl ?_
  refine gk_new (fs := [.int 0, .int 0, .int 0, .null]) dX4_init_154 ck2 w232 w234 w58 raw_X2 (by decide) (by decide) (fun q154_118 => ?_)
  refine g_dup dX4_init_157 ?_
  refine gk_ninit (j0 := 3) dX4_init_158 (c_X2_init cA) rfl rfl rfl w236 w58 w237 (by decide +kernel) ⟨by decide, by decide⟩ (Nat.le_of_ble_eq_true rfl) (by decide) (by decide) (fun w hw => ?_)
  obtain ⟨a9, rfl⟩ := hw
  refine gk_aast2 2 dX4_init_161 ck2 rfl List.mem_cons_self (by decide +kernel) (by decide) (by decide) ?_
  refine g_iinc (v := 3) dX4_init_162 rfl (by decide +kernel) (by decide) (ls2 := [.ref q0, .int 3]) rfl ?_
  refine g_goto (tgt := 144) dX4_init_165 (by decide) ?_
  refine g_iload_n dX4_init_144 rfl ?_
  refine g_iconst (v := 4) dX4_init_145 (by decide +kernel) ?_
  refine g_icmp_ge (tgt := 168) dX4_init_146 (by decide) (fun c => absurd c (by decide)) (fun _ => ?_)
  refine g_aload_n dX4_init_149 rfl ?_
  refine gh_get 7 dX4_init_150 ck4 (by decide) rfl w263 ?_
  refine g_iload_n dX4_init_153 rfl ?_
  refine gk_new (fs := [.int 0, .int 0, .int 0, .null]) dX4_init_154 ck2 w232 w234 w58 raw_X2 (by decide) (by decide) (fun q154_130 => ?_)
  refine g_dup dX4_init_157 ?_
  refine gk_ninit (j0 := 3) dX4_init_158 (c_X2_init cA) rfl rfl rfl w236 w58 w237 (by decide +kernel) ⟨by decide, by decide⟩ (Nat.le_of_ble_eq_true rfl) (by decide) (by decide) (fun w hw => ?_)
  obtain ⟨a10, rfl⟩ := hw
  refine gk_aast2 3 dX4_init_161 ck2 rfl List.mem_cons_self (by decide +kernel) (by decide) (by decide) ?_
  refine g_iinc (v := 4) dX4_init_162 rfl (by decide +kernel) (by decide) (ls2 := [.ref q0, .int 4]) rfl ?_
  refine g_goto (tgt := 144) dX4_init_165 (by decide) ?_
  refine g_iload_n dX4_init_144 rfl ?_
  refine g_iconst (v := 4) dX4_init_145 (by decide +kernel) ?_
  refine g_icmp_ge (tgt := 168) dX4_init_146 (by decide) (fun _ => ?_) (fun c => absurd (by decide) c)
  refine g_ret dX4_init_168 (by decide) (by decide) ⟨fun k => [q0, q5_3, a0 1, a0 2, a0 3, a0 4, a0 5, a0 6, a0 7, a0 8, a0 9, a0 10, q16_8, a1 1, a1 2, a1 3, a1 4, a1 5, a1 6, a1 7, a1 8, a1 9, a1 10, q27_13, a2 1, a2 2, a2 3, a2 4, a2 5, a2 6, a2 7, a2 8, a2 9, a2 10, q39, q47, q53_26, a3 1, q64_31, a4 1, a4 2, a4 3, a4 4, a4 5, a4 6, a4 7, a4 8, a4 9, q76, q85, q93, q101, q128_65, a5 1, a5 2, a5 3, a5 4, a5 5, a5 6, a5 7, a5 8, a5 9, a5 10, q128_77, a6 1, a6 2, a6 3, a6 4, a6 5, a6 6, a6 7, a6 8, a6 9, a6 10, q154_94, a7 1, q154_106, a8 1, q154_118, a9 1, q154_130, a10 1].getD k 0, rfl, ?_⟩
  generalize had : (fun k => [q0, q5_3, a0 1, a0 2, a0 3, a0 4, a0 5, a0 6, a0 7, a0 8, a0 9, a0 10, q16_8, a1 1, a1 2, a1 3, a1 4, a1 5, a1 6, a1 7, a1 8, a1 9, a1 10, q27_13, a2 1, a2 2, a2 3, a2 4, a2 5, a2 6, a2 7, a2 8, a2 9, a2 10, q39, q47, q53_26, a3 1, q64_31, a4 1, a4 2, a4 3, a4 4, a4 5, a4 6, a4 7, a4 8, a4 9, q76, q85, q93, q101, q128_65, a5 1, a5 2, a5 3, a5 4, a5 5, a5 6, a5 7, a5 8, a5 9, a5 10, q128_77, a6 1, a6 2, a6 3, a6 4, a6 5, a6 6, a6 7, a6 8, a6 9, a6 10, q154_94, a7 1, q154_106, a8 1, q154_118, a9 1, q154_130, a10 1].getD k 0 : Nat → Nat) = ad
  have k0 : ad 0 = q0 := by rw [← had]; rfl
  have k1 : ad 1 = q5_3 := by rw [← had]; rfl
  have k2 : ad 2 = a0 1 := by rw [← had]; rfl
  have k3 : ad 3 = a0 2 := by rw [← had]; rfl
  have k4 : ad 4 = a0 3 := by rw [← had]; rfl
  have k5 : ad 5 = a0 4 := by rw [← had]; rfl
  have k6 : ad 6 = a0 5 := by rw [← had]; rfl
  have k7 : ad 7 = a0 6 := by rw [← had]; rfl
  have k8 : ad 8 = a0 7 := by rw [← had]; rfl
  have k9 : ad 9 = a0 8 := by rw [← had]; rfl
  have k10 : ad 10 = a0 9 := by rw [← had]; rfl
  have k11 : ad 11 = a0 10 := by rw [← had]; rfl
  have k12 : ad 12 = q16_8 := by rw [← had]; rfl
  have k13 : ad 13 = a1 1 := by rw [← had]; rfl
  have k14 : ad 14 = a1 2 := by rw [← had]; rfl
  have k15 : ad 15 = a1 3 := by rw [← had]; rfl
  have k16 : ad 16 = a1 4 := by rw [← had]; rfl
  have k17 : ad 17 = a1 5 := by rw [← had]; rfl
  have k18 : ad 18 = a1 6 := by rw [← had]; rfl
  have k19 : ad 19 = a1 7 := by rw [← had]; rfl
  have k20 : ad 20 = a1 8 := by rw [← had]; rfl
  have k21 : ad 21 = a1 9 := by rw [← had]; rfl
  have k22 : ad 22 = a1 10 := by rw [← had]; rfl
  have k23 : ad 23 = q27_13 := by rw [← had]; rfl
  have k24 : ad 24 = a2 1 := by rw [← had]; rfl
  have k25 : ad 25 = a2 2 := by rw [← had]; rfl
  have k26 : ad 26 = a2 3 := by rw [← had]; rfl
  have k27 : ad 27 = a2 4 := by rw [← had]; rfl
  have k28 : ad 28 = a2 5 := by rw [← had]; rfl
  have k29 : ad 29 = a2 6 := by rw [← had]; rfl
  have k30 : ad 30 = a2 7 := by rw [← had]; rfl
  have k31 : ad 31 = a2 8 := by rw [← had]; rfl
  have k32 : ad 32 = a2 9 := by rw [← had]; rfl
  have k33 : ad 33 = a2 10 := by rw [← had]; rfl
  have k34 : ad 34 = q39 := by rw [← had]; rfl
  have k35 : ad 35 = q47 := by rw [← had]; rfl
  have k36 : ad 36 = q53_26 := by rw [← had]; rfl
  have k37 : ad 37 = a3 1 := by rw [← had]; rfl
  have k38 : ad 38 = q64_31 := by rw [← had]; rfl
  have k39 : ad 39 = a4 1 := by rw [← had]; rfl
  have k40 : ad 40 = a4 2 := by rw [← had]; rfl
  have k41 : ad 41 = a4 3 := by rw [← had]; rfl
  have k42 : ad 42 = a4 4 := by rw [← had]; rfl
  have k43 : ad 43 = a4 5 := by rw [← had]; rfl
  have k44 : ad 44 = a4 6 := by rw [← had]; rfl
  have k45 : ad 45 = a4 7 := by rw [← had]; rfl
  have k46 : ad 46 = a4 8 := by rw [← had]; rfl
  have k47 : ad 47 = a4 9 := by rw [← had]; rfl
  have k48 : ad 48 = q76 := by rw [← had]; rfl
  have k49 : ad 49 = q85 := by rw [← had]; rfl
  have k50 : ad 50 = q93 := by rw [← had]; rfl
  have k51 : ad 51 = q101 := by rw [← had]; rfl
  have k52 : ad 52 = q128_65 := by rw [← had]; rfl
  have k53 : ad 53 = a5 1 := by rw [← had]; rfl
  have k54 : ad 54 = a5 2 := by rw [← had]; rfl
  have k55 : ad 55 = a5 3 := by rw [← had]; rfl
  have k56 : ad 56 = a5 4 := by rw [← had]; rfl
  have k57 : ad 57 = a5 5 := by rw [← had]; rfl
  have k58 : ad 58 = a5 6 := by rw [← had]; rfl
  have k59 : ad 59 = a5 7 := by rw [← had]; rfl
  have k60 : ad 60 = a5 8 := by rw [← had]; rfl
  have k61 : ad 61 = a5 9 := by rw [← had]; rfl
  have k62 : ad 62 = a5 10 := by rw [← had]; rfl
  have k63 : ad 63 = q128_77 := by rw [← had]; rfl
  have k64 : ad 64 = a6 1 := by rw [← had]; rfl
  have k65 : ad 65 = a6 2 := by rw [← had]; rfl
  have k66 : ad 66 = a6 3 := by rw [← had]; rfl
  have k67 : ad 67 = a6 4 := by rw [← had]; rfl
  have k68 : ad 68 = a6 5 := by rw [← had]; rfl
  have k69 : ad 69 = a6 6 := by rw [← had]; rfl
  have k70 : ad 70 = a6 7 := by rw [← had]; rfl
  have k71 : ad 71 = a6 8 := by rw [← had]; rfl
  have k72 : ad 72 = a6 9 := by rw [← had]; rfl
  have k73 : ad 73 = a6 10 := by rw [← had]; rfl
  have k74 : ad 74 = q154_94 := by rw [← had]; rfl
  have k75 : ad 75 = a7 1 := by rw [← had]; rfl
  have k76 : ad 76 = q154_106 := by rw [← had]; rfl
  have k77 : ad 77 = a8 1 := by rw [← had]; rfl
  have k78 : ad 78 = q154_118 := by rw [← had]; rfl
  have k79 : ad 79 = a9 1 := by rw [← had]; rfl
  have k80 : ad 80 = q154_130 := by rw [← had]; rfl
  have k81 : ad 81 = a10 1 := by rw [← had]; rfl
  clear had
  have e : wsOf ad cA SX (fun _ _ => 0) = (q0, .inr (4, [.ref q5_3, .ref q16_8, .ref q27_13, .ref q39, .ref q47, .ref q53_26, .ref q64_31, .ref q76, .ref q85, .ref q93, .ref q101, .int 0, .int 0])) :: (([] ++ wH cA q5_3 a0 ++ wH cA q16_8 a1 ++ wH cA q27_13 a2) ++ ((q39, .inl (cA 2, 2, .inr (.inr (.inr (.inr (va_up (va_up (fun _ => none) 0 (some q128_65)) 1 (some q128_77))))))) :: (([(q47, .inl (cA 1, 2, .inl (fun _ => 0)))] ++ wT3 cA q53_26 a3 ++ wY cA q64_31 a4) ++ ((q76, .inl (cA 3, 4, .inr (.inr (.inr (.inr (va_up (va_up (va_up (va_up (fun _ => none) 0 (some q154_94)) 1 (some q154_106)) 2 (some q154_118)) 3 (some q154_130))))))) :: ([(q85, .inl (cA 0, 6, .inl (fun _ => 0)))] ++ [(q93, .inl (cA 0, 6, .inl (fun _ => 0)))] ++ [(q101, .inl (cA 0, 6, .inl (fun _ => 0)))] ++ wH cA q128_65 a5 ++ wH cA q128_77 a6 ++ wS cA q154_94 a7 ++ wS cA q154_106 a8 ++ wS cA q154_118 a9 ++ wS cA q154_130 a10))))) := by
    rw [wsF_0, sx_split]
    simp only [wsF_app]
    simp only [List.append_assoc, List.nil_append]
    have p0 : wsF ad cA 0 ([xShp]) (fun _ _ => 0) = [(q0, .inr (4, [.ref q5_3, .ref q16_8, .ref q27_13, .ref q39, .ref q47, .ref q53_26, .ref q64_31, .ref q76, .ref q85, .ref q93, .ref q101, .int 0, .int 0]))] := by
      show [(ad 0, (.inr (4, [.ref (ad 1), .ref (ad 12), .ref (ad 23), .ref (ad 34), .ref (ad 35), .ref (ad 36), .ref (ad 38), .ref (ad 48), .ref (ad 49), .ref (ad 50), .ref (ad 51), .int 0, .int 0]) : va_E))] = _; rw [k0, k1, k12, k23, k34, k35, k36, k38, k48, k49, k50, k51]
    have p1 : wsF ad cA 1 (hShp 1) (fun _ _ => 0) = wH cA q5_3 a0 := by
      show wH cA (ad 1) (fun i => ad (1 + i)) = _
      rw [k1]; unfold wH; rw [show (fun i => ad (1 + i)) 1 = a0 1 from k2, show (fun i => ad (1 + i)) 2 = a0 2 from k3, show (fun i => ad (1 + i)) 3 = a0 3 from k4, show (fun i => ad (1 + i)) 4 = a0 4 from k5, show (fun i => ad (1 + i)) 5 = a0 5 from k6, show (fun i => ad (1 + i)) 6 = a0 6 from k7, show (fun i => ad (1 + i)) 7 = a0 7 from k8, show (fun i => ad (1 + i)) 8 = a0 8 from k9, show (fun i => ad (1 + i)) 9 = a0 9 from k10, show (fun i => ad (1 + i)) 10 = a0 10 from k11]
    have p12 : wsF ad cA 12 (hShp 12) (fun _ _ => 0) = wH cA q16_8 a1 := by
      show wH cA (ad 12) (fun i => ad (12 + i)) = _
      rw [k12]; unfold wH; rw [show (fun i => ad (12 + i)) 1 = a1 1 from k13, show (fun i => ad (12 + i)) 2 = a1 2 from k14, show (fun i => ad (12 + i)) 3 = a1 3 from k15, show (fun i => ad (12 + i)) 4 = a1 4 from k16, show (fun i => ad (12 + i)) 5 = a1 5 from k17, show (fun i => ad (12 + i)) 6 = a1 6 from k18, show (fun i => ad (12 + i)) 7 = a1 7 from k19, show (fun i => ad (12 + i)) 8 = a1 8 from k20, show (fun i => ad (12 + i)) 9 = a1 9 from k21, show (fun i => ad (12 + i)) 10 = a1 10 from k22]
    have p23 : wsF ad cA 23 (hShp 23) (fun _ _ => 0) = wH cA q27_13 a2 := by
      show wH cA (ad 23) (fun i => ad (23 + i)) = _
      rw [k23]; unfold wH; rw [show (fun i => ad (23 + i)) 1 = a2 1 from k24, show (fun i => ad (23 + i)) 2 = a2 2 from k25, show (fun i => ad (23 + i)) 3 = a2 3 from k26, show (fun i => ad (23 + i)) 4 = a2 4 from k27, show (fun i => ad (23 + i)) 5 = a2 5 from k28, show (fun i => ad (23 + i)) 6 = a2 6 from k29, show (fun i => ad (23 + i)) 7 = a2 7 from k30, show (fun i => ad (23 + i)) 8 = a2 8 from k31, show (fun i => ad (23 + i)) 9 = a2 9 from k32, show (fun i => ad (23 + i)) 10 = a2 10 from k33]
    have p34 : wsF ad cA 34 ([(2, 2, [some 52, some 63])]) (fun _ _ => 0) = [(q39, .inl (cA 2, 2, .inr (.inr (.inr (.inr (va_up (va_up (fun _ => none) 0 (some q128_65)) 1 (some q128_77)))))))] := by
      show [(ad 34, (.inl (cA 2, 2, .inr (.inr (.inr (.inr (refsOf ad [some 52, some 63]))))) : va_E))] = _; rw [ref2 k52 k63, k34]
    have p35 : wsF ad cA 35 ([(1, 2, [])]) (fun _ _ => 0) = [(q47, .inl (cA 1, 2, .inl (fun _ => 0)))] := by
      show [(ad 35, _)] = _; rw [k35]; rfl
    have p36 : wsF ad cA 36 (tShp) (fun _ _ => 0) = wT3 cA q53_26 a3 := by
      show wT3 cA (ad 36) (fun i => ad (36 + i)) = _
      rw [k36]; unfold wT3; rw [show (fun i => ad (36 + i)) 1 = a3 1 from k37]
    have p38 : wsF ad cA 38 (yShp) (fun _ _ => 0) = wY cA q64_31 a4 := by
      show wY cA (ad 38) (fun i => ad (38 + i)) = _
      rw [k38]; unfold wY; rw [show (fun i => ad (38 + i)) 1 = a4 1 from k39, show (fun i => ad (38 + i)) 2 = a4 2 from k40, show (fun i => ad (38 + i)) 3 = a4 3 from k41, show (fun i => ad (38 + i)) 4 = a4 4 from k42, show (fun i => ad (38 + i)) 5 = a4 5 from k43, show (fun i => ad (38 + i)) 6 = a4 6 from k44, show (fun i => ad (38 + i)) 7 = a4 7 from k45, show (fun i => ad (38 + i)) 8 = a4 8 from k46, show (fun i => ad (38 + i)) 9 = a4 9 from k47]
    have p48 : wsF ad cA 48 ([(3, 4, [some 74, some 76, some 78, some 80])]) (fun _ _ => 0) = [(q76, .inl (cA 3, 4, .inr (.inr (.inr (.inr (va_up (va_up (va_up (va_up (fun _ => none) 0 (some q154_94)) 1 (some q154_106)) 2 (some q154_118)) 3 (some q154_130)))))))] := by
      show [(ad 48, (.inl (cA 3, 4, .inr (.inr (.inr (.inr (refsOf ad [some 74, some 76, some 78, some 80]))))) : va_E))] = _; rw [ref4 k74 k76 k78 k80, k48]
    have p49 : wsF ad cA 49 ([(0, 6, [])]) (fun _ _ => 0) = [(q85, .inl (cA 0, 6, .inl (fun _ => 0)))] := by
      show [(ad 49, _)] = _; rw [k49]; rfl
    have p50 : wsF ad cA 50 ([(0, 6, [])]) (fun _ _ => 0) = [(q93, .inl (cA 0, 6, .inl (fun _ => 0)))] := by
      show [(ad 50, _)] = _; rw [k50]; rfl
    have p51 : wsF ad cA 51 ([(0, 6, [])]) (fun _ _ => 0) = [(q101, .inl (cA 0, 6, .inl (fun _ => 0)))] := by
      show [(ad 51, _)] = _; rw [k51]; rfl
    have p52 : wsF ad cA 52 (hShp 52) (fun _ _ => 0) = wH cA q128_65 a5 := by
      show wH cA (ad 52) (fun i => ad (52 + i)) = _
      rw [k52]; unfold wH; rw [show (fun i => ad (52 + i)) 1 = a5 1 from k53, show (fun i => ad (52 + i)) 2 = a5 2 from k54, show (fun i => ad (52 + i)) 3 = a5 3 from k55, show (fun i => ad (52 + i)) 4 = a5 4 from k56, show (fun i => ad (52 + i)) 5 = a5 5 from k57, show (fun i => ad (52 + i)) 6 = a5 6 from k58, show (fun i => ad (52 + i)) 7 = a5 7 from k59, show (fun i => ad (52 + i)) 8 = a5 8 from k60, show (fun i => ad (52 + i)) 9 = a5 9 from k61, show (fun i => ad (52 + i)) 10 = a5 10 from k62]
    have p63 : wsF ad cA 63 (hShp 63) (fun _ _ => 0) = wH cA q128_77 a6 := by
      show wH cA (ad 63) (fun i => ad (63 + i)) = _
      rw [k63]; unfold wH; rw [show (fun i => ad (63 + i)) 1 = a6 1 from k64, show (fun i => ad (63 + i)) 2 = a6 2 from k65, show (fun i => ad (63 + i)) 3 = a6 3 from k66, show (fun i => ad (63 + i)) 4 = a6 4 from k67, show (fun i => ad (63 + i)) 5 = a6 5 from k68, show (fun i => ad (63 + i)) 6 = a6 6 from k69, show (fun i => ad (63 + i)) 7 = a6 7 from k70, show (fun i => ad (63 + i)) 8 = a6 8 from k71, show (fun i => ad (63 + i)) 9 = a6 9 from k72, show (fun i => ad (63 + i)) 10 = a6 10 from k73]
    have p74 : wsF ad cA 74 (sShp 74) (fun _ _ => 0) = wS cA q154_94 a7 := by
      show wS cA (ad 74) (fun i => ad (74 + i)) = _
      rw [k74]; unfold wS; rw [show (fun i => ad (74 + i)) 1 = a7 1 from k75]
    have p76 : wsF ad cA 76 (sShp 76) (fun _ _ => 0) = wS cA q154_106 a8 := by
      show wS cA (ad 76) (fun i => ad (76 + i)) = _
      rw [k76]; unfold wS; rw [show (fun i => ad (76 + i)) 1 = a8 1 from k77]
    have p78 : wsF ad cA 78 (sShp 78) (fun _ _ => 0) = wS cA q154_118 a9 := by
      show wS cA (ad 78) (fun i => ad (78 + i)) = _
      rw [k78]; unfold wS; rw [show (fun i => ad (78 + i)) 1 = a9 1 from k79]
    have p80 : wsF ad cA 80 (sShp 80) (fun _ _ => 0) = wS cA q154_130 a10 := by
      show wS cA (ad 80) (fun i => ad (80 + i)) = _
      rw [k80]; unfold wS; rw [show (fun i => ad (80 + i)) 1 = a10 1 from k81]
    refine (app2 p0 (app2 p1 (app2 p12 (app2 p23 (app2 p34 (app2 p35 (app2 p36 (app2 p38 (app2 p48 (app2 p49 (app2 p50 (app2 p51 (app2 p52 (app2 p63 (app2 p74 (app2 p76 (app2 p78 (p80)))))))))))))))))).trans ?_
    simp only [List.cons_append, List.nil_append]
  rw [e]
  have := @pm_out (q0, .inr (4, [.ref q5_3, .ref q16_8, .ref q27_13, .ref q39, .ref q47, .ref q53_26, .ref q64_31, .ref q76, .ref q85, .ref q93, .ref q101, .int 0, .int 0])) (q39, .inl (cA 2, 2, .inr (.inr (.inr (.inr (va_up (va_up (fun _ => none) 0 (some q128_65)) 1 (some q128_77))))))) (q76, .inl (cA 3, 4, .inr (.inr (.inr (.inr (va_up (va_up (va_up (va_up (fun _ => none) 0 (some q154_94)) 1 (some q154_106)) 2 (some q154_118)) 3 (some q154_130))))))) ([] ++ wH cA q5_3 a0 ++ wH cA q16_8 a1 ++ wH cA q27_13 a2) ([(q47, .inl (cA 1, 2, .inl (fun _ => 0)))] ++ wT3 cA q53_26 a3 ++ wY cA q64_31 a4) ([(q85, .inl (cA 0, 6, .inl (fun _ => 0)))] ++ [(q93, .inl (cA 0, 6, .inl (fun _ => 0)))] ++ [(q101, .inl (cA 0, 6, .inl (fun _ => 0)))] ++ wH cA q128_65 a5 ++ wH cA q128_77 a6 ++ wS cA q154_94 a7 ++ wS cA q154_106 a8 ++ wS cA q154_118 a9 ++ wS cA q154_130 a10)
  simpa only [List.append_assoc, List.nil_append] using this
