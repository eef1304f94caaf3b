/-! ===== the class's small constructors ===== -/
theorem dX0_init_0 : decode cX0_init 0 = .ok (.aload_n 0, 1) := by decide +kernel
theorem dX0_init_1 : decode cX0_init 1 = .ok (.invokespecial 3, 3) := by decide +kernel
theorem dX0_init_4 : decode cX0_init 4 = .ok (.aload_n 0, 1) := by decide +kernel
theorem dX0_init_5 : decode cX0_init 5 = .ok (.iconst 0, 1) := by decide +kernel
theorem dX0_init_6 : decode cX0_init 6 = .ok (.putfield 9, 3) := by decide +kernel
theorem dX0_init_9 : decode cX0_init 9 = .ok (.aload_n 0, 1) := by decide +kernel
theorem dX0_init_10 : decode cX0_init 10 = .ok (.iconst 0, 1) := by decide +kernel
theorem dX0_init_11 : decode cX0_init 11 = .ok (.putfield 15, 3) := by decide +kernel
theorem dX0_init_14 : decode cX0_init 14 = .ok (.aload_n 0, 1) := by decide +kernel
theorem dX0_init_15 : decode cX0_init 15 = .ok (.iconst 0, 1) := by decide +kernel
theorem dX0_init_16 : decode cX0_init 16 = .ok (.putfield 18, 3) := by decide +kernel
theorem dX0_init_19 : decode cX0_init 19 = .ok (.aload_n 0, 1) := by decide +kernel
theorem dX0_init_20 : decode cX0_init 20 = .ok (.iconst 4, 1) := by decide +kernel
theorem dX0_init_21 : decode cX0_init 21 = .ok (.newarray .int, 2) := by decide +kernel
theorem dX0_init_23 : decode cX0_init 23 = .ok (.putfield 21, 3) := by decide +kernel
theorem dX0_init_26 : decode cX0_init 26 = .ok (.aload_n 0, 1) := by decide +kernel
theorem dX0_init_27 : decode cX0_init 27 = .ok (.iconst 4, 1) := by decide +kernel
theorem dX0_init_28 : decode cX0_init 28 = .ok (.newarray .int, 2) := by decide +kernel
theorem dX0_init_30 : decode cX0_init 30 = .ok (.putfield 25, 3) := by decide +kernel
theorem dX0_init_33 : decode cX0_init 33 = .ok (.aload_n 0, 1) := by decide +kernel
theorem dX0_init_34 : decode cX0_init 34 = .ok (.iconst 4, 1) := by decide +kernel
theorem dX0_init_35 : decode cX0_init 35 = .ok (.newarray .int, 2) := by decide +kernel
theorem dX0_init_37 : decode cX0_init 37 = .ok (.putfield 28, 3) := by decide +kernel
theorem dX0_init_40 : decode cX0_init 40 = .ok (.aload_n 0, 1) := by decide +kernel
theorem dX0_init_41 : decode cX0_init 41 = .ok (.iconst 4, 1) := by decide +kernel
theorem dX0_init_42 : decode cX0_init 42 = .ok (.newarray .int, 2) := by decide +kernel
theorem dX0_init_44 : decode cX0_init 44 = .ok (.putfield 31, 3) := by decide +kernel
theorem dX0_init_47 : decode cX0_init 47 = .ok (.aload_n 0, 1) := by decide +kernel
theorem dX0_init_48 : decode cX0_init 48 = .ok (.bipush 32, 2) := by decide +kernel
theorem dX0_init_50 : decode cX0_init 50 = .ok (.newarray .int, 2) := by decide +kernel
theorem dX0_init_52 : decode cX0_init 52 = .ok (.putfield 34, 3) := by decide +kernel
theorem dX0_init_55 : decode cX0_init 55 = .ok (.aload_n 0, 1) := by decide +kernel
theorem dX0_init_56 : decode cX0_init 56 = .ok (.iconst 4, 1) := by decide +kernel
theorem dX0_init_57 : decode cX0_init 57 = .ok (.newarray .int, 2) := by decide +kernel
theorem dX0_init_59 : decode cX0_init 59 = .ok (.putfield 37, 3) := by decide +kernel
theorem dX0_init_62 : decode cX0_init 62 = .ok (.aload_n 0, 1) := by decide +kernel
theorem dX0_init_63 : decode cX0_init 63 = .ok (.iconst 4, 1) := by decide +kernel
theorem dX0_init_64 : decode cX0_init 64 = .ok (.newarray .int, 2) := by decide +kernel
theorem dX0_init_66 : decode cX0_init 66 = .ok (.putfield 40, 3) := by decide +kernel
theorem dX0_init_69 : decode cX0_init 69 = .ok (.aload_n 0, 1) := by decide +kernel
theorem dX0_init_70 : decode cX0_init 70 = .ok (.iconst 4, 1) := by decide +kernel
theorem dX0_init_71 : decode cX0_init 71 = .ok (.newarray .int, 2) := by decide +kernel
theorem dX0_init_73 : decode cX0_init 73 = .ok (.putfield 43, 3) := by decide +kernel
theorem dX0_init_76 : decode cX0_init 76 = .ok (.aload_n 0, 1) := by decide +kernel
theorem dX0_init_77 : decode cX0_init 77 = .ok (.iconst 4, 1) := by decide +kernel
theorem dX0_init_78 : decode cX0_init 78 = .ok (.newarray .int, 2) := by decide +kernel
theorem dX0_init_80 : decode cX0_init 80 = .ok (.putfield 46, 3) := by decide +kernel
theorem dX0_init_83 : decode cX0_init 83 = .ok (.aload_n 0, 1) := by decide +kernel
theorem dX0_init_84 : decode cX0_init 84 = .ok (.bipush 6, 2) := by decide +kernel
theorem dX0_init_86 : decode cX0_init 86 = .ok (.newarray .int, 2) := by decide +kernel
theorem dX0_init_88 : decode cX0_init 88 = .ok (.putfield 49, 3) := by decide +kernel
theorem dX0_init_91 : decode cX0_init 91 = .ok (.return_, 1) := by decide +kernel
def MX0_init : MM := (RX0, yX0_init, cX0_init, 1, none, 0, 1, 12)
theorem raw_X0 : ∀ j, j < 13 → defaultValue (tyX0 j) = vp_V [.int 0, .int 0, .int 0, .null, .null, .null, .null, .null, .null, .null, .null, .null, .null] j := by
  intro j hj
  match j, hj with
  | 0, _ => rfl
  | 1, _ => rfl
  | 2, _ => rfl
  | 3, _ => rfl
  | 4, _ => rfl
  | 5, _ => rfl
  | 6, _ => rfl
  | 7, _ => rfl
  | 8, _ => rfl
  | 9, _ => rfl
  | 10, _ => rfl
  | 11, _ => rfl
  | 12, _ => rfl
  | n + 13, h => exact absurd h (by omega)
def wH (cA : Nat → ClassId) (q0 : Nat) (a : Nat → Nat) : va_W := [(q0, .inr (0, [.int 0, .int 0, .int 0, .ref (a 1), .ref (a 2), .ref (a 3), .ref (a 4), .ref (a 5), .ref (a 6), .ref (a 7), .ref (a 8), .ref (a 9), .ref (a 10)])), (a 1, .inl (cA 0, 4, .inl (fun _ => 0))), (a 2, .inl (cA 0, 4, .inl (fun _ => 0))), (a 3, .inl (cA 0, 4, .inl (fun _ => 0))), (a 4, .inl (cA 0, 4, .inl (fun _ => 0))), (a 5, .inl (cA 0, 32, .inl (fun _ => 0))), (a 6, .inl (cA 0, 4, .inl (fun _ => 0))), (a 7, .inl (cA 0, 4, .inl (fun _ => 0))), (a 8, .inl (cA 0, 4, .inl (fun _ => 0))), (a 9, .inl (cA 0, 4, .inl (fun _ => 0))), (a 10, .inl (cA 0, 6, .inl (fun _ => 0)))]
set_option maxHeartbeats 4000000 in
theorem c_X0_init (cA : Nat → ClassId) : Ci MX0_init cA 10 70 0 [.int 0, .int 0, .int 0, .null, .null, .null, .null, .null, .null, .null, .null, .null, .null] (fun q0 w => ∃ a : Nat → Nat, w = wH cA q0 a) := by
  refine ci_of (by decide) rfl rfl rfl (by decide) (fun q0 => ?_)
  refine g_aload_n dX0_init_0 rfl ?_
  refine g_obj dX0_init_1 w80 (by decide) (by decide) ?_
  refine g_aload_n dX0_init_4 rfl ?_
  refine g_iconst (v := 0) dX0_init_5 (by decide +kernel) ?_
  refine g_put 0 0 dX0_init_6 rfl ck0 (by decide) w81 rfl rfl rfl (Nat.le_of_ble_eq_true rfl) (ws2 := ([(q0, .inr (0, [.int 0, .int 0, .int 0, .null, .null, .null, .null, .null, .null, .null, .null, .null, .null]))] : va_W)) rfl ?_
  refine g_aload_n dX0_init_9 rfl ?_
  refine g_iconst (v := 0) dX0_init_10 (by decide +kernel) ?_
  refine g_put 0 1 dX0_init_11 rfl ck0 (by decide) w85 rfl rfl rfl (Nat.le_of_ble_eq_true rfl) (ws2 := ([(q0, .inr (0, [.int 0, .int 0, .int 0, .null, .null, .null, .null, .null, .null, .null, .null, .null, .null]))] : va_W)) rfl ?_
  refine g_aload_n dX0_init_14 rfl ?_
  refine g_iconst (v := 0) dX0_init_15 (by decide +kernel) ?_
  refine g_put 0 2 dX0_init_16 rfl ck0 (by decide) w89 rfl rfl rfl (Nat.le_of_ble_eq_true rfl) (ws2 := ([(q0, .inr (0, [.int 0, .int 0, .int 0, .null, .null, .null, .null, .null, .null, .null, .null, .null, .null]))] : va_W)) rfl ?_
  refine g_aload_n dX0_init_19 rfl ?_
  refine g_iconst (v := 4) dX0_init_20 (by decide +kernel) ?_
  refine g_newi (N := 4) dX0_init_21 (by decide +kernel) (by decide) (by decide) (by decide) (fun q21 => ?_)
  refine g_putF 0 3 dX0_init_23 rfl ck0 (by decide) w93 rfl rfl rfl rfl (Nat.le_of_ble_eq_true rfl) (ws2 := ([(q0, .inr (0, [.int 0, .int 0, .int 0, .ref q21, .null, .null, .null, .null, .null, .null, .null, .null, .null])), (q21, .inl (cA 0, 4, .inl (fun _ => 0)))] : va_W)) rfl ?_
  refine g_aload_n dX0_init_26 rfl ?_
  refine g_iconst (v := 4) dX0_init_27 (by decide +kernel) ?_
  refine g_newi (N := 4) dX0_init_28 (by decide +kernel) (by decide) (by decide) (by decide) (fun q28 => ?_)
  refine g_putF 0 4 dX0_init_30 rfl ck0 (by decide) w97 rfl rfl rfl rfl (Nat.le_of_ble_eq_true rfl) (ws2 := ([(q0, .inr (0, [.int 0, .int 0, .int 0, .ref q21, .ref q28, .null, .null, .null, .null, .null, .null, .null, .null])), (q21, .inl (cA 0, 4, .inl (fun _ => 0))), (q28, .inl (cA 0, 4, .inl (fun _ => 0)))] : va_W)) rfl ?_
  refine g_aload_n dX0_init_33 rfl ?_
  refine g_iconst (v := 4) dX0_init_34 (by decide +kernel) ?_
  refine g_newi (N := 4) dX0_init_35 (by decide +kernel) (by decide) (by decide) (by decide) (fun q35 => ?_)
  refine g_putF 0 5 dX0_init_37 rfl ck0 (by decide) w101 rfl rfl rfl rfl (Nat.le_of_ble_eq_true rfl) (ws2 := ([(q0, .inr (0, [.int 0, .int 0, .int 0, .ref q21, .ref q28, .ref q35, .null, .null, .null, .null, .null, .null, .null])), (q21, .inl (cA 0, 4, .inl (fun _ => 0))), (q28, .inl (cA 0, 4, .inl (fun _ => 0))), (q35, .inl (cA 0, 4, .inl (fun _ => 0)))] : va_W)) rfl ?_
  refine g_aload_n dX0_init_40 rfl ?_
  refine g_iconst (v := 4) dX0_init_41 (by decide +kernel) ?_
  refine g_newi (N := 4) dX0_init_42 (by decide +kernel) (by decide) (by decide) (by decide) (fun q42 => ?_)
  refine g_putF 0 6 dX0_init_44 rfl ck0 (by decide) w104 rfl rfl rfl rfl (Nat.le_of_ble_eq_true rfl) (ws2 := ([(q0, .inr (0, [.int 0, .int 0, .int 0, .ref q21, .ref q28, .ref q35, .ref q42, .null, .null, .null, .null, .null, .null])), (q21, .inl (cA 0, 4, .inl (fun _ => 0))), (q28, .inl (cA 0, 4, .inl (fun _ => 0))), (q35, .inl (cA 0, 4, .inl (fun _ => 0))), (q42, .inl (cA 0, 4, .inl (fun _ => 0)))] : va_W)) rfl ?_
  refine g_aload_n dX0_init_47 rfl ?_
  refine g_bipush (v := 32) dX0_init_48 (by decide +kernel) ?_
  refine g_newi (N := 32) dX0_init_50 (by decide +kernel) (by decide) (by decide) (by decide) (fun q50 => ?_)
  refine g_putF 0 7 dX0_init_52 rfl ck0 (by decide) w108 rfl rfl rfl rfl (Nat.le_of_ble_eq_true rfl) (ws2 := ([(q0, .inr (0, [.int 0, .int 0, .int 0, .ref q21, .ref q28, .ref q35, .ref q42, .ref q50, .null, .null, .null, .null, .null])), (q21, .inl (cA 0, 4, .inl (fun _ => 0))), (q28, .inl (cA 0, 4, .inl (fun _ => 0))), (q35, .inl (cA 0, 4, .inl (fun _ => 0))), (q42, .inl (cA 0, 4, .inl (fun _ => 0))), (q50, .inl (cA 0, 32, .inl (fun _ => 0)))] : va_W)) rfl ?_
  refine g_aload_n dX0_init_55 rfl ?_
  refine g_iconst (v := 4) dX0_init_56 (by decide +kernel) ?_
  refine g_newi (N := 4) dX0_init_57 (by decide +kernel) (by decide) (by decide) (by decide) (fun q57 => ?_)
  refine g_putF 0 8 dX0_init_59 rfl ck0 (by decide) w111 rfl rfl rfl rfl (Nat.le_of_ble_eq_true rfl) (ws2 := ([(q0, .inr (0, [.int 0, .int 0, .int 0, .ref q21, .ref q28, .ref q35, .ref q42, .ref q50, .ref q57, .null, .null, .null, .null])), (q21, .inl (cA 0, 4, .inl (fun _ => 0))), (q28, .inl (cA 0, 4, .inl (fun _ => 0))), (q35, .inl (cA 0, 4, .inl (fun _ => 0))), (q42, .inl (cA 0, 4, .inl (fun _ => 0))), (q50, .inl (cA 0, 32, .inl (fun _ => 0))), (q57, .inl (cA 0, 4, .inl (fun _ => 0)))] : va_W)) rfl ?_
  refine g_aload_n dX0_init_62 rfl ?_
  refine g_iconst (v := 4) dX0_init_63 (by decide +kernel) ?_
  refine g_newi (N := 4) dX0_init_64 (by decide +kernel) (by decide) (by decide) (by decide) (fun q64 => ?_)
  refine g_putF 0 9 dX0_init_66 rfl ck0 (by decide) w115 rfl rfl rfl rfl (Nat.le_of_ble_eq_true rfl) (ws2 := ([(q0, .inr (0, [.int 0, .int 0, .int 0, .ref q21, .ref q28, .ref q35, .ref q42, .ref q50, .ref q57, .ref q64, .null, .null, .null])), (q21, .inl (cA 0, 4, .inl (fun _ => 0))), (q28, .inl (cA 0, 4, .inl (fun _ => 0))), (q35, .inl (cA 0, 4, .inl (fun _ => 0))), (q42, .inl (cA 0, 4, .inl (fun _ => 0))), (q50, .inl (cA 0, 32, .inl (fun _ => 0))), (q57, .inl (cA 0, 4, .inl (fun _ => 0))), (q64, .inl (cA 0, 4, .inl (fun _ => 0)))] : va_W)) rfl ?_
  refine g_aload_n dX0_init_69 rfl ?_
  refine g_iconst (v := 4) dX0_init_70 (by decide +kernel) ?_
  refine g_newi (N := 4) dX0_init_71 (by decide +kernel) (by decide) (by decide) (by decide) (fun q71 => ?_)
  refine g_putF 0 10 dX0_init_73 rfl ck0 (by decide) w119 rfl rfl rfl rfl (Nat.le_of_ble_eq_true rfl) (ws2 := ([(q0, .inr (0, [.int 0, .int 0, .int 0, .ref q21, .ref q28, .ref q35, .ref q42, .ref q50, .ref q57, .ref q64, .ref q71, .null, .null])), (q21, .inl (cA 0, 4, .inl (fun _ => 0))), (q28, .inl (cA 0, 4, .inl (fun _ => 0))), (q35, .inl (cA 0, 4, .inl (fun _ => 0))), (q42, .inl (cA 0, 4, .inl (fun _ => 0))), (q50, .inl (cA 0, 32, .inl (fun _ => 0))), (q57, .inl (cA 0, 4, .inl (fun _ => 0))), (q64, .inl (cA 0, 4, .inl (fun _ => 0))), (q71, .inl (cA 0, 4, .inl (fun _ => 0)))] : va_W)) rfl ?_
  refine g_aload_n dX0_init_76 rfl ?_
  refine g_iconst (v := 4) dX0_init_77 (by decide +kernel) ?_
  refine g_newi (N := 4) dX0_init_78 (by decide +kernel) (by decide) (by decide) (by decide) (fun q78 => ?_)
  refine g_putF 0 11 dX0_init_80 rfl ck0 (by decide) w123 rfl rfl rfl rfl (Nat.le_of_ble_eq_true rfl) (ws2 := ([(q0, .inr (0, [.int 0, .int 0, .int 0, .ref q21, .ref q28, .ref q35, .ref q42, .ref q50, .ref q57, .ref q64, .ref q71, .ref q78, .null])), (q21, .inl (cA 0, 4, .inl (fun _ => 0))), (q28, .inl (cA 0, 4, .inl (fun _ => 0))), (q35, .inl (cA 0, 4, .inl (fun _ => 0))), (q42, .inl (cA 0, 4, .inl (fun _ => 0))), (q50, .inl (cA 0, 32, .inl (fun _ => 0))), (q57, .inl (cA 0, 4, .inl (fun _ => 0))), (q64, .inl (cA 0, 4, .inl (fun _ => 0))), (q71, .inl (cA 0, 4, .inl (fun _ => 0))), (q78, .inl (cA 0, 4, .inl (fun _ => 0)))] : va_W)) rfl ?_
  refine g_aload_n dX0_init_83 rfl ?_
  refine g_bipush (v := 6) dX0_init_84 (by decide +kernel) ?_
  refine g_newi (N := 6) dX0_init_86 (by decide +kernel) (by decide) (by decide) (by decide) (fun q86 => ?_)
  refine g_putF 0 12 dX0_init_88 rfl ck0 (by decide) w127 rfl rfl rfl rfl (Nat.le_of_ble_eq_true rfl) (ws2 := ([(q0, .inr (0, [.int 0, .int 0, .int 0, .ref q21, .ref q28, .ref q35, .ref q42, .ref q50, .ref q57, .ref q64, .ref q71, .ref q78, .ref q86])), (q21, .inl (cA 0, 4, .inl (fun _ => 0))), (q28, .inl (cA 0, 4, .inl (fun _ => 0))), (q35, .inl (cA 0, 4, .inl (fun _ => 0))), (q42, .inl (cA 0, 4, .inl (fun _ => 0))), (q50, .inl (cA 0, 32, .inl (fun _ => 0))), (q57, .inl (cA 0, 4, .inl (fun _ => 0))), (q64, .inl (cA 0, 4, .inl (fun _ => 0))), (q71, .inl (cA 0, 4, .inl (fun _ => 0))), (q78, .inl (cA 0, 4, .inl (fun _ => 0))), (q86, .inl (cA 0, 6, .inl (fun _ => 0)))] : va_W)) rfl ?_
  exact g_ret dX0_init_91 (by decide) (by decide) ⟨fun k => [q0, q21, q28, q35, q42, q50, q57, q64, q71, q78, q86].getD k 0, rfl⟩
theorem dX1_init_0 : decode cX1_init 0 = .ok (.aload_n 0, 1) := by decide +kernel
theorem dX1_init_1 : decode cX1_init 1 = .ok (.invokespecial 3, 3) := by decide +kernel
theorem dX1_init_4 : decode cX1_init 4 = .ok (.aload_n 0, 1) := by decide +kernel
theorem dX1_init_5 : decode cX1_init 5 = .ok (.iconst 4, 1) := by decide +kernel
theorem dX1_init_6 : decode cX1_init 6 = .ok (.newarray .int, 2) := by decide +kernel
theorem dX1_init_8 : decode cX1_init 8 = .ok (.putfield 9, 3) := by decide +kernel
theorem dX1_init_11 : decode cX1_init 11 = .ok (.aload_n 0, 1) := by decide +kernel
theorem dX1_init_12 : decode cX1_init 12 = .ok (.iconst 4, 1) := by decide +kernel
theorem dX1_init_13 : decode cX1_init 13 = .ok (.newarray .int, 2) := by decide +kernel
theorem dX1_init_15 : decode cX1_init 15 = .ok (.putfield 15, 3) := by decide +kernel
theorem dX1_init_18 : decode cX1_init 18 = .ok (.aload_n 0, 1) := by decide +kernel
theorem dX1_init_19 : decode cX1_init 19 = .ok (.iconst 4, 1) := by decide +kernel
theorem dX1_init_20 : decode cX1_init 20 = .ok (.newarray .int, 2) := by decide +kernel
theorem dX1_init_22 : decode cX1_init 22 = .ok (.putfield 18, 3) := by decide +kernel
theorem dX1_init_25 : decode cX1_init 25 = .ok (.aload_n 0, 1) := by decide +kernel
theorem dX1_init_26 : decode cX1_init 26 = .ok (.iconst 4, 1) := by decide +kernel
theorem dX1_init_27 : decode cX1_init 27 = .ok (.newarray .int, 2) := by decide +kernel
theorem dX1_init_29 : decode cX1_init 29 = .ok (.putfield 21, 3) := by decide +kernel
theorem dX1_init_32 : decode cX1_init 32 = .ok (.aload_n 0, 1) := by decide +kernel
theorem dX1_init_33 : decode cX1_init 33 = .ok (.iconst 4, 1) := by decide +kernel
theorem dX1_init_34 : decode cX1_init 34 = .ok (.newarray .int, 2) := by decide +kernel
theorem dX1_init_36 : decode cX1_init 36 = .ok (.putfield 24, 3) := by decide +kernel
theorem dX1_init_39 : decode cX1_init 39 = .ok (.aload_n 0, 1) := by decide +kernel
theorem dX1_init_40 : decode cX1_init 40 = .ok (.iconst 4, 1) := by decide +kernel
theorem dX1_init_41 : decode cX1_init 41 = .ok (.newarray .int, 2) := by decide +kernel
theorem dX1_init_43 : decode cX1_init 43 = .ok (.putfield 27, 3) := by decide +kernel
theorem dX1_init_46 : decode cX1_init 46 = .ok (.aload_n 0, 1) := by decide +kernel
theorem dX1_init_47 : decode cX1_init 47 = .ok (.iconst 4, 1) := by decide +kernel
theorem dX1_init_48 : decode cX1_init 48 = .ok (.newarray .int, 2) := by decide +kernel
theorem dX1_init_50 : decode cX1_init 50 = .ok (.putfield 30, 3) := by decide +kernel
theorem dX1_init_53 : decode cX1_init 53 = .ok (.aload_n 0, 1) := by decide +kernel
theorem dX1_init_54 : decode cX1_init 54 = .ok (.iconst 4, 1) := by decide +kernel
theorem dX1_init_55 : decode cX1_init 55 = .ok (.newarray .int, 2) := by decide +kernel
theorem dX1_init_57 : decode cX1_init 57 = .ok (.putfield 33, 3) := by decide +kernel
theorem dX1_init_60 : decode cX1_init 60 = .ok (.aload_n 0, 1) := by decide +kernel
theorem dX1_init_61 : decode cX1_init 61 = .ok (.bipush 64, 2) := by decide +kernel
theorem dX1_init_63 : decode cX1_init 63 = .ok (.newarray .int, 2) := by decide +kernel
theorem dX1_init_65 : decode cX1_init 65 = .ok (.putfield 36, 3) := by decide +kernel
theorem dX1_init_68 : decode cX1_init 68 = .ok (.aload_n 0, 1) := by decide +kernel
theorem dX1_init_69 : decode cX1_init 69 = .ok (.iconst 0, 1) := by decide +kernel
theorem dX1_init_70 : decode cX1_init 70 = .ok (.putfield 39, 3) := by decide +kernel
theorem dX1_init_73 : decode cX1_init 73 = .ok (.return_, 1) := by decide +kernel
def MX1_init : MM := (RX1, yX1_init, cX1_init, 1, none, 0, 1, 12)
theorem raw_X1 : ∀ j, j < 10 → defaultValue (tyX1 j) = vp_V [.null, .null, .null, .null, .null, .null, .null, .null, .null, .int 0] j := by
  intro j hj
  match j, hj with
  | 0, _ => rfl
  | 1, _ => rfl
  | 2, _ => rfl
  | 3, _ => rfl
  | 4, _ => rfl
  | 5, _ => rfl
  | 6, _ => rfl
  | 7, _ => rfl
  | 8, _ => rfl
  | 9, _ => rfl
  | n + 10, h => exact absurd h (by omega)
def wY (cA : Nat → ClassId) (q0 : Nat) (a : Nat → Nat) : va_W := [(q0, .inr (1, [.ref (a 1), .ref (a 2), .ref (a 3), .ref (a 4), .ref (a 5), .ref (a 6), .ref (a 7), .ref (a 8), .ref (a 9), .int 0])), (a 1, .inl (cA 0, 4, .inl (fun _ => 0))), (a 2, .inl (cA 0, 4, .inl (fun _ => 0))), (a 3, .inl (cA 0, 4, .inl (fun _ => 0))), (a 4, .inl (cA 0, 4, .inl (fun _ => 0))), (a 5, .inl (cA 0, 4, .inl (fun _ => 0))), (a 6, .inl (cA 0, 4, .inl (fun _ => 0))), (a 7, .inl (cA 0, 4, .inl (fun _ => 0))), (a 8, .inl (cA 0, 4, .inl (fun _ => 0))), (a 9, .inl (cA 0, 64, .inl (fun _ => 0)))]
set_option maxHeartbeats 4000000 in
theorem c_X1_init (cA : Nat → ClassId) : Ci MX1_init cA 9 96 1 [.null, .null, .null, .null, .null, .null, .null, .null, .null, .int 0] (fun q0 w => ∃ a : Nat → Nat, w = wY cA q0 a) := by
  refine ci_of (by decide) rfl rfl rfl (by decide) (fun q0 => ?_)
  refine g_aload_n dX1_init_0 rfl ?_
  refine g_obj dX1_init_1 w196 (by decide) (by decide) ?_
  refine g_aload_n dX1_init_4 rfl ?_
  refine g_iconst (v := 4) dX1_init_5 (by decide +kernel) ?_
  refine g_newi (N := 4) dX1_init_6 (by decide +kernel) (by decide) (by decide) (by decide) (fun q6 => ?_)
  refine g_putF 0 0 dX1_init_8 rfl ck1 (by decide) w197 rfl rfl rfl rfl (Nat.le_of_ble_eq_true rfl) (ws2 := ([(q0, .inr (1, [.ref q6, .null, .null, .null, .null, .null, .null, .null, .null, .int 0])), (q6, .inl (cA 0, 4, .inl (fun _ => 0)))] : va_W)) rfl ?_
  refine g_aload_n dX1_init_11 rfl ?_
  refine g_iconst (v := 4) dX1_init_12 (by decide +kernel) ?_
  refine g_newi (N := 4) dX1_init_13 (by decide +kernel) (by decide) (by decide) (by decide) (fun q13 => ?_)
  refine g_putF 0 1 dX1_init_15 rfl ck1 (by decide) w199 rfl rfl rfl rfl (Nat.le_of_ble_eq_true rfl) (ws2 := ([(q0, .inr (1, [.ref q6, .ref q13, .null, .null, .null, .null, .null, .null, .null, .int 0])), (q6, .inl (cA 0, 4, .inl (fun _ => 0))), (q13, .inl (cA 0, 4, .inl (fun _ => 0)))] : va_W)) rfl ?_
  refine g_aload_n dX1_init_18 rfl ?_
  refine g_iconst (v := 4) dX1_init_19 (by decide +kernel) ?_
  refine g_newi (N := 4) dX1_init_20 (by decide +kernel) (by decide) (by decide) (by decide) (fun q20 => ?_)
  refine g_putF 0 2 dX1_init_22 rfl ck1 (by decide) w201 rfl rfl rfl rfl (Nat.le_of_ble_eq_true rfl) (ws2 := ([(q0, .inr (1, [.ref q6, .ref q13, .ref q20, .null, .null, .null, .null, .null, .null, .int 0])), (q6, .inl (cA 0, 4, .inl (fun _ => 0))), (q13, .inl (cA 0, 4, .inl (fun _ => 0))), (q20, .inl (cA 0, 4, .inl (fun _ => 0)))] : va_W)) rfl ?_
  refine g_aload_n dX1_init_25 rfl ?_
  refine g_iconst (v := 4) dX1_init_26 (by decide +kernel) ?_
  refine g_newi (N := 4) dX1_init_27 (by decide +kernel) (by decide) (by decide) (by decide) (fun q27 => ?_)
  refine g_putF 0 3 dX1_init_29 rfl ck1 (by decide) w203 rfl rfl rfl rfl (Nat.le_of_ble_eq_true rfl) (ws2 := ([(q0, .inr (1, [.ref q6, .ref q13, .ref q20, .ref q27, .null, .null, .null, .null, .null, .int 0])), (q6, .inl (cA 0, 4, .inl (fun _ => 0))), (q13, .inl (cA 0, 4, .inl (fun _ => 0))), (q20, .inl (cA 0, 4, .inl (fun _ => 0))), (q27, .inl (cA 0, 4, .inl (fun _ => 0)))] : va_W)) rfl ?_
  refine g_aload_n dX1_init_32 rfl ?_
  refine g_iconst (v := 4) dX1_init_33 (by decide +kernel) ?_
  refine g_newi (N := 4) dX1_init_34 (by decide +kernel) (by decide) (by decide) (by decide) (fun q34 => ?_)
  refine g_putF 0 4 dX1_init_36 rfl ck1 (by decide) w205 rfl rfl rfl rfl (Nat.le_of_ble_eq_true rfl) (ws2 := ([(q0, .inr (1, [.ref q6, .ref q13, .ref q20, .ref q27, .ref q34, .null, .null, .null, .null, .int 0])), (q6, .inl (cA 0, 4, .inl (fun _ => 0))), (q13, .inl (cA 0, 4, .inl (fun _ => 0))), (q20, .inl (cA 0, 4, .inl (fun _ => 0))), (q27, .inl (cA 0, 4, .inl (fun _ => 0))), (q34, .inl (cA 0, 4, .inl (fun _ => 0)))] : va_W)) rfl ?_
  refine g_aload_n dX1_init_39 rfl ?_
  refine g_iconst (v := 4) dX1_init_40 (by decide +kernel) ?_
  refine g_newi (N := 4) dX1_init_41 (by decide +kernel) (by decide) (by decide) (by decide) (fun q41 => ?_)
  refine g_putF 0 5 dX1_init_43 rfl ck1 (by decide) w206 rfl rfl rfl rfl (Nat.le_of_ble_eq_true rfl) (ws2 := ([(q0, .inr (1, [.ref q6, .ref q13, .ref q20, .ref q27, .ref q34, .ref q41, .null, .null, .null, .int 0])), (q6, .inl (cA 0, 4, .inl (fun _ => 0))), (q13, .inl (cA 0, 4, .inl (fun _ => 0))), (q20, .inl (cA 0, 4, .inl (fun _ => 0))), (q27, .inl (cA 0, 4, .inl (fun _ => 0))), (q34, .inl (cA 0, 4, .inl (fun _ => 0))), (q41, .inl (cA 0, 4, .inl (fun _ => 0)))] : va_W)) rfl ?_
  refine g_aload_n dX1_init_46 rfl ?_
  refine g_iconst (v := 4) dX1_init_47 (by decide +kernel) ?_
  refine g_newi (N := 4) dX1_init_48 (by decide +kernel) (by decide) (by decide) (by decide) (fun q48 => ?_)
  refine g_putF 0 6 dX1_init_50 rfl ck1 (by decide) w207 rfl rfl rfl rfl (Nat.le_of_ble_eq_true rfl) (ws2 := ([(q0, .inr (1, [.ref q6, .ref q13, .ref q20, .ref q27, .ref q34, .ref q41, .ref q48, .null, .null, .int 0])), (q6, .inl (cA 0, 4, .inl (fun _ => 0))), (q13, .inl (cA 0, 4, .inl (fun _ => 0))), (q20, .inl (cA 0, 4, .inl (fun _ => 0))), (q27, .inl (cA 0, 4, .inl (fun _ => 0))), (q34, .inl (cA 0, 4, .inl (fun _ => 0))), (q41, .inl (cA 0, 4, .inl (fun _ => 0))), (q48, .inl (cA 0, 4, .inl (fun _ => 0)))] : va_W)) rfl ?_
  refine g_aload_n dX1_init_53 rfl ?_
  refine g_iconst (v := 4) dX1_init_54 (by decide +kernel) ?_
  refine g_newi (N := 4) dX1_init_55 (by decide +kernel) (by decide) (by decide) (by decide) (fun q55 => ?_)
  refine g_putF 0 7 dX1_init_57 rfl ck1 (by decide) w208 rfl rfl rfl rfl (Nat.le_of_ble_eq_true rfl) (ws2 := ([(q0, .inr (1, [.ref q6, .ref q13, .ref q20, .ref q27, .ref q34, .ref q41, .ref q48, .ref q55, .null, .int 0])), (q6, .inl (cA 0, 4, .inl (fun _ => 0))), (q13, .inl (cA 0, 4, .inl (fun _ => 0))), (q20, .inl (cA 0, 4, .inl (fun _ => 0))), (q27, .inl (cA 0, 4, .inl (fun _ => 0))), (q34, .inl (cA 0, 4, .inl (fun _ => 0))), (q41, .inl (cA 0, 4, .inl (fun _ => 0))), (q48, .inl (cA 0, 4, .inl (fun _ => 0))), (q55, .inl (cA 0, 4, .inl (fun _ => 0)))] : va_W)) rfl ?_
  refine g_aload_n dX1_init_60 rfl ?_
  refine g_bipush (v := 64) dX1_init_61 (by decide +kernel) ?_
  refine g_newi (N := 64) dX1_init_63 (by decide +kernel) (by decide) (by decide) (by decide) (fun q63 => ?_)
  refine g_putF 0 8 dX1_init_65 rfl ck1 (by decide) w209 rfl rfl rfl rfl (Nat.le_of_ble_eq_true rfl) (ws2 := ([(q0, .inr (1, [.ref q6, .ref q13, .ref q20, .ref q27, .ref q34, .ref q41, .ref q48, .ref q55, .ref q63, .int 0])), (q6, .inl (cA 0, 4, .inl (fun _ => 0))), (q13, .inl (cA 0, 4, .inl (fun _ => 0))), (q20, .inl (cA 0, 4, .inl (fun _ => 0))), (q27, .inl (cA 0, 4, .inl (fun _ => 0))), (q34, .inl (cA 0, 4, .inl (fun _ => 0))), (q41, .inl (cA 0, 4, .inl (fun _ => 0))), (q48, .inl (cA 0, 4, .inl (fun _ => 0))), (q55, .inl (cA 0, 4, .inl (fun _ => 0))), (q63, .inl (cA 0, 64, .inl (fun _ => 0)))] : va_W)) rfl ?_
  refine g_aload_n dX1_init_68 rfl ?_
  refine g_iconst (v := 0) dX1_init_69 (by decide +kernel) ?_
  refine g_put 0 9 dX1_init_70 rfl ck1 (by decide) w210 rfl rfl rfl (Nat.le_of_ble_eq_true rfl) (ws2 := ([(q0, .inr (1, [.ref q6, .ref q13, .ref q20, .ref q27, .ref q34, .ref q41, .ref q48, .ref q55, .ref q63, .int 0])), (q6, .inl (cA 0, 4, .inl (fun _ => 0))), (q13, .inl (cA 0, 4, .inl (fun _ => 0))), (q20, .inl (cA 0, 4, .inl (fun _ => 0))), (q27, .inl (cA 0, 4, .inl (fun _ => 0))), (q34, .inl (cA 0, 4, .inl (fun _ => 0))), (q41, .inl (cA 0, 4, .inl (fun _ => 0))), (q48, .inl (cA 0, 4, .inl (fun _ => 0))), (q55, .inl (cA 0, 4, .inl (fun _ => 0))), (q63, .inl (cA 0, 64, .inl (fun _ => 0)))] : va_W)) rfl ?_
  exact g_ret dX1_init_73 (by decide) (by decide) ⟨fun k => [q0, q6, q13, q20, q27, q34, q41, q48, q55, q63].getD k 0, rfl⟩
theorem dX2_init_0 : decode cX2_init 0 = .ok (.aload_n 0, 1) := by decide +kernel
theorem dX2_init_1 : decode cX2_init 1 = .ok (.invokespecial 3, 3) := by decide +kernel
theorem dX2_init_4 : decode cX2_init 4 = .ok (.aload_n 0, 1) := by decide +kernel
theorem dX2_init_5 : decode cX2_init 5 = .ok (.iconst 0, 1) := by decide +kernel
theorem dX2_init_6 : decode cX2_init 6 = .ok (.putfield 9, 3) := by decide +kernel
theorem dX2_init_9 : decode cX2_init 9 = .ok (.aload_n 0, 1) := by decide +kernel
theorem dX2_init_10 : decode cX2_init 10 = .ok (.iconst 0, 1) := by decide +kernel
theorem dX2_init_11 : decode cX2_init 11 = .ok (.putfield 15, 3) := by decide +kernel
theorem dX2_init_14 : decode cX2_init 14 = .ok (.aload_n 0, 1) := by decide +kernel
theorem dX2_init_15 : decode cX2_init 15 = .ok (.iconst 0, 1) := by decide +kernel
theorem dX2_init_16 : decode cX2_init 16 = .ok (.putfield 19, 3) := by decide +kernel
theorem dX2_init_19 : decode cX2_init 19 = .ok (.aload_n 0, 1) := by decide +kernel
theorem dX2_init_20 : decode cX2_init 20 = .ok (.bipush 40, 2) := by decide +kernel
theorem dX2_init_22 : decode cX2_init 22 = .ok (.newarray .int, 2) := by decide +kernel
theorem dX2_init_24 : decode cX2_init 24 = .ok (.putfield 22, 3) := by decide +kernel
theorem dX2_init_27 : decode cX2_init 27 = .ok (.return_, 1) := by decide +kernel
def MX2_init : MM := (RX2, yX2_init, cX2_init, 1, none, 0, 1, 12)
theorem raw_X2 : ∀ j, j < 4 → defaultValue (tyX2 j) = vp_V [.int 0, .int 0, .int 0, .null] j := by
  intro j hj
  match j, hj with
  | 0, _ => rfl
  | 1, _ => rfl
  | 2, _ => rfl
  | 3, _ => rfl
  | n + 4, h => exact absurd h (by omega)
def wS (cA : Nat → ClassId) (q0 : Nat) (a : Nat → Nat) : va_W := [(q0, .inr (2, [.int 0, .int 0, .int 0, .ref (a 1)])), (a 1, .inl (cA 0, 40, .inl (fun _ => 0)))]
set_option maxHeartbeats 4000000 in
theorem c_X2_init (cA : Nat → ClassId) : Ci MX2_init cA 1 40 2 [.int 0, .int 0, .int 0, .null] (fun q0 w => ∃ a : Nat → Nat, w = wS cA q0 a) := by
  refine ci_of (by decide) rfl rfl rfl (by decide) (fun q0 => ?_)
  refine g_aload_n dX2_init_0 rfl ?_
  refine g_obj dX2_init_1 w238 (by decide) (by decide) ?_
  refine g_aload_n dX2_init_4 rfl ?_
  refine g_iconst (v := 0) dX2_init_5 (by decide +kernel) ?_
  refine g_put 0 0 dX2_init_6 rfl ck2 (by decide) w239 rfl rfl rfl (Nat.le_of_ble_eq_true rfl) (ws2 := ([(q0, .inr (2, [.int 0, .int 0, .int 0, .null]))] : va_W)) rfl ?_
  refine g_aload_n dX2_init_9 rfl ?_
  refine g_iconst (v := 0) dX2_init_10 (by decide +kernel) ?_
  refine g_put 0 1 dX2_init_11 rfl ck2 (by decide) w241 rfl rfl rfl (Nat.le_of_ble_eq_true rfl) (ws2 := ([(q0, .inr (2, [.int 0, .int 0, .int 0, .null]))] : va_W)) rfl ?_
  refine g_aload_n dX2_init_14 rfl ?_
  refine g_iconst (v := 0) dX2_init_15 (by decide +kernel) ?_
  refine g_put 0 2 dX2_init_16 rfl ck2 (by decide) w243 rfl rfl rfl (Nat.le_of_ble_eq_true rfl) (ws2 := ([(q0, .inr (2, [.int 0, .int 0, .int 0, .null]))] : va_W)) rfl ?_
  refine g_aload_n dX2_init_19 rfl ?_
  refine g_bipush (v := 40) dX2_init_20 (by decide +kernel) ?_
  refine g_newi (N := 40) dX2_init_22 (by decide +kernel) (by decide) (by decide) (by decide) (fun q22 => ?_)
  refine g_putF 0 3 dX2_init_24 rfl ck2 (by decide) w245 rfl rfl rfl rfl (Nat.le_of_ble_eq_true rfl) (ws2 := ([(q0, .inr (2, [.int 0, .int 0, .int 0, .ref q22])), (q22, .inl (cA 0, 40, .inl (fun _ => 0)))] : va_W)) rfl ?_
  exact g_ret dX2_init_27 (by decide) (by decide) ⟨fun k => [q0, q22].getD k 0, rfl⟩
theorem dX3_init_0 : decode cX3_init 0 = .ok (.aload_n 0, 1) := by decide +kernel
theorem dX3_init_1 : decode cX3_init 1 = .ok (.invokespecial 3, 3) := by decide +kernel
theorem dX3_init_4 : decode cX3_init 4 = .ok (.aload_n 0, 1) := by decide +kernel
theorem dX3_init_5 : decode cX3_init 5 = .ok (.sipush 160, 3) := by decide +kernel
theorem dX3_init_8 : decode cX3_init 8 = .ok (.newarray .int, 2) := by decide +kernel
theorem dX3_init_10 : decode cX3_init 10 = .ok (.putfield 11, 3) := by decide +kernel
theorem dX3_init_13 : decode cX3_init 13 = .ok (.aload_n 0, 1) := by decide +kernel
theorem dX3_init_14 : decode cX3_init 14 = .ok (.iconst 0, 1) := by decide +kernel
theorem dX3_init_15 : decode cX3_init 15 = .ok (.putfield 15, 3) := by decide +kernel
theorem dX3_init_18 : decode cX3_init 18 = .ok (.aload_n 0, 1) := by decide +kernel
theorem dX3_init_19 : decode cX3_init 19 = .ok (.iconst 0, 1) := by decide +kernel
theorem dX3_init_20 : decode cX3_init 20 = .ok (.putfield 19, 3) := by decide +kernel
theorem dX3_init_23 : decode cX3_init 23 = .ok (.aload_n 0, 1) := by decide +kernel
theorem dX3_init_24 : decode cX3_init 24 = .ok (.iconst 0, 1) := by decide +kernel
theorem dX3_init_25 : decode cX3_init 25 = .ok (.putfield 22, 3) := by decide +kernel
theorem dX3_init_28 : decode cX3_init 28 = .ok (.aload_n 0, 1) := by decide +kernel
theorem dX3_init_29 : decode cX3_init 29 = .ok (.iconst 0, 1) := by decide +kernel
theorem dX3_init_30 : decode cX3_init 30 = .ok (.putfield 25, 3) := by decide +kernel
theorem dX3_init_33 : decode cX3_init 33 = .ok (.aload_n 0, 1) := by decide +kernel
theorem dX3_init_34 : decode cX3_init 34 = .ok (.iconst 0, 1) := by decide +kernel
theorem dX3_init_35 : decode cX3_init 35 = .ok (.putfield 28, 3) := by decide +kernel
theorem dX3_init_38 : decode cX3_init 38 = .ok (.aload_n 0, 1) := by decide +kernel
theorem dX3_init_39 : decode cX3_init 39 = .ok (.iconst 0, 1) := by decide +kernel
theorem dX3_init_40 : decode cX3_init 40 = .ok (.putfield 31, 3) := by decide +kernel
theorem dX3_init_43 : decode cX3_init 43 = .ok (.return_, 1) := by decide +kernel
def MX3_init : MM := (RX3, yX3_init, cX3_init, 1, none, 0, 1, 12)
theorem raw_X3 : ∀ j, j < 7 → defaultValue (tyX3 j) = vp_V [.null, .int 0, .int 0, .int 0, .int 0, .int 0, .int 0] j := by
  intro j hj
  match j, hj with
  | 0, _ => rfl
  | 1, _ => rfl
  | 2, _ => rfl
  | 3, _ => rfl
  | 4, _ => rfl
  | 5, _ => rfl
  | 6, _ => rfl
  | n + 7, h => exact absurd h (by omega)
def wT3 (cA : Nat → ClassId) (q0 : Nat) (a : Nat → Nat) : va_W := [(q0, .inr (3, [.ref (a 1), .int 0, .int 0, .int 0, .int 0, .int 0, .int 0])), (a 1, .inl (cA 0, 160, .inl (fun _ => 0)))]
set_option maxHeartbeats 4000000 in
theorem c_X3_init (cA : Nat → ClassId) : Ci MX3_init cA 1 160 3 [.null, .int 0, .int 0, .int 0, .int 0, .int 0, .int 0] (fun q0 w => ∃ a : Nat → Nat, w = wT3 cA q0 a) := by
  refine ci_of (by decide) rfl rfl rfl (by decide) (fun q0 => ?_)
  refine g_aload_n dX3_init_0 rfl ?_
  refine g_obj dX3_init_1 w165 (by decide) (by decide) ?_
  refine g_aload_n dX3_init_4 rfl ?_
  refine g_sipush (v := 160) dX3_init_5 (by decide +kernel) ?_
  refine g_newi (N := 160) dX3_init_8 (by decide +kernel) (by decide) (by decide) (by decide) (fun q8 => ?_)
  refine g_putF 0 0 dX3_init_10 rfl ck3 (by decide) w166 rfl rfl rfl rfl (Nat.le_of_ble_eq_true rfl) (ws2 := ([(q0, .inr (3, [.ref q8, .int 0, .int 0, .int 0, .int 0, .int 0, .int 0])), (q8, .inl (cA 0, 160, .inl (fun _ => 0)))] : va_W)) rfl ?_
  refine g_aload_n dX3_init_13 rfl ?_
  refine g_iconst (v := 0) dX3_init_14 (by decide +kernel) ?_
  refine g_put 0 1 dX3_init_15 rfl ck3 (by decide) w167 rfl rfl rfl (Nat.le_of_ble_eq_true rfl) (ws2 := ([(q0, .inr (3, [.ref q8, .int 0, .int 0, .int 0, .int 0, .int 0, .int 0])), (q8, .inl (cA 0, 160, .inl (fun _ => 0)))] : va_W)) rfl ?_
  refine g_aload_n dX3_init_18 rfl ?_
  refine g_iconst (v := 0) dX3_init_19 (by decide +kernel) ?_
  refine g_put 0 2 dX3_init_20 rfl ck3 (by decide) w169 rfl rfl rfl (Nat.le_of_ble_eq_true rfl) (ws2 := ([(q0, .inr (3, [.ref q8, .int 0, .int 0, .int 0, .int 0, .int 0, .int 0])), (q8, .inl (cA 0, 160, .inl (fun _ => 0)))] : va_W)) rfl ?_
  refine g_aload_n dX3_init_23 rfl ?_
  refine g_iconst (v := 0) dX3_init_24 (by decide +kernel) ?_
  refine g_put 0 3 dX3_init_25 rfl ck3 (by decide) w171 rfl rfl rfl (Nat.le_of_ble_eq_true rfl) (ws2 := ([(q0, .inr (3, [.ref q8, .int 0, .int 0, .int 0, .int 0, .int 0, .int 0])), (q8, .inl (cA 0, 160, .inl (fun _ => 0)))] : va_W)) rfl ?_
  refine g_aload_n dX3_init_28 rfl ?_
  refine g_iconst (v := 0) dX3_init_29 (by decide +kernel) ?_
  refine g_put 0 4 dX3_init_30 rfl ck3 (by decide) w172 rfl rfl rfl (Nat.le_of_ble_eq_true rfl) (ws2 := ([(q0, .inr (3, [.ref q8, .int 0, .int 0, .int 0, .int 0, .int 0, .int 0])), (q8, .inl (cA 0, 160, .inl (fun _ => 0)))] : va_W)) rfl ?_
  refine g_aload_n dX3_init_33 rfl ?_
  refine g_iconst (v := 0) dX3_init_34 (by decide +kernel) ?_
  refine g_put 0 5 dX3_init_35 rfl ck3 (by decide) w173 rfl rfl rfl (Nat.le_of_ble_eq_true rfl) (ws2 := ([(q0, .inr (3, [.ref q8, .int 0, .int 0, .int 0, .int 0, .int 0, .int 0])), (q8, .inl (cA 0, 160, .inl (fun _ => 0)))] : va_W)) rfl ?_
  refine g_aload_n dX3_init_38 rfl ?_
  refine g_iconst (v := 0) dX3_init_39 (by decide +kernel) ?_
  refine g_put 0 6 dX3_init_40 rfl ck3 (by decide) w174 rfl rfl rfl (Nat.le_of_ble_eq_true rfl) (ws2 := ([(q0, .inr (3, [.ref q8, .int 0, .int 0, .int 0, .int 0, .int 0, .int 0])), (q8, .inl (cA 0, 160, .inl (fun _ => 0)))] : va_W)) rfl ?_
  exact g_ret dX3_init_43 (by decide) (by decide) ⟨fun k => [q0, q8].getD k 0, rfl⟩
