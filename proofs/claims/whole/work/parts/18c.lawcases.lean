/-! ===== the law's cases ===== -/
theorem mo_X5_count : MvOk MX5_count 1 := ⟨w1196, w1197, w59, w1198, by decide +kernel, by decide +kernel, by decide +kernel⟩
theorem mo_X4_count : MvOk MX4_count 1 := ⟨w752, w753, w54, w754, by decide +kernel, by decide +kernel, by decide +kernel⟩
theorem mo_X5_torn : MvOk MX5_torn 0 := ⟨w1192, w1193, w59, w1194, by decide +kernel, by decide +kernel, by decide +kernel⟩
theorem mo_X4_torn : MvOk MX4_torn 0 := ⟨w748, w749, w54, w750, by decide +kernel, by decide +kernel, by decide +kernel⟩
theorem mo_X5_read : MvOk MX5_read 4 := ⟨w1188, w1189, w59, w1190, by decide +kernel, by decide +kernel, by decide +kernel⟩
theorem mo_X4_read : MvOk MX4_read 4 := ⟨w740, w741, w54, w742, by decide +kernel, by decide +kernel, by decide +kernel⟩
theorem mo_X5_lay : MvOk MX5_lay 3 := ⟨w1184, w1185, w59, w1186, by decide +kernel, by decide +kernel, by decide +kernel⟩
theorem mo_X4_lay : MvOk MX4_lay 3 := ⟨w729, w730, w54, w731, by decide +kernel, by decide +kernel, by decide +kernel⟩
theorem mo_X5_sheet : MvOk MX5_sheet 3 := ⟨w1180, w1181, w59, w1182, by decide +kernel, by decide +kernel, by decide +kernel⟩
theorem mo_X4_sheet : MvOk MX4_sheet 3 := ⟨w721, w722, w54, w723, by decide +kernel, by decide +kernel, by decide +kernel⟩
theorem mo_X5_back : MvOk MX5_back 1 := ⟨w1172, w1173, w59, w1174, by decide +kernel, by decide +kernel, by decide +kernel⟩
theorem mo_X4_back : MvOk MX4_back 1 := ⟨w713, w714, w54, w715, by decide +kernel, by decide +kernel, by decide +kernel⟩
theorem mo_X5_keep : MvOk MX5_keep 1 := ⟨w1168, w1169, w59, w1170, by decide +kernel, by decide +kernel, by decide +kernel⟩
theorem mo_X4_keep : MvOk MX4_keep 1 := ⟨w709, w710, w54, w711, by decide +kernel, by decide +kernel, by decide +kernel⟩
theorem mo_X5_drift : MvOk MX5_drift 3 := ⟨w1158, w1159, w59, w1160, by decide +kernel, by decide +kernel, by decide +kernel⟩
theorem mo_X4_drift : MvOk MX4_drift 3 := ⟨w694, w695, w54, w696, by decide +kernel, by decide +kernel, by decide +kernel⟩
theorem mo_X5_listen : MvOk MX5_listen 2 := ⟨w1154, w1155, w59, w1156, by decide +kernel, by decide +kernel, by decide +kernel⟩
theorem mo_X4_listen : MvOk MX4_listen 2 := ⟨w685, w686, w54, w687, by decide +kernel, by decide +kernel, by decide +kernel⟩
theorem mo_X5_fits : MvOk MX5_fits 1 := ⟨w1146, w1147, w59, w1148, by decide +kernel, by decide +kernel, by decide +kernel⟩
theorem mo_X4_fits : MvOk MX4_fits 1 := ⟨w677, w678, w54, w679, by decide +kernel, by decide +kernel, by decide +kernel⟩
theorem mo_X5_forget : MvOk MX5_forget 1 := ⟨w1142, w1143, w59, w1144, by decide +kernel, by decide +kernel, by decide +kernel⟩
theorem mo_X4_forget : MvOk MX4_forget 1 := ⟨w673, w674, w54, w675, by decide +kernel, by decide +kernel, by decide +kernel⟩
theorem mo_X5_see : MvOk MX5_see 3 := ⟨w1138, w1139, w59, w1140, by decide +kernel, by decide +kernel, by decide +kernel⟩
theorem mo_X4_see : MvOk MX4_see 3 := ⟨w669, w670, w54, w671, by decide +kernel, by decide +kernel, by decide +kernel⟩
theorem mo_X5_luck : MvOk MX5_luck 3 := ⟨w1134, w1135, w59, w1136, by decide +kernel, by decide +kernel, by decide +kernel⟩
theorem mo_X4_luck : MvOk MX4_luck 3 := ⟨w665, w666, w54, w667, by decide +kernel, by decide +kernel, by decide +kernel⟩
theorem mo_X5_mean : MvOk MX5_mean 2 := ⟨w1122, w1123, w59, w1124, by decide +kernel, by decide +kernel, by decide +kernel⟩
theorem mo_X4_mean : MvOk MX4_mean 2 := ⟨w653, w654, w54, w655, by decide +kernel, by decide +kernel, by decide +kernel⟩
theorem mo_X5_teach : MvOk MX5_teach 1 := ⟨w1118, w1119, w59, w1120, by decide +kernel, by decide +kernel, by decide +kernel⟩
theorem mo_X4_teach : MvOk MX4_teach 1 := ⟨w649, w650, w54, w651, by decide +kernel, by decide +kernel, by decide +kernel⟩
theorem mo_X5_bribe : MvOk MX5_bribe 3 := ⟨w1114, w1115, w59, w1116, by decide +kernel, by decide +kernel, by decide +kernel⟩
theorem mo_X4_bribe : MvOk MX4_bribe 3 := ⟨w634, w635, w54, w636, by decide +kernel, by decide +kernel, by decide +kernel⟩
theorem mo_X5_compose : MvOk MX5_compose 2 := ⟨w1109, w1110, w59, w1111, by decide +kernel, by decide +kernel, by decide +kernel⟩
theorem mo_X4_compose : MvOk MX4_compose 2 := ⟨w629, w630, w54, w631, by decide +kernel, by decide +kernel, by decide +kernel⟩
theorem mo_X5_apart : MvOk MX5_apart 1 := ⟨w1105, w1106, w59, w1107, by decide +kernel, by decide +kernel, by decide +kernel⟩
theorem mo_X4_apart : MvOk MX4_apart 1 := ⟨w625, w626, w54, w627, by decide +kernel, by decide +kernel, by decide +kernel⟩
theorem mo_X5_best : MvOk MX5_best 1 := ⟨w1085, w1086, w59, w1087, by decide +kernel, by decide +kernel, by decide +kernel⟩
theorem mo_X4_best : MvOk MX4_best 1 := ⟨w614, w615, w54, w616, by decide +kernel, by decide +kernel, by decide +kernel⟩
theorem mo_X5_first : MvOk MX5_first 1 := ⟨w1080, w1081, w59, w1082, by decide +kernel, by decide +kernel, by decide +kernel⟩
theorem mo_X4_first : MvOk MX4_first 1 := ⟨w605, w606, w54, w607, by decide +kernel, by decide +kernel, by decide +kernel⟩
theorem mo_X5_sum : MvOk MX5_sum 1 := ⟨w1065, w1066, w59, w1067, by decide +kernel, by decide +kernel, by decide +kernel⟩
theorem mo_X4_sum : MvOk MX4_sum 1 := ⟨w580, w581, w54, w582, by decide +kernel, by decide +kernel, by decide +kernel⟩
theorem mo_X5_sounds : MvOk MX5_sounds 1 := ⟨w1061, w1062, w59, w1063, by decide +kernel, by decide +kernel, by decide +kernel⟩
theorem mo_X4_sounds : MvOk MX4_sounds 1 := ⟨w576, w577, w54, w578, by decide +kernel, by decide +kernel, by decide +kernel⟩
theorem mo_X5_plays : MvOk MX5_plays 1 := ⟨w1057, w1058, w59, w1059, by decide +kernel, by decide +kernel, by decide +kernel⟩
theorem mo_X4_plays : MvOk MX4_plays 1 := ⟨w572, w573, w54, w574, by decide +kernel, by decide +kernel, by decide +kernel⟩
theorem mo_X5_over : MvOk MX5_over 2 := ⟨w1052, w1053, w59, w1054, by decide +kernel, by decide +kernel, by decide +kernel⟩
theorem mo_X4_over : MvOk MX4_over 2 := ⟨w536, w537, w54, w538, by decide +kernel, by decide +kernel, by decide +kernel⟩
theorem mo_X5_out : MvOk MX5_out 2 := ⟨w1028, w1029, w59, w1030, by decide +kernel, by decide +kernel, by decide +kernel⟩
theorem mo_X4_out : MvOk MX4_out 2 := ⟨w532, w533, w54, w534, by decide +kernel, by decide +kernel, by decide +kernel⟩
theorem mo_X5_bind : MvOk MX5_bind 2 := ⟨w1020, w1021, w59, w1022, by decide +kernel, by decide +kernel, by decide +kernel⟩
theorem mo_X4_bind : MvOk MX4_bind 2 := ⟨w522, w523, w54, w524, by decide +kernel, by decide +kernel, by decide +kernel⟩
theorem mo_X5_hire : MvOk MX5_hire 3 := ⟨w1015, w1016, w59, w1017, by decide +kernel, by decide +kernel, by decide +kernel⟩
theorem mo_X4_hire : MvOk MX4_hire 3 := ⟨w518, w519, w54, w520, by decide +kernel, by decide +kernel, by decide +kernel⟩
theorem mo_X5_set : MvOk MX5_set 3 := ⟨w1011, w1012, w59, w1013, by decide +kernel, by decide +kernel, by decide +kernel⟩
theorem mo_X4_set : MvOk MX4_set 3 := ⟨w514, w515, w54, w516, by decide +kernel, by decide +kernel, by decide +kernel⟩
theorem mo_X5_add : MvOk MX5_add 2 := ⟨w1007, w1008, w59, w1009, by decide +kernel, by decide +kernel, by decide +kernel⟩
theorem mo_X4_add : MvOk MX4_add 2 := ⟨w510, w511, w54, w512, by decide +kernel, by decide +kernel, by decide +kernel⟩
theorem mo_X5_write : MvOk MX5_write 3 := ⟨w998, w999, w59, w1000, by decide +kernel, by decide +kernel, by decide +kernel⟩
theorem mo_X4_write : MvOk MX4_write 3 := ⟨w503, w504, w54, w505, by decide +kernel, by decide +kernel, by decide +kernel⟩
theorem mo_X5_bound : MvOk MX5_bound 1 := ⟨w990, w991, w59, w992, by decide +kernel, by decide +kernel, by decide +kernel⟩
theorem mo_X4_bound : MvOk MX4_bound 1 := ⟨w495, w496, w54, w497, by decide +kernel, by decide +kernel, by decide +kernel⟩
theorem mo_X5_player : MvOk MX5_player 2 := ⟨w981, w982, w59, w983, by decide +kernel, by decide +kernel, by decide +kernel⟩
theorem mo_X4_player : MvOk MX4_player 2 := ⟨w487, w488, w54, w489, by decide +kernel, by decide +kernel, by decide +kernel⟩
theorem mo_X5_has : MvOk MX5_has 2 := ⟨w969, w970, w59, w971, by decide +kernel, by decide +kernel, by decide +kernel⟩
theorem mo_X4_has : MvOk MX4_has 2 := ⟨w472, w473, w54, w474, by decide +kernel, by decide +kernel, by decide +kernel⟩
theorem mo_X5_note : MvOk MX5_note 2 := ⟨w961, w962, w59, w963, by decide +kernel, by decide +kernel, by decide +kernel⟩
theorem mo_X4_note : MvOk MX4_note 2 := ⟨w464, w465, w54, w466, by decide +kernel, by decide +kernel, by decide +kernel⟩
theorem mo_X5_tune : MvOk MX5_tune 2 := ⟨w938, w939, w59, w940, by decide +kernel, by decide +kernel, by decide +kernel⟩
theorem mo_X4_tune : MvOk MX4_tune 2 := ⟨w448, w449, w54, w450, by decide +kernel, by decide +kernel, by decide +kernel⟩
theorem mo_X5_rule : MvOk MX5_rule 1 := ⟨w934, w935, w59, w936, by decide +kernel, by decide +kernel, by decide +kernel⟩
theorem mo_X4_rule : MvOk MX4_rule 1 := ⟨w444, w445, w54, w446, by decide +kernel, by decide +kernel, by decide +kernel⟩
theorem mo_X5_fault : MvOk MX5_fault 0 := ⟨w930, w931, w59, w932, by decide +kernel, by decide +kernel, by decide +kernel⟩
theorem mo_X4_fault : MvOk MX4_fault 0 := ⟨w440, w441, w54, w442, by decide +kernel, by decide +kernel, by decide +kernel⟩
theorem mo_X5_text : MvOk MX5_text 0 := ⟨w885, w886, w59, w887, by decide +kernel, by decide +kernel, by decide +kernel⟩
theorem mo_X4_text : MvOk MX4_text 0 := ⟨w312, w313, w54, w314, by decide +kernel, by decide +kernel, by decide +kernel⟩
theorem mo_X5_end : MvOk MX5_end 1 := ⟨w881, w882, w59, w883, by decide +kernel, by decide +kernel, by decide +kernel⟩
theorem mo_X4_end : MvOk MX4_end 1 := ⟨w308, w309, w54, w310, by decide +kernel, by decide +kernel, by decide +kernel⟩
theorem mo_X5_feed : MvOk MX5_feed 1 := ⟨w873, w874, w59, w875, by decide +kernel, by decide +kernel, by decide +kernel⟩
theorem mo_X4_feed : MvOk MX4_feed 1 := ⟨w297, w298, w54, w299, by decide +kernel, by decide +kernel, by decide +kernel⟩
section CASES
variable {l : Launch} {e : Env} {below : List Frame} {p : Program} {s : State} {m : MethodId} {meth : Method} {c : Code} {b L : Nat} {xs : Nat → Int32} {D : va_G} {aX aM : Nat → Nat} {cA : Nat → ClassId} {ce sl : Nat} {i : Int32} {x d : DD}
theorem lc_0 (E : LE p s m meth c b L xs D aX aM cA ce sl) {n : Nat} (hi : i = nI n) (hn : n + 5 ≤ L) (hR0 : Rel x d) (k : ∀ x' d', Rel x' d' → Lv l e below p s m meth c b D aX aM cA ce sl 1420 [] i x' d' false) : Lv l e below p s m meth c b D aX aM cA ce sl 208 [] i x d false := by
  obtain ⟨H0, hR⟩ := hR0
  obtain ⟨r, PX, PM, h1, h2, h3⟩ : Two MX4_feed MX5_feed [.ref 0, .int (xs (n + 1))] x d := two_feed hR
  refine lr_a E dL_law_208 rfl ?_
  refine lr_arg (j := 1) E hi (by omega) dL_law_209 dL_law_210 dL_law_211 (by decide +kernel) dL_law_212 dL_law_213 ?_
  refine lr_cXi (M2 := MX4_feed) (is := [xs (n + 1)]) E dL_law_214 w296 rfl mo_X4_feed rfl ⟨Nat.le_of_ble_eq_true rfl, Nat.le_of_ble_eq_true rfl⟩ rfl (Nat.le_of_ble_eq_true rfl) h1 (fun r1 x1 hq1 => ?_)
  refine lr_a E dL_law_217 rfl ?_
  refine lr_arg (j := 1) E hi (by omega) dL_law_218 dL_law_219 dL_law_220 (by decide +kernel) dL_law_221 dL_law_222 ?_
  refine lr_cMi (M2 := MX5_feed) (is := [xs (n + 1)]) E dL_law_223 w872 rfl mo_X5_feed rfl ⟨Nat.le_of_ble_eq_true rfl, Nat.le_of_ble_eq_true rfl⟩ rfl (Nat.le_of_ble_eq_true rfl) h2 (fun r2 d1 hq2 => ?_)
  exact lr_eq (tgt := 1420) E dL_law_226 (by decide) (hq1.1.trans hq2.1.symm) (k _ _ (h3 _ _ hq1.2 hq2.2))
theorem lc_1 (E : LE p s m meth c b L xs D aX aM cA ce sl) {n : Nat} (hi : i = nI n) (hn : n + 5 ≤ L) (hR0 : Rel x d) (k : ∀ x' d', Rel x' d' → Lv l e below p s m meth c b D aX aM cA ce sl 1420 [] i x' d' false) : Lv l e below p s m meth c b D aX aM cA ce sl 231 [] i x d false := by
  obtain ⟨H0, hR⟩ := hR0
  obtain ⟨r, PX, PM, h1, h2, h3⟩ : Two MX4_end MX5_end [.ref 0, .int (xs (n + 1))] x d := two_end hR
  refine lr_a E dL_law_231 rfl ?_
  refine lr_arg (j := 1) E hi (by omega) dL_law_232 dL_law_233 dL_law_234 (by decide +kernel) dL_law_235 dL_law_236 ?_
  refine lr_cXi (M2 := MX4_end) (is := [xs (n + 1)]) E dL_law_237 w307 rfl mo_X4_end rfl ⟨Nat.le_of_ble_eq_true rfl, Nat.le_of_ble_eq_true rfl⟩ rfl (Nat.le_of_ble_eq_true rfl) h1 (fun r1 x1 hq1 => ?_)
  refine lr_a E dL_law_240 rfl ?_
  refine lr_arg (j := 1) E hi (by omega) dL_law_241 dL_law_242 dL_law_243 (by decide +kernel) dL_law_244 dL_law_245 ?_
  refine lr_cMi (M2 := MX5_end) (is := [xs (n + 1)]) E dL_law_246 w880 rfl mo_X5_end rfl ⟨Nat.le_of_ble_eq_true rfl, Nat.le_of_ble_eq_true rfl⟩ rfl (Nat.le_of_ble_eq_true rfl) h2 (fun r2 d1 hq2 => ?_)
  exact lr_eq (tgt := 1420) E dL_law_249 (by decide) (hq1.1.trans hq2.1.symm) (k _ _ (h3 _ _ hq1.2 hq2.2))
theorem lc_2 (E : LE p s m meth c b L xs D aX aM cA ce sl) {n : Nat} (hi : i = nI n) (hn : n + 5 ≤ L) (hR0 : Rel x d) (k : ∀ x' d', Rel x' d' → Lv l e below p s m meth c b D aX aM cA ce sl 1420 [] i x' d' false) : Lv l e below p s m meth c b D aX aM cA ce sl 254 [] i x d false := by
  obtain ⟨H0, hR⟩ := hR0
  obtain ⟨r, PX, PM, h1, h2, h3⟩ : Two MX4_text MX5_text [.ref 0] x d := two_text hR
  refine lr_a E dL_law_254 rfl ?_
  refine lr_cXi (M2 := MX4_text) (is := []) E dL_law_255 w311 rfl mo_X4_text rfl ⟨Nat.le_of_ble_eq_true rfl, Nat.le_of_ble_eq_true rfl⟩ rfl (Nat.le_of_ble_eq_true rfl) h1 (fun r1 x1 hq1 => ?_)
  refine lr_a E dL_law_258 rfl ?_
  refine lr_cMi (M2 := MX5_text) (is := []) E dL_law_259 w884 rfl mo_X5_text rfl ⟨Nat.le_of_ble_eq_true rfl, Nat.le_of_ble_eq_true rfl⟩ rfl (Nat.le_of_ble_eq_true rfl) h2 (fun r2 d1 hq2 => ?_)
  exact lr_eq (tgt := 1420) E dL_law_262 (by decide) (hq1.1.trans hq2.1.symm) (k _ _ (h3 _ _ hq1.2 hq2.2))
theorem lc_3 (E : LE p s m meth c b L xs D aX aM cA ce sl) {n : Nat} (hi : i = nI n) (hn : n + 5 ≤ L) (hR0 : Rel x d) (hF : x 36 2 = d 0 11) (k : ∀ x' d', Rel x' d' → Lv l e below p s m meth c b D aX aM cA ce sl 1420 [] i x' d' false) : Lv l e below p s m meth c b D aX aM cA ce sl 267 [] i x d false := by
  obtain ⟨H0, hR⟩ := hR0
  obtain ⟨r, PX, PM, h1, h2, h3⟩ : Two MX4_fault MX5_fault [.ref 0] x d := two_fault hR hF
  refine lr_a E dL_law_267 rfl ?_
  refine lr_cXi (M2 := MX4_fault) (is := []) E dL_law_268 w439 rfl mo_X4_fault rfl ⟨Nat.le_of_ble_eq_true rfl, Nat.le_of_ble_eq_true rfl⟩ rfl (Nat.le_of_ble_eq_true rfl) h1 (fun r1 x1 hq1 => ?_)
  refine lr_a E dL_law_271 rfl ?_
  refine lr_cMi (M2 := MX5_fault) (is := []) E dL_law_272 w929 rfl mo_X5_fault rfl ⟨Nat.le_of_ble_eq_true rfl, Nat.le_of_ble_eq_true rfl⟩ rfl (Nat.le_of_ble_eq_true rfl) h2 (fun r2 d1 hq2 => ?_)
  exact lr_eq (tgt := 1420) E dL_law_275 (by decide) (hq1.1.trans hq2.1.symm) (k _ _ (h3 _ _ hq1.2 hq2.2))
theorem lc_4 (E : LE p s m meth c b L xs D aX aM cA ce sl) {n : Nat} (hi : i = nI n) (hn : n + 5 ≤ L) (hR0 : Rel x d) (k : ∀ x' d', Rel x' d' → Lv l e below p s m meth c b D aX aM cA ce sl 1420 [] i x' d' false) : Lv l e below p s m meth c b D aX aM cA ce sl 280 [] i x d false := by
  obtain ⟨H0, hR⟩ := hR0
  obtain ⟨r, PX, PM, h1, h2, h3⟩ : Two MX4_rule MX5_rule [.ref 0, .int (xs (n + 1))] x d := two_rule hR
  refine lr_a E dL_law_280 rfl ?_
  refine lr_arg (j := 1) E hi (by omega) dL_law_281 dL_law_282 dL_law_283 (by decide +kernel) dL_law_284 dL_law_285 ?_
  refine lr_cXi (M2 := MX4_rule) (is := [xs (n + 1)]) E dL_law_286 w443 rfl mo_X4_rule rfl ⟨Nat.le_of_ble_eq_true rfl, Nat.le_of_ble_eq_true rfl⟩ rfl (Nat.le_of_ble_eq_true rfl) h1 (fun r1 x1 hq1 => ?_)
  refine lr_a E dL_law_289 rfl ?_
  refine lr_arg (j := 1) E hi (by omega) dL_law_290 dL_law_291 dL_law_292 (by decide +kernel) dL_law_293 dL_law_294 ?_
  refine lr_cMi (M2 := MX5_rule) (is := [xs (n + 1)]) E dL_law_295 w933 rfl mo_X5_rule rfl ⟨Nat.le_of_ble_eq_true rfl, Nat.le_of_ble_eq_true rfl⟩ rfl (Nat.le_of_ble_eq_true rfl) h2 (fun r2 d1 hq2 => ?_)
  exact lr_eq (tgt := 1420) E dL_law_298 (by decide) (hq1.1.trans hq2.1.symm) (k _ _ (h3 _ _ hq1.2 hq2.2))
theorem lc_5 (E : LE p s m meth c b L xs D aX aM cA ce sl) {n : Nat} (hi : i = nI n) (hn : n + 5 ≤ L) (hR0 : Rel x d) (k : ∀ x' d', Rel x' d' → Lv l e below p s m meth c b D aX aM cA ce sl 1420 [] i x' d' false) : Lv l e below p s m meth c b D aX aM cA ce sl 303 [] i x d false := by
  obtain ⟨H0, hR⟩ := hR0
  obtain ⟨r, PX, PM, h1, h2, h3⟩ : Two MX4_tune MX5_tune [.ref 0, .int (xs (n + 1)), .int (xs (n + 2))] x d := two_tune hR
  refine lr_a E dL_law_303 rfl ?_
  refine lr_arg (j := 1) E hi (by omega) dL_law_304 dL_law_305 dL_law_306 (by decide +kernel) dL_law_307 dL_law_308 ?_
  refine lr_arg (j := 2) E hi (by omega) dL_law_309 dL_law_310 dL_law_311 (by decide +kernel) dL_law_312 dL_law_313 ?_
  refine lr_cXi (M2 := MX4_tune) (is := [xs (n + 1), xs (n + 2)]) E dL_law_314 w447 rfl mo_X4_tune rfl ⟨Nat.le_of_ble_eq_true rfl, Nat.le_of_ble_eq_true rfl⟩ rfl (Nat.le_of_ble_eq_true rfl) h1 (fun r1 x1 hq1 => ?_)
  refine lr_a E dL_law_317 rfl ?_
  refine lr_arg (j := 1) E hi (by omega) dL_law_318 dL_law_319 dL_law_320 (by decide +kernel) dL_law_321 dL_law_322 ?_
  refine lr_arg (j := 2) E hi (by omega) dL_law_323 dL_law_324 dL_law_325 (by decide +kernel) dL_law_326 dL_law_327 ?_
  refine lr_cMi (M2 := MX5_tune) (is := [xs (n + 1), xs (n + 2)]) E dL_law_328 w937 rfl mo_X5_tune rfl ⟨Nat.le_of_ble_eq_true rfl, Nat.le_of_ble_eq_true rfl⟩ rfl (Nat.le_of_ble_eq_true rfl) h2 (fun r2 d1 hq2 => ?_)
  exact lr_eq (tgt := 1420) E dL_law_331 (by decide) (hq1.1.trans hq2.1.symm) (k _ _ (h3 _ _ hq1.2 hq2.2))
theorem lc_6 (E : LE p s m meth c b L xs D aX aM cA ce sl) {n : Nat} (hi : i = nI n) (hn : n + 5 ≤ L) (hR0 : Rel x d) (k : ∀ x' d', Rel x' d' → Lv l e below p s m meth c b D aX aM cA ce sl 1420 [] i x' d' false) : Lv l e below p s m meth c b D aX aM cA ce sl 336 [] i x d false := by
  obtain ⟨H0, hR⟩ := hR0
  obtain ⟨r, PX, PM, h1, h2, h3⟩ : Two MX4_note MX5_note [.ref 0, .int (xs (n + 1)), .int (xs (n + 2))] x d := two_note hR
  refine lr_a E dL_law_336 rfl ?_
  refine lr_arg (j := 1) E hi (by omega) dL_law_337 dL_law_338 dL_law_339 (by decide +kernel) dL_law_340 dL_law_341 ?_
  refine lr_arg (j := 2) E hi (by omega) dL_law_342 dL_law_343 dL_law_344 (by decide +kernel) dL_law_345 dL_law_346 ?_
  refine lr_cXi (M2 := MX4_note) (is := [xs (n + 1), xs (n + 2)]) E dL_law_347 w463 rfl mo_X4_note rfl ⟨Nat.le_of_ble_eq_true rfl, Nat.le_of_ble_eq_true rfl⟩ rfl (Nat.le_of_ble_eq_true rfl) h1 (fun r1 x1 hq1 => ?_)
  refine lr_a E dL_law_350 rfl ?_
  refine lr_arg (j := 1) E hi (by omega) dL_law_351 dL_law_352 dL_law_353 (by decide +kernel) dL_law_354 dL_law_355 ?_
  refine lr_arg (j := 2) E hi (by omega) dL_law_356 dL_law_357 dL_law_358 (by decide +kernel) dL_law_359 dL_law_360 ?_
  refine lr_cMi (M2 := MX5_note) (is := [xs (n + 1), xs (n + 2)]) E dL_law_361 w960 rfl mo_X5_note rfl ⟨Nat.le_of_ble_eq_true rfl, Nat.le_of_ble_eq_true rfl⟩ rfl (Nat.le_of_ble_eq_true rfl) h2 (fun r2 d1 hq2 => ?_)
  exact lr_eq (tgt := 1420) E dL_law_364 (by decide) (hq1.1.trans hq2.1.symm) (k _ _ (h3 _ _ hq1.2 hq2.2))
theorem lc_7 (E : LE p s m meth c b L xs D aX aM cA ce sl) {n : Nat} (hi : i = nI n) (hn : n + 5 ≤ L) (hR0 : Rel x d) (k : ∀ x' d', Rel x' d' → Lv l e below p s m meth c b D aX aM cA ce sl 1420 [] i x' d' false) : Lv l e below p s m meth c b D aX aM cA ce sl 369 [] i x d false := by
  obtain ⟨H0, hR⟩ := hR0
  obtain ⟨r, PX, PM, h1, h2, h3⟩ : Two MX4_has MX5_has [.ref 0, .int (xs (n + 1)), .int (xs (n + 2))] x d := two_has hR
  refine lr_a E dL_law_369 rfl ?_
  refine lr_arg (j := 1) E hi (by omega) dL_law_370 dL_law_371 dL_law_372 (by decide +kernel) dL_law_373 dL_law_374 ?_
  refine lr_arg (j := 2) E hi (by omega) dL_law_375 dL_law_376 dL_law_377 (by decide +kernel) dL_law_378 dL_law_379 ?_
  refine lr_cXi (M2 := MX4_has) (is := [xs (n + 1), xs (n + 2)]) E dL_law_380 w471 rfl mo_X4_has rfl ⟨Nat.le_of_ble_eq_true rfl, Nat.le_of_ble_eq_true rfl⟩ rfl (Nat.le_of_ble_eq_true rfl) h1 (fun r1 x1 hq1 => ?_)
  refine lr_a E dL_law_383 rfl ?_
  refine lr_arg (j := 1) E hi (by omega) dL_law_384 dL_law_385 dL_law_386 (by decide +kernel) dL_law_387 dL_law_388 ?_
  refine lr_arg (j := 2) E hi (by omega) dL_law_389 dL_law_390 dL_law_391 (by decide +kernel) dL_law_392 dL_law_393 ?_
  refine lr_cMi (M2 := MX5_has) (is := [xs (n + 1), xs (n + 2)]) E dL_law_394 w968 rfl mo_X5_has rfl ⟨Nat.le_of_ble_eq_true rfl, Nat.le_of_ble_eq_true rfl⟩ rfl (Nat.le_of_ble_eq_true rfl) h2 (fun r2 d1 hq2 => ?_)
  exact lr_eq (tgt := 1420) E dL_law_397 (by decide) (hq1.1.trans hq2.1.symm) (k _ _ (h3 _ _ hq1.2 hq2.2))
theorem lc_8 (E : LE p s m meth c b L xs D aX aM cA ce sl) {n : Nat} (hi : i = nI n) (hn : n + 5 ≤ L) (hR0 : Rel x d) (k : ∀ x' d', Rel x' d' → Lv l e below p s m meth c b D aX aM cA ce sl 1420 [] i x' d' false) : Lv l e below p s m meth c b D aX aM cA ce sl 402 [] i x d false := by
  obtain ⟨H0, hR⟩ := hR0
  obtain ⟨r, PX, PM, h1, h2, h3⟩ : Two MX4_player MX5_player [.ref 0, .int (xs (n + 1)), .int (xs (n + 2))] x d := two_player hR
  refine lr_a E dL_law_402 rfl ?_
  refine lr_arg (j := 1) E hi (by omega) dL_law_403 dL_law_404 dL_law_405 (by decide +kernel) dL_law_406 dL_law_407 ?_
  refine lr_arg (j := 2) E hi (by omega) dL_law_408 dL_law_409 dL_law_410 (by decide +kernel) dL_law_411 dL_law_412 ?_
  refine lr_cXi (M2 := MX4_player) (is := [xs (n + 1), xs (n + 2)]) E dL_law_413 w486 rfl mo_X4_player rfl ⟨Nat.le_of_ble_eq_true rfl, Nat.le_of_ble_eq_true rfl⟩ rfl (Nat.le_of_ble_eq_true rfl) h1 (fun r1 x1 hq1 => ?_)
  refine lr_a E dL_law_416 rfl ?_
  refine lr_arg (j := 1) E hi (by omega) dL_law_417 dL_law_418 dL_law_419 (by decide +kernel) dL_law_420 dL_law_421 ?_
  refine lr_arg (j := 2) E hi (by omega) dL_law_422 dL_law_423 dL_law_424 (by decide +kernel) dL_law_425 dL_law_426 ?_
  refine lr_cMi (M2 := MX5_player) (is := [xs (n + 1), xs (n + 2)]) E dL_law_427 w980 rfl mo_X5_player rfl ⟨Nat.le_of_ble_eq_true rfl, Nat.le_of_ble_eq_true rfl⟩ rfl (Nat.le_of_ble_eq_true rfl) h2 (fun r2 d1 hq2 => ?_)
  exact lr_eq (tgt := 1420) E dL_law_430 (by decide) (hq1.1.trans hq2.1.symm) (k _ _ (h3 _ _ hq1.2 hq2.2))
theorem lc_9 (E : LE p s m meth c b L xs D aX aM cA ce sl) {n : Nat} (hi : i = nI n) (hn : n + 5 ≤ L) (hR0 : Rel x d) (k : ∀ x' d', Rel x' d' → Lv l e below p s m meth c b D aX aM cA ce sl 1420 [] i x' d' false) : Lv l e below p s m meth c b D aX aM cA ce sl 435 [] i x d false := by
  obtain ⟨H0, hR⟩ := hR0
  obtain ⟨r, PX, PM, h1, h2, h3⟩ : Two MX4_bound MX5_bound [.ref 0, .int (xs (n + 1))] x d := two_bound hR
  refine lr_a E dL_law_435 rfl ?_
  refine lr_arg (j := 1) E hi (by omega) dL_law_436 dL_law_437 dL_law_438 (by decide +kernel) dL_law_439 dL_law_440 ?_
  refine lr_cXi (M2 := MX4_bound) (is := [xs (n + 1)]) E dL_law_441 w494 rfl mo_X4_bound rfl ⟨Nat.le_of_ble_eq_true rfl, Nat.le_of_ble_eq_true rfl⟩ rfl (Nat.le_of_ble_eq_true rfl) h1 (fun r1 x1 hq1 => ?_)
  refine lr_a E dL_law_444 rfl ?_
  refine lr_arg (j := 1) E hi (by omega) dL_law_445 dL_law_446 dL_law_447 (by decide +kernel) dL_law_448 dL_law_449 ?_
  refine lr_cMi (M2 := MX5_bound) (is := [xs (n + 1)]) E dL_law_450 w989 rfl mo_X5_bound rfl ⟨Nat.le_of_ble_eq_true rfl, Nat.le_of_ble_eq_true rfl⟩ rfl (Nat.le_of_ble_eq_true rfl) h2 (fun r2 d1 hq2 => ?_)
  exact lr_eq (tgt := 1420) E dL_law_453 (by decide) (hq1.1.trans hq2.1.symm) (k _ _ (h3 _ _ hq1.2 hq2.2))
theorem lc_10 (E : LE p s m meth c b L xs D aX aM cA ce sl) {n : Nat} (hi : i = nI n) (hn : n + 5 ≤ L) (hR0 : Rel x d) (k : ∀ x' d', Rel x' d' → Lv l e below p s m meth c b D aX aM cA ce sl 1420 [] i x' d' false) : Lv l e below p s m meth c b D aX aM cA ce sl 458 [] i x d false := by
  obtain ⟨H0, hR⟩ := hR0
  obtain ⟨r, PX, PM, h1, h2, h3⟩ : Two MX4_write MX5_write [.ref 0, .int (xs (n + 1)), .int (xs (n + 2)), .int (xs (n + 3))] x d := two_write hR
  refine lr_a E dL_law_458 rfl ?_
  refine lr_arg (j := 1) E hi (by omega) dL_law_459 dL_law_460 dL_law_461 (by decide +kernel) dL_law_462 dL_law_463 ?_
  refine lr_arg (j := 2) E hi (by omega) dL_law_464 dL_law_465 dL_law_466 (by decide +kernel) dL_law_467 dL_law_468 ?_
  refine lr_arg (j := 3) E hi (by omega) dL_law_469 dL_law_470 dL_law_471 (by decide +kernel) dL_law_472 dL_law_473 ?_
  refine lr_cXi (M2 := MX4_write) (is := [xs (n + 1), xs (n + 2), xs (n + 3)]) E dL_law_474 w502 rfl mo_X4_write rfl ⟨Nat.le_of_ble_eq_true rfl, Nat.le_of_ble_eq_true rfl⟩ rfl (Nat.le_of_ble_eq_true rfl) h1 (fun r1 x1 hq1 => ?_)
  refine lr_a E dL_law_477 rfl ?_
  refine lr_arg (j := 1) E hi (by omega) dL_law_478 dL_law_479 dL_law_480 (by decide +kernel) dL_law_481 dL_law_482 ?_
  refine lr_arg (j := 2) E hi (by omega) dL_law_483 dL_law_484 dL_law_485 (by decide +kernel) dL_law_486 dL_law_487 ?_
  refine lr_arg (j := 3) E hi (by omega) dL_law_488 dL_law_489 dL_law_490 (by decide +kernel) dL_law_491 dL_law_492 ?_
  refine lr_cMi (M2 := MX5_write) (is := [xs (n + 1), xs (n + 2), xs (n + 3)]) E dL_law_493 w997 rfl mo_X5_write rfl ⟨Nat.le_of_ble_eq_true rfl, Nat.le_of_ble_eq_true rfl⟩ rfl (Nat.le_of_ble_eq_true rfl) h2 (fun r2 d1 hq2 => ?_)
  exact lr_eq (tgt := 1420) E dL_law_496 (by decide) (hq1.1.trans hq2.1.symm) (k _ _ (h3 _ _ hq1.2 hq2.2))
theorem lc_11 (E : LE p s m meth c b L xs D aX aM cA ce sl) {n : Nat} (hi : i = nI n) (hn : n + 5 ≤ L) (hR0 : Rel x d) (k : ∀ x' d', Rel x' d' → Lv l e below p s m meth c b D aX aM cA ce sl 1420 [] i x' d' false) : Lv l e below p s m meth c b D aX aM cA ce sl 501 [] i x d false := by
  obtain ⟨H0, hR⟩ := hR0
  obtain ⟨r, PX, PM, h1, h2, h3⟩ : Two MX4_add MX5_add [.ref 0, .int (xs (n + 1)), .int (xs (n + 2))] x d := two_add hR
  refine lr_a E dL_law_501 rfl ?_
  refine lr_arg (j := 1) E hi (by omega) dL_law_502 dL_law_503 dL_law_504 (by decide +kernel) dL_law_505 dL_law_506 ?_
  refine lr_arg (j := 2) E hi (by omega) dL_law_507 dL_law_508 dL_law_509 (by decide +kernel) dL_law_510 dL_law_511 ?_
  refine lr_cXi (M2 := MX4_add) (is := [xs (n + 1), xs (n + 2)]) E dL_law_512 w509 rfl mo_X4_add rfl ⟨Nat.le_of_ble_eq_true rfl, Nat.le_of_ble_eq_true rfl⟩ rfl (Nat.le_of_ble_eq_true rfl) h1 (fun r1 x1 hq1 => ?_)
  refine lr_a E dL_law_515 rfl ?_
  refine lr_arg (j := 1) E hi (by omega) dL_law_516 dL_law_517 dL_law_518 (by decide +kernel) dL_law_519 dL_law_520 ?_
  refine lr_arg (j := 2) E hi (by omega) dL_law_521 dL_law_522 dL_law_523 (by decide +kernel) dL_law_524 dL_law_525 ?_
  refine lr_cMi (M2 := MX5_add) (is := [xs (n + 1), xs (n + 2)]) E dL_law_526 w1006 rfl mo_X5_add rfl ⟨Nat.le_of_ble_eq_true rfl, Nat.le_of_ble_eq_true rfl⟩ rfl (Nat.le_of_ble_eq_true rfl) h2 (fun r2 d1 hq2 => ?_)
  exact lr_eq (tgt := 1420) E dL_law_529 (by decide) (hq1.1.trans hq2.1.symm) (k _ _ (h3 _ _ hq1.2 hq2.2))
theorem lc_12 (E : LE p s m meth c b L xs D aX aM cA ce sl) {n : Nat} (hi : i = nI n) (hn : n + 5 ≤ L) (hR0 : Rel x d) (k : ∀ x' d', Rel x' d' → Lv l e below p s m meth c b D aX aM cA ce sl 1420 [] i x' d' false) : Lv l e below p s m meth c b D aX aM cA ce sl 534 [] i x d false := by
  obtain ⟨H0, hR⟩ := hR0
  obtain ⟨r, PX, PM, h1, h2, h3⟩ : Two MX4_set MX5_set [.ref 0, .int (xs (n + 1)), .int (xs (n + 2)), .int (xs (n + 3))] x d := two_set hR
  refine lr_a E dL_law_534 rfl ?_
  refine lr_arg (j := 1) E hi (by omega) dL_law_535 dL_law_536 dL_law_537 (by decide +kernel) dL_law_538 dL_law_539 ?_
  refine lr_arg (j := 2) E hi (by omega) dL_law_540 dL_law_541 dL_law_542 (by decide +kernel) dL_law_543 dL_law_544 ?_
  refine lr_arg (j := 3) E hi (by omega) dL_law_545 dL_law_546 dL_law_547 (by decide +kernel) dL_law_548 dL_law_549 ?_
  refine lr_cXi (M2 := MX4_set) (is := [xs (n + 1), xs (n + 2), xs (n + 3)]) E dL_law_550 w513 rfl mo_X4_set rfl ⟨Nat.le_of_ble_eq_true rfl, Nat.le_of_ble_eq_true rfl⟩ rfl (Nat.le_of_ble_eq_true rfl) h1 (fun r1 x1 hq1 => ?_)
  refine lr_a E dL_law_553 rfl ?_
  refine lr_arg (j := 1) E hi (by omega) dL_law_554 dL_law_555 dL_law_556 (by decide +kernel) dL_law_557 dL_law_558 ?_
  refine lr_arg (j := 2) E hi (by omega) dL_law_559 dL_law_560 dL_law_561 (by decide +kernel) dL_law_562 dL_law_563 ?_
  refine lr_arg (j := 3) E hi (by omega) dL_law_564 dL_law_565 dL_law_566 (by decide +kernel) dL_law_567 dL_law_568 ?_
  refine lr_cMi (M2 := MX5_set) (is := [xs (n + 1), xs (n + 2), xs (n + 3)]) E dL_law_569 w1010 rfl mo_X5_set rfl ⟨Nat.le_of_ble_eq_true rfl, Nat.le_of_ble_eq_true rfl⟩ rfl (Nat.le_of_ble_eq_true rfl) h2 (fun r2 d1 hq2 => ?_)
  exact lr_eq (tgt := 1420) E dL_law_572 (by decide) (hq1.1.trans hq2.1.symm) (k _ _ (h3 _ _ hq1.2 hq2.2))
theorem lc_13 (E : LE p s m meth c b L xs D aX aM cA ce sl) {n : Nat} (hi : i = nI n) (hn : n + 5 ≤ L) (hR0 : Rel x d) (k : ∀ x' d', Rel x' d' → Lv l e below p s m meth c b D aX aM cA ce sl 1420 [] i x' d' false) : Lv l e below p s m meth c b D aX aM cA ce sl 577 [] i x d false := by
  obtain ⟨H0, hR⟩ := hR0
  obtain ⟨r, PX, PM, h1, h2, h3⟩ : Two MX4_hire MX5_hire [.ref 0, .int (xs (n + 1)), .int (xs (n + 2)), .int (xs (n + 3))] x d := two_hire hR
  refine lr_a E dL_law_577 rfl ?_
  refine lr_arg (j := 1) E hi (by omega) dL_law_578 dL_law_579 dL_law_580 (by decide +kernel) dL_law_581 dL_law_582 ?_
  refine lr_arg (j := 2) E hi (by omega) dL_law_583 dL_law_584 dL_law_585 (by decide +kernel) dL_law_586 dL_law_587 ?_
  refine lr_arg (j := 3) E hi (by omega) dL_law_588 dL_law_589 dL_law_590 (by decide +kernel) dL_law_591 dL_law_592 ?_
  refine lr_cXi (M2 := MX4_hire) (is := [xs (n + 1), xs (n + 2), xs (n + 3)]) E dL_law_593 w517 rfl mo_X4_hire rfl ⟨Nat.le_of_ble_eq_true rfl, Nat.le_of_ble_eq_true rfl⟩ rfl (Nat.le_of_ble_eq_true rfl) h1 (fun r1 x1 hq1 => ?_)
  refine lr_a E dL_law_596 rfl ?_
  refine lr_arg (j := 1) E hi (by omega) dL_law_597 dL_law_598 dL_law_599 (by decide +kernel) dL_law_600 dL_law_601 ?_
  refine lr_arg (j := 2) E hi (by omega) dL_law_602 dL_law_603 dL_law_604 (by decide +kernel) dL_law_605 dL_law_606 ?_
  refine lr_arg (j := 3) E hi (by omega) dL_law_607 dL_law_608 dL_law_609 (by decide +kernel) dL_law_610 dL_law_611 ?_
  refine lr_cMi (M2 := MX5_hire) (is := [xs (n + 1), xs (n + 2), xs (n + 3)]) E dL_law_612 w1014 rfl mo_X5_hire rfl ⟨Nat.le_of_ble_eq_true rfl, Nat.le_of_ble_eq_true rfl⟩ rfl (Nat.le_of_ble_eq_true rfl) h2 (fun r2 d1 hq2 => ?_)
  exact lr_eq (tgt := 1420) E dL_law_615 (by decide) (hq1.1.trans hq2.1.symm) (k _ _ (h3 _ _ hq1.2 hq2.2))
theorem lc_14 (E : LE p s m meth c b L xs D aX aM cA ce sl) {n : Nat} (hi : i = nI n) (hn : n + 5 ≤ L) (hR0 : Rel x d) (k : ∀ x' d', Rel x' d' → Lv l e below p s m meth c b D aX aM cA ce sl 1420 [] i x' d' false) : Lv l e below p s m meth c b D aX aM cA ce sl 620 [] i x d false := by
  obtain ⟨H0, hR⟩ := hR0
  obtain ⟨r, PX, PM, h1, h2, h3⟩ : Two MX4_bind MX5_bind [.ref 0, .int (xs (n + 1)), .int (xs (n + 2))] x d := two_bind hR
  refine lr_a E dL_law_620 rfl ?_
  refine lr_arg (j := 1) E hi (by omega) dL_law_621 dL_law_622 dL_law_623 (by decide +kernel) dL_law_624 dL_law_625 ?_
  refine lr_arg (j := 2) E hi (by omega) dL_law_626 dL_law_627 dL_law_628 (by decide +kernel) dL_law_629 dL_law_630 ?_
  refine lr_cXi (M2 := MX4_bind) (is := [xs (n + 1), xs (n + 2)]) E dL_law_631 w521 rfl mo_X4_bind rfl ⟨Nat.le_of_ble_eq_true rfl, Nat.le_of_ble_eq_true rfl⟩ rfl (Nat.le_of_ble_eq_true rfl) h1 (fun r1 x1 hq1 => ?_)
  refine lr_a E dL_law_634 rfl ?_
  refine lr_arg (j := 1) E hi (by omega) dL_law_635 dL_law_636 dL_law_637 (by decide +kernel) dL_law_638 dL_law_639 ?_
  refine lr_arg (j := 2) E hi (by omega) dL_law_640 dL_law_641 dL_law_642 (by decide +kernel) dL_law_643 dL_law_644 ?_
  refine lr_cMi (M2 := MX5_bind) (is := [xs (n + 1), xs (n + 2)]) E dL_law_645 w1019 rfl mo_X5_bind rfl ⟨Nat.le_of_ble_eq_true rfl, Nat.le_of_ble_eq_true rfl⟩ rfl (Nat.le_of_ble_eq_true rfl) h2 (fun r2 d1 hq2 => ?_)
  exact lr_eq (tgt := 1420) E dL_law_648 (by decide) (hq1.1.trans hq2.1.symm) (k _ _ (h3 _ _ hq1.2 hq2.2))
theorem lc_15 (E : LE p s m meth c b L xs D aX aM cA ce sl) {n : Nat} (hi : i = nI n) (hn : n + 5 ≤ L) (hR0 : Rel x d) (k : ∀ x' d', Rel x' d' → Lv l e below p s m meth c b D aX aM cA ce sl 1420 [] i x' d' false) : Lv l e below p s m meth c b D aX aM cA ce sl 653 [] i x d false := by
  obtain ⟨H0, hR⟩ := hR0
  obtain ⟨r, PX, PM, h1, h2, h3⟩ : Two MX4_out MX5_out [.ref 0, .int (xs (n + 1)), .int (xs (n + 2))] x d := two_out hR
  refine lr_a E dL_law_653 rfl ?_
  refine lr_arg (j := 1) E hi (by omega) dL_law_654 dL_law_655 dL_law_656 (by decide +kernel) dL_law_657 dL_law_658 ?_
  refine lr_arg (j := 2) E hi (by omega) dL_law_659 dL_law_660 dL_law_661 (by decide +kernel) dL_law_662 dL_law_663 ?_
  refine lr_cXi (M2 := MX4_out) (is := [xs (n + 1), xs (n + 2)]) E dL_law_664 w531 rfl mo_X4_out rfl ⟨Nat.le_of_ble_eq_true rfl, Nat.le_of_ble_eq_true rfl⟩ rfl (Nat.le_of_ble_eq_true rfl) h1 (fun r1 x1 hq1 => ?_)
  refine lr_a E dL_law_667 rfl ?_
  refine lr_arg (j := 1) E hi (by omega) dL_law_668 dL_law_669 dL_law_670 (by decide +kernel) dL_law_671 dL_law_672 ?_
  refine lr_arg (j := 2) E hi (by omega) dL_law_673 dL_law_674 dL_law_675 (by decide +kernel) dL_law_676 dL_law_677 ?_
  refine lr_cMi (M2 := MX5_out) (is := [xs (n + 1), xs (n + 2)]) E dL_law_678 w1027 rfl mo_X5_out rfl ⟨Nat.le_of_ble_eq_true rfl, Nat.le_of_ble_eq_true rfl⟩ rfl (Nat.le_of_ble_eq_true rfl) h2 (fun r2 d1 hq2 => ?_)
  exact lr_eq (tgt := 1420) E dL_law_681 (by decide) (hq1.1.trans hq2.1.symm) (k _ _ (h3 _ _ hq1.2 hq2.2))
theorem lc_16 (E : LE p s m meth c b L xs D aX aM cA ce sl) {n : Nat} (hi : i = nI n) (hn : n + 5 ≤ L) (hR0 : Rel x d) (k : ∀ x' d', Rel x' d' → Lv l e below p s m meth c b D aX aM cA ce sl 1420 [] i x' d' false) : Lv l e below p s m meth c b D aX aM cA ce sl 686 [] i x d false := by
  obtain ⟨H0, hR⟩ := hR0
  obtain ⟨r, PX, PM, h1, h2, h3⟩ : Two MX4_over MX5_over [.ref 0, .int (xs (n + 1)), .int (xs (n + 2))] x d := two_over hR
  refine lr_a E dL_law_686 rfl ?_
  refine lr_arg (j := 1) E hi (by omega) dL_law_687 dL_law_688 dL_law_689 (by decide +kernel) dL_law_690 dL_law_691 ?_
  refine lr_arg (j := 2) E hi (by omega) dL_law_692 dL_law_693 dL_law_694 (by decide +kernel) dL_law_695 dL_law_696 ?_
  refine lr_cXi (M2 := MX4_over) (is := [xs (n + 1), xs (n + 2)]) E dL_law_697 w570 rfl mo_X4_over rfl ⟨Nat.le_of_ble_eq_true rfl, Nat.le_of_ble_eq_true rfl⟩ rfl (Nat.le_of_ble_eq_true rfl) h1 (fun r1 x1 hq1 => ?_)
  refine lr_a E dL_law_700 rfl ?_
  refine lr_arg (j := 1) E hi (by omega) dL_law_701 dL_law_702 dL_law_703 (by decide +kernel) dL_law_704 dL_law_705 ?_
  refine lr_arg (j := 2) E hi (by omega) dL_law_706 dL_law_707 dL_law_708 (by decide +kernel) dL_law_709 dL_law_710 ?_
  refine lr_cMi (M2 := MX5_over) (is := [xs (n + 1), xs (n + 2)]) E dL_law_711 w1051 rfl mo_X5_over rfl ⟨Nat.le_of_ble_eq_true rfl, Nat.le_of_ble_eq_true rfl⟩ rfl (Nat.le_of_ble_eq_true rfl) h2 (fun r2 d1 hq2 => ?_)
  exact lr_eq (tgt := 1420) E dL_law_714 (by decide) (hq1.1.trans hq2.1.symm) (k _ _ (h3 _ _ hq1.2 hq2.2))
theorem lc_17 (E : LE p s m meth c b L xs D aX aM cA ce sl) {n : Nat} (hi : i = nI n) (hn : n + 5 ≤ L) (hR0 : Rel x d) (k : ∀ x' d', Rel x' d' → Lv l e below p s m meth c b D aX aM cA ce sl 1420 [] i x' d' false) : Lv l e below p s m meth c b D aX aM cA ce sl 719 [] i x d false := by
  obtain ⟨H0, hR⟩ := hR0
  obtain ⟨r, PX, PM, h1, h2, h3⟩ : Two MX4_plays MX5_plays [.ref 0, .int (xs (n + 1))] x d := two_plays hR
  refine lr_a E dL_law_719 rfl ?_
  refine lr_arg (j := 1) E hi (by omega) dL_law_720 dL_law_721 dL_law_722 (by decide +kernel) dL_law_723 dL_law_724 ?_
  refine lr_cXi (M2 := MX4_plays) (is := [xs (n + 1)]) E dL_law_725 w571 rfl mo_X4_plays rfl ⟨Nat.le_of_ble_eq_true rfl, Nat.le_of_ble_eq_true rfl⟩ rfl (Nat.le_of_ble_eq_true rfl) h1 (fun r1 x1 hq1 => ?_)
  refine lr_a E dL_law_728 rfl ?_
  refine lr_arg (j := 1) E hi (by omega) dL_law_729 dL_law_730 dL_law_731 (by decide +kernel) dL_law_732 dL_law_733 ?_
  refine lr_cMi (M2 := MX5_plays) (is := [xs (n + 1)]) E dL_law_734 w1056 rfl mo_X5_plays rfl ⟨Nat.le_of_ble_eq_true rfl, Nat.le_of_ble_eq_true rfl⟩ rfl (Nat.le_of_ble_eq_true rfl) h2 (fun r2 d1 hq2 => ?_)
  exact lr_eq (tgt := 1420) E dL_law_737 (by decide) (hq1.1.trans hq2.1.symm) (k _ _ (h3 _ _ hq1.2 hq2.2))
theorem lc_18 (E : LE p s m meth c b L xs D aX aM cA ce sl) {n : Nat} (hi : i = nI n) (hn : n + 5 ≤ L) (hR0 : Rel x d) (k : ∀ x' d', Rel x' d' → Lv l e below p s m meth c b D aX aM cA ce sl 1420 [] i x' d' false) : Lv l e below p s m meth c b D aX aM cA ce sl 742 [] i x d false := by
  obtain ⟨H0, hR⟩ := hR0
  obtain ⟨r, PX, PM, h1, h2, h3⟩ : Two MX4_sounds MX5_sounds [.ref 0, .int (xs (n + 1))] x d := two_sounds hR
  refine lr_a E dL_law_742 rfl ?_
  refine lr_arg (j := 1) E hi (by omega) dL_law_743 dL_law_744 dL_law_745 (by decide +kernel) dL_law_746 dL_law_747 ?_
  refine lr_cXi (M2 := MX4_sounds) (is := [xs (n + 1)]) E dL_law_748 w575 rfl mo_X4_sounds rfl ⟨Nat.le_of_ble_eq_true rfl, Nat.le_of_ble_eq_true rfl⟩ rfl (Nat.le_of_ble_eq_true rfl) h1 (fun r1 x1 hq1 => ?_)
  refine lr_a E dL_law_751 rfl ?_
  refine lr_arg (j := 1) E hi (by omega) dL_law_752 dL_law_753 dL_law_754 (by decide +kernel) dL_law_755 dL_law_756 ?_
  refine lr_cMi (M2 := MX5_sounds) (is := [xs (n + 1)]) E dL_law_757 w1060 rfl mo_X5_sounds rfl ⟨Nat.le_of_ble_eq_true rfl, Nat.le_of_ble_eq_true rfl⟩ rfl (Nat.le_of_ble_eq_true rfl) h2 (fun r2 d1 hq2 => ?_)
  exact lr_eq (tgt := 1420) E dL_law_760 (by decide) (hq1.1.trans hq2.1.symm) (k _ _ (h3 _ _ hq1.2 hq2.2))
theorem lc_19 (E : LE p s m meth c b L xs D aX aM cA ce sl) {n : Nat} (hi : i = nI n) (hn : n + 5 ≤ L) (hR0 : Rel x d) (k : ∀ x' d', Rel x' d' → Lv l e below p s m meth c b D aX aM cA ce sl 1420 [] i x' d' false) : Lv l e below p s m meth c b D aX aM cA ce sl 765 [] i x d false := by
  obtain ⟨H0, hR⟩ := hR0
  obtain ⟨r, PX, PM, h1, h2, h3⟩ : Two MX4_sum MX5_sum [.ref 0, .int (xs (n + 1))] x d := two_sum hR
  refine lr_a E dL_law_765 rfl ?_
  refine lr_arg (j := 1) E hi (by omega) dL_law_766 dL_law_767 dL_law_768 (by decide +kernel) dL_law_769 dL_law_770 ?_
  refine lr_cXi (M2 := MX4_sum) (is := [xs (n + 1)]) E dL_law_771 w579 rfl mo_X4_sum rfl ⟨Nat.le_of_ble_eq_true rfl, Nat.le_of_ble_eq_true rfl⟩ rfl (Nat.le_of_ble_eq_true rfl) h1 (fun r1 x1 hq1 => ?_)
  refine lr_a E dL_law_774 rfl ?_
  refine lr_arg (j := 1) E hi (by omega) dL_law_775 dL_law_776 dL_law_777 (by decide +kernel) dL_law_778 dL_law_779 ?_
  refine lr_cMi (M2 := MX5_sum) (is := [xs (n + 1)]) E dL_law_780 w1064 rfl mo_X5_sum rfl ⟨Nat.le_of_ble_eq_true rfl, Nat.le_of_ble_eq_true rfl⟩ rfl (Nat.le_of_ble_eq_true rfl) h2 (fun r2 d1 hq2 => ?_)
  exact lr_eq (tgt := 1420) E dL_law_783 (by decide) (hq1.1.trans hq2.1.symm) (k _ _ (h3 _ _ hq1.2 hq2.2))
theorem lc_20 (E : LE p s m meth c b L xs D aX aM cA ce sl) {n : Nat} (hi : i = nI n) (hn : n + 5 ≤ L) (hR0 : Rel x d) (k : ∀ x' d', Rel x' d' → Lv l e below p s m meth c b D aX aM cA ce sl 1420 [] i x' d' false) : Lv l e below p s m meth c b D aX aM cA ce sl 788 [] i x d false := by
  obtain ⟨H0, hR⟩ := hR0
  obtain ⟨r, PX, PM, h1, h2, h3⟩ : Two MX4_first MX5_first [.ref 0, .int (xs (n + 1))] x d := two_first hR
  refine lr_a E dL_law_788 rfl ?_
  refine lr_arg (j := 1) E hi (by omega) dL_law_789 dL_law_790 dL_law_791 (by decide +kernel) dL_law_792 dL_law_793 ?_
  refine lr_cXi (M2 := MX4_first) (is := [xs (n + 1)]) E dL_law_794 w604 rfl mo_X4_first rfl ⟨Nat.le_of_ble_eq_true rfl, Nat.le_of_ble_eq_true rfl⟩ rfl (Nat.le_of_ble_eq_true rfl) h1 (fun r1 x1 hq1 => ?_)
  refine lr_a E dL_law_797 rfl ?_
  refine lr_arg (j := 1) E hi (by omega) dL_law_798 dL_law_799 dL_law_800 (by decide +kernel) dL_law_801 dL_law_802 ?_
  refine lr_cMi (M2 := MX5_first) (is := [xs (n + 1)]) E dL_law_803 w1079 rfl mo_X5_first rfl ⟨Nat.le_of_ble_eq_true rfl, Nat.le_of_ble_eq_true rfl⟩ rfl (Nat.le_of_ble_eq_true rfl) h2 (fun r2 d1 hq2 => ?_)
  exact lr_eq (tgt := 1420) E dL_law_806 (by decide) (hq1.1.trans hq2.1.symm) (k _ _ (h3 _ _ hq1.2 hq2.2))
theorem lc_21 (E : LE p s m meth c b L xs D aX aM cA ce sl) {n : Nat} (hi : i = nI n) (hn : n + 5 ≤ L) (hR0 : Rel x d) (k : ∀ x' d', Rel x' d' → Lv l e below p s m meth c b D aX aM cA ce sl 1420 [] i x' d' false) : Lv l e below p s m meth c b D aX aM cA ce sl 811 [] i x d false := by
  obtain ⟨H0, hR⟩ := hR0
  obtain ⟨r, PX, PM, h1, h2, h3⟩ : Two MX4_best MX5_best [.ref 0, .int (xs (n + 1))] x d := two_best hR
  refine lr_a E dL_law_811 rfl ?_
  refine lr_arg (j := 1) E hi (by omega) dL_law_812 dL_law_813 dL_law_814 (by decide +kernel) dL_law_815 dL_law_816 ?_
  refine lr_cXi (M2 := MX4_best) (is := [xs (n + 1)]) E dL_law_817 w613 rfl mo_X4_best rfl ⟨Nat.le_of_ble_eq_true rfl, Nat.le_of_ble_eq_true rfl⟩ rfl (Nat.le_of_ble_eq_true rfl) h1 (fun r1 x1 hq1 => ?_)
  refine lr_a E dL_law_820 rfl ?_
  refine lr_arg (j := 1) E hi (by omega) dL_law_821 dL_law_822 dL_law_823 (by decide +kernel) dL_law_824 dL_law_825 ?_
  refine lr_cMi (M2 := MX5_best) (is := [xs (n + 1)]) E dL_law_826 w1084 rfl mo_X5_best rfl ⟨Nat.le_of_ble_eq_true rfl, Nat.le_of_ble_eq_true rfl⟩ rfl (Nat.le_of_ble_eq_true rfl) h2 (fun r2 d1 hq2 => ?_)
  exact lr_eq (tgt := 1420) E dL_law_829 (by decide) (hq1.1.trans hq2.1.symm) (k _ _ (h3 _ _ hq1.2 hq2.2))
theorem lc_22 (E : LE p s m meth c b L xs D aX aM cA ce sl) {n : Nat} (hi : i = nI n) (hn : n + 5 ≤ L) (hR0 : Rel x d) (k : ∀ x' d', Rel x' d' → Lv l e below p s m meth c b D aX aM cA ce sl 1420 [] i x' d' false) : Lv l e below p s m meth c b D aX aM cA ce sl 834 [] i x d false := by
  obtain ⟨H0, hR⟩ := hR0
  obtain ⟨r, PX, PM, h1, h2, h3⟩ : Two MX4_apart MX5_apart [.ref 0, .int (xs (n + 1))] x d := two_apart hR
  refine lr_a E dL_law_834 rfl ?_
  refine lr_arg (j := 1) E hi (by omega) dL_law_835 dL_law_836 dL_law_837 (by decide +kernel) dL_law_838 dL_law_839 ?_
  refine lr_cXi (M2 := MX4_apart) (is := [xs (n + 1)]) E dL_law_840 w624 rfl mo_X4_apart rfl ⟨Nat.le_of_ble_eq_true rfl, Nat.le_of_ble_eq_true rfl⟩ rfl (Nat.le_of_ble_eq_true rfl) h1 (fun r1 x1 hq1 => ?_)
  refine lr_a E dL_law_843 rfl ?_
  refine lr_arg (j := 1) E hi (by omega) dL_law_844 dL_law_845 dL_law_846 (by decide +kernel) dL_law_847 dL_law_848 ?_
  refine lr_cMi (M2 := MX5_apart) (is := [xs (n + 1)]) E dL_law_849 w1104 rfl mo_X5_apart rfl ⟨Nat.le_of_ble_eq_true rfl, Nat.le_of_ble_eq_true rfl⟩ rfl (Nat.le_of_ble_eq_true rfl) h2 (fun r2 d1 hq2 => ?_)
  exact lr_eq (tgt := 1420) E dL_law_852 (by decide) (hq1.1.trans hq2.1.symm) (k _ _ (h3 _ _ hq1.2 hq2.2))
theorem lc_23 (E : LE p s m meth c b L xs D aX aM cA ce sl) {n : Nat} (hi : i = nI n) (hn : n + 5 ≤ L) (hR0 : Rel x d) (k : ∀ x' d', Rel x' d' → Lv l e below p s m meth c b D aX aM cA ce sl 1420 [] i x' d' false) : Lv l e below p s m meth c b D aX aM cA ce sl 857 [] i x d false := by
  obtain ⟨H0, hR⟩ := hR0
  obtain ⟨r, PX, PM, h1, h2, h3⟩ : Two MX4_compose MX5_compose [.ref 0, .int (xs (n + 1)), .int (xs (n + 2))] x d := two_compose hR
  refine lr_a E dL_law_857 rfl ?_
  refine lr_arg (j := 1) E hi (by omega) dL_law_858 dL_law_859 dL_law_860 (by decide +kernel) dL_law_861 dL_law_862 ?_
  refine lr_arg (j := 2) E hi (by omega) dL_law_863 dL_law_864 dL_law_865 (by decide +kernel) dL_law_866 dL_law_867 ?_
  refine lr_cXi (M2 := MX4_compose) (is := [xs (n + 1), xs (n + 2)]) E dL_law_868 w628 rfl mo_X4_compose rfl ⟨Nat.le_of_ble_eq_true rfl, Nat.le_of_ble_eq_true rfl⟩ rfl (Nat.le_of_ble_eq_true rfl) h1 (fun r1 x1 hq1 => ?_)
  refine lr_a E dL_law_871 rfl ?_
  refine lr_arg (j := 1) E hi (by omega) dL_law_872 dL_law_873 dL_law_874 (by decide +kernel) dL_law_875 dL_law_876 ?_
  refine lr_arg (j := 2) E hi (by omega) dL_law_877 dL_law_878 dL_law_879 (by decide +kernel) dL_law_880 dL_law_881 ?_
  refine lr_cMi (M2 := MX5_compose) (is := [xs (n + 1), xs (n + 2)]) E dL_law_882 w1108 rfl mo_X5_compose rfl ⟨Nat.le_of_ble_eq_true rfl, Nat.le_of_ble_eq_true rfl⟩ rfl (Nat.le_of_ble_eq_true rfl) h2 (fun r2 d1 hq2 => ?_)
  exact lr_eq (tgt := 1420) E dL_law_885 (by decide) (hq1.1.trans hq2.1.symm) (k _ _ (h3 _ _ hq1.2 hq2.2))
theorem lc_24 (E : LE p s m meth c b L xs D aX aM cA ce sl) {n : Nat} (hi : i = nI n) (hn : n + 5 ≤ L) (hR0 : Rel x d) (k : ∀ x' d', Rel x' d' → Lv l e below p s m meth c b D aX aM cA ce sl 1420 [] i x' d' false) : Lv l e below p s m meth c b D aX aM cA ce sl 890 [] i x d false := by
  obtain ⟨H0, hR⟩ := hR0
  obtain ⟨r, PX, PM, h1, h2, h3⟩ : Two MX4_bribe MX5_bribe [.ref 0, .int (xs (n + 1)), .int (xs (n + 2)), .int (xs (n + 3))] x d := two_bribe hR
  refine lr_a E dL_law_890 rfl ?_
  refine lr_arg (j := 1) E hi (by omega) dL_law_891 dL_law_892 dL_law_893 (by decide +kernel) dL_law_894 dL_law_895 ?_
  refine lr_arg (j := 2) E hi (by omega) dL_law_896 dL_law_897 dL_law_898 (by decide +kernel) dL_law_899 dL_law_900 ?_
  refine lr_arg (j := 3) E hi (by omega) dL_law_901 dL_law_902 dL_law_903 (by decide +kernel) dL_law_904 dL_law_905 ?_
  refine lr_cXi (M2 := MX4_bribe) (is := [xs (n + 1), xs (n + 2), xs (n + 3)]) E dL_law_906 w633 rfl mo_X4_bribe rfl ⟨Nat.le_of_ble_eq_true rfl, Nat.le_of_ble_eq_true rfl⟩ rfl (Nat.le_of_ble_eq_true rfl) h1 (fun r1 x1 hq1 => ?_)
  refine lr_a E dL_law_909 rfl ?_
  refine lr_arg (j := 1) E hi (by omega) dL_law_910 dL_law_911 dL_law_912 (by decide +kernel) dL_law_913 dL_law_914 ?_
  refine lr_arg (j := 2) E hi (by omega) dL_law_915 dL_law_916 dL_law_917 (by decide +kernel) dL_law_918 dL_law_919 ?_
  refine lr_arg (j := 3) E hi (by omega) dL_law_920 dL_law_921 dL_law_922 (by decide +kernel) dL_law_923 dL_law_924 ?_
  refine lr_cMi (M2 := MX5_bribe) (is := [xs (n + 1), xs (n + 2), xs (n + 3)]) E dL_law_925 w1113 rfl mo_X5_bribe rfl ⟨Nat.le_of_ble_eq_true rfl, Nat.le_of_ble_eq_true rfl⟩ rfl (Nat.le_of_ble_eq_true rfl) h2 (fun r2 d1 hq2 => ?_)
  exact lr_eq (tgt := 1420) E dL_law_928 (by decide) (hq1.1.trans hq2.1.symm) (k _ _ (h3 _ _ hq1.2 hq2.2))
theorem lc_25 (E : LE p s m meth c b L xs D aX aM cA ce sl) {n : Nat} (hi : i = nI n) (hn : n + 5 ≤ L) (hR0 : Rel x d) (k : ∀ x' d', Rel x' d' → Lv l e below p s m meth c b D aX aM cA ce sl 1420 [] i x' d' false) : Lv l e below p s m meth c b D aX aM cA ce sl 933 [] i x d false := by
  obtain ⟨H0, hR⟩ := hR0
  obtain ⟨r, PX, PM, h1, h2, h3⟩ : Two MX4_teach MX5_teach [.ref 0, .int (xs (n + 1))] x d := two_teach hR
  refine lr_a E dL_law_933 rfl ?_
  refine lr_arg (j := 1) E hi (by omega) dL_law_934 dL_law_935 dL_law_936 (by decide +kernel) dL_law_937 dL_law_938 ?_
  refine lr_cXi (M2 := MX4_teach) (is := [xs (n + 1)]) E dL_law_939 w648 rfl mo_X4_teach rfl ⟨Nat.le_of_ble_eq_true rfl, Nat.le_of_ble_eq_true rfl⟩ rfl (Nat.le_of_ble_eq_true rfl) h1 (fun r1 x1 hq1 => ?_)
  refine lr_a E dL_law_942 rfl ?_
  refine lr_arg (j := 1) E hi (by omega) dL_law_943 dL_law_944 dL_law_945 (by decide +kernel) dL_law_946 dL_law_947 ?_
  refine lr_cMi (M2 := MX5_teach) (is := [xs (n + 1)]) E dL_law_948 w1117 rfl mo_X5_teach rfl ⟨Nat.le_of_ble_eq_true rfl, Nat.le_of_ble_eq_true rfl⟩ rfl (Nat.le_of_ble_eq_true rfl) h2 (fun r2 d1 hq2 => ?_)
  exact lr_eq (tgt := 1420) E dL_law_951 (by decide) (hq1.1.trans hq2.1.symm) (k _ _ (h3 _ _ hq1.2 hq2.2))
theorem lc_26 (E : LE p s m meth c b L xs D aX aM cA ce sl) {n : Nat} (hi : i = nI n) (hn : n + 5 ≤ L) (hR0 : Rel x d) (k : ∀ x' d', Rel x' d' → Lv l e below p s m meth c b D aX aM cA ce sl 1420 [] i x' d' false) : Lv l e below p s m meth c b D aX aM cA ce sl 956 [] i x d false := by
  obtain ⟨H0, hR⟩ := hR0
  obtain ⟨r, PX, PM, h1, h2, h3⟩ : TwoL MX4_mean MX5_mean [.ref 0, .int (xs (n + 1)), .int (xs (n + 2))] x d := two_mean hR
  refine lr_a E dL_law_956 rfl ?_
  refine lr_arg (j := 1) E hi (by omega) dL_law_957 dL_law_958 dL_law_959 (by decide +kernel) dL_law_960 dL_law_961 ?_
  refine lr_arg (j := 2) E hi (by omega) dL_law_962 dL_law_963 dL_law_964 (by decide +kernel) dL_law_965 dL_law_966 ?_
  refine lr_cXl (M2 := MX4_mean) (is := [xs (n + 1), xs (n + 2)]) E dL_law_967 w652 rfl mo_X4_mean rfl ⟨Nat.le_of_ble_eq_true rfl, Nat.le_of_ble_eq_true rfl⟩ rfl (Nat.le_of_ble_eq_true rfl) h1 (fun r1 x1 hq1 => ?_)
  refine lr_a E dL_law_970 rfl ?_
  refine lr_arg (j := 1) E hi (by omega) dL_law_971 dL_law_972 dL_law_973 (by decide +kernel) dL_law_974 dL_law_975 ?_
  refine lr_arg (j := 2) E hi (by omega) dL_law_976 dL_law_977 dL_law_978 (by decide +kernel) dL_law_979 dL_law_980 ?_
  refine lr_cMl (M2 := MX5_mean) (is := [xs (n + 1), xs (n + 2)]) E dL_law_981 w1121 rfl mo_X5_mean rfl ⟨Nat.le_of_ble_eq_true rfl, Nat.le_of_ble_eq_true rfl⟩ rfl (Nat.le_of_ble_eq_true rfl) h2 (fun r2 d1 hq2 => ?_)
  exact lr_eqL (tgt := 1420) E dL_law_984 dL_law_985 (by decide) (hq1.1.trans hq2.1.symm) (k _ _ (h3 _ _ hq1.2 hq2.2))
theorem lc_27 (E : LE p s m meth c b L xs D aX aM cA ce sl) {n : Nat} (hi : i = nI n) (hn : n + 5 ≤ L) (hR0 : Rel x d) (k : ∀ x' d', Rel x' d' → Lv l e below p s m meth c b D aX aM cA ce sl 1420 [] i x' d' false) : Lv l e below p s m meth c b D aX aM cA ce sl 990 [] i x d false := by
  obtain ⟨H0, hR⟩ := hR0
  obtain ⟨r, PX, PM, h1, h2, h3⟩ : TwoL MX4_luck MX5_luck [.ref 0, .int (xs (n + 1)), .int (xs (n + 2)), .int (xs (n + 3))] x d := two_luck hR
  refine lr_a E dL_law_990 rfl ?_
  refine lr_arg (j := 1) E hi (by omega) dL_law_991 dL_law_992 dL_law_993 (by decide +kernel) dL_law_994 dL_law_995 ?_
  refine lr_arg (j := 2) E hi (by omega) dL_law_996 dL_law_997 dL_law_998 (by decide +kernel) dL_law_999 dL_law_1000 ?_
  refine lr_arg (j := 3) E hi (by omega) dL_law_1001 dL_law_1002 dL_law_1003 (by decide +kernel) dL_law_1004 dL_law_1005 ?_
  refine lr_cXl (M2 := MX4_luck) (is := [xs (n + 1), xs (n + 2), xs (n + 3)]) E dL_law_1006 w664 rfl mo_X4_luck rfl ⟨Nat.le_of_ble_eq_true rfl, Nat.le_of_ble_eq_true rfl⟩ rfl (Nat.le_of_ble_eq_true rfl) h1 (fun r1 x1 hq1 => ?_)
  refine lr_a E dL_law_1009 rfl ?_
  refine lr_arg (j := 1) E hi (by omega) dL_law_1010 dL_law_1011 dL_law_1012 (by decide +kernel) dL_law_1013 dL_law_1014 ?_
  refine lr_arg (j := 2) E hi (by omega) dL_law_1015 dL_law_1016 dL_law_1017 (by decide +kernel) dL_law_1018 dL_law_1019 ?_
  refine lr_arg (j := 3) E hi (by omega) dL_law_1020 dL_law_1021 dL_law_1022 (by decide +kernel) dL_law_1023 dL_law_1024 ?_
  refine lr_cMl (M2 := MX5_luck) (is := [xs (n + 1), xs (n + 2), xs (n + 3)]) E dL_law_1025 w1133 rfl mo_X5_luck rfl ⟨Nat.le_of_ble_eq_true rfl, Nat.le_of_ble_eq_true rfl⟩ rfl (Nat.le_of_ble_eq_true rfl) h2 (fun r2 d1 hq2 => ?_)
  exact lr_eqL (tgt := 1420) E dL_law_1028 dL_law_1029 (by decide) (hq1.1.trans hq2.1.symm) (k _ _ (h3 _ _ hq1.2 hq2.2))
theorem lc_28 (E : LE p s m meth c b L xs D aX aM cA ce sl) {n : Nat} (hi : i = nI n) (hn : n + 5 ≤ L) (hR0 : Rel x d) (k : ∀ x' d', Rel x' d' → Lv l e below p s m meth c b D aX aM cA ce sl 1420 [] i x' d' false) : Lv l e below p s m meth c b D aX aM cA ce sl 1034 [] i x d false := by
  obtain ⟨H0, hR⟩ := hR0
  obtain ⟨r, PX, PM, h1, h2, h3⟩ : Two MX4_see MX5_see [.ref 0, .int (xs (n + 1)), .int (xs (n + 2)), .int (xs (n + 3))] x d := two_see hR
  refine lr_a E dL_law_1034 rfl ?_
  refine lr_arg (j := 1) E hi (by omega) dL_law_1035 dL_law_1036 dL_law_1037 (by decide +kernel) dL_law_1038 dL_law_1039 ?_
  refine lr_arg (j := 2) E hi (by omega) dL_law_1040 dL_law_1041 dL_law_1042 (by decide +kernel) dL_law_1043 dL_law_1044 ?_
  refine lr_arg (j := 3) E hi (by omega) dL_law_1045 dL_law_1046 dL_law_1047 (by decide +kernel) dL_law_1048 dL_law_1049 ?_
  refine lr_cXi (M2 := MX4_see) (is := [xs (n + 1), xs (n + 2), xs (n + 3)]) E dL_law_1050 w668 rfl mo_X4_see rfl ⟨Nat.le_of_ble_eq_true rfl, Nat.le_of_ble_eq_true rfl⟩ rfl (Nat.le_of_ble_eq_true rfl) h1 (fun r1 x1 hq1 => ?_)
  refine lr_a E dL_law_1053 rfl ?_
  refine lr_arg (j := 1) E hi (by omega) dL_law_1054 dL_law_1055 dL_law_1056 (by decide +kernel) dL_law_1057 dL_law_1058 ?_
  refine lr_arg (j := 2) E hi (by omega) dL_law_1059 dL_law_1060 dL_law_1061 (by decide +kernel) dL_law_1062 dL_law_1063 ?_
  refine lr_arg (j := 3) E hi (by omega) dL_law_1064 dL_law_1065 dL_law_1066 (by decide +kernel) dL_law_1067 dL_law_1068 ?_
  refine lr_cMi (M2 := MX5_see) (is := [xs (n + 1), xs (n + 2), xs (n + 3)]) E dL_law_1069 w1137 rfl mo_X5_see rfl ⟨Nat.le_of_ble_eq_true rfl, Nat.le_of_ble_eq_true rfl⟩ rfl (Nat.le_of_ble_eq_true rfl) h2 (fun r2 d1 hq2 => ?_)
  exact lr_eq (tgt := 1420) E dL_law_1072 (by decide) (hq1.1.trans hq2.1.symm) (k _ _ (h3 _ _ hq1.2 hq2.2))
theorem lc_29 (E : LE p s m meth c b L xs D aX aM cA ce sl) {n : Nat} (hi : i = nI n) (hn : n + 5 ≤ L) (hR0 : Rel x d) (k : ∀ x' d', Rel x' d' → Lv l e below p s m meth c b D aX aM cA ce sl 1420 [] i x' d' false) : Lv l e below p s m meth c b D aX aM cA ce sl 1077 [] i x d false := by
  obtain ⟨H0, hR⟩ := hR0
  obtain ⟨r, PX, PM, h1, h2, h3⟩ : Two MX4_forget MX5_forget [.ref 0, .int (xs (n + 1))] x d := two_forget hR
  refine lr_a E dL_law_1077 rfl ?_
  refine lr_arg (j := 1) E hi (by omega) dL_law_1078 dL_law_1079 dL_law_1080 (by decide +kernel) dL_law_1081 dL_law_1082 ?_
  refine lr_cXi (M2 := MX4_forget) (is := [xs (n + 1)]) E dL_law_1083 w672 rfl mo_X4_forget rfl ⟨Nat.le_of_ble_eq_true rfl, Nat.le_of_ble_eq_true rfl⟩ rfl (Nat.le_of_ble_eq_true rfl) h1 (fun r1 x1 hq1 => ?_)
  refine lr_a E dL_law_1086 rfl ?_
  refine lr_arg (j := 1) E hi (by omega) dL_law_1087 dL_law_1088 dL_law_1089 (by decide +kernel) dL_law_1090 dL_law_1091 ?_
  refine lr_cMi (M2 := MX5_forget) (is := [xs (n + 1)]) E dL_law_1092 w1141 rfl mo_X5_forget rfl ⟨Nat.le_of_ble_eq_true rfl, Nat.le_of_ble_eq_true rfl⟩ rfl (Nat.le_of_ble_eq_true rfl) h2 (fun r2 d1 hq2 => ?_)
  exact lr_eq (tgt := 1420) E dL_law_1095 (by decide) (hq1.1.trans hq2.1.symm) (k _ _ (h3 _ _ hq1.2 hq2.2))
theorem lc_30 (E : LE p s m meth c b L xs D aX aM cA ce sl) {n : Nat} (hi : i = nI n) (hn : n + 5 ≤ L) (hR0 : Rel x d) (k : ∀ x' d', Rel x' d' → Lv l e below p s m meth c b D aX aM cA ce sl 1420 [] i x' d' false) : Lv l e below p s m meth c b D aX aM cA ce sl 1100 [] i x d false := by
  obtain ⟨H0, hR⟩ := hR0
  obtain ⟨r, PX, PM, h1, h2, h3⟩ : Two MX4_fits MX5_fits [.ref 0, .int (xs (n + 1))] x d := two_fits hR
  refine lr_a E dL_law_1100 rfl ?_
  refine lr_arg (j := 1) E hi (by omega) dL_law_1101 dL_law_1102 dL_law_1103 (by decide +kernel) dL_law_1104 dL_law_1105 ?_
  refine lr_cXi (M2 := MX4_fits) (is := [xs (n + 1)]) E dL_law_1106 w676 rfl mo_X4_fits rfl ⟨Nat.le_of_ble_eq_true rfl, Nat.le_of_ble_eq_true rfl⟩ rfl (Nat.le_of_ble_eq_true rfl) h1 (fun r1 x1 hq1 => ?_)
  refine lr_a E dL_law_1109 rfl ?_
  refine lr_arg (j := 1) E hi (by omega) dL_law_1110 dL_law_1111 dL_law_1112 (by decide +kernel) dL_law_1113 dL_law_1114 ?_
  refine lr_cMi (M2 := MX5_fits) (is := [xs (n + 1)]) E dL_law_1115 w1145 rfl mo_X5_fits rfl ⟨Nat.le_of_ble_eq_true rfl, Nat.le_of_ble_eq_true rfl⟩ rfl (Nat.le_of_ble_eq_true rfl) h2 (fun r2 d1 hq2 => ?_)
  exact lr_eq (tgt := 1420) E dL_law_1118 (by decide) (hq1.1.trans hq2.1.symm) (k _ _ (h3 _ _ hq1.2 hq2.2))
theorem lc_31 (E : LE p s m meth c b L xs D aX aM cA ce sl) {n : Nat} (hi : i = nI n) (hn : n + 5 ≤ L) (hR0 : Rel x d) (k : ∀ x' d', Rel x' d' → Lv l e below p s m meth c b D aX aM cA ce sl 1420 [] i x' d' false) : Lv l e below p s m meth c b D aX aM cA ce sl 1123 [] i x d false := by
  obtain ⟨H0, hR⟩ := hR0
  obtain ⟨r, PX, PM, h1, h2, h3⟩ : Two MX4_listen MX5_listen [.ref 0, .int (xs (n + 1)), .int (xs (n + 2))] x d := two_listen hR
  refine lr_a E dL_law_1123 rfl ?_
  refine lr_arg (j := 1) E hi (by omega) dL_law_1124 dL_law_1125 dL_law_1126 (by decide +kernel) dL_law_1127 dL_law_1128 ?_
  refine lr_arg (j := 2) E hi (by omega) dL_law_1129 dL_law_1130 dL_law_1131 (by decide +kernel) dL_law_1132 dL_law_1133 ?_
  refine lr_cXi (M2 := MX4_listen) (is := [xs (n + 1), xs (n + 2)]) E dL_law_1134 w684 rfl mo_X4_listen rfl ⟨Nat.le_of_ble_eq_true rfl, Nat.le_of_ble_eq_true rfl⟩ rfl (Nat.le_of_ble_eq_true rfl) h1 (fun r1 x1 hq1 => ?_)
  refine lr_a E dL_law_1137 rfl ?_
  refine lr_arg (j := 1) E hi (by omega) dL_law_1138 dL_law_1139 dL_law_1140 (by decide +kernel) dL_law_1141 dL_law_1142 ?_
  refine lr_arg (j := 2) E hi (by omega) dL_law_1143 dL_law_1144 dL_law_1145 (by decide +kernel) dL_law_1146 dL_law_1147 ?_
  refine lr_cMi (M2 := MX5_listen) (is := [xs (n + 1), xs (n + 2)]) E dL_law_1148 w1153 rfl mo_X5_listen rfl ⟨Nat.le_of_ble_eq_true rfl, Nat.le_of_ble_eq_true rfl⟩ rfl (Nat.le_of_ble_eq_true rfl) h2 (fun r2 d1 hq2 => ?_)
  exact lr_eq (tgt := 1420) E dL_law_1151 (by decide) (hq1.1.trans hq2.1.symm) (k _ _ (h3 _ _ hq1.2 hq2.2))
theorem lc_32 (E : LE p s m meth c b L xs D aX aM cA ce sl) {n : Nat} (hi : i = nI n) (hn : n + 5 ≤ L) (hR0 : Rel x d) (k : ∀ x' d', Rel x' d' → Lv l e below p s m meth c b D aX aM cA ce sl 1420 [] i x' d' false) : Lv l e below p s m meth c b D aX aM cA ce sl 1156 [] i x d false := by
  obtain ⟨H0, hR⟩ := hR0
  obtain ⟨r, PX, PM, h1, h2, h3⟩ : Two MX4_drift MX5_drift [.ref 0, .int (xs (n + 1)), .int (xs (n + 2)), .int (xs (n + 3))] x d := two_drift hR
  refine lr_a E dL_law_1156 rfl ?_
  refine lr_arg (j := 1) E hi (by omega) dL_law_1157 dL_law_1158 dL_law_1159 (by decide +kernel) dL_law_1160 dL_law_1161 ?_
  refine lr_arg (j := 2) E hi (by omega) dL_law_1162 dL_law_1163 dL_law_1164 (by decide +kernel) dL_law_1165 dL_law_1166 ?_
  refine lr_arg (j := 3) E hi (by omega) dL_law_1167 dL_law_1168 dL_law_1169 (by decide +kernel) dL_law_1170 dL_law_1171 ?_
  refine lr_cXi (M2 := MX4_drift) (is := [xs (n + 1), xs (n + 2), xs (n + 3)]) E dL_law_1172 w693 rfl mo_X4_drift rfl ⟨Nat.le_of_ble_eq_true rfl, Nat.le_of_ble_eq_true rfl⟩ rfl (Nat.le_of_ble_eq_true rfl) h1 (fun r1 x1 hq1 => ?_)
  refine lr_a E dL_law_1175 rfl ?_
  refine lr_arg (j := 1) E hi (by omega) dL_law_1176 dL_law_1177 dL_law_1178 (by decide +kernel) dL_law_1179 dL_law_1180 ?_
  refine lr_arg (j := 2) E hi (by omega) dL_law_1181 dL_law_1182 dL_law_1183 (by decide +kernel) dL_law_1184 dL_law_1185 ?_
  refine lr_arg (j := 3) E hi (by omega) dL_law_1186 dL_law_1187 dL_law_1188 (by decide +kernel) dL_law_1189 dL_law_1190 ?_
  refine lr_cMi (M2 := MX5_drift) (is := [xs (n + 1), xs (n + 2), xs (n + 3)]) E dL_law_1191 w1157 rfl mo_X5_drift rfl ⟨Nat.le_of_ble_eq_true rfl, Nat.le_of_ble_eq_true rfl⟩ rfl (Nat.le_of_ble_eq_true rfl) h2 (fun r2 d1 hq2 => ?_)
  exact lr_eq (tgt := 1420) E dL_law_1194 (by decide) (hq1.1.trans hq2.1.symm) (k _ _ (h3 _ _ hq1.2 hq2.2))
theorem lc_33 (E : LE p s m meth c b L xs D aX aM cA ce sl) {n : Nat} (hi : i = nI n) (hn : n + 5 ≤ L) (hR0 : Rel x d) (k : ∀ x' d', Rel x' d' → Lv l e below p s m meth c b D aX aM cA ce sl 1420 [] i x' d' false) : Lv l e below p s m meth c b D aX aM cA ce sl 1199 [] i x d false := by
  obtain ⟨H0, hR⟩ := hR0
  obtain ⟨r, PX, PM, h1, h2, h3⟩ : Two MX4_keep MX5_keep [.ref 0, .int (xs (n + 1))] x d := two_keep hR
  refine lr_a E dL_law_1199 rfl ?_
  refine lr_arg (j := 1) E hi (by omega) dL_law_1200 dL_law_1201 dL_law_1202 (by decide +kernel) dL_law_1203 dL_law_1204 ?_
  refine lr_cXi (M2 := MX4_keep) (is := [xs (n + 1)]) E dL_law_1205 w708 rfl mo_X4_keep rfl ⟨Nat.le_of_ble_eq_true rfl, Nat.le_of_ble_eq_true rfl⟩ rfl (Nat.le_of_ble_eq_true rfl) h1 (fun r1 x1 hq1 => ?_)
  refine lr_a E dL_law_1208 rfl ?_
  refine lr_arg (j := 1) E hi (by omega) dL_law_1209 dL_law_1210 dL_law_1211 (by decide +kernel) dL_law_1212 dL_law_1213 ?_
  refine lr_cMi (M2 := MX5_keep) (is := [xs (n + 1)]) E dL_law_1214 w1167 rfl mo_X5_keep rfl ⟨Nat.le_of_ble_eq_true rfl, Nat.le_of_ble_eq_true rfl⟩ rfl (Nat.le_of_ble_eq_true rfl) h2 (fun r2 d1 hq2 => ?_)
  exact lr_eq (tgt := 1420) E dL_law_1217 (by decide) (hq1.1.trans hq2.1.symm) (k _ _ (h3 _ _ hq1.2 hq2.2))
theorem lc_34 (E : LE p s m meth c b L xs D aX aM cA ce sl) {n : Nat} (hi : i = nI n) (hn : n + 5 ≤ L) (hR0 : Rel x d) (k : ∀ x' d', Rel x' d' → Lv l e below p s m meth c b D aX aM cA ce sl 1420 [] i x' d' false) : Lv l e below p s m meth c b D aX aM cA ce sl 1222 [] i x d false := by
  obtain ⟨H0, hR⟩ := hR0
  obtain ⟨r, PX, PM, h1, h2, h3⟩ : Two MX4_back MX5_back [.ref 0, .int (xs (n + 1))] x d := two_back hR
  refine lr_a E dL_law_1222 rfl ?_
  refine lr_arg (j := 1) E hi (by omega) dL_law_1223 dL_law_1224 dL_law_1225 (by decide +kernel) dL_law_1226 dL_law_1227 ?_
  refine lr_cXi (M2 := MX4_back) (is := [xs (n + 1)]) E dL_law_1228 w712 rfl mo_X4_back rfl ⟨Nat.le_of_ble_eq_true rfl, Nat.le_of_ble_eq_true rfl⟩ rfl (Nat.le_of_ble_eq_true rfl) h1 (fun r1 x1 hq1 => ?_)
  refine lr_a E dL_law_1231 rfl ?_
  refine lr_arg (j := 1) E hi (by omega) dL_law_1232 dL_law_1233 dL_law_1234 (by decide +kernel) dL_law_1235 dL_law_1236 ?_
  refine lr_cMi (M2 := MX5_back) (is := [xs (n + 1)]) E dL_law_1237 w1171 rfl mo_X5_back rfl ⟨Nat.le_of_ble_eq_true rfl, Nat.le_of_ble_eq_true rfl⟩ rfl (Nat.le_of_ble_eq_true rfl) h2 (fun r2 d1 hq2 => ?_)
  exact lr_eq (tgt := 1420) E dL_law_1240 (by decide) (hq1.1.trans hq2.1.symm) (k _ _ (h3 _ _ hq1.2 hq2.2))
theorem lc_35 (E : LE p s m meth c b L xs D aX aM cA ce sl) {n : Nat} (hi : i = nI n) (hn : n + 5 ≤ L) (hR0 : Rel x d) (k : ∀ x' d', Rel x' d' → Lv l e below p s m meth c b D aX aM cA ce sl 1420 [] i x' d' false) : Lv l e below p s m meth c b D aX aM cA ce sl 1245 [] i x d false := by
  obtain ⟨H0, hR⟩ := hR0
  obtain ⟨r, PX, PM, h1, h2, h3⟩ : Two MX4_sheet MX5_sheet [.ref 0, .int (xs (n + 1)), .int (xs (n + 2)), .int (xs (n + 3))] x d := two_sheet hR
  refine lr_a E dL_law_1245 rfl ?_
  refine lr_arg (j := 1) E hi (by omega) dL_law_1246 dL_law_1247 dL_law_1248 (by decide +kernel) dL_law_1249 dL_law_1250 ?_
  refine lr_arg (j := 2) E hi (by omega) dL_law_1251 dL_law_1252 dL_law_1253 (by decide +kernel) dL_law_1254 dL_law_1255 ?_
  refine lr_arg (j := 3) E hi (by omega) dL_law_1256 dL_law_1257 dL_law_1258 (by decide +kernel) dL_law_1259 dL_law_1260 ?_
  refine lr_cXi (M2 := MX4_sheet) (is := [xs (n + 1), xs (n + 2), xs (n + 3)]) E dL_law_1261 w720 rfl mo_X4_sheet rfl ⟨Nat.le_of_ble_eq_true rfl, Nat.le_of_ble_eq_true rfl⟩ rfl (Nat.le_of_ble_eq_true rfl) h1 (fun r1 x1 hq1 => ?_)
  refine lr_a E dL_law_1264 rfl ?_
  refine lr_arg (j := 1) E hi (by omega) dL_law_1265 dL_law_1266 dL_law_1267 (by decide +kernel) dL_law_1268 dL_law_1269 ?_
  refine lr_arg (j := 2) E hi (by omega) dL_law_1270 dL_law_1271 dL_law_1272 (by decide +kernel) dL_law_1273 dL_law_1274 ?_
  refine lr_arg (j := 3) E hi (by omega) dL_law_1275 dL_law_1276 dL_law_1277 (by decide +kernel) dL_law_1278 dL_law_1279 ?_
  refine lr_cMi (M2 := MX5_sheet) (is := [xs (n + 1), xs (n + 2), xs (n + 3)]) E dL_law_1280 w1179 rfl mo_X5_sheet rfl ⟨Nat.le_of_ble_eq_true rfl, Nat.le_of_ble_eq_true rfl⟩ rfl (Nat.le_of_ble_eq_true rfl) h2 (fun r2 d1 hq2 => ?_)
  exact lr_eq (tgt := 1420) E dL_law_1283 (by decide) (hq1.1.trans hq2.1.symm) (k _ _ (h3 _ _ hq1.2 hq2.2))
theorem lc_36 (E : LE p s m meth c b L xs D aX aM cA ce sl) {n : Nat} (hi : i = nI n) (hn : n + 5 ≤ L) (hR0 : Rel x d) (k : ∀ x' d', Rel x' d' → Lv l e below p s m meth c b D aX aM cA ce sl 1420 [] i x' d' false) : Lv l e below p s m meth c b D aX aM cA ce sl 1288 [] i x d false := by
  obtain ⟨H0, hR⟩ := hR0
  obtain ⟨r, PX, PM, h1, h2, h3⟩ : Two MX4_lay MX5_lay [.ref 0, .int (xs (n + 1)), .int (xs (n + 2)), .int (xs (n + 3))] x d := two_lay hR
  refine lr_a E dL_law_1288 rfl ?_
  refine lr_arg (j := 1) E hi (by omega) dL_law_1289 dL_law_1290 dL_law_1291 (by decide +kernel) dL_law_1292 dL_law_1293 ?_
  refine lr_arg (j := 2) E hi (by omega) dL_law_1294 dL_law_1295 dL_law_1296 (by decide +kernel) dL_law_1297 dL_law_1298 ?_
  refine lr_arg (j := 3) E hi (by omega) dL_law_1299 dL_law_1300 dL_law_1301 (by decide +kernel) dL_law_1302 dL_law_1303 ?_
  refine lr_cXi (M2 := MX4_lay) (is := [xs (n + 1), xs (n + 2), xs (n + 3)]) E dL_law_1304 w728 rfl mo_X4_lay rfl ⟨Nat.le_of_ble_eq_true rfl, Nat.le_of_ble_eq_true rfl⟩ rfl (Nat.le_of_ble_eq_true rfl) h1 (fun r1 x1 hq1 => ?_)
  refine lr_a E dL_law_1307 rfl ?_
  refine lr_arg (j := 1) E hi (by omega) dL_law_1308 dL_law_1309 dL_law_1310 (by decide +kernel) dL_law_1311 dL_law_1312 ?_
  refine lr_arg (j := 2) E hi (by omega) dL_law_1313 dL_law_1314 dL_law_1315 (by decide +kernel) dL_law_1316 dL_law_1317 ?_
  refine lr_arg (j := 3) E hi (by omega) dL_law_1318 dL_law_1319 dL_law_1320 (by decide +kernel) dL_law_1321 dL_law_1322 ?_
  refine lr_cMi (M2 := MX5_lay) (is := [xs (n + 1), xs (n + 2), xs (n + 3)]) E dL_law_1323 w1183 rfl mo_X5_lay rfl ⟨Nat.le_of_ble_eq_true rfl, Nat.le_of_ble_eq_true rfl⟩ rfl (Nat.le_of_ble_eq_true rfl) h2 (fun r2 d1 hq2 => ?_)
  exact lr_eq (tgt := 1420) E dL_law_1326 (by decide) (hq1.1.trans hq2.1.symm) (k _ _ (h3 _ _ hq1.2 hq2.2))
theorem lc_37 (E : LE p s m meth c b L xs D aX aM cA ce sl) {n : Nat} (hi : i = nI n) (hn : n + 5 ≤ L) (hR0 : Rel x d) (k : ∀ x' d', Rel x' d' → Lv l e below p s m meth c b D aX aM cA ce sl 1420 [] i x' d' false) : Lv l e below p s m meth c b D aX aM cA ce sl 1331 [] i x d false := by
  obtain ⟨H0, hR⟩ := hR0
  obtain ⟨r, PX, PM, h1, h2, h3⟩ : Two MX4_read MX5_read [.ref 0, .int (xs (n + 1)), .int (xs (n + 2)), .int (xs (n + 3)), .int (xs (n + 4))] x d := two_read hR
  refine lr_a E dL_law_1331 rfl ?_
  refine lr_arg (j := 1) E hi (by omega) dL_law_1332 dL_law_1333 dL_law_1334 (by decide +kernel) dL_law_1335 dL_law_1336 ?_
  refine lr_arg (j := 2) E hi (by omega) dL_law_1337 dL_law_1338 dL_law_1339 (by decide +kernel) dL_law_1340 dL_law_1341 ?_
  refine lr_arg (j := 3) E hi (by omega) dL_law_1342 dL_law_1343 dL_law_1344 (by decide +kernel) dL_law_1345 dL_law_1346 ?_
  refine lr_arg (j := 4) E hi (by omega) dL_law_1347 dL_law_1348 dL_law_1349 (by decide +kernel) dL_law_1350 dL_law_1351 ?_
  refine lr_cXi (M2 := MX4_read) (is := [xs (n + 1), xs (n + 2), xs (n + 3), xs (n + 4)]) E dL_law_1352 w739 rfl mo_X4_read rfl ⟨Nat.le_of_ble_eq_true rfl, Nat.le_of_ble_eq_true rfl⟩ rfl (Nat.le_of_ble_eq_true rfl) h1 (fun r1 x1 hq1 => ?_)
  refine lr_a E dL_law_1355 rfl ?_
  refine lr_arg (j := 1) E hi (by omega) dL_law_1356 dL_law_1357 dL_law_1358 (by decide +kernel) dL_law_1359 dL_law_1360 ?_
  refine lr_arg (j := 2) E hi (by omega) dL_law_1361 dL_law_1362 dL_law_1363 (by decide +kernel) dL_law_1364 dL_law_1365 ?_
  refine lr_arg (j := 3) E hi (by omega) dL_law_1366 dL_law_1367 dL_law_1368 (by decide +kernel) dL_law_1369 dL_law_1370 ?_
  refine lr_arg (j := 4) E hi (by omega) dL_law_1371 dL_law_1372 dL_law_1373 (by decide +kernel) dL_law_1374 dL_law_1375 ?_
  refine lr_cMi (M2 := MX5_read) (is := [xs (n + 1), xs (n + 2), xs (n + 3), xs (n + 4)]) E dL_law_1376 w1187 rfl mo_X5_read rfl ⟨Nat.le_of_ble_eq_true rfl, Nat.le_of_ble_eq_true rfl⟩ rfl (Nat.le_of_ble_eq_true rfl) h2 (fun r2 d1 hq2 => ?_)
  exact lr_eq (tgt := 1420) E dL_law_1379 (by decide) (hq1.1.trans hq2.1.symm) (k _ _ (h3 _ _ hq1.2 hq2.2))
theorem lc_38 (E : LE p s m meth c b L xs D aX aM cA ce sl) {n : Nat} (hi : i = nI n) (hn : n + 5 ≤ L) (hR0 : Rel x d) (k : ∀ x' d', Rel x' d' → Lv l e below p s m meth c b D aX aM cA ce sl 1420 [] i x' d' false) : Lv l e below p s m meth c b D aX aM cA ce sl 1384 [] i x d false := by
  obtain ⟨H0, hR⟩ := hR0
  obtain ⟨r, PX, PM, h1, h2, h3⟩ : Two MX4_torn MX5_torn [.ref 0] x d := two_torn hR
  refine lr_a E dL_law_1384 rfl ?_
  refine lr_cXi (M2 := MX4_torn) (is := []) E dL_law_1385 w747 rfl mo_X4_torn rfl ⟨Nat.le_of_ble_eq_true rfl, Nat.le_of_ble_eq_true rfl⟩ rfl (Nat.le_of_ble_eq_true rfl) h1 (fun r1 x1 hq1 => ?_)
  refine lr_a E dL_law_1388 rfl ?_
  refine lr_cMi (M2 := MX5_torn) (is := []) E dL_law_1389 w1191 rfl mo_X5_torn rfl ⟨Nat.le_of_ble_eq_true rfl, Nat.le_of_ble_eq_true rfl⟩ rfl (Nat.le_of_ble_eq_true rfl) h2 (fun r2 d1 hq2 => ?_)
  exact lr_eq (tgt := 1420) E dL_law_1392 (by decide) (hq1.1.trans hq2.1.symm) (k _ _ (h3 _ _ hq1.2 hq2.2))
theorem lc_39 (E : LE p s m meth c b L xs D aX aM cA ce sl) {n : Nat} (hi : i = nI n) (hn : n + 5 ≤ L) (hR0 : Rel x d) (k : ∀ x' d', Rel x' d' → Lv l e below p s m meth c b D aX aM cA ce sl 1420 [] i x' d' false) : Lv l e below p s m meth c b D aX aM cA ce sl 1397 [] i x d false := by
  obtain ⟨H0, hR⟩ := hR0
  obtain ⟨r, PX, PM, h1, h2, h3⟩ : Two MX4_count MX5_count [.ref 0, .int (xs (n + 1))] x d := two_count hR
  refine lr_a E dL_law_1397 rfl ?_
  refine lr_arg (j := 1) E hi (by omega) dL_law_1398 dL_law_1399 dL_law_1400 (by decide +kernel) dL_law_1401 dL_law_1402 ?_
  refine lr_cXi (M2 := MX4_count) (is := [xs (n + 1)]) E dL_law_1403 w751 rfl mo_X4_count rfl ⟨Nat.le_of_ble_eq_true rfl, Nat.le_of_ble_eq_true rfl⟩ rfl (Nat.le_of_ble_eq_true rfl) h1 (fun r1 x1 hq1 => ?_)
  refine lr_a E dL_law_1406 rfl ?_
  refine lr_arg (j := 1) E hi (by omega) dL_law_1407 dL_law_1408 dL_law_1409 (by decide +kernel) dL_law_1410 dL_law_1411 ?_
  refine lr_cMi (M2 := MX5_count) (is := [xs (n + 1)]) E dL_law_1412 w1195 rfl mo_X5_count rfl ⟨Nat.le_of_ble_eq_true rfl, Nat.le_of_ble_eq_true rfl⟩ rfl (Nat.le_of_ble_eq_true rfl) h2 (fun r2 d1 hq2 => ?_)
  exact lr_eq (tgt := 1420) E dL_law_1415 (by decide) (hq1.1.trans hq2.1.symm) (k _ _ (h3 _ _ hq1.2 hq2.2))
theorem and63 (v : Int32) : ∃ j, j < 64 ∧ v &&& 63 = nI j := by
  refine ⟨(v &&& 63).toBitVec.toNat, ?_, Int32.toBitVec_inj.mp ?_⟩
  · rw [Int32.toBitVec_and, BitVec.toNat_and]
    exact Nat.lt_of_le_of_lt Nat.and_le_right (by decide)
  · show _ = (Int32.ofNat _).toBitVec
    simp
theorem l5_lt {L n : Nat} (hL : L ≤ 320) (hn : n ≤ 1000) : nI L - 5 < nI n ↔ L < n + 5 := by
  have h5 : ((5 : Int32)).toInt = 5 := by decide
  have e : (nI L - 5 : Int32).toInt = (L : Int) - 5 := by
    rw [Int32.toInt_sub, nI_toInt (by omega), h5]
    exact Int.bmod_eq_of_le (by omega) (by omega)
  rw [i_lt, e, nI_toInt (by omega)]
  omega
/-- one turn of the loop: out of the head, into the next head -/
theorem law_turn (E : LE p s m meth c b L xs D aX aM cA ce sl) {n : Nat} (hi : i = nI n) (hn9 : n ≤ 900) (hR : Rel x d) (hF : n + 5 ≤ L → x 36 2 = d 0 11) (k : ∀ x' d', n + 5 ≤ L → Rel x' d' → Lv l e below p s m meth c b D aX aM cA ce sl 18 [] (nI (n + 5)) x' d' false) : Lv l e below p s m meth c b D aX aM cA ce sl 18 [] i x d false := by
  have hL : L ≤ 320 := E.2.2.2.2.2.2.2.2.2.1
  refine lr_i E dL_law_18 rfl (lr_a E dL_law_19 rfl (lr_len E dL_law_20 (lr_iconst (v := 5) E dL_law_21 (by decide +kernel) (lr_isub E dL_law_22 (lr_gt (tgt := 1426) E dL_law_23 (by decide) (fun _ => ?_) (fun z => ?_))))))
  · exact lr_iconst (v := 1) E dL_law_1426 (by decide +kernel) (lr_ret E dL_law_1427)
  rw [hi, l5_lt hL (by omega)] at z
  have hn : n + 5 ≤ L := by omega
  have k2 : ∀ x' d', Rel x' d' → Lv l e below p s m meth c b D aX aM cA ce sl 1420 [] i x' d' false := fun x' d' hR' => lr_iinc (v := nI (n + 5)) E dL_law_1420 (by rw [hi]; exact nI_add n 5) (lr_goto (tgt := 18) E dL_law_1423 (by decide) (k x' d' hn hR'))
  refine lr_a E dL_law_26 rfl (lr_i E dL_law_27 rfl (lr_ld E dL_law_28 hi (by omega) (lr_bipush (v := 63) E dL_law_29 (by decide +kernel) (lr_iand E dL_law_31 ?_))))
  obtain ⟨j, hj, ej⟩ := and63 (xs n)
  rw [ej]
  match j, hj with
  | 0, _ => exact lr_tin (tgt := 208) E dL_law_32 (by decide +kernel) (by decide +kernel) rfl (by decide) (lc_0 E hi hn hR k2)
  | 1, _ => exact lr_tin (tgt := 231) E dL_law_32 (by decide +kernel) (by decide +kernel) rfl (by decide) (lc_1 E hi hn hR k2)
  | 2, _ => exact lr_tin (tgt := 254) E dL_law_32 (by decide +kernel) (by decide +kernel) rfl (by decide) (lc_2 E hi hn hR k2)
  | 3, _ => exact lr_tin (tgt := 267) E dL_law_32 (by decide +kernel) (by decide +kernel) rfl (by decide) (lc_3 E hi hn hR (hF hn) k2)
  | 4, _ => exact lr_tin (tgt := 280) E dL_law_32 (by decide +kernel) (by decide +kernel) rfl (by decide) (lc_4 E hi hn hR k2)
  | 5, _ => exact lr_tin (tgt := 303) E dL_law_32 (by decide +kernel) (by decide +kernel) rfl (by decide) (lc_5 E hi hn hR k2)
  | 6, _ => exact lr_tin (tgt := 336) E dL_law_32 (by decide +kernel) (by decide +kernel) rfl (by decide) (lc_6 E hi hn hR k2)
  | 7, _ => exact lr_tin (tgt := 369) E dL_law_32 (by decide +kernel) (by decide +kernel) rfl (by decide) (lc_7 E hi hn hR k2)
  | 8, _ => exact lr_tin (tgt := 402) E dL_law_32 (by decide +kernel) (by decide +kernel) rfl (by decide) (lc_8 E hi hn hR k2)
  | 9, _ => exact lr_tin (tgt := 435) E dL_law_32 (by decide +kernel) (by decide +kernel) rfl (by decide) (lc_9 E hi hn hR k2)
  | 10, _ => exact lr_tin (tgt := 458) E dL_law_32 (by decide +kernel) (by decide +kernel) rfl (by decide) (lc_10 E hi hn hR k2)
  | 11, _ => exact lr_tin (tgt := 501) E dL_law_32 (by decide +kernel) (by decide +kernel) rfl (by decide) (lc_11 E hi hn hR k2)
  | 12, _ => exact lr_tin (tgt := 534) E dL_law_32 (by decide +kernel) (by decide +kernel) rfl (by decide) (lc_12 E hi hn hR k2)
  | 13, _ => exact lr_tin (tgt := 577) E dL_law_32 (by decide +kernel) (by decide +kernel) rfl (by decide) (lc_13 E hi hn hR k2)
  | 14, _ => exact lr_tin (tgt := 620) E dL_law_32 (by decide +kernel) (by decide +kernel) rfl (by decide) (lc_14 E hi hn hR k2)
  | 15, _ => exact lr_tin (tgt := 653) E dL_law_32 (by decide +kernel) (by decide +kernel) rfl (by decide) (lc_15 E hi hn hR k2)
  | 16, _ => exact lr_tin (tgt := 686) E dL_law_32 (by decide +kernel) (by decide +kernel) rfl (by decide) (lc_16 E hi hn hR k2)
  | 17, _ => exact lr_tin (tgt := 719) E dL_law_32 (by decide +kernel) (by decide +kernel) rfl (by decide) (lc_17 E hi hn hR k2)
  | 18, _ => exact lr_tin (tgt := 742) E dL_law_32 (by decide +kernel) (by decide +kernel) rfl (by decide) (lc_18 E hi hn hR k2)
  | 19, _ => exact lr_tin (tgt := 765) E dL_law_32 (by decide +kernel) (by decide +kernel) rfl (by decide) (lc_19 E hi hn hR k2)
  | 20, _ => exact lr_tin (tgt := 788) E dL_law_32 (by decide +kernel) (by decide +kernel) rfl (by decide) (lc_20 E hi hn hR k2)
  | 21, _ => exact lr_tin (tgt := 811) E dL_law_32 (by decide +kernel) (by decide +kernel) rfl (by decide) (lc_21 E hi hn hR k2)
  | 22, _ => exact lr_tin (tgt := 834) E dL_law_32 (by decide +kernel) (by decide +kernel) rfl (by decide) (lc_22 E hi hn hR k2)
  | 23, _ => exact lr_tin (tgt := 857) E dL_law_32 (by decide +kernel) (by decide +kernel) rfl (by decide) (lc_23 E hi hn hR k2)
  | 24, _ => exact lr_tin (tgt := 890) E dL_law_32 (by decide +kernel) (by decide +kernel) rfl (by decide) (lc_24 E hi hn hR k2)
  | 25, _ => exact lr_tin (tgt := 933) E dL_law_32 (by decide +kernel) (by decide +kernel) rfl (by decide) (lc_25 E hi hn hR k2)
  | 26, _ => exact lr_tin (tgt := 956) E dL_law_32 (by decide +kernel) (by decide +kernel) rfl (by decide) (lc_26 E hi hn hR k2)
  | 27, _ => exact lr_tin (tgt := 990) E dL_law_32 (by decide +kernel) (by decide +kernel) rfl (by decide) (lc_27 E hi hn hR k2)
  | 28, _ => exact lr_tin (tgt := 1034) E dL_law_32 (by decide +kernel) (by decide +kernel) rfl (by decide) (lc_28 E hi hn hR k2)
  | 29, _ => exact lr_tin (tgt := 1077) E dL_law_32 (by decide +kernel) (by decide +kernel) rfl (by decide) (lc_29 E hi hn hR k2)
  | 30, _ => exact lr_tin (tgt := 1100) E dL_law_32 (by decide +kernel) (by decide +kernel) rfl (by decide) (lc_30 E hi hn hR k2)
  | 31, _ => exact lr_tin (tgt := 1123) E dL_law_32 (by decide +kernel) (by decide +kernel) rfl (by decide) (lc_31 E hi hn hR k2)
  | 32, _ => exact lr_tin (tgt := 1156) E dL_law_32 (by decide +kernel) (by decide +kernel) rfl (by decide) (lc_32 E hi hn hR k2)
  | 33, _ => exact lr_tin (tgt := 1199) E dL_law_32 (by decide +kernel) (by decide +kernel) rfl (by decide) (lc_33 E hi hn hR k2)
  | 34, _ => exact lr_tin (tgt := 1222) E dL_law_32 (by decide +kernel) (by decide +kernel) rfl (by decide) (lc_34 E hi hn hR k2)
  | 35, _ => exact lr_tin (tgt := 1245) E dL_law_32 (by decide +kernel) (by decide +kernel) rfl (by decide) (lc_35 E hi hn hR k2)
  | 36, _ => exact lr_tin (tgt := 1288) E dL_law_32 (by decide +kernel) (by decide +kernel) rfl (by decide) (lc_36 E hi hn hR k2)
  | 37, _ => exact lr_tin (tgt := 1331) E dL_law_32 (by decide +kernel) (by decide +kernel) rfl (by decide) (lc_37 E hi hn hR k2)
  | 38, _ => exact lr_tin (tgt := 1384) E dL_law_32 (by decide +kernel) (by decide +kernel) rfl (by decide) (lc_38 E hi hn hR k2)
  | 39, _ => exact lr_tin (tgt := 1397) E dL_law_32 (by decide +kernel) (by decide +kernel) rfl (by decide) (lc_39 E hi hn hR k2)
  | j + 40, hj => exact lr_tout (tgt := 1420) E dL_law_32 (Or.inr (by rw [nI_toInt (by omega)]; omega)) (by decide) (k2 x d hR)
end CASES
