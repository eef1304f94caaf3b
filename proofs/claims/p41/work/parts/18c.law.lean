section
/-! ===== the law's cases ===== -/
theorem mo_X5_count : MvOk MX5_count 1 := ⟨w1196, w1197, w59, w1198, by decide +kernel, by decide +kernel, by decide +kernel⟩
theorem mo_X4_count : MvOk MX4_count 1 := ⟨w752, w753, w54, w754, by decide +kernel, by decide +kernel, by decide +kernel⟩
theorem mo_X5_torn : MvOk MX5_torn 0 := ⟨w1192, w1193, w59, w1194, by decide +kernel, by decide +kernel, by decide +kernel⟩
theorem mo_X4_torn : MvOk MX4_torn 0 := ⟨w748, w749, w54, w750, by decide +kernel, by decide +kernel, by decide +kernel⟩
theorem mo_X5_read : MvOk MX5_read 4 := ⟨w1188, w1189, w59, w1190, by decide +kernel, by decide +kernel, by decide +kernel⟩
theorem mo_X4_read : MvOk MX4_read 4 := ⟨w740, w741, w54, w742, by decide +kernel, by decide +kernel, by decide +kernel⟩
theorem mo_X5_lay : MvOk MX5_lay 3 := ⟨w1184, w1185, w59, w1186, by decide +kernel, by decide +kernel, by decide +kernel⟩
theorem mo_X4_lay : MvOk MX4_lay 3 := ⟨w729, w730, w54, w731, by decide +kernel, by decide +kernel, by decide +kernel⟩
theorem mo_X5_sheet : MvOk MX5_sheet 3 := ⟨w1180, w1181, w59, w1182, by decide +kernel, by decide +kernel, by decide +kernel⟩
theorem mo_X4_sheet : MvOk MX4_sheet 3 := ⟨w721, w722, w54, w723, by decide +kernel, by decide +kernel, by decide +kernel⟩
theorem mo_X5_back : MvOk MX5_back 1 := ⟨w1172, w1173, w59, w1174, by decide +kernel, by decide +kernel, by decide +kernel⟩
theorem mo_X4_back : MvOk MX4_back 1 := ⟨w713, w714, w54, w715, by decide +kernel, by decide +kernel, by decide +kernel⟩
theorem mo_X5_keep : MvOk MX5_keep 1 := ⟨w1168, w1169, w59, w1170, by decide +kernel, by decide +kernel, by decide +kernel⟩
theorem mo_X4_keep : MvOk MX4_keep 1 := ⟨w709, w710, w54, w711, by decide +kernel, by decide +kernel, by decide +kernel⟩
theorem mo_X5_drift : MvOk MX5_drift 3 := ⟨w1158, w1159, w59, w1160, by decide +kernel, by decide +kernel, by decide +kernel⟩
theorem mo_X4_drift : MvOk MX4_drift 3 := ⟨w694, w695, w54, w696, by decide +kernel, by decide +kernel, by decide +kernel⟩
theorem mo_X5_listen : MvOk MX5_listen 2 := ⟨w1154, w1155, w59, w1156, by decide +kernel, by decide +kernel, by decide +kernel⟩
theorem mo_X4_listen : MvOk MX4_listen 2 := ⟨w685, w686, w54, w687, by decide +kernel, by decide +kernel, by decide +kernel⟩
theorem mo_X5_fits : MvOk MX5_fits 1 := ⟨w1146, w1147, w59, w1148, by decide +kernel, by decide +kernel, by decide +kernel⟩
theorem mo_X4_fits : MvOk MX4_fits 1 := ⟨w677, w678, w54, w679, by decide +kernel, by decide +kernel, by decide +kernel⟩
theorem mo_X5_forget : MvOk MX5_forget 1 := ⟨w1142, w1143, w59, w1144, by decide +kernel, by decide +kernel, by decide +kernel⟩
theorem mo_X4_forget : MvOk MX4_forget 1 := ⟨w673, w674, w54, w675, by decide +kernel, by decide +kernel, by decide +kernel⟩
theorem mo_X5_see : MvOk MX5_see 3 := ⟨w1138, w1139, w59, w1140, by decide +kernel, by decide +kernel, by decide +kernel⟩
theorem mo_X4_see : MvOk MX4_see 3 := ⟨w669, w670, w54, w671, by decide +kernel, by decide +kernel, by decide +kernel⟩
theorem mo_X5_luck : MvOk MX5_luck 3 := ⟨w1134, w1135, w59, w1136, by decide +kernel, by decide +kernel, by decide +kernel⟩
theorem mo_X4_luck : MvOk MX4_luck 3 := ⟨w665, w666, w54, w667, by decide +kernel, by decide +kernel, by decide +kernel⟩
theorem mo_X5_mean : MvOk MX5_mean 2 := ⟨w1122, w1123, w59, w1124, by decide +kernel, by decide +kernel, by decide +kernel⟩
theorem mo_X4_mean : MvOk MX4_mean 2 := ⟨w653, w654, w54, w655, by decide +kernel, by decide +kernel, by decide +kernel⟩
theorem mo_X5_teach : MvOk MX5_teach 1 := ⟨w1118, w1119, w59, w1120, by decide +kernel, by decide +kernel, by decide +kernel⟩
theorem mo_X4_teach : MvOk MX4_teach 1 := ⟨w649, w650, w54, w651, by decide +kernel, by decide +kernel, by decide +kernel⟩
theorem mo_X5_bribe : MvOk MX5_bribe 3 := ⟨w1114, w1115, w59, w1116, by decide +kernel, by decide +kernel, by decide +kernel⟩
theorem mo_X4_bribe : MvOk MX4_bribe 3 := ⟨w634, w635, w54, w636, by decide +kernel, by decide +kernel, by decide +kernel⟩
theorem mo_X5_compose : MvOk MX5_compose 2 := ⟨w1109, w1110, w59, w1111, by decide +kernel, by decide +kernel, by decide +kernel⟩
theorem mo_X4_compose : MvOk MX4_compose 2 := ⟨w629, w630, w54, w631, by decide +kernel, by decide +kernel, by decide +kernel⟩
theorem mo_X5_apart : MvOk MX5_apart 1 := ⟨w1105, w1106, w59, w1107, by decide +kernel, by decide +kernel, by decide +kernel⟩
theorem mo_X4_apart : MvOk MX4_apart 1 := ⟨w625, w626, w54, w627, by decide +kernel, by decide +kernel, by decide +kernel⟩
theorem mo_X5_best : MvOk MX5_best 1 := ⟨w1085, w1086, w59, w1087, by decide +kernel, by decide +kernel, by decide +kernel⟩
theorem mo_X4_best : MvOk MX4_best 1 := ⟨w614, w615, w54, w616, by decide +kernel, by decide +kernel, by decide +kernel⟩
theorem mo_X5_first : MvOk MX5_first 1 := ⟨w1080, w1081, w59, w1082, by decide +kernel, by decide +kernel, by decide +kernel⟩
theorem mo_X4_first : MvOk MX4_first 1 := ⟨w605, w606, w54, w607, by decide +kernel, by decide +kernel, by decide +kernel⟩
theorem mo_X5_sum : MvOk MX5_sum 1 := ⟨w1065, w1066, w59, w1067, by decide +kernel, by decide +kernel, by decide +kernel⟩
theorem mo_X4_sum : MvOk MX4_sum 1 := ⟨w580, w581, w54, w582, by decide +kernel, by decide +kernel, by decide +kernel⟩
theorem mo_X5_sounds : MvOk MX5_sounds 1 := ⟨w1061, w1062, w59, w1063, by decide +kernel, by decide +kernel, by decide +kernel⟩
theorem mo_X4_sounds : MvOk MX4_sounds 1 := ⟨w576, w577, w54, w578, by decide +kernel, by decide +kernel, by decide +kernel⟩
theorem mo_X5_plays : MvOk MX5_plays 1 := ⟨w1057, w1058, w59, w1059, by decide +kernel, by decide +kernel, by decide +kernel⟩
theorem mo_X4_plays : MvOk MX4_plays 1 := ⟨w572, w573, w54, w574, by decide +kernel, by decide +kernel, by decide +kernel⟩
theorem mo_X5_over : MvOk MX5_over 2 := ⟨w1052, w1053, w59, w1054, by decide +kernel, by decide +kernel, by decide +kernel⟩
theorem mo_X4_over : MvOk MX4_over 2 := ⟨w536, w537, w54, w538, by decide +kernel, by decide +kernel, by decide +kernel⟩
theorem mo_X5_out : MvOk MX5_out 2 := ⟨w1028, w1029, w59, w1030, by decide +kernel, by decide +kernel, by decide +kernel⟩
theorem mo_X4_out : MvOk MX4_out 2 := ⟨w532, w533, w54, w534, by decide +kernel, by decide +kernel, by decide +kernel⟩
theorem mo_X5_bind : MvOk MX5_bind 2 := ⟨w1020, w1021, w59, w1022, by decide +kernel, by decide +kernel, by decide +kernel⟩
theorem mo_X4_bind : MvOk MX4_bind 2 := ⟨w522, w523, w54, w524, by decide +kernel, by decide +kernel, by decide +kernel⟩
theorem mo_X5_hire : MvOk MX5_hire 3 := ⟨w1015, w1016, w59, w1017, by decide +kernel, by decide +kernel, by decide +kernel⟩
theorem mo_X4_hire : MvOk MX4_hire 3 := ⟨w518, w519, w54, w520, by decide +kernel, by decide +kernel, by decide +kernel⟩
theorem mo_X5_set : MvOk MX5_set 3 := ⟨w1011, w1012, w59, w1013, by decide +kernel, by decide +kernel, by decide +kernel⟩
theorem mo_X4_set : MvOk MX4_set 3 := ⟨w514, w515, w54, w516, by decide +kernel, by decide +kernel, by decide +kernel⟩
theorem mo_X5_add : MvOk MX5_add 2 := ⟨w1007, w1008, w59, w1009, by decide +kernel, by decide +kernel, by decide +kernel⟩
theorem mo_X4_add : MvOk MX4_add 2 := ⟨w510, w511, w54, w512, by decide +kernel, by decide +kernel, by decide +kernel⟩
theorem mo_X5_write : MvOk MX5_write 3 := ⟨w998, w999, w59, w1000, by decide +kernel, by decide +kernel, by decide +kernel⟩
theorem mo_X4_write : MvOk MX4_write 3 := ⟨w503, w504, w54, w505, by decide +kernel, by decide +kernel, by decide +kernel⟩
theorem mo_X5_bound : MvOk MX5_bound 1 := ⟨w990, w991, w59, w992, by decide +kernel, by decide +kernel, by decide +kernel⟩
theorem mo_X4_bound : MvOk MX4_bound 1 := ⟨w495, w496, w54, w497, by decide +kernel, by decide +kernel, by decide +kernel⟩
theorem mo_X5_player : MvOk MX5_player 2 := ⟨w981, w982, w59, w983, by decide +kernel, by decide +kernel, by decide +kernel⟩
theorem mo_X4_player : MvOk MX4_player 2 := ⟨w487, w488, w54, w489, by decide +kernel, by decide +kernel, by decide +kernel⟩
theorem mo_X5_has : MvOk MX5_has 2 := ⟨w969, w970, w59, w971, by decide +kernel, by decide +kernel, by decide +kernel⟩
theorem mo_X4_has : MvOk MX4_has 2 := ⟨w472, w473, w54, w474, by decide +kernel, by decide +kernel, by decide +kernel⟩
theorem mo_X5_note : MvOk MX5_note 2 := ⟨w961, w962, w59, w963, by decide +kernel, by decide +kernel, by decide +kernel⟩
theorem mo_X4_note : MvOk MX4_note 2 := ⟨w464, w465, w54, w466, by decide +kernel, by decide +kernel, by decide +kernel⟩
theorem mo_X5_tune : MvOk MX5_tune 2 := ⟨w938, w939, w59, w940, by decide +kernel, by decide +kernel, by decide +kernel⟩
theorem mo_X4_tune : MvOk MX4_tune 2 := ⟨w448, w449, w54, w450, by decide +kernel, by decide +kernel, by decide +kernel⟩
theorem mo_X5_rule : MvOk MX5_rule 1 := ⟨w934, w935, w59, w936, by decide +kernel, by decide +kernel, by decide +kernel⟩
theorem mo_X4_rule : MvOk MX4_rule 1 := ⟨w444, w445, w54, w446, by decide +kernel, by decide +kernel, by decide +kernel⟩
theorem mo_X5_fault : MvOk MX5_fault 0 := ⟨w930, w931, w59, w932, by decide +kernel, by decide +kernel, by decide +kernel⟩
theorem mo_X4_fault : MvOk MX4_fault 0 := ⟨w440, w441, w54, w442, by decide +kernel, by decide +kernel, by decide +kernel⟩
theorem mo_X5_text : MvOk MX5_text 0 := ⟨w885, w886, w59, w887, by decide +kernel, by decide +kernel, by decide +kernel⟩
theorem mo_X4_text : MvOk MX4_text 0 := ⟨w312, w313, w54, w314, by decide +kernel, by decide +kernel, by decide +kernel⟩
theorem mo_X5_end : MvOk MX5_end 1 := ⟨w881, w882, w59, w883, by decide +kernel, by decide +kernel, by decide +kernel⟩
theorem mo_X4_end : MvOk MX4_end 1 := ⟨w308, w309, w54, w310, by decide +kernel, by decide +kernel, by decide +kernel⟩
theorem mo_X5_feed : MvOk MX5_feed 1 := ⟨w873, w874, w59, w875, by decide +kernel, by decide +kernel, by decide +kernel⟩
theorem mo_X4_feed : MvOk MX4_feed 1 := ⟨w297, w298, w54, w299, by decide +kernel, by decide +kernel, by decide +kernel⟩
section CASES
variable {l : Launch} {e : Env} {below : List Frame} {p : Program} {s : State} {m : MethodId} {meth : Method} {c : Code} {b L : Nat} {xs : Nat → Int32} {D : va_G} {aX aM : Nat → Nat} {cA : Nat → ClassId} {ce sl : Nat} {i : Int32} {x d : DD}
theorem lc_0 (E : LE p s m meth c b L xs D aX aM cA ce sl) {n : Nat} (hi : i = nI n) (hn : n + 5 ≤ L) (hR0 : Rel x d) (k : ∀ x' d', Rel x' d' → Lv l e below p s m meth c b D aX aM cA ce sl 1418 [] i x' d' false) : Lv l e below p s m meth c b D aX aM cA ce sl 208 [] i x d false := by
  obtain ⟨H0, hR⟩ := hR0
  obtain ⟨r, PX, PM, h1, h2, h3⟩ : Two MX4_feed MX5_feed [.ref 0, .int (xs (n + 1))] x d := two_feed hR
  refine lr_a E dL_law_208 rfl ?_
  refine lr_arg (j := 1) E hi (by omega) dL_law_209 dL_law_210 dL_law_211 (by decide +kernel) dL_law_212 dL_law_213 ?_
  refine lr_cXi (M2 := MX4_feed) (is := [xs (n + 1)]) E dL_law_214 w296 rfl mo_X4_feed rfl ⟨Nat.le_of_ble_eq_true rfl, Nat.le_of_ble_eq_true rfl⟩ rfl (Nat.le_of_ble_eq_true rfl) h1 (fun r1 x1 hq1 => ?_)
  refine lr_pop E dL_law_217 ?_
  refine lr_a E dL_law_218 rfl ?_
  refine lr_arg (j := 1) E hi (by omega) dL_law_219 dL_law_220 dL_law_221 (by decide +kernel) dL_law_222 dL_law_223 ?_
  refine lr_cMi (M2 := MX5_feed) (is := [xs (n + 1)]) E dL_law_224 w872 rfl mo_X5_feed rfl ⟨Nat.le_of_ble_eq_true rfl, Nat.le_of_ble_eq_true rfl⟩ rfl (Nat.le_of_ble_eq_true rfl) h2 (fun r2 d1 hq2 => ?_)
  refine lr_pop E dL_law_227 ?_
  exact lr_goto (tgt := 1418) E dL_law_228 (by decide) (k _ _ (h3 _ _ hq1.2 hq2.2))
theorem lc_1 (E : LE p s m meth c b L xs D aX aM cA ce sl) {n : Nat} (hi : i = nI n) (hn : n + 5 ≤ L) (hR0 : Rel x d) (k : ∀ x' d', Rel x' d' → Lv l e below p s m meth c b D aX aM cA ce sl 1418 [] i x' d' false) : Lv l e below p s m meth c b D aX aM cA ce sl 231 [] i x d false := by
  obtain ⟨H0, hR⟩ := hR0
  obtain ⟨r, PX, PM, h1, h2, h3⟩ : Two MX4_end MX5_end [.ref 0, .int (xs (n + 1))] x d := two_end hR
  refine lr_a E dL_law_231 rfl ?_
  refine lr_arg (j := 1) E hi (by omega) dL_law_232 dL_law_233 dL_law_234 (by decide +kernel) dL_law_235 dL_law_236 ?_
  refine lr_cXi (M2 := MX4_end) (is := [xs (n + 1)]) E dL_law_237 w307 rfl mo_X4_end rfl ⟨Nat.le_of_ble_eq_true rfl, Nat.le_of_ble_eq_true rfl⟩ rfl (Nat.le_of_ble_eq_true rfl) h1 (fun r1 x1 hq1 => ?_)
  refine lr_pop E dL_law_240 ?_
  refine lr_a E dL_law_241 rfl ?_
  refine lr_arg (j := 1) E hi (by omega) dL_law_242 dL_law_243 dL_law_244 (by decide +kernel) dL_law_245 dL_law_246 ?_
  refine lr_cMi (M2 := MX5_end) (is := [xs (n + 1)]) E dL_law_247 w880 rfl mo_X5_end rfl ⟨Nat.le_of_ble_eq_true rfl, Nat.le_of_ble_eq_true rfl⟩ rfl (Nat.le_of_ble_eq_true rfl) h2 (fun r2 d1 hq2 => ?_)
  refine lr_pop E dL_law_250 ?_
  exact lr_goto (tgt := 1418) E dL_law_251 (by decide) (k _ _ (h3 _ _ hq1.2 hq2.2))
theorem lc_2 (E : LE p s m meth c b L xs D aX aM cA ce sl) {n : Nat} (hi : i = nI n) (hn : n + 5 ≤ L) (hR0 : Rel x d) (k : ∀ x' d', Rel x' d' → Lv l e below p s m meth c b D aX aM cA ce sl 1418 [] i x' d' false) : Lv l e below p s m meth c b D aX aM cA ce sl 254 [] i x d false := by
  obtain ⟨H0, hR⟩ := hR0
  obtain ⟨r, PX, PM, h1, h2, h3⟩ : Two MX4_text MX5_text [.ref 0] x d := two_text hR
  refine lr_a E dL_law_254 rfl ?_
  refine lr_cXi (M2 := MX4_text) (is := []) E dL_law_255 w311 rfl mo_X4_text rfl ⟨Nat.le_of_ble_eq_true rfl, Nat.le_of_ble_eq_true rfl⟩ rfl (Nat.le_of_ble_eq_true rfl) h1 (fun r1 x1 hq1 => ?_)
  refine lr_pop E dL_law_258 ?_
  refine lr_a E dL_law_259 rfl ?_
  refine lr_cMi (M2 := MX5_text) (is := []) E dL_law_260 w884 rfl mo_X5_text rfl ⟨Nat.le_of_ble_eq_true rfl, Nat.le_of_ble_eq_true rfl⟩ rfl (Nat.le_of_ble_eq_true rfl) h2 (fun r2 d1 hq2 => ?_)
  refine lr_pop E dL_law_263 ?_
  exact lr_goto (tgt := 1418) E dL_law_264 (by decide) (k _ _ (h3 _ _ hq1.2 hq2.2))
theorem lc_3 (E : LE p s m meth c b L xs D aX aM cA ce sl) {n : Nat} (hi : i = nI n) (hn : n + 5 ≤ L) (hR0 : Rel x d) (k : ∀ x' d', Rel x' d' → Lv l e below p s m meth c b D aX aM cA ce sl 1418 [] i x' d' false) : Lv l e below p s m meth c b D aX aM cA ce sl 267 [] i x d false := by
  obtain ⟨H0, hR⟩ := hR0
  obtain ⟨PX, PM, h1, h2, h3⟩ : TwoA MX4_fault MX5_fault [.ref 0] x d := any_fault hR
  refine lr_a E dL_law_267 rfl ?_
  refine lr_cXi (M2 := MX4_fault) (is := []) E dL_law_268 w439 rfl mo_X4_fault rfl ⟨Nat.le_of_ble_eq_true rfl, Nat.le_of_ble_eq_true rfl⟩ rfl (Nat.le_of_ble_eq_true rfl) h1 (fun r1 x1 hq1 => ?_)
  refine lr_pop E dL_law_271 ?_
  refine lr_a E dL_law_272 rfl ?_
  refine lr_cMi (M2 := MX5_fault) (is := []) E dL_law_273 w929 rfl mo_X5_fault rfl ⟨Nat.le_of_ble_eq_true rfl, Nat.le_of_ble_eq_true rfl⟩ rfl (Nat.le_of_ble_eq_true rfl) h2 (fun r2 d1 hq2 => ?_)
  refine lr_pop E dL_law_276 ?_
  exact lr_goto (tgt := 1418) E dL_law_277 (by decide) (k _ _ (h3 _ _ hq1 hq2))
theorem lc_4 (E : LE p s m meth c b L xs D aX aM cA ce sl) {n : Nat} (hi : i = nI n) (hn : n + 5 ≤ L) (hR0 : Rel x d) (k : ∀ x' d', Rel x' d' → Lv l e below p s m meth c b D aX aM cA ce sl 1418 [] i x' d' false) : Lv l e below p s m meth c b D aX aM cA ce sl 280 [] i x d false := by
  obtain ⟨H0, hR⟩ := hR0
  obtain ⟨r, PX, PM, h1, h2, h3⟩ : Two MX4_rule MX5_rule [.ref 0, .int (xs (n + 1))] x d := two_rule hR
  refine lr_a E dL_law_280 rfl ?_
  refine lr_arg (j := 1) E hi (by omega) dL_law_281 dL_law_282 dL_law_283 (by decide +kernel) dL_law_284 dL_law_285 ?_
  refine lr_cXi (M2 := MX4_rule) (is := [xs (n + 1)]) E dL_law_286 w443 rfl mo_X4_rule rfl ⟨Nat.le_of_ble_eq_true rfl, Nat.le_of_ble_eq_true rfl⟩ rfl (Nat.le_of_ble_eq_true rfl) h1 (fun r1 x1 hq1 => ?_)
  refine lr_pop E dL_law_289 ?_
  refine lr_a E dL_law_290 rfl ?_
  refine lr_arg (j := 1) E hi (by omega) dL_law_291 dL_law_292 dL_law_293 (by decide +kernel) dL_law_294 dL_law_295 ?_
  refine lr_cMi (M2 := MX5_rule) (is := [xs (n + 1)]) E dL_law_296 w933 rfl mo_X5_rule rfl ⟨Nat.le_of_ble_eq_true rfl, Nat.le_of_ble_eq_true rfl⟩ rfl (Nat.le_of_ble_eq_true rfl) h2 (fun r2 d1 hq2 => ?_)
  refine lr_pop E dL_law_299 ?_
  exact lr_goto (tgt := 1418) E dL_law_300 (by decide) (k _ _ (h3 _ _ hq1.2 hq2.2))
theorem lc_5 (E : LE p s m meth c b L xs D aX aM cA ce sl) {n : Nat} (hi : i = nI n) (hn : n + 5 ≤ L) (hR0 : Rel x d) (k : ∀ x' d', Rel x' d' → Lv l e below p s m meth c b D aX aM cA ce sl 1418 [] i x' d' false) : Lv l e below p s m meth c b D aX aM cA ce sl 303 [] i x d false := by
  obtain ⟨H0, hR⟩ := hR0
  obtain ⟨r, PX, PM, h1, h2, h3⟩ : Two MX4_tune MX5_tune [.ref 0, .int (xs (n + 1)), .int (xs (n + 2))] x d := two_tune hR
  refine lr_a E dL_law_303 rfl ?_
  refine lr_arg (j := 1) E hi (by omega) dL_law_304 dL_law_305 dL_law_306 (by decide +kernel) dL_law_307 dL_law_308 ?_
  refine lr_arg (j := 2) E hi (by omega) dL_law_309 dL_law_310 dL_law_311 (by decide +kernel) dL_law_312 dL_law_313 ?_
  refine lr_cXi (M2 := MX4_tune) (is := [xs (n + 1), xs (n + 2)]) E dL_law_314 w447 rfl mo_X4_tune rfl ⟨Nat.le_of_ble_eq_true rfl, Nat.le_of_ble_eq_true rfl⟩ rfl (Nat.le_of_ble_eq_true rfl) h1 (fun r1 x1 hq1 => ?_)
  refine lr_pop E dL_law_317 ?_
  refine lr_a E dL_law_318 rfl ?_
  refine lr_arg (j := 1) E hi (by omega) dL_law_319 dL_law_320 dL_law_321 (by decide +kernel) dL_law_322 dL_law_323 ?_
  refine lr_arg (j := 2) E hi (by omega) dL_law_324 dL_law_325 dL_law_326 (by decide +kernel) dL_law_327 dL_law_328 ?_
  refine lr_cMi (M2 := MX5_tune) (is := [xs (n + 1), xs (n + 2)]) E dL_law_329 w937 rfl mo_X5_tune rfl ⟨Nat.le_of_ble_eq_true rfl, Nat.le_of_ble_eq_true rfl⟩ rfl (Nat.le_of_ble_eq_true rfl) h2 (fun r2 d1 hq2 => ?_)
  refine lr_pop E dL_law_332 ?_
  exact lr_goto (tgt := 1418) E dL_law_333 (by decide) (k _ _ (h3 _ _ hq1.2 hq2.2))
theorem lc_6 (E : LE p s m meth c b L xs D aX aM cA ce sl) {n : Nat} (hi : i = nI n) (hn : n + 5 ≤ L) (hR0 : Rel x d) (k : ∀ x' d', Rel x' d' → Lv l e below p s m meth c b D aX aM cA ce sl 1418 [] i x' d' false) : Lv l e below p s m meth c b D aX aM cA ce sl 336 [] i x d false := by
  obtain ⟨H0, hR⟩ := hR0
  obtain ⟨r, PX, PM, h1, h2, h3⟩ : Two MX4_note MX5_note [.ref 0, .int (xs (n + 1)), .int (xs (n + 2))] x d := two_note hR
  refine lr_a E dL_law_336 rfl ?_
  refine lr_arg (j := 1) E hi (by omega) dL_law_337 dL_law_338 dL_law_339 (by decide +kernel) dL_law_340 dL_law_341 ?_
  refine lr_arg (j := 2) E hi (by omega) dL_law_342 dL_law_343 dL_law_344 (by decide +kernel) dL_law_345 dL_law_346 ?_
  refine lr_cXi (M2 := MX4_note) (is := [xs (n + 1), xs (n + 2)]) E dL_law_347 w463 rfl mo_X4_note rfl ⟨Nat.le_of_ble_eq_true rfl, Nat.le_of_ble_eq_true rfl⟩ rfl (Nat.le_of_ble_eq_true rfl) h1 (fun r1 x1 hq1 => ?_)
  refine lr_pop E dL_law_350 ?_
  refine lr_a E dL_law_351 rfl ?_
  refine lr_arg (j := 1) E hi (by omega) dL_law_352 dL_law_353 dL_law_354 (by decide +kernel) dL_law_355 dL_law_356 ?_
  refine lr_arg (j := 2) E hi (by omega) dL_law_357 dL_law_358 dL_law_359 (by decide +kernel) dL_law_360 dL_law_361 ?_
  refine lr_cMi (M2 := MX5_note) (is := [xs (n + 1), xs (n + 2)]) E dL_law_362 w960 rfl mo_X5_note rfl ⟨Nat.le_of_ble_eq_true rfl, Nat.le_of_ble_eq_true rfl⟩ rfl (Nat.le_of_ble_eq_true rfl) h2 (fun r2 d1 hq2 => ?_)
  refine lr_pop E dL_law_365 ?_
  exact lr_goto (tgt := 1418) E dL_law_366 (by decide) (k _ _ (h3 _ _ hq1.2 hq2.2))
theorem lc_7 (E : LE p s m meth c b L xs D aX aM cA ce sl) {n : Nat} (hi : i = nI n) (hn : n + 5 ≤ L) (hR0 : Rel x d) (k : ∀ x' d', Rel x' d' → Lv l e below p s m meth c b D aX aM cA ce sl 1418 [] i x' d' false) : Lv l e below p s m meth c b D aX aM cA ce sl 369 [] i x d false := by
  obtain ⟨H0, hR⟩ := hR0
  obtain ⟨r, PX, PM, h1, h2, h3⟩ : Two MX4_has MX5_has [.ref 0, .int (xs (n + 1)), .int (xs (n + 2))] x d := two_has hR
  refine lr_a E dL_law_369 rfl ?_
  refine lr_arg (j := 1) E hi (by omega) dL_law_370 dL_law_371 dL_law_372 (by decide +kernel) dL_law_373 dL_law_374 ?_
  refine lr_arg (j := 2) E hi (by omega) dL_law_375 dL_law_376 dL_law_377 (by decide +kernel) dL_law_378 dL_law_379 ?_
  refine lr_cXi (M2 := MX4_has) (is := [xs (n + 1), xs (n + 2)]) E dL_law_380 w471 rfl mo_X4_has rfl ⟨Nat.le_of_ble_eq_true rfl, Nat.le_of_ble_eq_true rfl⟩ rfl (Nat.le_of_ble_eq_true rfl) h1 (fun r1 x1 hq1 => ?_)
  refine lr_pop E dL_law_383 ?_
  refine lr_a E dL_law_384 rfl ?_
  refine lr_arg (j := 1) E hi (by omega) dL_law_385 dL_law_386 dL_law_387 (by decide +kernel) dL_law_388 dL_law_389 ?_
  refine lr_arg (j := 2) E hi (by omega) dL_law_390 dL_law_391 dL_law_392 (by decide +kernel) dL_law_393 dL_law_394 ?_
  refine lr_cMi (M2 := MX5_has) (is := [xs (n + 1), xs (n + 2)]) E dL_law_395 w968 rfl mo_X5_has rfl ⟨Nat.le_of_ble_eq_true rfl, Nat.le_of_ble_eq_true rfl⟩ rfl (Nat.le_of_ble_eq_true rfl) h2 (fun r2 d1 hq2 => ?_)
  refine lr_pop E dL_law_398 ?_
  exact lr_goto (tgt := 1418) E dL_law_399 (by decide) (k _ _ (h3 _ _ hq1.2 hq2.2))
theorem lc_8 (E : LE p s m meth c b L xs D aX aM cA ce sl) {n : Nat} (hi : i = nI n) (hn : n + 5 ≤ L) (hR0 : Rel x d) (k : ∀ x' d', Rel x' d' → Lv l e below p s m meth c b D aX aM cA ce sl 1418 [] i x' d' false) : Lv l e below p s m meth c b D aX aM cA ce sl 402 [] i x d false := by
  obtain ⟨H0, hR⟩ := hR0
  obtain ⟨r, PX, PM, h1, h2, h3⟩ : Two MX4_player MX5_player [.ref 0, .int (xs (n + 1)), .int (xs (n + 2))] x d := two_player hR
  refine lr_a E dL_law_402 rfl ?_
  refine lr_arg (j := 1) E hi (by omega) dL_law_403 dL_law_404 dL_law_405 (by decide +kernel) dL_law_406 dL_law_407 ?_
  refine lr_arg (j := 2) E hi (by omega) dL_law_408 dL_law_409 dL_law_410 (by decide +kernel) dL_law_411 dL_law_412 ?_
  refine lr_cXi (M2 := MX4_player) (is := [xs (n + 1), xs (n + 2)]) E dL_law_413 w486 rfl mo_X4_player rfl ⟨Nat.le_of_ble_eq_true rfl, Nat.le_of_ble_eq_true rfl⟩ rfl (Nat.le_of_ble_eq_true rfl) h1 (fun r1 x1 hq1 => ?_)
  refine lr_pop E dL_law_416 ?_
  refine lr_a E dL_law_417 rfl ?_
  refine lr_arg (j := 1) E hi (by omega) dL_law_418 dL_law_419 dL_law_420 (by decide +kernel) dL_law_421 dL_law_422 ?_
  refine lr_arg (j := 2) E hi (by omega) dL_law_423 dL_law_424 dL_law_425 (by decide +kernel) dL_law_426 dL_law_427 ?_
  refine lr_cMi (M2 := MX5_player) (is := [xs (n + 1), xs (n + 2)]) E dL_law_428 w980 rfl mo_X5_player rfl ⟨Nat.le_of_ble_eq_true rfl, Nat.le_of_ble_eq_true rfl⟩ rfl (Nat.le_of_ble_eq_true rfl) h2 (fun r2 d1 hq2 => ?_)
  refine lr_pop E dL_law_431 ?_
  exact lr_goto (tgt := 1418) E dL_law_432 (by decide) (k _ _ (h3 _ _ hq1.2 hq2.2))
theorem lc_9 (E : LE p s m meth c b L xs D aX aM cA ce sl) {n : Nat} (hi : i = nI n) (hn : n + 5 ≤ L) (hR0 : Rel x d) (k : ∀ x' d', Rel x' d' → Lv l e below p s m meth c b D aX aM cA ce sl 1418 [] i x' d' false) : Lv l e below p s m meth c b D aX aM cA ce sl 435 [] i x d false := by
  obtain ⟨H0, hR⟩ := hR0
  obtain ⟨r, PX, PM, h1, h2, h3⟩ : Two MX4_bound MX5_bound [.ref 0, .int (xs (n + 1))] x d := two_bound hR
  refine lr_a E dL_law_435 rfl ?_
  refine lr_arg (j := 1) E hi (by omega) dL_law_436 dL_law_437 dL_law_438 (by decide +kernel) dL_law_439 dL_law_440 ?_
  refine lr_cXi (M2 := MX4_bound) (is := [xs (n + 1)]) E dL_law_441 w494 rfl mo_X4_bound rfl ⟨Nat.le_of_ble_eq_true rfl, Nat.le_of_ble_eq_true rfl⟩ rfl (Nat.le_of_ble_eq_true rfl) h1 (fun r1 x1 hq1 => ?_)
  refine lr_pop E dL_law_444 ?_
  refine lr_a E dL_law_445 rfl ?_
  refine lr_arg (j := 1) E hi (by omega) dL_law_446 dL_law_447 dL_law_448 (by decide +kernel) dL_law_449 dL_law_450 ?_
  refine lr_cMi (M2 := MX5_bound) (is := [xs (n + 1)]) E dL_law_451 w989 rfl mo_X5_bound rfl ⟨Nat.le_of_ble_eq_true rfl, Nat.le_of_ble_eq_true rfl⟩ rfl (Nat.le_of_ble_eq_true rfl) h2 (fun r2 d1 hq2 => ?_)
  refine lr_pop E dL_law_454 ?_
  exact lr_goto (tgt := 1418) E dL_law_455 (by decide) (k _ _ (h3 _ _ hq1.2 hq2.2))
theorem lc_10 (E : LE p s m meth c b L xs D aX aM cA ce sl) {n : Nat} (hi : i = nI n) (hn : n + 5 ≤ L) (hR0 : Rel x d) (k : ∀ x' d', Rel x' d' → Lv l e below p s m meth c b D aX aM cA ce sl 1418 [] i x' d' false) : Lv l e below p s m meth c b D aX aM cA ce sl 458 [] i x d false := by
  obtain ⟨H0, hR⟩ := hR0
  obtain ⟨r, PX, PM, h1, h2, h3⟩ : Two MX4_write MX5_write [.ref 0, .int (xs (n + 1)), .int (xs (n + 2)), .int (xs (n + 3))] x d := two_write hR
  refine lr_a E dL_law_458 rfl ?_
  refine lr_arg (j := 1) E hi (by omega) dL_law_459 dL_law_460 dL_law_461 (by decide +kernel) dL_law_462 dL_law_463 ?_
  refine lr_arg (j := 2) E hi (by omega) dL_law_464 dL_law_465 dL_law_466 (by decide +kernel) dL_law_467 dL_law_468 ?_
  refine lr_arg (j := 3) E hi (by omega) dL_law_469 dL_law_470 dL_law_471 (by decide +kernel) dL_law_472 dL_law_473 ?_
  refine lr_cXi (M2 := MX4_write) (is := [xs (n + 1), xs (n + 2), xs (n + 3)]) E dL_law_474 w502 rfl mo_X4_write rfl ⟨Nat.le_of_ble_eq_true rfl, Nat.le_of_ble_eq_true rfl⟩ rfl (Nat.le_of_ble_eq_true rfl) h1 (fun r1 x1 hq1 => ?_)
  refine lr_pop E dL_law_477 ?_
  refine lr_a E dL_law_478 rfl ?_
  refine lr_arg (j := 1) E hi (by omega) dL_law_479 dL_law_480 dL_law_481 (by decide +kernel) dL_law_482 dL_law_483 ?_
  refine lr_arg (j := 2) E hi (by omega) dL_law_484 dL_law_485 dL_law_486 (by decide +kernel) dL_law_487 dL_law_488 ?_
  refine lr_arg (j := 3) E hi (by omega) dL_law_489 dL_law_490 dL_law_491 (by decide +kernel) dL_law_492 dL_law_493 ?_
  refine lr_cMi (M2 := MX5_write) (is := [xs (n + 1), xs (n + 2), xs (n + 3)]) E dL_law_494 w997 rfl mo_X5_write rfl ⟨Nat.le_of_ble_eq_true rfl, Nat.le_of_ble_eq_true rfl⟩ rfl (Nat.le_of_ble_eq_true rfl) h2 (fun r2 d1 hq2 => ?_)
  refine lr_pop E dL_law_497 ?_
  exact lr_goto (tgt := 1418) E dL_law_498 (by decide) (k _ _ (h3 _ _ hq1.2 hq2.2))
theorem lc_11 (E : LE p s m meth c b L xs D aX aM cA ce sl) {n : Nat} (hi : i = nI n) (hn : n + 5 ≤ L) (hR0 : Rel x d) (k : ∀ x' d', Rel x' d' → Lv l e below p s m meth c b D aX aM cA ce sl 1418 [] i x' d' false) : Lv l e below p s m meth c b D aX aM cA ce sl 501 [] i x d false := by
  obtain ⟨H0, hR⟩ := hR0
  obtain ⟨r, PX, PM, h1, h2, h3⟩ : Two MX4_add MX5_add [.ref 0, .int (xs (n + 1)), .int (xs (n + 2))] x d := two_add hR
  refine lr_a E dL_law_501 rfl ?_
  refine lr_arg (j := 1) E hi (by omega) dL_law_502 dL_law_503 dL_law_504 (by decide +kernel) dL_law_505 dL_law_506 ?_
  refine lr_arg (j := 2) E hi (by omega) dL_law_507 dL_law_508 dL_law_509 (by decide +kernel) dL_law_510 dL_law_511 ?_
  refine lr_cXi (M2 := MX4_add) (is := [xs (n + 1), xs (n + 2)]) E dL_law_512 w509 rfl mo_X4_add rfl ⟨Nat.le_of_ble_eq_true rfl, Nat.le_of_ble_eq_true rfl⟩ rfl (Nat.le_of_ble_eq_true rfl) h1 (fun r1 x1 hq1 => ?_)
  refine lr_pop E dL_law_515 ?_
  refine lr_a E dL_law_516 rfl ?_
  refine lr_arg (j := 1) E hi (by omega) dL_law_517 dL_law_518 dL_law_519 (by decide +kernel) dL_law_520 dL_law_521 ?_
  refine lr_arg (j := 2) E hi (by omega) dL_law_522 dL_law_523 dL_law_524 (by decide +kernel) dL_law_525 dL_law_526 ?_
  refine lr_cMi (M2 := MX5_add) (is := [xs (n + 1), xs (n + 2)]) E dL_law_527 w1006 rfl mo_X5_add rfl ⟨Nat.le_of_ble_eq_true rfl, Nat.le_of_ble_eq_true rfl⟩ rfl (Nat.le_of_ble_eq_true rfl) h2 (fun r2 d1 hq2 => ?_)
  refine lr_pop E dL_law_530 ?_
  exact lr_goto (tgt := 1418) E dL_law_531 (by decide) (k _ _ (h3 _ _ hq1.2 hq2.2))
theorem lc_12 (E : LE p s m meth c b L xs D aX aM cA ce sl) {n : Nat} (hi : i = nI n) (hn : n + 5 ≤ L) (hR0 : Rel x d) (k : ∀ x' d', Rel x' d' → Lv l e below p s m meth c b D aX aM cA ce sl 1418 [] i x' d' false) : Lv l e below p s m meth c b D aX aM cA ce sl 534 [] i x d false := by
  obtain ⟨H0, hR⟩ := hR0
  obtain ⟨r, PX, PM, h1, h2, h3⟩ : Two MX4_set MX5_set [.ref 0, .int (xs (n + 1)), .int (xs (n + 2)), .int (xs (n + 3))] x d := two_set hR
  refine lr_a E dL_law_534 rfl ?_
  refine lr_arg (j := 1) E hi (by omega) dL_law_535 dL_law_536 dL_law_537 (by decide +kernel) dL_law_538 dL_law_539 ?_
  refine lr_arg (j := 2) E hi (by omega) dL_law_540 dL_law_541 dL_law_542 (by decide +kernel) dL_law_543 dL_law_544 ?_
  refine lr_arg (j := 3) E hi (by omega) dL_law_545 dL_law_546 dL_law_547 (by decide +kernel) dL_law_548 dL_law_549 ?_
  refine lr_cXi (M2 := MX4_set) (is := [xs (n + 1), xs (n + 2), xs (n + 3)]) E dL_law_550 w513 rfl mo_X4_set rfl ⟨Nat.le_of_ble_eq_true rfl, Nat.le_of_ble_eq_true rfl⟩ rfl (Nat.le_of_ble_eq_true rfl) h1 (fun r1 x1 hq1 => ?_)
  refine lr_pop E dL_law_553 ?_
  refine lr_a E dL_law_554 rfl ?_
  refine lr_arg (j := 1) E hi (by omega) dL_law_555 dL_law_556 dL_law_557 (by decide +kernel) dL_law_558 dL_law_559 ?_
  refine lr_arg (j := 2) E hi (by omega) dL_law_560 dL_law_561 dL_law_562 (by decide +kernel) dL_law_563 dL_law_564 ?_
  refine lr_arg (j := 3) E hi (by omega) dL_law_565 dL_law_566 dL_law_567 (by decide +kernel) dL_law_568 dL_law_569 ?_
  refine lr_cMi (M2 := MX5_set) (is := [xs (n + 1), xs (n + 2), xs (n + 3)]) E dL_law_570 w1010 rfl mo_X5_set rfl ⟨Nat.le_of_ble_eq_true rfl, Nat.le_of_ble_eq_true rfl⟩ rfl (Nat.le_of_ble_eq_true rfl) h2 (fun r2 d1 hq2 => ?_)
  refine lr_pop E dL_law_573 ?_
  exact lr_goto (tgt := 1418) E dL_law_574 (by decide) (k _ _ (h3 _ _ hq1.2 hq2.2))
theorem lc_13 (E : LE p s m meth c b L xs D aX aM cA ce sl) {n : Nat} (hi : i = nI n) (hn : n + 5 ≤ L) (hR0 : Rel x d) (k : ∀ x' d', Rel x' d' → Lv l e below p s m meth c b D aX aM cA ce sl 1418 [] i x' d' false) : Lv l e below p s m meth c b D aX aM cA ce sl 577 [] i x d false := by
  obtain ⟨H0, hR⟩ := hR0
  obtain ⟨r, PX, PM, h1, h2, h3⟩ : Two MX4_hire MX5_hire [.ref 0, .int (xs (n + 1)), .int (xs (n + 2)), .int (xs (n + 3))] x d := two_hire hR
  refine lr_a E dL_law_577 rfl ?_
  refine lr_arg (j := 1) E hi (by omega) dL_law_578 dL_law_579 dL_law_580 (by decide +kernel) dL_law_581 dL_law_582 ?_
  refine lr_arg (j := 2) E hi (by omega) dL_law_583 dL_law_584 dL_law_585 (by decide +kernel) dL_law_586 dL_law_587 ?_
  refine lr_arg (j := 3) E hi (by omega) dL_law_588 dL_law_589 dL_law_590 (by decide +kernel) dL_law_591 dL_law_592 ?_
  refine lr_cXi (M2 := MX4_hire) (is := [xs (n + 1), xs (n + 2), xs (n + 3)]) E dL_law_593 w517 rfl mo_X4_hire rfl ⟨Nat.le_of_ble_eq_true rfl, Nat.le_of_ble_eq_true rfl⟩ rfl (Nat.le_of_ble_eq_true rfl) h1 (fun r1 x1 hq1 => ?_)
  refine lr_pop E dL_law_596 ?_
  refine lr_a E dL_law_597 rfl ?_
  refine lr_arg (j := 1) E hi (by omega) dL_law_598 dL_law_599 dL_law_600 (by decide +kernel) dL_law_601 dL_law_602 ?_
  refine lr_arg (j := 2) E hi (by omega) dL_law_603 dL_law_604 dL_law_605 (by decide +kernel) dL_law_606 dL_law_607 ?_
  refine lr_arg (j := 3) E hi (by omega) dL_law_608 dL_law_609 dL_law_610 (by decide +kernel) dL_law_611 dL_law_612 ?_
  refine lr_cMi (M2 := MX5_hire) (is := [xs (n + 1), xs (n + 2), xs (n + 3)]) E dL_law_613 w1014 rfl mo_X5_hire rfl ⟨Nat.le_of_ble_eq_true rfl, Nat.le_of_ble_eq_true rfl⟩ rfl (Nat.le_of_ble_eq_true rfl) h2 (fun r2 d1 hq2 => ?_)
  refine lr_pop E dL_law_616 ?_
  exact lr_goto (tgt := 1418) E dL_law_617 (by decide) (k _ _ (h3 _ _ hq1.2 hq2.2))
theorem lc_14 (E : LE p s m meth c b L xs D aX aM cA ce sl) {n : Nat} (hi : i = nI n) (hn : n + 5 ≤ L) (hR0 : Rel x d) (k : ∀ x' d', Rel x' d' → Lv l e below p s m meth c b D aX aM cA ce sl 1418 [] i x' d' false) : Lv l e below p s m meth c b D aX aM cA ce sl 620 [] i x d false := by
  obtain ⟨H0, hR⟩ := hR0
  obtain ⟨r, PX, PM, h1, h2, h3⟩ : Two MX4_bind MX5_bind [.ref 0, .int (xs (n + 1)), .int (xs (n + 2))] x d := two_bind hR
  refine lr_a E dL_law_620 rfl ?_
  refine lr_arg (j := 1) E hi (by omega) dL_law_621 dL_law_622 dL_law_623 (by decide +kernel) dL_law_624 dL_law_625 ?_
  refine lr_arg (j := 2) E hi (by omega) dL_law_626 dL_law_627 dL_law_628 (by decide +kernel) dL_law_629 dL_law_630 ?_
  refine lr_cXi (M2 := MX4_bind) (is := [xs (n + 1), xs (n + 2)]) E dL_law_631 w521 rfl mo_X4_bind rfl ⟨Nat.le_of_ble_eq_true rfl, Nat.le_of_ble_eq_true rfl⟩ rfl (Nat.le_of_ble_eq_true rfl) h1 (fun r1 x1 hq1 => ?_)
  refine lr_pop E dL_law_634 ?_
  refine lr_a E dL_law_635 rfl ?_
  refine lr_arg (j := 1) E hi (by omega) dL_law_636 dL_law_637 dL_law_638 (by decide +kernel) dL_law_639 dL_law_640 ?_
  refine lr_arg (j := 2) E hi (by omega) dL_law_641 dL_law_642 dL_law_643 (by decide +kernel) dL_law_644 dL_law_645 ?_
  refine lr_cMi (M2 := MX5_bind) (is := [xs (n + 1), xs (n + 2)]) E dL_law_646 w1019 rfl mo_X5_bind rfl ⟨Nat.le_of_ble_eq_true rfl, Nat.le_of_ble_eq_true rfl⟩ rfl (Nat.le_of_ble_eq_true rfl) h2 (fun r2 d1 hq2 => ?_)
  refine lr_pop E dL_law_649 ?_
  exact lr_goto (tgt := 1418) E dL_law_650 (by decide) (k _ _ (h3 _ _ hq1.2 hq2.2))
theorem lc_15 (E : LE p s m meth c b L xs D aX aM cA ce sl) {n : Nat} (hi : i = nI n) (hn : n + 5 ≤ L) (hR0 : Rel x d) (k : ∀ x' d', Rel x' d' → Lv l e below p s m meth c b D aX aM cA ce sl 1418 [] i x' d' false) : Lv l e below p s m meth c b D aX aM cA ce sl 653 [] i x d false := by
  obtain ⟨H0, hR⟩ := hR0
  obtain ⟨r, PX, PM, h1, h2, h3⟩ : Two MX4_out MX5_out [.ref 0, .int (xs (n + 1)), .int (xs (n + 2))] x d := two_out hR
  refine lr_a E dL_law_653 rfl ?_
  refine lr_arg (j := 1) E hi (by omega) dL_law_654 dL_law_655 dL_law_656 (by decide +kernel) dL_law_657 dL_law_658 ?_
  refine lr_arg (j := 2) E hi (by omega) dL_law_659 dL_law_660 dL_law_661 (by decide +kernel) dL_law_662 dL_law_663 ?_
  refine lr_cXi (M2 := MX4_out) (is := [xs (n + 1), xs (n + 2)]) E dL_law_664 w531 rfl mo_X4_out rfl ⟨Nat.le_of_ble_eq_true rfl, Nat.le_of_ble_eq_true rfl⟩ rfl (Nat.le_of_ble_eq_true rfl) h1 (fun r1 x1 hq1 => ?_)
  refine lr_pop E dL_law_667 ?_
  refine lr_a E dL_law_668 rfl ?_
  refine lr_arg (j := 1) E hi (by omega) dL_law_669 dL_law_670 dL_law_671 (by decide +kernel) dL_law_672 dL_law_673 ?_
  refine lr_arg (j := 2) E hi (by omega) dL_law_674 dL_law_675 dL_law_676 (by decide +kernel) dL_law_677 dL_law_678 ?_
  refine lr_cMi (M2 := MX5_out) (is := [xs (n + 1), xs (n + 2)]) E dL_law_679 w1027 rfl mo_X5_out rfl ⟨Nat.le_of_ble_eq_true rfl, Nat.le_of_ble_eq_true rfl⟩ rfl (Nat.le_of_ble_eq_true rfl) h2 (fun r2 d1 hq2 => ?_)
  refine lr_pop E dL_law_682 ?_
  exact lr_goto (tgt := 1418) E dL_law_683 (by decide) (k _ _ (h3 _ _ hq1.2 hq2.2))
theorem lc_16 (E : LE p s m meth c b L xs D aX aM cA ce sl) {n : Nat} (hi : i = nI n) (hn : n + 5 ≤ L) (hR0 : Rel x d) (k : ∀ x' d', Rel x' d' → Lv l e below p s m meth c b D aX aM cA ce sl 1418 [] i x' d' false) : Lv l e below p s m meth c b D aX aM cA ce sl 686 [] i x d false := by
  obtain ⟨H0, hR⟩ := hR0
  obtain ⟨r, PX, PM, h1, h2, h3⟩ : Two MX4_over MX5_over [.ref 0, .int (xs (n + 1)), .int (xs (n + 2))] x d := two_over hR
  refine lr_a E dL_law_686 rfl ?_
  refine lr_arg (j := 1) E hi (by omega) dL_law_687 dL_law_688 dL_law_689 (by decide +kernel) dL_law_690 dL_law_691 ?_
  refine lr_arg (j := 2) E hi (by omega) dL_law_692 dL_law_693 dL_law_694 (by decide +kernel) dL_law_695 dL_law_696 ?_
  refine lr_cXi (M2 := MX4_over) (is := [xs (n + 1), xs (n + 2)]) E dL_law_697 w570 rfl mo_X4_over rfl ⟨Nat.le_of_ble_eq_true rfl, Nat.le_of_ble_eq_true rfl⟩ rfl (Nat.le_of_ble_eq_true rfl) h1 (fun r1 x1 hq1 => ?_)
  refine lr_pop E dL_law_700 ?_
  refine lr_a E dL_law_701 rfl ?_
  refine lr_arg (j := 1) E hi (by omega) dL_law_702 dL_law_703 dL_law_704 (by decide +kernel) dL_law_705 dL_law_706 ?_
  refine lr_arg (j := 2) E hi (by omega) dL_law_707 dL_law_708 dL_law_709 (by decide +kernel) dL_law_710 dL_law_711 ?_
  refine lr_cMi (M2 := MX5_over) (is := [xs (n + 1), xs (n + 2)]) E dL_law_712 w1051 rfl mo_X5_over rfl ⟨Nat.le_of_ble_eq_true rfl, Nat.le_of_ble_eq_true rfl⟩ rfl (Nat.le_of_ble_eq_true rfl) h2 (fun r2 d1 hq2 => ?_)
  refine lr_pop E dL_law_715 ?_
  exact lr_goto (tgt := 1418) E dL_law_716 (by decide) (k _ _ (h3 _ _ hq1.2 hq2.2))
theorem lc_17 (E : LE p s m meth c b L xs D aX aM cA ce sl) {n : Nat} (hi : i = nI n) (hn : n + 5 ≤ L) (hR0 : Rel x d) (k : ∀ x' d', Rel x' d' → Lv l e below p s m meth c b D aX aM cA ce sl 1418 [] i x' d' false) : Lv l e below p s m meth c b D aX aM cA ce sl 719 [] i x d false := by
  obtain ⟨H0, hR⟩ := hR0
  obtain ⟨r, PX, PM, h1, h2, h3⟩ : Two MX4_plays MX5_plays [.ref 0, .int (xs (n + 1))] x d := two_plays hR
  refine lr_a E dL_law_719 rfl ?_
  refine lr_arg (j := 1) E hi (by omega) dL_law_720 dL_law_721 dL_law_722 (by decide +kernel) dL_law_723 dL_law_724 ?_
  refine lr_cXi (M2 := MX4_plays) (is := [xs (n + 1)]) E dL_law_725 w571 rfl mo_X4_plays rfl ⟨Nat.le_of_ble_eq_true rfl, Nat.le_of_ble_eq_true rfl⟩ rfl (Nat.le_of_ble_eq_true rfl) h1 (fun r1 x1 hq1 => ?_)
  refine lr_pop E dL_law_728 ?_
  refine lr_a E dL_law_729 rfl ?_
  refine lr_arg (j := 1) E hi (by omega) dL_law_730 dL_law_731 dL_law_732 (by decide +kernel) dL_law_733 dL_law_734 ?_
  refine lr_cMi (M2 := MX5_plays) (is := [xs (n + 1)]) E dL_law_735 w1056 rfl mo_X5_plays rfl ⟨Nat.le_of_ble_eq_true rfl, Nat.le_of_ble_eq_true rfl⟩ rfl (Nat.le_of_ble_eq_true rfl) h2 (fun r2 d1 hq2 => ?_)
  refine lr_pop E dL_law_738 ?_
  exact lr_goto (tgt := 1418) E dL_law_739 (by decide) (k _ _ (h3 _ _ hq1.2 hq2.2))
theorem lc_18 (E : LE p s m meth c b L xs D aX aM cA ce sl) {n : Nat} (hi : i = nI n) (hn : n + 5 ≤ L) (hR0 : Rel x d) (k : ∀ x' d', Rel x' d' → Lv l e below p s m meth c b D aX aM cA ce sl 1418 [] i x' d' false) : Lv l e below p s m meth c b D aX aM cA ce sl 742 [] i x d false := by
  obtain ⟨H0, hR⟩ := hR0
  obtain ⟨r, PX, PM, h1, h2, h3⟩ : Two MX4_sounds MX5_sounds [.ref 0, .int (xs (n + 1))] x d := two_sounds hR
  refine lr_a E dL_law_742 rfl ?_
  refine lr_arg (j := 1) E hi (by omega) dL_law_743 dL_law_744 dL_law_745 (by decide +kernel) dL_law_746 dL_law_747 ?_
  refine lr_cXi (M2 := MX4_sounds) (is := [xs (n + 1)]) E dL_law_748 w575 rfl mo_X4_sounds rfl ⟨Nat.le_of_ble_eq_true rfl, Nat.le_of_ble_eq_true rfl⟩ rfl (Nat.le_of_ble_eq_true rfl) h1 (fun r1 x1 hq1 => ?_)
  refine lr_pop E dL_law_751 ?_
  refine lr_a E dL_law_752 rfl ?_
  refine lr_arg (j := 1) E hi (by omega) dL_law_753 dL_law_754 dL_law_755 (by decide +kernel) dL_law_756 dL_law_757 ?_
  refine lr_cMi (M2 := MX5_sounds) (is := [xs (n + 1)]) E dL_law_758 w1060 rfl mo_X5_sounds rfl ⟨Nat.le_of_ble_eq_true rfl, Nat.le_of_ble_eq_true rfl⟩ rfl (Nat.le_of_ble_eq_true rfl) h2 (fun r2 d1 hq2 => ?_)
  refine lr_pop E dL_law_761 ?_
  exact lr_goto (tgt := 1418) E dL_law_762 (by decide) (k _ _ (h3 _ _ hq1.2 hq2.2))
theorem lc_19 (E : LE p s m meth c b L xs D aX aM cA ce sl) {n : Nat} (hi : i = nI n) (hn : n + 5 ≤ L) (hR0 : Rel x d) (k : ∀ x' d', Rel x' d' → Lv l e below p s m meth c b D aX aM cA ce sl 1418 [] i x' d' false) : Lv l e below p s m meth c b D aX aM cA ce sl 765 [] i x d false := by
  obtain ⟨H0, hR⟩ := hR0
  obtain ⟨r, PX, PM, h1, h2, h3⟩ : Two MX4_sum MX5_sum [.ref 0, .int (xs (n + 1))] x d := two_sum hR
  refine lr_a E dL_law_765 rfl ?_
  refine lr_arg (j := 1) E hi (by omega) dL_law_766 dL_law_767 dL_law_768 (by decide +kernel) dL_law_769 dL_law_770 ?_
  refine lr_cXi (M2 := MX4_sum) (is := [xs (n + 1)]) E dL_law_771 w579 rfl mo_X4_sum rfl ⟨Nat.le_of_ble_eq_true rfl, Nat.le_of_ble_eq_true rfl⟩ rfl (Nat.le_of_ble_eq_true rfl) h1 (fun r1 x1 hq1 => ?_)
  refine lr_pop E dL_law_774 ?_
  refine lr_a E dL_law_775 rfl ?_
  refine lr_arg (j := 1) E hi (by omega) dL_law_776 dL_law_777 dL_law_778 (by decide +kernel) dL_law_779 dL_law_780 ?_
  refine lr_cMi (M2 := MX5_sum) (is := [xs (n + 1)]) E dL_law_781 w1064 rfl mo_X5_sum rfl ⟨Nat.le_of_ble_eq_true rfl, Nat.le_of_ble_eq_true rfl⟩ rfl (Nat.le_of_ble_eq_true rfl) h2 (fun r2 d1 hq2 => ?_)
  refine lr_pop E dL_law_784 ?_
  exact lr_goto (tgt := 1418) E dL_law_785 (by decide) (k _ _ (h3 _ _ hq1.2 hq2.2))
theorem lc_20 (E : LE p s m meth c b L xs D aX aM cA ce sl) {n : Nat} (hi : i = nI n) (hn : n + 5 ≤ L) (hR0 : Rel x d) (k : ∀ x' d', Rel x' d' → Lv l e below p s m meth c b D aX aM cA ce sl 1418 [] i x' d' false) : Lv l e below p s m meth c b D aX aM cA ce sl 788 [] i x d false := by
  obtain ⟨H0, hR⟩ := hR0
  obtain ⟨r, PX, PM, h1, h2, h3⟩ : Two MX4_first MX5_first [.ref 0, .int (xs (n + 1))] x d := two_first hR
  refine lr_a E dL_law_788 rfl ?_
  refine lr_arg (j := 1) E hi (by omega) dL_law_789 dL_law_790 dL_law_791 (by decide +kernel) dL_law_792 dL_law_793 ?_
  refine lr_cXi (M2 := MX4_first) (is := [xs (n + 1)]) E dL_law_794 w604 rfl mo_X4_first rfl ⟨Nat.le_of_ble_eq_true rfl, Nat.le_of_ble_eq_true rfl⟩ rfl (Nat.le_of_ble_eq_true rfl) h1 (fun r1 x1 hq1 => ?_)
  refine lr_pop E dL_law_797 ?_
  refine lr_a E dL_law_798 rfl ?_
  refine lr_arg (j := 1) E hi (by omega) dL_law_799 dL_law_800 dL_law_801 (by decide +kernel) dL_law_802 dL_law_803 ?_
  refine lr_cMi (M2 := MX5_first) (is := [xs (n + 1)]) E dL_law_804 w1079 rfl mo_X5_first rfl ⟨Nat.le_of_ble_eq_true rfl, Nat.le_of_ble_eq_true rfl⟩ rfl (Nat.le_of_ble_eq_true rfl) h2 (fun r2 d1 hq2 => ?_)
  refine lr_pop E dL_law_807 ?_
  exact lr_goto (tgt := 1418) E dL_law_808 (by decide) (k _ _ (h3 _ _ hq1.2 hq2.2))
theorem lc_21 (E : LE p s m meth c b L xs D aX aM cA ce sl) {n : Nat} (hi : i = nI n) (hn : n + 5 ≤ L) (hR0 : Rel x d) (k : ∀ x' d', Rel x' d' → Lv l e below p s m meth c b D aX aM cA ce sl 1418 [] i x' d' false) : Lv l e below p s m meth c b D aX aM cA ce sl 811 [] i x d false := by
  obtain ⟨H0, hR⟩ := hR0
  obtain ⟨r, PX, PM, h1, h2, h3⟩ : Two MX4_best MX5_best [.ref 0, .int (xs (n + 1))] x d := two_best hR
  refine lr_a E dL_law_811 rfl ?_
  refine lr_arg (j := 1) E hi (by omega) dL_law_812 dL_law_813 dL_law_814 (by decide +kernel) dL_law_815 dL_law_816 ?_
  refine lr_cXi (M2 := MX4_best) (is := [xs (n + 1)]) E dL_law_817 w613 rfl mo_X4_best rfl ⟨Nat.le_of_ble_eq_true rfl, Nat.le_of_ble_eq_true rfl⟩ rfl (Nat.le_of_ble_eq_true rfl) h1 (fun r1 x1 hq1 => ?_)
  refine lr_pop E dL_law_820 ?_
  refine lr_a E dL_law_821 rfl ?_
  refine lr_arg (j := 1) E hi (by omega) dL_law_822 dL_law_823 dL_law_824 (by decide +kernel) dL_law_825 dL_law_826 ?_
  refine lr_cMi (M2 := MX5_best) (is := [xs (n + 1)]) E dL_law_827 w1084 rfl mo_X5_best rfl ⟨Nat.le_of_ble_eq_true rfl, Nat.le_of_ble_eq_true rfl⟩ rfl (Nat.le_of_ble_eq_true rfl) h2 (fun r2 d1 hq2 => ?_)
  refine lr_pop E dL_law_830 ?_
  exact lr_goto (tgt := 1418) E dL_law_831 (by decide) (k _ _ (h3 _ _ hq1.2 hq2.2))
theorem lc_22 (E : LE p s m meth c b L xs D aX aM cA ce sl) {n : Nat} (hi : i = nI n) (hn : n + 5 ≤ L) (hR0 : Rel x d) (k : ∀ x' d', Rel x' d' → Lv l e below p s m meth c b D aX aM cA ce sl 1418 [] i x' d' false) : Lv l e below p s m meth c b D aX aM cA ce sl 834 [] i x d false := by
  obtain ⟨H0, hR⟩ := hR0
  obtain ⟨r, PX, PM, h1, h2, h3⟩ : Two MX4_apart MX5_apart [.ref 0, .int (xs (n + 1))] x d := two_apart hR
  refine lr_a E dL_law_834 rfl ?_
  refine lr_arg (j := 1) E hi (by omega) dL_law_835 dL_law_836 dL_law_837 (by decide +kernel) dL_law_838 dL_law_839 ?_
  refine lr_cXi (M2 := MX4_apart) (is := [xs (n + 1)]) E dL_law_840 w624 rfl mo_X4_apart rfl ⟨Nat.le_of_ble_eq_true rfl, Nat.le_of_ble_eq_true rfl⟩ rfl (Nat.le_of_ble_eq_true rfl) h1 (fun r1 x1 hq1 => ?_)
  refine lr_pop E dL_law_843 ?_
  refine lr_a E dL_law_844 rfl ?_
  refine lr_arg (j := 1) E hi (by omega) dL_law_845 dL_law_846 dL_law_847 (by decide +kernel) dL_law_848 dL_law_849 ?_
  refine lr_cMi (M2 := MX5_apart) (is := [xs (n + 1)]) E dL_law_850 w1104 rfl mo_X5_apart rfl ⟨Nat.le_of_ble_eq_true rfl, Nat.le_of_ble_eq_true rfl⟩ rfl (Nat.le_of_ble_eq_true rfl) h2 (fun r2 d1 hq2 => ?_)
  refine lr_pop E dL_law_853 ?_
  exact lr_goto (tgt := 1418) E dL_law_854 (by decide) (k _ _ (h3 _ _ hq1.2 hq2.2))
theorem lc_23 (E : LE p s m meth c b L xs D aX aM cA ce sl) {n : Nat} (hi : i = nI n) (hn : n + 5 ≤ L) (hR0 : Rel x d) (k : ∀ x' d', Rel x' d' → Lv l e below p s m meth c b D aX aM cA ce sl 1418 [] i x' d' false) : Lv l e below p s m meth c b D aX aM cA ce sl 857 [] i x d false := by
  obtain ⟨H0, hR⟩ := hR0
  obtain ⟨r, PX, PM, h1, h2, h3⟩ : Two MX4_compose MX5_compose [.ref 0, .int (xs (n + 1)), .int (xs (n + 2))] x d := two_compose hR
  refine lr_a E dL_law_857 rfl ?_
  refine lr_arg (j := 1) E hi (by omega) dL_law_858 dL_law_859 dL_law_860 (by decide +kernel) dL_law_861 dL_law_862 ?_
  refine lr_arg (j := 2) E hi (by omega) dL_law_863 dL_law_864 dL_law_865 (by decide +kernel) dL_law_866 dL_law_867 ?_
  refine lr_cXi (M2 := MX4_compose) (is := [xs (n + 1), xs (n + 2)]) E dL_law_868 w628 rfl mo_X4_compose rfl ⟨Nat.le_of_ble_eq_true rfl, Nat.le_of_ble_eq_true rfl⟩ rfl (Nat.le_of_ble_eq_true rfl) h1 (fun r1 x1 hq1 => ?_)
  refine lr_pop E dL_law_871 ?_
  refine lr_a E dL_law_872 rfl ?_
  refine lr_arg (j := 1) E hi (by omega) dL_law_873 dL_law_874 dL_law_875 (by decide +kernel) dL_law_876 dL_law_877 ?_
  refine lr_arg (j := 2) E hi (by omega) dL_law_878 dL_law_879 dL_law_880 (by decide +kernel) dL_law_881 dL_law_882 ?_
  refine lr_cMi (M2 := MX5_compose) (is := [xs (n + 1), xs (n + 2)]) E dL_law_883 w1108 rfl mo_X5_compose rfl ⟨Nat.le_of_ble_eq_true rfl, Nat.le_of_ble_eq_true rfl⟩ rfl (Nat.le_of_ble_eq_true rfl) h2 (fun r2 d1 hq2 => ?_)
  refine lr_pop E dL_law_886 ?_
  exact lr_goto (tgt := 1418) E dL_law_887 (by decide) (k _ _ (h3 _ _ hq1.2 hq2.2))
theorem lc_24 (E : LE p s m meth c b L xs D aX aM cA ce sl) {n : Nat} (hi : i = nI n) (hn : n + 5 ≤ L) (hR0 : Rel x d) (k : ∀ x' d', Rel x' d' → Lv l e below p s m meth c b D aX aM cA ce sl 1418 [] i x' d' false) : Lv l e below p s m meth c b D aX aM cA ce sl 890 [] i x d false := by
  obtain ⟨H0, hR⟩ := hR0
  obtain ⟨r, PX, PM, h1, h2, h3⟩ : Two MX4_bribe MX5_bribe [.ref 0, .int (xs (n + 1)), .int (xs (n + 2)), .int (xs (n + 3))] x d := two_bribe hR
  refine lr_a E dL_law_890 rfl ?_
  refine lr_arg (j := 1) E hi (by omega) dL_law_891 dL_law_892 dL_law_893 (by decide +kernel) dL_law_894 dL_law_895 ?_
  refine lr_arg (j := 2) E hi (by omega) dL_law_896 dL_law_897 dL_law_898 (by decide +kernel) dL_law_899 dL_law_900 ?_
  refine lr_arg (j := 3) E hi (by omega) dL_law_901 dL_law_902 dL_law_903 (by decide +kernel) dL_law_904 dL_law_905 ?_
  refine lr_cXi (M2 := MX4_bribe) (is := [xs (n + 1), xs (n + 2), xs (n + 3)]) E dL_law_906 w633 rfl mo_X4_bribe rfl ⟨Nat.le_of_ble_eq_true rfl, Nat.le_of_ble_eq_true rfl⟩ rfl (Nat.le_of_ble_eq_true rfl) h1 (fun r1 x1 hq1 => ?_)
  refine lr_pop E dL_law_909 ?_
  refine lr_a E dL_law_910 rfl ?_
  refine lr_arg (j := 1) E hi (by omega) dL_law_911 dL_law_912 dL_law_913 (by decide +kernel) dL_law_914 dL_law_915 ?_
  refine lr_arg (j := 2) E hi (by omega) dL_law_916 dL_law_917 dL_law_918 (by decide +kernel) dL_law_919 dL_law_920 ?_
  refine lr_arg (j := 3) E hi (by omega) dL_law_921 dL_law_922 dL_law_923 (by decide +kernel) dL_law_924 dL_law_925 ?_
  refine lr_cMi (M2 := MX5_bribe) (is := [xs (n + 1), xs (n + 2), xs (n + 3)]) E dL_law_926 w1113 rfl mo_X5_bribe rfl ⟨Nat.le_of_ble_eq_true rfl, Nat.le_of_ble_eq_true rfl⟩ rfl (Nat.le_of_ble_eq_true rfl) h2 (fun r2 d1 hq2 => ?_)
  refine lr_pop E dL_law_929 ?_
  exact lr_goto (tgt := 1418) E dL_law_930 (by decide) (k _ _ (h3 _ _ hq1.2 hq2.2))
theorem lc_25 (E : LE p s m meth c b L xs D aX aM cA ce sl) {n : Nat} (hi : i = nI n) (hn : n + 5 ≤ L) (hR0 : Rel x d) (k : ∀ x' d', Rel x' d' → Lv l e below p s m meth c b D aX aM cA ce sl 1418 [] i x' d' false) : Lv l e below p s m meth c b D aX aM cA ce sl 933 [] i x d false := by
  obtain ⟨H0, hR⟩ := hR0
  obtain ⟨r, PX, PM, h1, h2, h3⟩ : Two MX4_teach MX5_teach [.ref 0, .int (xs (n + 1))] x d := two_teach hR
  refine lr_a E dL_law_933 rfl ?_
  refine lr_arg (j := 1) E hi (by omega) dL_law_934 dL_law_935 dL_law_936 (by decide +kernel) dL_law_937 dL_law_938 ?_
  refine lr_cXi (M2 := MX4_teach) (is := [xs (n + 1)]) E dL_law_939 w648 rfl mo_X4_teach rfl ⟨Nat.le_of_ble_eq_true rfl, Nat.le_of_ble_eq_true rfl⟩ rfl (Nat.le_of_ble_eq_true rfl) h1 (fun r1 x1 hq1 => ?_)
  refine lr_pop E dL_law_942 ?_
  refine lr_a E dL_law_943 rfl ?_
  refine lr_arg (j := 1) E hi (by omega) dL_law_944 dL_law_945 dL_law_946 (by decide +kernel) dL_law_947 dL_law_948 ?_
  refine lr_cMi (M2 := MX5_teach) (is := [xs (n + 1)]) E dL_law_949 w1117 rfl mo_X5_teach rfl ⟨Nat.le_of_ble_eq_true rfl, Nat.le_of_ble_eq_true rfl⟩ rfl (Nat.le_of_ble_eq_true rfl) h2 (fun r2 d1 hq2 => ?_)
  refine lr_pop E dL_law_952 ?_
  exact lr_goto (tgt := 1418) E dL_law_953 (by decide) (k _ _ (h3 _ _ hq1.2 hq2.2))
theorem lc_26 (E : LE p s m meth c b L xs D aX aM cA ce sl) {n : Nat} (hi : i = nI n) (hn : n + 5 ≤ L) (hR0 : Rel x d) (k : ∀ x' d', Rel x' d' → Lv l e below p s m meth c b D aX aM cA ce sl 1418 [] i x' d' false) : Lv l e below p s m meth c b D aX aM cA ce sl 956 [] i x d false := by
  obtain ⟨H0, hR⟩ := hR0
  obtain ⟨r, PX, PM, h1, h2, h3⟩ : TwoL MX4_mean MX5_mean [.ref 0, .int (xs (n + 1)), .int (xs (n + 2))] x d := two_mean hR
  refine lr_a E dL_law_956 rfl ?_
  refine lr_arg (j := 1) E hi (by omega) dL_law_957 dL_law_958 dL_law_959 (by decide +kernel) dL_law_960 dL_law_961 ?_
  refine lr_arg (j := 2) E hi (by omega) dL_law_962 dL_law_963 dL_law_964 (by decide +kernel) dL_law_965 dL_law_966 ?_
  refine lr_cXl (M2 := MX4_mean) (is := [xs (n + 1), xs (n + 2)]) E dL_law_967 w652 rfl mo_X4_mean rfl ⟨Nat.le_of_ble_eq_true rfl, Nat.le_of_ble_eq_true rfl⟩ rfl (Nat.le_of_ble_eq_true rfl) h1 (fun r1 x1 hq1 => ?_)
  refine lr_pop2 E dL_law_970 ?_
  refine lr_a E dL_law_971 rfl ?_
  refine lr_arg (j := 1) E hi (by omega) dL_law_972 dL_law_973 dL_law_974 (by decide +kernel) dL_law_975 dL_law_976 ?_
  refine lr_arg (j := 2) E hi (by omega) dL_law_977 dL_law_978 dL_law_979 (by decide +kernel) dL_law_980 dL_law_981 ?_
  refine lr_cMl (M2 := MX5_mean) (is := [xs (n + 1), xs (n + 2)]) E dL_law_982 w1121 rfl mo_X5_mean rfl ⟨Nat.le_of_ble_eq_true rfl, Nat.le_of_ble_eq_true rfl⟩ rfl (Nat.le_of_ble_eq_true rfl) h2 (fun r2 d1 hq2 => ?_)
  refine lr_pop2 E dL_law_985 ?_
  exact lr_goto (tgt := 1418) E dL_law_986 (by decide) (k _ _ (h3 _ _ hq1.2 hq2.2))
theorem lc_27 (E : LE p s m meth c b L xs D aX aM cA ce sl) {n : Nat} (hi : i = nI n) (hn : n + 5 ≤ L) (hR0 : Rel x d) (k : ∀ x' d', Rel x' d' → Lv l e below p s m meth c b D aX aM cA ce sl 1418 [] i x' d' false) : Lv l e below p s m meth c b D aX aM cA ce sl 989 [] i x d false := by
  obtain ⟨H0, hR⟩ := hR0
  obtain ⟨r, PX, PM, h1, h2, h3⟩ : TwoL MX4_luck MX5_luck [.ref 0, .int (xs (n + 1)), .int (xs (n + 2)), .int (xs (n + 3))] x d := two_luck hR
  refine lr_a E dL_law_989 rfl ?_
  refine lr_arg (j := 1) E hi (by omega) dL_law_990 dL_law_991 dL_law_992 (by decide +kernel) dL_law_993 dL_law_994 ?_
  refine lr_arg (j := 2) E hi (by omega) dL_law_995 dL_law_996 dL_law_997 (by decide +kernel) dL_law_998 dL_law_999 ?_
  refine lr_arg (j := 3) E hi (by omega) dL_law_1000 dL_law_1001 dL_law_1002 (by decide +kernel) dL_law_1003 dL_law_1004 ?_
  refine lr_cXl (M2 := MX4_luck) (is := [xs (n + 1), xs (n + 2), xs (n + 3)]) E dL_law_1005 w664 rfl mo_X4_luck rfl ⟨Nat.le_of_ble_eq_true rfl, Nat.le_of_ble_eq_true rfl⟩ rfl (Nat.le_of_ble_eq_true rfl) h1 (fun r1 x1 hq1 => ?_)
  refine lr_pop2 E dL_law_1008 ?_
  refine lr_a E dL_law_1009 rfl ?_
  refine lr_arg (j := 1) E hi (by omega) dL_law_1010 dL_law_1011 dL_law_1012 (by decide +kernel) dL_law_1013 dL_law_1014 ?_
  refine lr_arg (j := 2) E hi (by omega) dL_law_1015 dL_law_1016 dL_law_1017 (by decide +kernel) dL_law_1018 dL_law_1019 ?_
  refine lr_arg (j := 3) E hi (by omega) dL_law_1020 dL_law_1021 dL_law_1022 (by decide +kernel) dL_law_1023 dL_law_1024 ?_
  refine lr_cMl (M2 := MX5_luck) (is := [xs (n + 1), xs (n + 2), xs (n + 3)]) E dL_law_1025 w1133 rfl mo_X5_luck rfl ⟨Nat.le_of_ble_eq_true rfl, Nat.le_of_ble_eq_true rfl⟩ rfl (Nat.le_of_ble_eq_true rfl) h2 (fun r2 d1 hq2 => ?_)
  refine lr_pop2 E dL_law_1028 ?_
  exact lr_goto (tgt := 1418) E dL_law_1029 (by decide) (k _ _ (h3 _ _ hq1.2 hq2.2))
theorem lc_28 (E : LE p s m meth c b L xs D aX aM cA ce sl) {n : Nat} (hi : i = nI n) (hn : n + 5 ≤ L) (hR0 : Rel x d) (k : ∀ x' d', Rel x' d' → Lv l e below p s m meth c b D aX aM cA ce sl 1418 [] i x' d' false) : Lv l e below p s m meth c b D aX aM cA ce sl 1032 [] i x d false := by
  obtain ⟨H0, hR⟩ := hR0
  obtain ⟨r, PX, PM, h1, h2, h3⟩ : Two MX4_see MX5_see [.ref 0, .int (xs (n + 1)), .int (xs (n + 2)), .int (xs (n + 3))] x d := two_see hR
  refine lr_a E dL_law_1032 rfl ?_
  refine lr_arg (j := 1) E hi (by omega) dL_law_1033 dL_law_1034 dL_law_1035 (by decide +kernel) dL_law_1036 dL_law_1037 ?_
  refine lr_arg (j := 2) E hi (by omega) dL_law_1038 dL_law_1039 dL_law_1040 (by decide +kernel) dL_law_1041 dL_law_1042 ?_
  refine lr_arg (j := 3) E hi (by omega) dL_law_1043 dL_law_1044 dL_law_1045 (by decide +kernel) dL_law_1046 dL_law_1047 ?_
  refine lr_cXi (M2 := MX4_see) (is := [xs (n + 1), xs (n + 2), xs (n + 3)]) E dL_law_1048 w668 rfl mo_X4_see rfl ⟨Nat.le_of_ble_eq_true rfl, Nat.le_of_ble_eq_true rfl⟩ rfl (Nat.le_of_ble_eq_true rfl) h1 (fun r1 x1 hq1 => ?_)
  refine lr_pop E dL_law_1051 ?_
  refine lr_a E dL_law_1052 rfl ?_
  refine lr_arg (j := 1) E hi (by omega) dL_law_1053 dL_law_1054 dL_law_1055 (by decide +kernel) dL_law_1056 dL_law_1057 ?_
  refine lr_arg (j := 2) E hi (by omega) dL_law_1058 dL_law_1059 dL_law_1060 (by decide +kernel) dL_law_1061 dL_law_1062 ?_
  refine lr_arg (j := 3) E hi (by omega) dL_law_1063 dL_law_1064 dL_law_1065 (by decide +kernel) dL_law_1066 dL_law_1067 ?_
  refine lr_cMi (M2 := MX5_see) (is := [xs (n + 1), xs (n + 2), xs (n + 3)]) E dL_law_1068 w1137 rfl mo_X5_see rfl ⟨Nat.le_of_ble_eq_true rfl, Nat.le_of_ble_eq_true rfl⟩ rfl (Nat.le_of_ble_eq_true rfl) h2 (fun r2 d1 hq2 => ?_)
  refine lr_pop E dL_law_1071 ?_
  exact lr_goto (tgt := 1418) E dL_law_1072 (by decide) (k _ _ (h3 _ _ hq1.2 hq2.2))
theorem lc_29 (E : LE p s m meth c b L xs D aX aM cA ce sl) {n : Nat} (hi : i = nI n) (hn : n + 5 ≤ L) (hR0 : Rel x d) (k : ∀ x' d', Rel x' d' → Lv l e below p s m meth c b D aX aM cA ce sl 1418 [] i x' d' false) : Lv l e below p s m meth c b D aX aM cA ce sl 1075 [] i x d false := by
  obtain ⟨H0, hR⟩ := hR0
  obtain ⟨r, PX, PM, h1, h2, h3⟩ : Two MX4_forget MX5_forget [.ref 0, .int (xs (n + 1))] x d := two_forget hR
  refine lr_a E dL_law_1075 rfl ?_
  refine lr_arg (j := 1) E hi (by omega) dL_law_1076 dL_law_1077 dL_law_1078 (by decide +kernel) dL_law_1079 dL_law_1080 ?_
  refine lr_cXi (M2 := MX4_forget) (is := [xs (n + 1)]) E dL_law_1081 w672 rfl mo_X4_forget rfl ⟨Nat.le_of_ble_eq_true rfl, Nat.le_of_ble_eq_true rfl⟩ rfl (Nat.le_of_ble_eq_true rfl) h1 (fun r1 x1 hq1 => ?_)
  refine lr_pop E dL_law_1084 ?_
  refine lr_a E dL_law_1085 rfl ?_
  refine lr_arg (j := 1) E hi (by omega) dL_law_1086 dL_law_1087 dL_law_1088 (by decide +kernel) dL_law_1089 dL_law_1090 ?_
  refine lr_cMi (M2 := MX5_forget) (is := [xs (n + 1)]) E dL_law_1091 w1141 rfl mo_X5_forget rfl ⟨Nat.le_of_ble_eq_true rfl, Nat.le_of_ble_eq_true rfl⟩ rfl (Nat.le_of_ble_eq_true rfl) h2 (fun r2 d1 hq2 => ?_)
  refine lr_pop E dL_law_1094 ?_
  exact lr_goto (tgt := 1418) E dL_law_1095 (by decide) (k _ _ (h3 _ _ hq1.2 hq2.2))
theorem lc_30 (E : LE p s m meth c b L xs D aX aM cA ce sl) {n : Nat} (hi : i = nI n) (hn : n + 5 ≤ L) (hR0 : Rel x d) (k : ∀ x' d', Rel x' d' → Lv l e below p s m meth c b D aX aM cA ce sl 1418 [] i x' d' false) : Lv l e below p s m meth c b D aX aM cA ce sl 1098 [] i x d false := by
  obtain ⟨H0, hR⟩ := hR0
  obtain ⟨r, PX, PM, h1, h2, h3⟩ : Two MX4_fits MX5_fits [.ref 0, .int (xs (n + 1))] x d := two_fits hR
  refine lr_a E dL_law_1098 rfl ?_
  refine lr_arg (j := 1) E hi (by omega) dL_law_1099 dL_law_1100 dL_law_1101 (by decide +kernel) dL_law_1102 dL_law_1103 ?_
  refine lr_cXi (M2 := MX4_fits) (is := [xs (n + 1)]) E dL_law_1104 w676 rfl mo_X4_fits rfl ⟨Nat.le_of_ble_eq_true rfl, Nat.le_of_ble_eq_true rfl⟩ rfl (Nat.le_of_ble_eq_true rfl) h1 (fun r1 x1 hq1 => ?_)
  refine lr_pop E dL_law_1107 ?_
  refine lr_a E dL_law_1108 rfl ?_
  refine lr_arg (j := 1) E hi (by omega) dL_law_1109 dL_law_1110 dL_law_1111 (by decide +kernel) dL_law_1112 dL_law_1113 ?_
  refine lr_cMi (M2 := MX5_fits) (is := [xs (n + 1)]) E dL_law_1114 w1145 rfl mo_X5_fits rfl ⟨Nat.le_of_ble_eq_true rfl, Nat.le_of_ble_eq_true rfl⟩ rfl (Nat.le_of_ble_eq_true rfl) h2 (fun r2 d1 hq2 => ?_)
  refine lr_pop E dL_law_1117 ?_
  exact lr_goto (tgt := 1418) E dL_law_1118 (by decide) (k _ _ (h3 _ _ hq1.2 hq2.2))
theorem lc_31 (E : LE p s m meth c b L xs D aX aM cA ce sl) {n : Nat} (hi : i = nI n) (hn : n + 5 ≤ L) (hR0 : Rel x d) (k : ∀ x' d', Rel x' d' → Lv l e below p s m meth c b D aX aM cA ce sl 1418 [] i x' d' false) : Lv l e below p s m meth c b D aX aM cA ce sl 1121 [] i x d false := by
  obtain ⟨H0, hR⟩ := hR0
  obtain ⟨r, PX, PM, h1, h2, h3⟩ : Two MX4_listen MX5_listen [.ref 0, .int (xs (n + 1)), .int (xs (n + 2))] x d := two_listen hR
  refine lr_a E dL_law_1121 rfl ?_
  refine lr_arg (j := 1) E hi (by omega) dL_law_1122 dL_law_1123 dL_law_1124 (by decide +kernel) dL_law_1125 dL_law_1126 ?_
  refine lr_arg (j := 2) E hi (by omega) dL_law_1127 dL_law_1128 dL_law_1129 (by decide +kernel) dL_law_1130 dL_law_1131 ?_
  refine lr_cXi (M2 := MX4_listen) (is := [xs (n + 1), xs (n + 2)]) E dL_law_1132 w684 rfl mo_X4_listen rfl ⟨Nat.le_of_ble_eq_true rfl, Nat.le_of_ble_eq_true rfl⟩ rfl (Nat.le_of_ble_eq_true rfl) h1 (fun r1 x1 hq1 => ?_)
  refine lr_pop E dL_law_1135 ?_
  refine lr_a E dL_law_1136 rfl ?_
  refine lr_arg (j := 1) E hi (by omega) dL_law_1137 dL_law_1138 dL_law_1139 (by decide +kernel) dL_law_1140 dL_law_1141 ?_
  refine lr_arg (j := 2) E hi (by omega) dL_law_1142 dL_law_1143 dL_law_1144 (by decide +kernel) dL_law_1145 dL_law_1146 ?_
  refine lr_cMi (M2 := MX5_listen) (is := [xs (n + 1), xs (n + 2)]) E dL_law_1147 w1153 rfl mo_X5_listen rfl ⟨Nat.le_of_ble_eq_true rfl, Nat.le_of_ble_eq_true rfl⟩ rfl (Nat.le_of_ble_eq_true rfl) h2 (fun r2 d1 hq2 => ?_)
  refine lr_pop E dL_law_1150 ?_
  exact lr_goto (tgt := 1418) E dL_law_1151 (by decide) (k _ _ (h3 _ _ hq1.2 hq2.2))
theorem lc_32 (E : LE p s m meth c b L xs D aX aM cA ce sl) {n : Nat} (hi : i = nI n) (hn : n + 5 ≤ L) (hR0 : Rel x d) (k : ∀ x' d', Rel x' d' → Lv l e below p s m meth c b D aX aM cA ce sl 1418 [] i x' d' false) : Lv l e below p s m meth c b D aX aM cA ce sl 1154 [] i x d false := by
  obtain ⟨H0, hR⟩ := hR0
  obtain ⟨r, PX, PM, h1, h2, h3⟩ : Two MX4_drift MX5_drift [.ref 0, .int (xs (n + 1)), .int (xs (n + 2)), .int (xs (n + 3))] x d := two_drift hR
  refine lr_a E dL_law_1154 rfl ?_
  refine lr_arg (j := 1) E hi (by omega) dL_law_1155 dL_law_1156 dL_law_1157 (by decide +kernel) dL_law_1158 dL_law_1159 ?_
  refine lr_arg (j := 2) E hi (by omega) dL_law_1160 dL_law_1161 dL_law_1162 (by decide +kernel) dL_law_1163 dL_law_1164 ?_
  refine lr_arg (j := 3) E hi (by omega) dL_law_1165 dL_law_1166 dL_law_1167 (by decide +kernel) dL_law_1168 dL_law_1169 ?_
  refine lr_cXi (M2 := MX4_drift) (is := [xs (n + 1), xs (n + 2), xs (n + 3)]) E dL_law_1170 w693 rfl mo_X4_drift rfl ⟨Nat.le_of_ble_eq_true rfl, Nat.le_of_ble_eq_true rfl⟩ rfl (Nat.le_of_ble_eq_true rfl) h1 (fun r1 x1 hq1 => ?_)
  refine lr_pop E dL_law_1173 ?_
  refine lr_a E dL_law_1174 rfl ?_
  refine lr_arg (j := 1) E hi (by omega) dL_law_1175 dL_law_1176 dL_law_1177 (by decide +kernel) dL_law_1178 dL_law_1179 ?_
  refine lr_arg (j := 2) E hi (by omega) dL_law_1180 dL_law_1181 dL_law_1182 (by decide +kernel) dL_law_1183 dL_law_1184 ?_
  refine lr_arg (j := 3) E hi (by omega) dL_law_1185 dL_law_1186 dL_law_1187 (by decide +kernel) dL_law_1188 dL_law_1189 ?_
  refine lr_cMi (M2 := MX5_drift) (is := [xs (n + 1), xs (n + 2), xs (n + 3)]) E dL_law_1190 w1157 rfl mo_X5_drift rfl ⟨Nat.le_of_ble_eq_true rfl, Nat.le_of_ble_eq_true rfl⟩ rfl (Nat.le_of_ble_eq_true rfl) h2 (fun r2 d1 hq2 => ?_)
  refine lr_pop E dL_law_1193 ?_
  exact lr_goto (tgt := 1418) E dL_law_1194 (by decide) (k _ _ (h3 _ _ hq1.2 hq2.2))
theorem lc_33 (E : LE p s m meth c b L xs D aX aM cA ce sl) {n : Nat} (hi : i = nI n) (hn : n + 5 ≤ L) (hR0 : Rel x d) (k : ∀ x' d', Rel x' d' → Lv l e below p s m meth c b D aX aM cA ce sl 1418 [] i x' d' false) : Lv l e below p s m meth c b D aX aM cA ce sl 1197 [] i x d false := by
  obtain ⟨H0, hR⟩ := hR0
  obtain ⟨r, PX, PM, h1, h2, h3⟩ : Two MX4_keep MX5_keep [.ref 0, .int (xs (n + 1))] x d := two_keep hR
  refine lr_a E dL_law_1197 rfl ?_
  refine lr_arg (j := 1) E hi (by omega) dL_law_1198 dL_law_1199 dL_law_1200 (by decide +kernel) dL_law_1201 dL_law_1202 ?_
  refine lr_cXi (M2 := MX4_keep) (is := [xs (n + 1)]) E dL_law_1203 w708 rfl mo_X4_keep rfl ⟨Nat.le_of_ble_eq_true rfl, Nat.le_of_ble_eq_true rfl⟩ rfl (Nat.le_of_ble_eq_true rfl) h1 (fun r1 x1 hq1 => ?_)
  refine lr_pop E dL_law_1206 ?_
  refine lr_a E dL_law_1207 rfl ?_
  refine lr_arg (j := 1) E hi (by omega) dL_law_1208 dL_law_1209 dL_law_1210 (by decide +kernel) dL_law_1211 dL_law_1212 ?_
  refine lr_cMi (M2 := MX5_keep) (is := [xs (n + 1)]) E dL_law_1213 w1167 rfl mo_X5_keep rfl ⟨Nat.le_of_ble_eq_true rfl, Nat.le_of_ble_eq_true rfl⟩ rfl (Nat.le_of_ble_eq_true rfl) h2 (fun r2 d1 hq2 => ?_)
  refine lr_pop E dL_law_1216 ?_
  exact lr_goto (tgt := 1418) E dL_law_1217 (by decide) (k _ _ (h3 _ _ hq1.2 hq2.2))
theorem lc_34 (E : LE p s m meth c b L xs D aX aM cA ce sl) {n : Nat} (hi : i = nI n) (hn : n + 5 ≤ L) (hR0 : Rel x d) (k : ∀ x' d', Rel x' d' → Lv l e below p s m meth c b D aX aM cA ce sl 1418 [] i x' d' false) : Lv l e below p s m meth c b D aX aM cA ce sl 1220 [] i x d false := by
  obtain ⟨H0, hR⟩ := hR0
  obtain ⟨r, PX, PM, h1, h2, h3⟩ : Two MX4_back MX5_back [.ref 0, .int (xs (n + 1))] x d := two_back hR
  refine lr_a E dL_law_1220 rfl ?_
  refine lr_arg (j := 1) E hi (by omega) dL_law_1221 dL_law_1222 dL_law_1223 (by decide +kernel) dL_law_1224 dL_law_1225 ?_
  refine lr_cXi (M2 := MX4_back) (is := [xs (n + 1)]) E dL_law_1226 w712 rfl mo_X4_back rfl ⟨Nat.le_of_ble_eq_true rfl, Nat.le_of_ble_eq_true rfl⟩ rfl (Nat.le_of_ble_eq_true rfl) h1 (fun r1 x1 hq1 => ?_)
  refine lr_pop E dL_law_1229 ?_
  refine lr_a E dL_law_1230 rfl ?_
  refine lr_arg (j := 1) E hi (by omega) dL_law_1231 dL_law_1232 dL_law_1233 (by decide +kernel) dL_law_1234 dL_law_1235 ?_
  refine lr_cMi (M2 := MX5_back) (is := [xs (n + 1)]) E dL_law_1236 w1171 rfl mo_X5_back rfl ⟨Nat.le_of_ble_eq_true rfl, Nat.le_of_ble_eq_true rfl⟩ rfl (Nat.le_of_ble_eq_true rfl) h2 (fun r2 d1 hq2 => ?_)
  refine lr_pop E dL_law_1239 ?_
  exact lr_goto (tgt := 1418) E dL_law_1240 (by decide) (k _ _ (h3 _ _ hq1.2 hq2.2))
theorem lc_35 (E : LE p s m meth c b L xs D aX aM cA ce sl) {n : Nat} (hi : i = nI n) (hn : n + 5 ≤ L) (hR0 : Rel x d) (k : ∀ x' d', Rel x' d' → Lv l e below p s m meth c b D aX aM cA ce sl 1418 [] i x' d' false) : Lv l e below p s m meth c b D aX aM cA ce sl 1243 [] i x d false := by
  obtain ⟨H0, hR⟩ := hR0
  obtain ⟨r, PX, PM, h1, h2, h3⟩ : Two MX4_sheet MX5_sheet [.ref 0, .int (xs (n + 1)), .int (xs (n + 2)), .int (xs (n + 3))] x d := two_sheet hR
  refine lr_a E dL_law_1243 rfl ?_
  refine lr_arg (j := 1) E hi (by omega) dL_law_1244 dL_law_1245 dL_law_1246 (by decide +kernel) dL_law_1247 dL_law_1248 ?_
  refine lr_arg (j := 2) E hi (by omega) dL_law_1249 dL_law_1250 dL_law_1251 (by decide +kernel) dL_law_1252 dL_law_1253 ?_
  refine lr_arg (j := 3) E hi (by omega) dL_law_1254 dL_law_1255 dL_law_1256 (by decide +kernel) dL_law_1257 dL_law_1258 ?_
  refine lr_cXi (M2 := MX4_sheet) (is := [xs (n + 1), xs (n + 2), xs (n + 3)]) E dL_law_1259 w720 rfl mo_X4_sheet rfl ⟨Nat.le_of_ble_eq_true rfl, Nat.le_of_ble_eq_true rfl⟩ rfl (Nat.le_of_ble_eq_true rfl) h1 (fun r1 x1 hq1 => ?_)
  refine lr_pop E dL_law_1262 ?_
  refine lr_a E dL_law_1263 rfl ?_
  refine lr_arg (j := 1) E hi (by omega) dL_law_1264 dL_law_1265 dL_law_1266 (by decide +kernel) dL_law_1267 dL_law_1268 ?_
  refine lr_arg (j := 2) E hi (by omega) dL_law_1269 dL_law_1270 dL_law_1271 (by decide +kernel) dL_law_1272 dL_law_1273 ?_
  refine lr_arg (j := 3) E hi (by omega) dL_law_1274 dL_law_1275 dL_law_1276 (by decide +kernel) dL_law_1277 dL_law_1278 ?_
  refine lr_cMi (M2 := MX5_sheet) (is := [xs (n + 1), xs (n + 2), xs (n + 3)]) E dL_law_1279 w1179 rfl mo_X5_sheet rfl ⟨Nat.le_of_ble_eq_true rfl, Nat.le_of_ble_eq_true rfl⟩ rfl (Nat.le_of_ble_eq_true rfl) h2 (fun r2 d1 hq2 => ?_)
  refine lr_pop E dL_law_1282 ?_
  exact lr_goto (tgt := 1418) E dL_law_1283 (by decide) (k _ _ (h3 _ _ hq1.2 hq2.2))
theorem lc_36 (E : LE p s m meth c b L xs D aX aM cA ce sl) {n : Nat} (hi : i = nI n) (hn : n + 5 ≤ L) (hR0 : Rel x d) (k : ∀ x' d', Rel x' d' → Lv l e below p s m meth c b D aX aM cA ce sl 1418 [] i x' d' false) : Lv l e below p s m meth c b D aX aM cA ce sl 1286 [] i x d false := by
  obtain ⟨H0, hR⟩ := hR0
  obtain ⟨r, PX, PM, h1, h2, h3⟩ : Two MX4_lay MX5_lay [.ref 0, .int (xs (n + 1)), .int (xs (n + 2)), .int (xs (n + 3))] x d := two_lay hR
  refine lr_a E dL_law_1286 rfl ?_
  refine lr_arg (j := 1) E hi (by omega) dL_law_1287 dL_law_1288 dL_law_1289 (by decide +kernel) dL_law_1290 dL_law_1291 ?_
  refine lr_arg (j := 2) E hi (by omega) dL_law_1292 dL_law_1293 dL_law_1294 (by decide +kernel) dL_law_1295 dL_law_1296 ?_
  refine lr_arg (j := 3) E hi (by omega) dL_law_1297 dL_law_1298 dL_law_1299 (by decide +kernel) dL_law_1300 dL_law_1301 ?_
  refine lr_cXi (M2 := MX4_lay) (is := [xs (n + 1), xs (n + 2), xs (n + 3)]) E dL_law_1302 w728 rfl mo_X4_lay rfl ⟨Nat.le_of_ble_eq_true rfl, Nat.le_of_ble_eq_true rfl⟩ rfl (Nat.le_of_ble_eq_true rfl) h1 (fun r1 x1 hq1 => ?_)
  refine lr_pop E dL_law_1305 ?_
  refine lr_a E dL_law_1306 rfl ?_
  refine lr_arg (j := 1) E hi (by omega) dL_law_1307 dL_law_1308 dL_law_1309 (by decide +kernel) dL_law_1310 dL_law_1311 ?_
  refine lr_arg (j := 2) E hi (by omega) dL_law_1312 dL_law_1313 dL_law_1314 (by decide +kernel) dL_law_1315 dL_law_1316 ?_
  refine lr_arg (j := 3) E hi (by omega) dL_law_1317 dL_law_1318 dL_law_1319 (by decide +kernel) dL_law_1320 dL_law_1321 ?_
  refine lr_cMi (M2 := MX5_lay) (is := [xs (n + 1), xs (n + 2), xs (n + 3)]) E dL_law_1322 w1183 rfl mo_X5_lay rfl ⟨Nat.le_of_ble_eq_true rfl, Nat.le_of_ble_eq_true rfl⟩ rfl (Nat.le_of_ble_eq_true rfl) h2 (fun r2 d1 hq2 => ?_)
  refine lr_pop E dL_law_1325 ?_
  exact lr_goto (tgt := 1418) E dL_law_1326 (by decide) (k _ _ (h3 _ _ hq1.2 hq2.2))
theorem lc_37 (E : LE p s m meth c b L xs D aX aM cA ce sl) {n : Nat} (hi : i = nI n) (hn : n + 5 ≤ L) (hR0 : Rel x d) (k : ∀ x' d', Rel x' d' → Lv l e below p s m meth c b D aX aM cA ce sl 1418 [] i x' d' false) : Lv l e below p s m meth c b D aX aM cA ce sl 1329 [] i x d false := by
  obtain ⟨H0, hR⟩ := hR0
  obtain ⟨r, PX, PM, h1, h2, h3⟩ : Two MX4_read MX5_read [.ref 0, .int (xs (n + 1)), .int (xs (n + 2)), .int (xs (n + 3)), .int (xs (n + 4))] x d := two_read hR
  refine lr_a E dL_law_1329 rfl ?_
  refine lr_arg (j := 1) E hi (by omega) dL_law_1330 dL_law_1331 dL_law_1332 (by decide +kernel) dL_law_1333 dL_law_1334 ?_
  refine lr_arg (j := 2) E hi (by omega) dL_law_1335 dL_law_1336 dL_law_1337 (by decide +kernel) dL_law_1338 dL_law_1339 ?_
  refine lr_arg (j := 3) E hi (by omega) dL_law_1340 dL_law_1341 dL_law_1342 (by decide +kernel) dL_law_1343 dL_law_1344 ?_
  refine lr_arg (j := 4) E hi (by omega) dL_law_1345 dL_law_1346 dL_law_1347 (by decide +kernel) dL_law_1348 dL_law_1349 ?_
  refine lr_cXi (M2 := MX4_read) (is := [xs (n + 1), xs (n + 2), xs (n + 3), xs (n + 4)]) E dL_law_1350 w739 rfl mo_X4_read rfl ⟨Nat.le_of_ble_eq_true rfl, Nat.le_of_ble_eq_true rfl⟩ rfl (Nat.le_of_ble_eq_true rfl) h1 (fun r1 x1 hq1 => ?_)
  refine lr_pop E dL_law_1353 ?_
  refine lr_a E dL_law_1354 rfl ?_
  refine lr_arg (j := 1) E hi (by omega) dL_law_1355 dL_law_1356 dL_law_1357 (by decide +kernel) dL_law_1358 dL_law_1359 ?_
  refine lr_arg (j := 2) E hi (by omega) dL_law_1360 dL_law_1361 dL_law_1362 (by decide +kernel) dL_law_1363 dL_law_1364 ?_
  refine lr_arg (j := 3) E hi (by omega) dL_law_1365 dL_law_1366 dL_law_1367 (by decide +kernel) dL_law_1368 dL_law_1369 ?_
  refine lr_arg (j := 4) E hi (by omega) dL_law_1370 dL_law_1371 dL_law_1372 (by decide +kernel) dL_law_1373 dL_law_1374 ?_
  refine lr_cMi (M2 := MX5_read) (is := [xs (n + 1), xs (n + 2), xs (n + 3), xs (n + 4)]) E dL_law_1375 w1187 rfl mo_X5_read rfl ⟨Nat.le_of_ble_eq_true rfl, Nat.le_of_ble_eq_true rfl⟩ rfl (Nat.le_of_ble_eq_true rfl) h2 (fun r2 d1 hq2 => ?_)
  refine lr_pop E dL_law_1378 ?_
  exact lr_goto (tgt := 1418) E dL_law_1379 (by decide) (k _ _ (h3 _ _ hq1.2 hq2.2))
theorem lc_38 (E : LE p s m meth c b L xs D aX aM cA ce sl) {n : Nat} (hi : i = nI n) (hn : n + 5 ≤ L) (hR0 : Rel x d) (k : ∀ x' d', Rel x' d' → Lv l e below p s m meth c b D aX aM cA ce sl 1418 [] i x' d' false) : Lv l e below p s m meth c b D aX aM cA ce sl 1382 [] i x d false := by
  obtain ⟨H0, hR⟩ := hR0
  obtain ⟨r, PX, PM, h1, h2, h3⟩ : Two MX4_torn MX5_torn [.ref 0] x d := two_torn hR
  refine lr_a E dL_law_1382 rfl ?_
  refine lr_cXi (M2 := MX4_torn) (is := []) E dL_law_1383 w747 rfl mo_X4_torn rfl ⟨Nat.le_of_ble_eq_true rfl, Nat.le_of_ble_eq_true rfl⟩ rfl (Nat.le_of_ble_eq_true rfl) h1 (fun r1 x1 hq1 => ?_)
  refine lr_pop E dL_law_1386 ?_
  refine lr_a E dL_law_1387 rfl ?_
  refine lr_cMi (M2 := MX5_torn) (is := []) E dL_law_1388 w1191 rfl mo_X5_torn rfl ⟨Nat.le_of_ble_eq_true rfl, Nat.le_of_ble_eq_true rfl⟩ rfl (Nat.le_of_ble_eq_true rfl) h2 (fun r2 d1 hq2 => ?_)
  refine lr_pop E dL_law_1391 ?_
  exact lr_goto (tgt := 1418) E dL_law_1392 (by decide) (k _ _ (h3 _ _ hq1.2 hq2.2))
theorem lc_39 (E : LE p s m meth c b L xs D aX aM cA ce sl) {n : Nat} (hi : i = nI n) (hn : n + 5 ≤ L) (hR0 : Rel x d) (k : ∀ x' d', Rel x' d' → Lv l e below p s m meth c b D aX aM cA ce sl 1418 [] i x' d' false) : Lv l e below p s m meth c b D aX aM cA ce sl 1395 [] i x d false := by
  obtain ⟨H0, hR⟩ := hR0
  obtain ⟨r, PX, PM, h1, h2, h3⟩ : Two MX4_count MX5_count [.ref 0, .int (xs (n + 1))] x d := two_count hR
  refine lr_a E dL_law_1395 rfl ?_
  refine lr_arg (j := 1) E hi (by omega) dL_law_1396 dL_law_1397 dL_law_1398 (by decide +kernel) dL_law_1399 dL_law_1400 ?_
  refine lr_cXi (M2 := MX4_count) (is := [xs (n + 1)]) E dL_law_1401 w751 rfl mo_X4_count rfl ⟨Nat.le_of_ble_eq_true rfl, Nat.le_of_ble_eq_true rfl⟩ rfl (Nat.le_of_ble_eq_true rfl) h1 (fun r1 x1 hq1 => ?_)
  refine lr_a E dL_law_1404 rfl ?_
  refine lr_arg (j := 1) E hi (by omega) dL_law_1405 dL_law_1406 dL_law_1407 (by decide +kernel) dL_law_1408 dL_law_1409 ?_
  refine lr_cMi (M2 := MX5_count) (is := [xs (n + 1)]) E dL_law_1410 w1195 rfl mo_X5_count rfl ⟨Nat.le_of_ble_eq_true rfl, Nat.le_of_ble_eq_true rfl⟩ rfl (Nat.le_of_ble_eq_true rfl) h2 (fun r2 d1 hq2 => ?_)
  exact lr_eq (tgt := 1418) E dL_law_1413 (by decide) (hq1.1.trans hq2.1.symm) (k _ _ (h3 _ _ hq1.2 hq2.2))
theorem and63 (v : Int32) : ∃ j, j < 64 ∧ v &&& 63 = nI j := by
  refine ⟨(v &&& 63).toBitVec.toNat, ?_, Int32.toBitVec_inj.mp ?_⟩
  · rw [Int32.toBitVec_and, BitVec.toNat_and]
    exact Nat.lt_of_le_of_lt Nat.and_le_right (by decide)
  · show _ = (Int32.ofNat _).toBitVec
    simp
theorem l5_lt {L n : Nat} (hL : L ≤ 320) (hn : n ≤ 1000) : nI L - 5 < nI n ↔ L < n + 5 := by
  have h5 : ((5 : Int32)).toInt = 5 := by decide
  have e : (nI L - 5 : Int32).toInt = (L : Int) - 5 := by
    rw [Int32.toInt_sub, nI_toInt (by omega), h5]
    exact Int.bmod_eq_of_le (by omega) (by omega)
  rw [i_lt, e, nI_toInt (by omega)]
  omega
/-- one turn of the loop: out of the head, into the next head -/
theorem law_turn (E : LE p s m meth c b L xs D aX aM cA ce sl) {n : Nat} (hi : i = nI n) (hn9 : n ≤ 900) (hR : Rel x d) (k : ∀ x' d', n + 5 ≤ L → Rel x' d' → Lv l e below p s m meth c b D aX aM cA ce sl 18 [] (nI (n + 5)) x' d' false) : Lv l e below p s m meth c b D aX aM cA ce sl 18 [] i x d false := by
  have hL : L ≤ 320 := E.2.2.2.2.2.2.2.2.2.1
  refine lr_i E dL_law_18 rfl (lr_a E dL_law_19 rfl (lr_len E dL_law_20 (lr_iconst (v := 5) E dL_law_21 (by decide +kernel) (lr_isub E dL_law_22 (lr_gt (tgt := 1424) E dL_law_23 (by decide) (fun _ => ?_) (fun z => ?_))))))
  · exact lr_iconst (v := 1) E dL_law_1424 (by decide +kernel) (lr_ret E dL_law_1425)
  rw [hi, l5_lt hL (by omega)] at z
  have hn : n + 5 ≤ L := by omega
  have k2 : ∀ x' d', Rel x' d' → Lv l e below p s m meth c b D aX aM cA ce sl 1418 [] i x' d' false := fun x' d' hR' => lr_iinc (v := nI (n + 5)) E dL_law_1418 (by rw [hi]; exact nI_add n 5) (lr_goto (tgt := 18) E dL_law_1421 (by decide) (k x' d' hn hR'))
  refine lr_a E dL_law_26 rfl (lr_i E dL_law_27 rfl (lr_ld E dL_law_28 hi (by omega) (lr_bipush (v := 63) E dL_law_29 (by decide +kernel) (lr_iand E dL_law_31 ?_))))
  obtain ⟨j, hj, ej⟩ := and63 (xs n)
  rw [ej]
  match j, hj with
  | 0, _ => exact lr_tin (tgt := 208) E dL_law_32 (by decide +kernel) (by decide +kernel) rfl (by decide) (lc_0 E hi hn hR k2)
  | 1, _ => exact lr_tin (tgt := 231) E dL_law_32 (by decide +kernel) (by decide +kernel) rfl (by decide) (lc_1 E hi hn hR k2)
  | 2, _ => exact lr_tin (tgt := 254) E dL_law_32 (by decide +kernel) (by decide +kernel) rfl (by decide) (lc_2 E hi hn hR k2)
  | 3, _ => exact lr_tin (tgt := 267) E dL_law_32 (by decide +kernel) (by decide +kernel) rfl (by decide) (lc_3 E hi hn hR k2)
  | 4, _ => exact lr_tin (tgt := 280) E dL_law_32 (by decide +kernel) (by decide +kernel) rfl (by decide) (lc_4 E hi hn hR k2)
  | 5, _ => exact lr_tin (tgt := 303) E dL_law_32 (by decide +kernel) (by decide +kernel) rfl (by decide) (lc_5 E hi hn hR k2)
  | 6, _ => exact lr_tin (tgt := 336) E dL_law_32 (by decide +kernel) (by decide +kernel) rfl (by decide) (lc_6 E hi hn hR k2)
  | 7, _ => exact lr_tin (tgt := 369) E dL_law_32 (by decide +kernel) (by decide +kernel) rfl (by decide) (lc_7 E hi hn hR k2)
  | 8, _ => exact lr_tin (tgt := 402) E dL_law_32 (by decide +kernel) (by decide +kernel) rfl (by decide) (lc_8 E hi hn hR k2)
  | 9, _ => exact lr_tin (tgt := 435) E dL_law_32 (by decide +kernel) (by decide +kernel) rfl (by decide) (lc_9 E hi hn hR k2)
  | 10, _ => exact lr_tin (tgt := 458) E dL_law_32 (by decide +kernel) (by decide +kernel) rfl (by decide) (lc_10 E hi hn hR k2)
  | 11, _ => exact lr_tin (tgt := 501) E dL_law_32 (by decide +kernel) (by decide +kernel) rfl (by decide) (lc_11 E hi hn hR k2)
  | 12, _ => exact lr_tin (tgt := 534) E dL_law_32 (by decide +kernel) (by decide +kernel) rfl (by decide) (lc_12 E hi hn hR k2)
  | 13, _ => exact lr_tin (tgt := 577) E dL_law_32 (by decide +kernel) (by decide +kernel) rfl (by decide) (lc_13 E hi hn hR k2)
  | 14, _ => exact lr_tin (tgt := 620) E dL_law_32 (by decide +kernel) (by decide +kernel) rfl (by decide) (lc_14 E hi hn hR k2)
  | 15, _ => exact lr_tin (tgt := 653) E dL_law_32 (by decide +kernel) (by decide +kernel) rfl (by decide) (lc_15 E hi hn hR k2)
  | 16, _ => exact lr_tin (tgt := 686) E dL_law_32 (by decide +kernel) (by decide +kernel) rfl (by decide) (lc_16 E hi hn hR k2)
  | 17, _ => exact lr_tin (tgt := 719) E dL_law_32 (by decide +kernel) (by decide +kernel) rfl (by decide) (lc_17 E hi hn hR k2)
  | 18, _ => exact lr_tin (tgt := 742) E dL_law_32 (by decide +kernel) (by decide +kernel) rfl (by decide) (lc_18 E hi hn hR k2)
  | 19, _ => exact lr_tin (tgt := 765) E dL_law_32 (by decide +kernel) (by decide +kernel) rfl (by decide) (lc_19 E hi hn hR k2)
  | 20, _ => exact lr_tin (tgt := 788) E dL_law_32 (by decide +kernel) (by decide +kernel) rfl (by decide) (lc_20 E hi hn hR k2)
  | 21, _ => exact lr_tin (tgt := 811) E dL_law_32 (by decide +kernel) (by decide +kernel) rfl (by decide) (lc_21 E hi hn hR k2)
  | 22, _ => exact lr_tin (tgt := 834) E dL_law_32 (by decide +kernel) (by decide +kernel) rfl (by decide) (lc_22 E hi hn hR k2)
  | 23, _ => exact lr_tin (tgt := 857) E dL_law_32 (by decide +kernel) (by decide +kernel) rfl (by decide) (lc_23 E hi hn hR k2)
  | 24, _ => exact lr_tin (tgt := 890) E dL_law_32 (by decide +kernel) (by decide +kernel) rfl (by decide) (lc_24 E hi hn hR k2)
  | 25, _ => exact lr_tin (tgt := 933) E dL_law_32 (by decide +kernel) (by decide +kernel) rfl (by decide) (lc_25 E hi hn hR k2)
  | 26, _ => exact lr_tin (tgt := 956) E dL_law_32 (by decide +kernel) (by decide +kernel) rfl (by decide) (lc_26 E hi hn hR k2)
  | 27, _ => exact lr_tin (tgt := 989) E dL_law_32 (by decide +kernel) (by decide +kernel) rfl (by decide) (lc_27 E hi hn hR k2)
  | 28, _ => exact lr_tin (tgt := 1032) E dL_law_32 (by decide +kernel) (by decide +kernel) rfl (by decide) (lc_28 E hi hn hR k2)
  | 29, _ => exact lr_tin (tgt := 1075) E dL_law_32 (by decide +kernel) (by decide +kernel) rfl (by decide) (lc_29 E hi hn hR k2)
  | 30, _ => exact lr_tin (tgt := 1098) E dL_law_32 (by decide +kernel) (by decide +kernel) rfl (by decide) (lc_30 E hi hn hR k2)
  | 31, _ => exact lr_tin (tgt := 1121) E dL_law_32 (by decide +kernel) (by decide +kernel) rfl (by decide) (lc_31 E hi hn hR k2)
  | 32, _ => exact lr_tin (tgt := 1154) E dL_law_32 (by decide +kernel) (by decide +kernel) rfl (by decide) (lc_32 E hi hn hR k2)
  | 33, _ => exact lr_tin (tgt := 1197) E dL_law_32 (by decide +kernel) (by decide +kernel) rfl (by decide) (lc_33 E hi hn hR k2)
  | 34, _ => exact lr_tin (tgt := 1220) E dL_law_32 (by decide +kernel) (by decide +kernel) rfl (by decide) (lc_34 E hi hn hR k2)
  | 35, _ => exact lr_tin (tgt := 1243) E dL_law_32 (by decide +kernel) (by decide +kernel) rfl (by decide) (lc_35 E hi hn hR k2)
  | 36, _ => exact lr_tin (tgt := 1286) E dL_law_32 (by decide +kernel) (by decide +kernel) rfl (by decide) (lc_36 E hi hn hR k2)
  | 37, _ => exact lr_tin (tgt := 1329) E dL_law_32 (by decide +kernel) (by decide +kernel) rfl (by decide) (lc_37 E hi hn hR k2)
  | 38, _ => exact lr_tin (tgt := 1382) E dL_law_32 (by decide +kernel) (by decide +kernel) rfl (by decide) (lc_38 E hi hn hR k2)
  | 39, _ => exact lr_tin (tgt := 1395) E dL_law_32 (by decide +kernel) (by decide +kernel) rfl (by decide) (lc_39 E hi hn hR k2)
  | j + 40, hj => exact lr_tout (tgt := 1418) E dL_law_32 (Or.inr (by rw [nI_toInt (by omega)]; omega)) (by decide) (k2 x d hR)
end CASES
end
section
/-! ===== the law's entry: classes, arrays' classes, String constants, both objects ===== -/
theorem lw_known {s : State} {args : Array Value} (hts : ∀ w ∈ wT, w.before args s = true) : ∃ D : va_G, ∀ (k : Nat) (q : vw_C), vwCl[k]? = some q → u_Kn s q.1 q.2.1 q.2.2 (D.1 k) (D.2 k) := by
  obtain ⟨c0, i0, k0⟩ := u_known (C := RX0) (T := TX0) (N := 13) (n := 13) hts ck0.2.1 (hts _ w76)
  obtain ⟨c1, i1, k1⟩ := u_known (C := RX1) (T := TX1) (N := 10) (n := 10) hts ck1.2.1 (hts _ w192)
  obtain ⟨c2, i2, k2⟩ := u_known (C := RX2) (T := TX2) (N := 4) (n := 4) hts ck2.2.1 (hts _ w234)
  obtain ⟨c3, i3, k3⟩ := u_known (C := RX3) (T := TX3) (N := 7) (n := 7) hts ck3.2.1 (hts _ w161)
  obtain ⟨c4, i4, k4⟩ := u_known (C := RX4) (T := TX4) (N := 13) (n := 13) hts ck4.2.1 (hts _ w68)
  obtain ⟨c5, i5, k5⟩ := u_known (C := RX5) (T := TX5) (N := 35) (n := 35) hts ck5.2.1 (hts _ w761)
  refine ⟨(fun k => [c0, c1, c2, c3, c4, c5].getD k c0, fun k => [i0, i1, i2, i3, i4, i5].getD k i0), ?_⟩
  intro k q hq
  match k, hq with
  | 0, hq => cases hq; exact k0
  | 1, hq => cases hq; exact k1
  | 2, hq => cases hq; exact k2
  | 3, hq => cases hq; exact k3
  | 4, hq => cases hq; exact k4
  | 5, hq => cases hq; exact k5
  | k + 6, hq => simp [vwCl] at hq
theorem lw_arrP {s : State} {args : Array Value} {ty : FieldType} (h : (Cond.arrayClass ty).before args s = true) : ∃ cA, ArrOfT s cA ty ∧ s.vm.findClass ("[" ++ ty.toString) = some cA := by
  obtain ⟨cA, kA, comp, h1, h2, h3⟩ := Cond.arrayClass_spec h
  exact ⟨cA, fun n z => ⟨fun k h => (by cases h), kA, h2, comp, h3⟩, h1⟩
theorem lw_arrQ {s : State} {args : Array Value} {C0 : String} (h : (Cond.arrayOver (.object C0)).before args s = true) : ∃ cA, ArrOfT s cA (.object C0) ∧ va_RA s cA (.object C0) := by
  obtain ⟨comp, cA, kA, h1, h2, h3, h4, h5⟩ := Cond.arrayOver_spec h
  exact ⟨cA, fun n z => ⟨fun k h => (by cases h), kA, h3, comp, h4⟩, kA, comp, h3, h4, h1, h5⟩
theorem lw_cA {s : State} {args : Array Value} (hts : ∀ w ∈ wT, w.before args s = true) (hH : (Cond.arrayOver (.object RX0)).before args s = true) (hS : (Cond.arrayOver (.object RX2)).before args s = true) : ∃ cA : Nat → ClassId, ∀ (k : Nat) (q : ClassId × FieldType), (tysOf cA)[k]? = some q → ArrOfT s q.1 q.2 ∧ va_RA s q.1 q.2 := by
  obtain ⟨a0, h0, g0⟩ := lw_arrP (hts _ w158)
  obtain ⟨a1, h1, g1⟩ := lw_arrP (hts _ w190)
  obtain ⟨a2, h2, g2⟩ := lw_arrQ hH
  obtain ⟨a3, h3, g3⟩ := lw_arrQ hS
  refine ⟨fun k => [a0, a1, a2, a3].getD k a0, ?_⟩
  intro k q hq
  match k, hq with
  | 0, hq => cases hq; exact ⟨h0, g0⟩
  | 1, hq => cases hq; exact ⟨h1, g1⟩
  | 2, hq => cases hq; exact ⟨h2, g2⟩
  | 3, hq => cases hq; exact ⟨h3, g3⟩
  | k + 4, hq => simp [tysOf] at hq
abbrev tmS (i : Nat) : Term := .string "TuneWard$Tape" (strIx.getD i 0)
abbrev nwC : List Cond := flatC (Jvm.Cond.and given_1 narrow_1)
theorem nw_ex : ∀ i : Fin 6, Cond.exactly (tmS i.1) "java/lang/String" ∈ nwC := by decide +kernel
theorem nw_co : ∀ i : Fin 6, Cond.eq (.field (tmS i.1) "java/lang/String" "coder" "B") (.int 0) ∈ nwC := by decide +kernel
theorem nw_ar : ∀ i : Fin 6, Cond.arrayOf (.field (tmS i.1) "java/lang/String" "value" "[B") .byte ∈ nwC := by decide +kernel
theorem nw_le : ∀ i : Fin 6, Cond.eq (.length (.field (tmS i.1) "java/lang/String" "value" "[B")) (.int (Int32.ofNat (strLen.getD i.1 0))) ∈ nwC := by decide +kernel
theorem nw_el : ∀ (i : Fin 6) (j : Fin 7), j.1 < strLen.getD i.1 0 → Cond.eq (.elem (.field (tmS i.1) "java/lang/String" "value" "[B") (.int (Int32.ofNat j.1))) (.int ((strByt.getD i.1 []).getD j.1 0)) ∈ nwC := by decide +kernel
theorem nw_ne : ∀ (i j : Fin 6), i.1 ≠ j.1 → Cond.not (Cond.eq (tmS i.1) (tmS j.1)) ∈ nwC ∨ Cond.not (Cond.eq (tmS j.1) (tmS i.1)) ∈ nwC := by decide +kernel
theorem lw_Ex {s : State} {args : Array Value} (hg : (Jvm.Cond.and given_1 narrow_1).before args s = true) (hts : ∀ w ∈ lw_tbl, w.before args s = true) : ∃ st : Nat → Nat, ∀ ad : Nat → Nat, (∀ k, 1000 ≤ k → ad k = st k) → Ex ad (fun q => s.heap.size ≤ q) s s.heap := by
  have hA : ∀ a : Nat, a < s.heap.size → ¬ (fun q : Nat => s.heap.size ≤ q) a := fun a h => Nat.not_le.mpr h
  have hs := flat_of_before _ hg
  obtain ⟨adK, adV, h1, h2⟩ := vk_Sof (args := args) (s := s) (N := 6) (tm := tmS) (len := strLen) (byt := strByt) (A := fun q => s.heap.size ≤ q) (fun i hi => Nat.lt_of_le_of_lt (strLen7 ⟨i, hi⟩) (by decide)) (fun i hi => hs _ (nw_ex ⟨i, hi⟩)) (fun i hi => hs _ (nw_co ⟨i, hi⟩)) (fun i hi => hs _ (nw_ar ⟨i, hi⟩)) (fun i hi => hs _ (nw_le ⟨i, hi⟩)) (fun i hi j hj => hs _ (nw_el ⟨i, hi⟩ ⟨j, Nat.lt_of_lt_of_le hj (strLen7 ⟨i, hi⟩)⟩ hj)) (fun i j hi hj hij => (nw_ne ⟨i, hi⟩ ⟨j, hj⟩ hij).imp (hs _) (hs _)) hA
  have hc : va_Z "java/lang/String" "COMPACT_STRINGS" "Z" (.int 1) (fun q => s.heap.size ≤ q) s s.heap := va_Zof (hts _ w354) (hts _ (wT_in _ w60)) (va_eqi (hs _ (by decide +kernel))) hA
  have hz : va_Zq "jdk/internal/util/Preconditions" "SIOOBE_FORMATTER" "Ljava/util/function/BiFunction;" (fun q => s.heap.size ≤ q) s s.heap := va_Zqof (hts _ w370) (hts _ (wT_in _ w62)) (hs _ (by decide +kernel)) hA
  obtain ⟨z, hz⟩ : ∃ z, va_Z "jdk/internal/util/Preconditions" "SIOOBE_FORMATTER" "Ljava/util/function/BiFunction;" .null (fun q => s.heap.size ≤ q) s s.heap ∨ va_Z "jdk/internal/util/Preconditions" "SIOOBE_FORMATTER" "Ljava/util/function/BiFunction;" (.ref z) (fun q => s.heap.size ≤ q) s s.heap := by
    rcases hz with h | ⟨t, h⟩
    · exact ⟨0, Or.inl h⟩
    · exact ⟨t, Or.inr h⟩
  refine ⟨fun k => if k < 2000 then adK (k - 1000) else if k < 3000 then adV (k - 2000) else z, fun ad had => ⟨?_, ?_, ?_, hc, ?_⟩⟩
  · intro i w hw
    match i, hw with
    | 0, e => cases e; exact va_Nw.of rfl (hts _ w327)
    | 1, e => cases e; exact va_Nw.of rfl (hts _ w430)
    | 2, e => cases e; exact va_Nw.of rfl (hts _ w530)
    | n + 3, e => simp [nestL] at e
  · intro i hi
    have e1 : ad (1000 + i) = adK i := by
      rw [had _ (by omega)]
      show (if 1000 + i < 2000 then adK (1000 + i - 1000) else _) = _
      rw [if_pos (by omega), Nat.add_sub_cancel_left]
    rw [e1]
    refine vk_R.of (A := args) (hts _ ?_) (h2 i hi)
    match i, hi with
    | 0, _ => exact w340
    | 1, _ => exact w409
    | 2, _ => exact w410
    | 3, _ => exact w411
    | 4, _ => exact w412
    | 5, _ => exact w417
  · obtain ⟨g1, g2⟩ := h1
    have e1 : ∀ i, i < 6 → ad (1000 + i) = adK i := fun i hi => by
      rw [had _ (by omega)]
      show (if 1000 + i < 2000 then adK (1000 + i - 1000) else _) = _
      rw [if_pos (by omega), Nat.add_sub_cancel_left]
    have e2 : ∀ i, i < 6 → ad (2000 + i) = adV i := fun i hi => by
      rw [had _ (by omega)]
      show (if 2000 + i < 2000 then _ else if 2000 + i < 3000 then adV (2000 + i - 2000) else _) = _
      rw [if_neg (by omega), if_pos (by omega), Nat.add_sub_cancel_left]
    refine ⟨fun i hi => ?_, fun i j hi hj e => g2 i j hi hj (by rw [← e1 i hi, ← e1 j hj]; exact e)⟩
    have := g1 i hi
    rw [← e1 i hi, ← e2 i hi] at this
    exact this
  · have e3 : ad 3000 = z := by
      rw [had _ (by omega)]
      show (if 3000 < 2000 then _ else if 3000 < 3000 then _ else z) = _
      rw [if_neg (by omega), if_neg (by omega)]
    rw [e3]
    exact hz
/-- addresses may be named anew where no shape looks -/
theorem wsOf_ad {ad ad2 : Nat → Nat} {cA : Nat → ClassId} {S : List Shp} {d : DD} {N : Nat} (hl : S.length ≤ N) (hr : ∀ q ∈ S, ∀ o ∈ q.2.2, ∀ r, o = some r → r < N) (h : ∀ k, k < N → ad2 k = ad k) : wsOf ad cA S d = wsOf ad2 cA S d := by
  refine List.ext_getElem? fun k => ?_
  simp only [wsOf, List.getElem?_mapIdx]
  cases hk : S[k]? with
  | none => rfl
  | some q =>
    have hkl := (List.getElem?_eq_some_iff.mp hk).1
    have hq := hr q (List.mem_of_getElem? hk)
    show some (ad k, ent ad cA (d k) q) = some (ad2 k, ent ad2 cA (d k) q)
    rw [h k (by omega)]
    have e1 : slotsOf ad (d k) q.2.2 = slotsOf ad2 (d k) q.2.2 := by
      refine List.ext_getElem? fun j => ?_
      simp only [slotsOf, List.getElem?_mapIdx]
      cases hj : q.2.2[j]? with
      | none => rfl
      | some o =>
        cases o with
        | none => rfl
        | some r => show some (Value.ref (ad r)) = some (Value.ref (ad2 r)); rw [h r (hq _ (List.mem_of_getElem? hj) r rfl)]
    have e2 : refsOf ad q.2.2 = refsOf ad2 q.2.2 := by
      funext j
      unfold refsOf
      rw [List.getD_eq_getElem?_getD]
      cases hj : q.2.2[j]? with
      | none => rfl
      | some o =>
        cases o with
        | none => rfl
        | some r => show some (ad r) = some (ad2 r); rw [h r (hq _ (List.mem_of_getElem? hj) r rfl)]
    unfold ent
    rw [e1, e2]
theorem sx_small : ∀ q ∈ SX, ∀ o ∈ q.2.2, ∀ r, o = some r → r < 1000 := by
  have : (SX.all fun q => q.2.2.all fun o => match o with | none => true | some r => decide (r < 1000)) = true := by decide +kernel
  intro q hq o ho r e
  have h1 := List.all_eq_true.mp (List.all_eq_true.mp this q hq) o ho
  rw [e] at h1
  exact of_decide_eq_true h1
theorem sm_small : ∀ q ∈ SM, ∀ o ∈ q.2.2, ∀ r, o = some r → r < 1000 := by
  have : (SM.all fun q => q.2.2.all fun o => match o with | none => true | some r => decide (r < 1000)) = true := by decide +kernel
  intro q hq o ho r e
  have h1 := List.all_eq_true.mp (List.all_eq_true.mp this q hq) o ho
  rw [e] at h1
  exact of_decide_eq_true h1
def adS (ad st : Nat → Nat) (k : Nat) : Nat := if k < 1000 then ad k else st k
theorem adS_lo {ad st : Nat → Nat} {k : Nat} (h : k < 1000) : adS ad st k = ad k := if_pos h
theorem adS_hi {ad st : Nat → Nat} {k : Nat} (h : 1000 ≤ k) : adS ad st k = st k := if_neg (by omega)
/-- from the entry to the loop's head -/
theorem law_head {p : Program} {e : Env} {s : State} {m : MethodId} {below : List Frame} {meth : Method} {c : Code} (l : Launch) {b L : Nat} {xs : Nat → Int32} (hL : L ≤ 320) (C0 : lw_At p s m meth c b L xs) (k : ∀ D aX aM cA, LE p s m meth c b L xs D aX aM cA 99 1926 → Lv l e below p s m meth c b D aX aM cA 99 1926 18 [] (nI 0) x00 dM0 false) : W p l e room_1 s m #[Value.ref b] below meth c s.heap [] 0 0 (lw_Z below #[Value.ref b] s) (entryFrame m ([Value.ref b] : List Value).toArray 4) := by
  obtain ⟨hx, hb, hr, hml, hown, htb, hX, hbl, hlocks, hgv⟩ := id C0
  have hts : ∀ w ∈ wT, w.before #[Value.ref b] s = true := fun w h => htb w (wT_in w h)
  have hA : ∀ q : Nat, s.heap.size ≤ q → (fun q : Nat => s.heap.size ≤ q) q := fun _ h => h
  obtain ⟨D, hKn⟩ := lw_known hts
  obtain ⟨cA, hcA⟩ := lw_cA hts (htb _ w159) (htb _ w233)
  obtain ⟨st, hEx⟩ := lw_Ex hgv htb
  have hNf : Nf s := ⟨fun i w hw => by
    match i, hw with
    | 0, e => cases e; exact va_Nw.of rfl (htb _ w77)
    | 1, e => cases e; exact va_Nw.of rfl (htb _ w162)
    | 2, e => cases e; exact va_Nw.of rfl (htb _ w193)
    | 3, e => cases e; exact va_Nw.of rfl (htb _ w235)
    | n + 4, e => simp [nestC] at e, va_AO.of (htb _ w159), va_AO.of (htb _ w233)⟩
  have hK : va_K D vwCl (tysOf cA) s := ⟨hKn, hcA⟩
  have hS : va_S (fun q : Nat => s.heap.size ≤ q) s.heap s.heap [] := va_S.rf
  have hP : va_P D vwCl [] s.heap := fun k q h => by simp at h
  have hD : va_D (fun q : Nat => s.heap.size ≤ q) [] := ⟨fun i j p q h => by simp at h, fun k q h => by simp at h⟩
  have hl := lv_entry ([.ref b]) (n := 4) (Nat.le_of_ble_eq_true rfl)
  rw [lg_entry_eq]
  generalize (lg_sl ([.ref b]) ++ List.replicate (4 - (lg_sl ([.ref b])).length) Slot.unset).toArray = ls at hl ⊢
  have hl : lv_has ls 4 [(0, .ref b)] := hl
  refine va_new (ci := 4) (fs := [.null, .null, .null, .null, .null, .null, .null, .null, .null, .null, .null, .int 0, .int 0]) hx hb hts ck4.2.1 tyX4 ck4.2.2.1 hown (hts _ w67) (hts _ w68) (hts _ w54) hK hP hD hS hA rfl raw_X4 (Nat.le_of_ble_eq_true rfl) (Nat.le_of_ble_eq_true rfl) dL_law_0 (fun q0 H hP hD hS => ?_)
  refine lv_dup hx hb dL_law_3 rfl ?_
  have hFc := va_A_sub (A := fun q : Nat => s.heap.size ≤ q) hD hS hA
  refine va_callv (va_runI (As := []) (rest := [.ref q0]) ⟨hx, hb, hml, hown, hts⟩ (c_X4_init cA l D q0 H.size) (cwI 0 hts (mW_good (M2 := MX4_init) w71) rfl rfl rfl (hts _ w54) (hts _ w69) (hts _ w70) rfl (by decide +kernel) ⟨Nat.le_of_ble_eq_true rfl, Nat.le_of_ble_eq_true rfl⟩) ⟨fun a U g mk h => ?_, fun U hU hW => ⟨rfl, by rw [hU], by rw [hU]; exact hP, va_K.moved hW.alike hK, hD.weaken (fun _ _ _ _ => trivial), Nf.warm hW hNf⟩⟩ rfl rfl hl.1 rfl (lv_room (Nat.le_of_ble_eq_true rfl)) dL_law_4 ⟨Nat.le_of_ble_eq_true rfl, Nat.le_of_ble_eq_true rfl⟩) hS (fun q _ h => hFc q h) hFc (fun w t H1 locs1 ht hvm hq hB hz1 hk1 hS => ?_)
  · obtain ⟨q0, q1, qP, qK, qD, qN⟩ := h
    exact ⟨q0, q1, qP, va_K.moved (u := U) (U := U.calling g mk a) (Vm.Alike.refl U.vm) qK, qD, Nf.same (u := U) (U := U.calling g mk a) rfl qN⟩
  obtain ⟨adX, hq0, hperm⟩ := hq
  obtain ⟨hP1, hD1⟩ := hB
  rw [ht] at hP1
  have eX : wsOf adX cA SX (fun _ _ => 0) = wsOf (adS adX st) cA SX x00 := wsOf_ad (N := 1000) (Nat.le_of_ble_eq_true rfl) sx_small (fun k hk => adS_lo hk)
  rw [eX] at hperm
  have hP2 := hP1.perm hperm
  have hD2 := (hD1.weaken (B := fun q : Nat => s.heap.size ≤ q) (fun k q _ h => hFc q.1 h)).perm hperm
  have hq0' : adS adX st 0 = q0 := (adS_lo (by omega)).trans hq0
  clear hP hD hP1 hD1 hk1 hFc hperm eX
  refine lv_astore_n (lv' := [(1, .ref q0), (0, .ref b)]) hx hb dL_law_7 rfl hl (by decide) rfl (fun ls hl => ?_)
  refine va_new (ci := 5) (fs := [.null, .int 0, .int 0, .int 0, .null, .int 0, .int 0, .int 0, .int 0, .null, .int 0, .int 0, .int 0, .int 0, .int 0, .int 0, .int 0, .int 0, .null, .null, .null, .null, .null, .null, .null, .null, .int 0, .null, .int 0, .int 0, .null, .null, .null, .null, .int 0]) hx hb hts ck5.2.1 tyX5 ck5.2.2.1 hown (hts _ w760) (hts _ w761) (hts _ w59) hK hP2 hD2 hS hA rfl raw_X5 (Nat.le_of_ble_eq_true rfl) (Nat.le_of_ble_eq_true rfl) dL_law_8 (fun q1 H hP hD hS => ?_)
  refine lv_dup hx hb dL_law_11 rfl ?_
  have hPc := va_P.rgt hP
  have hDc := va_D.rgt hD
  have hFc := va_A_sub (A := fun q : Nat => s.heap.size ≤ q) hDc hS hA
  refine va_callv (va_runI (As := []) (rest := [.ref q1]) ⟨hx, hb, hml, hown, hts⟩ (c_X5_init cA l D q1 H.size) (cwI 0 hts (mW_good (M2 := MX5_init) w764) rfl rfl rfl (hts _ w59) (hts _ w762) (hts _ w763) rfl (by decide +kernel) ⟨Nat.le_of_ble_eq_true rfl, Nat.le_of_ble_eq_true rfl⟩) ⟨fun a U g mk h => ?_, fun U hU hW => ⟨rfl, by rw [hU], by rw [hU]; exact hPc, va_K.moved hW.alike hK, hDc.weaken (fun _ _ _ _ => trivial), Nf.warm hW hNf⟩⟩ rfl rfl hl.1 rfl (lv_room (Nat.le_of_ble_eq_true rfl)) dL_law_12 ⟨Nat.le_of_ble_eq_true rfl, Nat.le_of_ble_eq_true rfl⟩) hS (fun q _ h => hFc q h) hFc (fun w t H1 locs1 ht hvm hq hB hz1 hk1 hS => ?_)
  · obtain ⟨q0, q1, qP, qK, qD, qN⟩ := h
    exact ⟨q0, q1, qP, va_K.moved (u := U) (U := U.calling g mk a) (Vm.Alike.refl U.vm) qK, qD, Nf.same (u := U) (U := U.calling g mk a) rfl qN⟩
  obtain ⟨adM, hq1, rfl⟩ := hq
  obtain ⟨hP1, hD1⟩ := hB
  rw [ht] at hP1
  have eM : wsOf adM cA SM dM0 = wsOf (adS adM st) cA SM dM0 := wsOf_ad (N := 1000) (Nat.le_of_ble_eq_true rfl) sm_small (fun k hk => adS_lo hk)
  rw [eM] at hP1 hD1
  have hq1' : adS adM st 0 = q1 := (adS_lo (by omega)).trans hq1
  obtain ⟨hP3, hD3⟩ := wp_join (va_P.lft hP) (va_D.lft hD) (fun i j p q hp hq => va_D.lr hD hp hq) hk1 hFc hP1 hD1
  refine lv_astore_n (lv' := [(2, .ref q1), (1, .ref q0), (0, .ref b)]) hx hb dL_law_15 rfl hl (by decide) rfl (fun ls hl => ?_)
  refine lv_iconst (v := 0) hx hb dL_law_16 (by decide) ?_
  refine lv_istore_n (lv' := [(3, .int 0), (2, .ref q1), (1, .ref q0), (0, .ref b)]) hx hb dL_law_17 rfl hl (by decide) rfl (fun ls hl => ?_)
  have hE : LE p s m meth c b L xs D (adS adX st) (adS adM st) cA 99 1926 := ⟨hx, hb, hr, hlocks, hml, hown, hts, hX, hbl, hL, hK, hEx _ (fun k hk => adS_hi hk), hEx _ (fun k hk => adS_hi hk), by decide, by decide⟩
  have hl2 : lv_has ls 4 (lvL b (adS adX st) (adS adM st) (nI 0)) := by
    show lv_has ls 4 [(0, .ref b), (1, .ref (adS adX st 0)), (2, .ref (adS adM st 0)), (3, .int (nI 0))]
    rw [hq0', hq1']
    exact lv_sub hl [3, 2, 1, 0] rfl
  exact k D _ _ cA hE H1 _ ls hP3 hD3 hS hl2
end
