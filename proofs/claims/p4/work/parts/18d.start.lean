/-! ===== the law's entry: classes, arrays' classes, String constants, both objects ===== -/
theorem lw_known {s : State} {args : Array Value} (hts : ∀ w ∈ wT, w.before args s = true) : ∃ D : va_G, ∀ (k : Nat) (q : vw_C), vwCl[k]? = some q → u_Kn s q.1 q.2.1 q.2.2 (D.1 k) (D.2 k) := by
  obtain ⟨c0, i0, k0⟩ := u_known (C := RX0) (T := TX0) (N := 13) (n := 13) hts ck0.2.1 (hts _ w76)
  obtain ⟨c1, i1, k1⟩ := u_known (C := RX1) (T := TX1) (N := 10) (n := 10) hts ck1.2.1 (hts _ w192)
  obtain ⟨c2, i2, k2⟩ := u_known (C := RX2) (T := TX2) (N := 4) (n := 4) hts ck2.2.1 (hts _ w234)
  obtain ⟨c3, i3, k3⟩ := u_known (C := RX3) (T := TX3) (N := 7) (n := 7) hts ck3.2.1 (hts _ w161)
  obtain ⟨c4, i4, k4⟩ := u_known (C := RX4) (T := TX4) (N := 13) (n := 13) hts ck4.2.1 (hts _ w68)
  obtain ⟨c5, i5, k5⟩ := u_known (C := RX5) (T := TX5) (N := 35) (n := 35) hts ck5.2.1 (hts _ w761)
  refine ⟨(fun k => [c0, c1, c2, c3, c4, c5].getD k c0, fun k => [i0, i1, i2, i3, i4, i5].getD k i0), ?_⟩
  intro k q hq
  match k, hq with
  | 0, hq => cases hq; exact k0
  | 1, hq => cases hq; exact k1
  | 2, hq => cases hq; exact k2
  | 3, hq => cases hq; exact k3
  | 4, hq => cases hq; exact k4
  | 5, hq => cases hq; exact k5
  | k + 6, hq => simp [vwCl] at hq
theorem lw_arrP {s : State} {args : Array Value} {ty : FieldType} (h : (Cond.arrayClass ty).before args s = true) : ∃ cA, ArrOfT s cA ty ∧ s.vm.findClass ("[" ++ ty.toString) = some cA := by
  obtain ⟨cA, kA, comp, h1, h2, h3⟩ := Cond.arrayClass_spec h
  exact ⟨cA, fun n z => ⟨fun k h => (by cases h), kA, h2, comp, h3⟩, h1⟩
theorem lw_arrQ {s : State} {args : Array Value} {C0 : String} (h : (Cond.arrayOver (.object C0)).before args s = true) : ∃ cA, ArrOfT s cA (.object C0) ∧ va_RA s cA (.object C0) := by
  obtain ⟨comp, cA, kA, h1, h2, h3, h4, h5⟩ := Cond.arrayOver_spec h
  exact ⟨cA, fun n z => ⟨fun k h => (by cases h), kA, h3, comp, h4⟩, kA, comp, h3, h4, h1, h5⟩
theorem lw_cA {s : State} {args : Array Value} (hts : ∀ w ∈ wT, w.before args s = true) (hH : (Cond.arrayOver (.object RX0)).before args s = true) (hS : (Cond.arrayOver (.object RX2)).before args s = true) : ∃ cA : Nat → ClassId, ∀ (k : Nat) (q : ClassId × FieldType), (tysOf cA)[k]? = some q → ArrOfT s q.1 q.2 ∧ va_RA s q.1 q.2 := by
  obtain ⟨a0, h0, g0⟩ := lw_arrP (hts _ w158)
  obtain ⟨a1, h1, g1⟩ := lw_arrP (hts _ w190)
  obtain ⟨a2, h2, g2⟩ := lw_arrQ hH
  obtain ⟨a3, h3, g3⟩ := lw_arrQ hS
  refine ⟨fun k => [a0, a1, a2, a3].getD k a0, ?_⟩
  intro k q hq
  match k, hq with
  | 0, hq => cases hq; exact ⟨h0, g0⟩
  | 1, hq => cases hq; exact ⟨h1, g1⟩
  | 2, hq => cases hq; exact ⟨h2, g2⟩
  | 3, hq => cases hq; exact ⟨h3, g3⟩
  | k + 4, hq => simp [tysOf] at hq
abbrev tmS (i : Nat) : Term := .string "TuneWard$Tape" (strIx.getD i 0)
abbrev nwC : List Cond := flatC (Jvm.Cond.and given_1 narrow_1)
theorem nw_ex : ∀ i : Fin 6, Cond.exactly (tmS i.1) "java/lang/String" ∈ nwC := by decide +kernel
theorem nw_co : ∀ i : Fin 6, Cond.eq (.field (tmS i.1) "java/lang/String" "coder" "B") (.int 0) ∈ nwC := by decide +kernel
theorem nw_ar : ∀ i : Fin 6, Cond.arrayOf (.field (tmS i.1) "java/lang/String" "value" "[B") .byte ∈ nwC := by decide +kernel
theorem nw_le : ∀ i : Fin 6, Cond.eq (.length (.field (tmS i.1) "java/lang/String" "value" "[B")) (.int (Int32.ofNat (strLen.getD i.1 0))) ∈ nwC := by decide +kernel
theorem nw_el : ∀ (i : Fin 6) (j : Fin 7), j.1 < strLen.getD i.1 0 → Cond.eq (.elem (.field (tmS i.1) "java/lang/String" "value" "[B") (.int (Int32.ofNat j.1))) (.int ((strByt.getD i.1 []).getD j.1 0)) ∈ nwC := by decide +kernel
theorem nw_ne : ∀ (i j : Fin 6), i.1 ≠ j.1 → Cond.not (Cond.eq (tmS i.1) (tmS j.1)) ∈ nwC ∨ Cond.not (Cond.eq (tmS j.1) (tmS i.1)) ∈ nwC := by decide +kernel
theorem lw_Ex {s : State} {args : Array Value} (hg : (Jvm.Cond.and given_1 narrow_1).before args s = true) (hts : ∀ w ∈ lw_tbl, w.before args s = true) : ∃ st : Nat → Nat, ∀ ad : Nat → Nat, (∀ k, 1000 ≤ k → ad k = st k) → Ex ad (fun q => s.heap.size ≤ q) s s.heap := by
  have hA : ∀ a : Nat, a < s.heap.size → ¬ (fun q : Nat => s.heap.size ≤ q) a := fun a h => Nat.not_le.mpr h
  have hs := flat_of_before _ hg
  obtain ⟨adK, adV, h1, h2⟩ := vk_Sof (args := args) (s := s) (N := 6) (tm := tmS) (len := strLen) (byt := strByt) (A := fun q => s.heap.size ≤ q) (fun i hi => Nat.lt_of_le_of_lt (strLen7 ⟨i, hi⟩) (by decide)) (fun i hi => hs _ (nw_ex ⟨i, hi⟩)) (fun i hi => hs _ (nw_co ⟨i, hi⟩)) (fun i hi => hs _ (nw_ar ⟨i, hi⟩)) (fun i hi => hs _ (nw_le ⟨i, hi⟩)) (fun i hi j hj => hs _ (nw_el ⟨i, hi⟩ ⟨j, Nat.lt_of_lt_of_le hj (strLen7 ⟨i, hi⟩)⟩ hj)) (fun i j hi hj hij => (nw_ne ⟨i, hi⟩ ⟨j, hj⟩ hij).imp (hs _) (hs _)) hA
  have hc : va_Z "java/lang/String" "COMPACT_STRINGS" "Z" (.int 1) (fun q => s.heap.size ≤ q) s s.heap := va_Zof (hts _ w354) (hts _ (wT_in _ w60)) (va_eqi (hs _ (by decide +kernel))) hA
  have hz : va_Zq "jdk/internal/util/Preconditions" "SIOOBE_FORMATTER" "Ljava/util/function/BiFunction;" (fun q => s.heap.size ≤ q) s s.heap := va_Zqof (hts _ w370) (hts _ (wT_in _ w62)) (hs _ (by decide +kernel)) hA
  obtain ⟨z, hz⟩ : ∃ z, va_Z "jdk/internal/util/Preconditions" "SIOOBE_FORMATTER" "Ljava/util/function/BiFunction;" .null (fun q => s.heap.size ≤ q) s s.heap ∨ va_Z "jdk/internal/util/Preconditions" "SIOOBE_FORMATTER" "Ljava/util/function/BiFunction;" (.ref z) (fun q => s.heap.size ≤ q) s s.heap := by
    rcases hz with h | ⟨t, h⟩
    · exact ⟨0, Or.inl h⟩
    · exact ⟨t, Or.inr h⟩
  refine ⟨fun k => if k < 2000 then adK (k - 1000) else if k < 3000 then adV (k - 2000) else z, fun ad had => ⟨?_, ?_, ?_, hc, ?_⟩⟩
  · intro i w hw
    match i, hw with
    | 0, e => cases e; exact va_Nw.of rfl (hts _ w327)
    | 1, e => cases e; exact va_Nw.of rfl (hts _ w430)
    | 2, e => cases e; exact va_Nw.of rfl (hts _ w530)
    | n + 3, e => simp [nestL] at e
  · intro i hi
    have e1 : ad (1000 + i) = adK i := by
      rw [had _ (by omega)]
      show (if 1000 + i < 2000 then adK (1000 + i - 1000) else _) = _
      rw [if_pos (by omega), Nat.add_sub_cancel_left]
    rw [e1]
    refine vk_R.of (A := args) (hts _ ?_) (h2 i hi)
    match i, hi with
    | 0, _ => exact w340
    | 1, _ => exact w409
    | 2, _ => exact w410
    | 3, _ => exact w411
    | 4, _ => exact w412
    | 5, _ => exact w417
  · obtain ⟨g1, g2⟩ := h1
    have e1 : ∀ i, i < 6 → ad (1000 + i) = adK i := fun i hi => by
      rw [had _ (by omega)]
      show (if 1000 + i < 2000 then adK (1000 + i - 1000) else _) = _
      rw [if_pos (by omega), Nat.add_sub_cancel_left]
    have e2 : ∀ i, i < 6 → ad (2000 + i) = adV i := fun i hi => by
      rw [had _ (by omega)]
      show (if 2000 + i < 2000 then _ else if 2000 + i < 3000 then adV (2000 + i - 2000) else _) = _
      rw [if_neg (by omega), if_pos (by omega), Nat.add_sub_cancel_left]
    refine ⟨fun i hi => ?_, fun i j hi hj e => g2 i j hi hj (by rw [← e1 i hi, ← e1 j hj]; exact e)⟩
    have := g1 i hi
    rw [← e1 i hi, ← e2 i hi] at this
    exact this
  · have e3 : ad 3000 = z := by
      rw [had _ (by omega)]
      show (if 3000 < 2000 then _ else if 3000 < 3000 then _ else z) = _
      rw [if_neg (by omega), if_neg (by omega)]
    rw [e3]
    exact hz
/-- addresses may be named anew where no shape looks -/
theorem wsOf_ad {ad ad2 : Nat → Nat} {cA : Nat → ClassId} {S : List Shp} {d : DD} {N : Nat} (hl : S.length ≤ N) (hr : ∀ q ∈ S, ∀ o ∈ q.2.2, ∀ r, o = some r → r < N) (h : ∀ k, k < N → ad2 k = ad k) : wsOf ad cA S d = wsOf ad2 cA S d := by
  refine List.ext_getElem? fun k => ?_
  simp only [wsOf, List.getElem?_mapIdx]
  cases hk : S[k]? with
  | none => rfl
  | some q =>
    have hkl := (List.getElem?_eq_some_iff.mp hk).1
    have hq := hr q (List.mem_of_getElem? hk)
    show some (ad k, ent ad cA (d k) q) = some (ad2 k, ent ad2 cA (d k) q)
    rw [h k (by omega)]
    have e1 : slotsOf ad (d k) q.2.2 = slotsOf ad2 (d k) q.2.2 := by
      refine List.ext_getElem? fun j => ?_
      simp only [slotsOf, List.getElem?_mapIdx]
      cases hj : q.2.2[j]? with
      | none => rfl
      | some o =>
        cases o with
        | none => rfl
        | some r => show some (Value.ref (ad r)) = some (Value.ref (ad2 r)); rw [h r (hq _ (List.mem_of_getElem? hj) r rfl)]
    have e2 : refsOf ad q.2.2 = refsOf ad2 q.2.2 := by
      funext j
      unfold refsOf
      rw [List.getD_eq_getElem?_getD]
      cases hj : q.2.2[j]? with
      | none => rfl
      | some o =>
        cases o with
        | none => rfl
        | some r => show some (ad r) = some (ad2 r); rw [h r (hq _ (List.mem_of_getElem? hj) r rfl)]
    unfold ent
    rw [e1, e2]
theorem sx_small : ∀ q ∈ SX, ∀ o ∈ q.2.2, ∀ r, o = some r → r < 1000 := by
  have : (SX.all fun q => q.2.2.all fun o => match o with | none => true | some r => decide (r < 1000)) = true := by decide +kernel
  intro q hq o ho r e
  have h1 := List.all_eq_true.mp (List.all_eq_true.mp this q hq) o ho
  rw [e] at h1
  exact of_decide_eq_true h1
theorem sm_small : ∀ q ∈ SM, ∀ o ∈ q.2.2, ∀ r, o = some r → r < 1000 := by
  have : (SM.all fun q => q.2.2.all fun o => match o with | none => true | some r => decide (r < 1000)) = true := by decide +kernel
  intro q hq o ho r e
  have h1 := List.all_eq_true.mp (List.all_eq_true.mp this q hq) o ho
  rw [e] at h1
  exact of_decide_eq_true h1
def adS (ad st : Nat → Nat) (k : Nat) : Nat := if k < 1000 then ad k else st k
theorem adS_lo {ad st : Nat → Nat} {k : Nat} (h : k < 1000) : adS ad st k = ad k := if_pos h
theorem adS_hi {ad st : Nat → Nat} {k : Nat} (h : 1000 ≤ k) : adS ad st k = st k := if_neg (by omega)
/-- from the entry to the loop's head -/
theorem law_head {p : Program} {e : Env} {s : State} {m : MethodId} {below : List Frame} {meth : Method} {c : Code} (l : Launch) {b L : Nat} {xs : Nat → Int32} (hL : L ≤ 320) (C0 : lw_At p s m meth c b L xs) (k : ∀ D aX aM cA, LE p s m meth c b L xs D aX aM cA 99 1926 → Lv l e below p s m meth c b D aX aM cA 99 1926 18 [] (nI 0) x00 dM0 false) : W p l e room_1 s m #[Value.ref b] below meth c s.heap [] 0 0 (lw_Z below #[Value.ref b] s) (entryFrame m ([Value.ref b] : List Value).toArray 4) := by
  obtain ⟨hx, hb, hr, hml, hown, htb, hX, hbl, hlocks, hgv⟩ := id C0
  have hts : ∀ w ∈ wT, w.before #[Value.ref b] s = true := fun w h => htb w (wT_in w h)
  have hA : ∀ q : Nat, s.heap.size ≤ q → (fun q : Nat => s.heap.size ≤ q) q := fun _ h => h
  obtain ⟨D, hKn⟩ := lw_known hts
  obtain ⟨cA, hcA⟩ := lw_cA hts (htb _ w159) (htb _ w233)
  obtain ⟨st, hEx⟩ := lw_Ex hgv htb
  have hNf : Nf s := ⟨fun i w hw => by
    match i, hw with
    | 0, e => cases e; exact va_Nw.of rfl (htb _ w77)
    | 1, e => cases e; exact va_Nw.of rfl (htb _ w162)
    | 2, e => cases e; exact va_Nw.of rfl (htb _ w193)
    | 3, e => cases e; exact va_Nw.of rfl (htb _ w235)
    | n + 4, e => simp [nestC] at e, va_AO.of (htb _ w159), va_AO.of (htb _ w233)⟩
  have hK : va_K D vwCl (tysOf cA) s := ⟨hKn, hcA⟩
  have hS : va_S (fun q : Nat => s.heap.size ≤ q) s.heap s.heap [] := va_S.rf
  have hP : va_P D vwCl [] s.heap := fun k q h => by simp at h
  have hD : va_D (fun q : Nat => s.heap.size ≤ q) [] := ⟨fun i j p q h => by simp at h, fun k q h => by simp at h⟩
  have hl := lv_entry ([.ref b]) (n := 4) (Nat.le_of_ble_eq_true rfl)
  rw [lg_entry_eq]
  generalize (lg_sl ([.ref b]) ++ List.replicate (4 - (lg_sl ([.ref b])).length) Slot.unset).toArray = ls at hl ⊢
  have hl : lv_has ls 4 [(0, .ref b)] := hl
  refine va_new (ci := 4) (fs := [.null, .null, .null, .null, .null, .null, .null, .null, .null, .null, .null, .int 0, .int 0]) hx hb hts ck4.2.1 tyX4 ck4.2.2.1 hown (hts _ w67) (hts _ w68) (hts _ w54) hK hP hD hS hA rfl raw_X4 (Nat.le_of_ble_eq_true rfl) (Nat.le_of_ble_eq_true rfl) dL_law_0 (fun q0 H hP hD hS => ?_)
  refine lv_dup hx hb dL_law_3 rfl ?_
  have hFc := va_A_sub (A := fun q : Nat => s.heap.size ≤ q) hD hS hA
  refine va_callv (va_runI (As := []) (rest := [.ref q0]) ⟨hx, hb, hml, hown, hts⟩ (c_X4_init cA l D q0 H.size) (cwI 0 hts (mW_good (M2 := MX4_init) w71) rfl rfl rfl (hts _ w54) (hts _ w69) (hts _ w70) rfl (by decide +kernel) ⟨Nat.le_of_ble_eq_true rfl, Nat.le_of_ble_eq_true rfl⟩) ⟨fun a U g mk h => ?_, fun U hU hW => ⟨rfl, by rw [hU], by rw [hU]; exact hP, va_K.moved hW.alike hK, hD.weaken (fun _ _ _ _ => trivial), Nf.warm hW hNf⟩⟩ rfl rfl hl.1 rfl (lv_room (Nat.le_of_ble_eq_true rfl)) dL_law_4 ⟨Nat.le_of_ble_eq_true rfl, Nat.le_of_ble_eq_true rfl⟩) hS (fun q _ h => hFc q h) hFc (fun w t H1 locs1 ht hvm hq hB hz1 hk1 hS => ?_)
  · obtain ⟨q0, q1, qP, qK, qD, qN⟩ := h
    exact ⟨q0, q1, qP, va_K.moved (u := U) (U := U.calling g mk a) (Vm.Alike.refl U.vm) qK, qD, Nf.same (u := U) (U := U.calling g mk a) rfl qN⟩
  obtain ⟨adX, hq0, hperm⟩ := hq
  obtain ⟨hP1, hD1⟩ := hB
  rw [ht] at hP1
  have eX : wsOf adX cA SX (fun _ _ => 0) = wsOf (adS adX st) cA SX x00 := wsOf_ad (N := 1000) (Nat.le_of_ble_eq_true rfl) sx_small (fun k hk => adS_lo hk)
  rw [eX] at hperm
  have hP2 := hP1.perm hperm
  have hD2 := (hD1.weaken (B := fun q : Nat => s.heap.size ≤ q) (fun k q _ h => hFc q.1 h)).perm hperm
  have hq0' : adS adX st 0 = q0 := (adS_lo (by omega)).trans hq0
  clear hP hD hP1 hD1 hk1 hFc hperm eX
  refine lv_astore_n (lv' := [(1, .ref q0), (0, .ref b)]) hx hb dL_law_7 rfl hl (by decide) rfl (fun ls hl => ?_)
  refine va_new (ci := 5) (fs := [.null, .int 0, .int 0, .int 0, .null, .int 0, .int 0, .int 0, .int 0, .null, .int 0, .int 0, .int 0, .int 0, .int 0, .int 0, .int 0, .int 0, .null, .null, .null, .null, .null, .null, .null, .null, .int 0, .null, .int 0, .int 0, .null, .null, .null, .null, .int 0]) hx hb hts ck5.2.1 tyX5 ck5.2.2.1 hown (hts _ w760) (hts _ w761) (hts _ w59) hK hP2 hD2 hS hA rfl raw_X5 (Nat.le_of_ble_eq_true rfl) (Nat.le_of_ble_eq_true rfl) dL_law_8 (fun q1 H hP hD hS => ?_)
  refine lv_dup hx hb dL_law_11 rfl ?_
  have hPc := va_P.rgt hP
  have hDc := va_D.rgt hD
  have hFc := va_A_sub (A := fun q : Nat => s.heap.size ≤ q) hDc hS hA
  refine va_callv (va_runI (As := []) (rest := [.ref q1]) ⟨hx, hb, hml, hown, hts⟩ (c_X5_init cA l D q1 H.size) (cwI 0 hts (mW_good (M2 := MX5_init) w764) rfl rfl rfl (hts _ w59) (hts _ w762) (hts _ w763) rfl (by decide +kernel) ⟨Nat.le_of_ble_eq_true rfl, Nat.le_of_ble_eq_true rfl⟩) ⟨fun a U g mk h => ?_, fun U hU hW => ⟨rfl, by rw [hU], by rw [hU]; exact hPc, va_K.moved hW.alike hK, hDc.weaken (fun _ _ _ _ => trivial), Nf.warm hW hNf⟩⟩ rfl rfl hl.1 rfl (lv_room (Nat.le_of_ble_eq_true rfl)) dL_law_12 ⟨Nat.le_of_ble_eq_true rfl, Nat.le_of_ble_eq_true rfl⟩) hS (fun q _ h => hFc q h) hFc (fun w t H1 locs1 ht hvm hq hB hz1 hk1 hS => ?_)
  · obtain ⟨q0, q1, qP, qK, qD, qN⟩ := h
    exact ⟨q0, q1, qP, va_K.moved (u := U) (U := U.calling g mk a) (Vm.Alike.refl U.vm) qK, qD, Nf.same (u := U) (U := U.calling g mk a) rfl qN⟩
  obtain ⟨adM, hq1, rfl⟩ := hq
  obtain ⟨hP1, hD1⟩ := hB
  rw [ht] at hP1
  have eM : wsOf adM cA SM dM0 = wsOf (adS adM st) cA SM dM0 := wsOf_ad (N := 1000) (Nat.le_of_ble_eq_true rfl) sm_small (fun k hk => adS_lo hk)
  rw [eM] at hP1 hD1
  have hq1' : adS adM st 0 = q1 := (adS_lo (by omega)).trans hq1
  obtain ⟨hP3, hD3⟩ := wp_join (va_P.lft hP) (va_D.lft hD) (fun i j p q hp hq => va_D.lr hD hp hq) hk1 hFc hP1 hD1
  refine lv_astore_n (lv' := [(2, .ref q1), (1, .ref q0), (0, .ref b)]) hx hb dL_law_15 rfl hl (by decide) rfl (fun ls hl => ?_)
  refine lv_iconst (v := 0) hx hb dL_law_16 (by decide) ?_
  refine lv_istore_n (lv' := [(3, .int 0), (2, .ref q1), (1, .ref q0), (0, .ref b)]) hx hb dL_law_17 rfl hl (by decide) rfl (fun ls hl => ?_)
  have hE : LE p s m meth c b L xs D (adS adX st) (adS adM st) cA 99 1926 := ⟨hx, hb, hr, hlocks, hml, hown, hts, hX, hbl, hL, hK, hEx _ (fun k hk => adS_hi hk), hEx _ (fun k hk => adS_hi hk), by decide, by decide⟩
  have hl2 : lv_has ls 4 (lvL b (adS adX st) (adS adM st) (nI 0)) := by
    show lv_has ls 4 [(0, .ref b), (1, .ref (adS adX st 0)), (2, .ref (adS adM st 0)), (3, .int (nI 0))]
    rw [hq0', hq1']
    exact lv_sub hl [3, 2, 1, 0] rfl
  exact k D _ _ cA hE H1 _ ls hP3 hD3 hS hl2
