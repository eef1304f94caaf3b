/-! ===== the law's frame: the script at b, the class's object, the reference's object, the place i ===== -/
def LE (p : Program) (s : State) (m : MethodId) (meth : Method) (c : Code) (b L : Nat) (xs : Nat → Int32) (D : va_G) (aX aM : Nat → Nat) (cA : Nat → ClassId) (ce sl : Nat) : Prop :=
  p.tables.exec = Jvm.exec ∧ c.code = code ∧ meth.sig.returnType = ret ∧ meth.locks = false ∧ c.maxLocals = 4 ∧ s.vm.findClass RL = some m.cls ∧ (∀ w ∈ wT, w.before #[Value.ref b] s = true) ∧ va_X b L xs s s.heap ∧ b < s.heap.size ∧ L ≤ 320 ∧ va_K D vwCl (tysOf cA) s ∧
    Ex aX (fun q => s.heap.size ≤ q) s s.heap ∧ Ex aM (fun q => s.heap.size ≤ q) s s.heap ∧ ce ≤ 600000 ∧ sl ≤ 7302250
def wxm (aX aM : Nat → Nat) (cA : Nat → ClassId) (x d : DD) (sw : Bool) : va_W := match sw with
  | false => wsOf aX cA SX x ++ wsOf aM cA SM d
  | true => wsOf aM cA SM d ++ wsOf aX cA SX x
abbrev lvL (b : Nat) (aX aM : Nat → Nat) (i : Int32) : List (Nat × Value) := [(0, .ref b), (1, .ref (aX 0)), (2, .ref (aM 0)), (3, .int i)]
def Lv (l : Launch) (e : Env) (below : List Frame) (p : Program) (s : State) (m : MethodId) (meth : Method) (c : Code) (b : Nat) (D : va_G) (aX aM : Nat → Nat) (cA : Nat → ClassId) (ce sl : Nat) (pc : Nat) (st : List Value) (i : Int32) (x d : DD) (sw : Bool) : Prop :=
  ∀ (H : Heap) (locs : List Loc) (la : Array Slot), va_P D vwCl (wxm aX aM cA x d sw) H → va_D (fun q => s.heap.size ≤ q) (wxm aX aM cA x d sw) → va_S (fun q => s.heap.size ≤ q) s.heap H locs → lv_has la 4 (lvL b aX aM i) →
    W p l e room_1 s m #[Value.ref b] below meth c H locs ce sl (lw_Z below #[Value.ref b] s) (F0 m pc la st)
theorem cv_ints (ad : Nat → Nat) : ∀ is : List Int32, (is.map Value.int).map (cv ad) = is.map Value.int := by
  intro is
  induction is with
  | nil => rfl
  | cons a is ih => show _ :: _ = _ :: _; rw [ih]; rfl
section LV
variable {l : Launch} {e : Env} {below : List Frame} {p : Program} {s : State} {m : MethodId} {meth : Method} {c : Code} {b L : Nat} {xs : Nat → Int32} {D : va_G} {aX aM : Nat → Nat} {cA : Nat → ClassId} {ce sl : Nat} {pc : Nat} {st rest : List Value} {i : Int32} {x d : DD} {sw : Bool}
theorem lr_a {k0 : Fin 4} {v : Nat} (E : LE p s m meth c b L xs D aX aM cA ce sl) (hd : decode code pc = .ok (.aload_n k0, 1)) (h : (lvL b aX aM i)[(k0 : Nat)]? = some ((k0 : Nat), .ref v)) (k : Lv l e below p s m meth c b D aX aM cA ce sl (pc + 1) (.ref v :: st) i x d sw) : Lv l e below p s m meth c b D aX aM cA ce sl pc st i x d sw := by
  intro H locs la hP hD hS hl
  obtain ⟨hx, hb, hr, hlk, hml, hown, hts, hX, hbl, hL, hK, hEX, hEM, hce, hsl⟩ := E
  exact lv_aload_n hx hb hd rfl (lv_at hl (k0 : Nat) h) (k H locs la hP hD hS hl)
theorem lr_i {k0 : Fin 4} {v : Int32} (E : LE p s m meth c b L xs D aX aM cA ce sl) (hd : decode code pc = .ok (.iload_n k0, 1)) (h : (lvL b aX aM i)[(k0 : Nat)]? = some ((k0 : Nat), .int v)) (k : Lv l e below p s m meth c b D aX aM cA ce sl (pc + 1) (.int v :: st) i x d sw) : Lv l e below p s m meth c b D aX aM cA ce sl pc st i x d sw := by
  intro H locs la hP hD hS hl
  obtain ⟨hx, hb, hr, hlk, hml, hown, hts, hX, hbl, hL, hK, hEX, hEM, hce, hsl⟩ := E
  exact lv_iload_n hx hb hd rfl (lv_at hl (k0 : Nat) h) (k H locs la hP hD hS hl)
theorem lr_iconst {n : Int} {v : Int32} (E : LE p s m meth c b L xs D aX aM cA ce sl) (hd : decode code pc = .ok (.iconst n, 1)) (hv : Int32.ofInt n = v) (k : Lv l e below p s m meth c b D aX aM cA ce sl (pc + 1) (.int v :: st) i x d sw) : Lv l e below p s m meth c b D aX aM cA ce sl pc st i x d sw := by
  intro H locs la hP hD hS hl
  obtain ⟨hx, hb, hr, hlk, hml, hown, hts, hX, hbl, hL, hK, hEX, hEM, hce, hsl⟩ := E
  exact lv_iconst hx hb hd hv (k H locs la hP hD hS hl)
theorem lr_bipush {n : Int} {v : Int32} (E : LE p s m meth c b L xs D aX aM cA ce sl) (hd : decode code pc = .ok (.bipush n, 2)) (hv : (Int8.ofInt n).toInt32 = v) (k : Lv l e below p s m meth c b D aX aM cA ce sl (pc + 2) (.int v :: st) i x d sw) : Lv l e below p s m meth c b D aX aM cA ce sl pc st i x d sw := by
  intro H locs la hP hD hS hl
  obtain ⟨hx, hb, hr, hlk, hml, hown, hts, hX, hbl, hL, hK, hEX, hEM, hce, hsl⟩ := E
  exact lv_bipush hx hb hd hv (k H locs la hP hD hS hl)
theorem lr_iadd {u v : Int32} (E : LE p s m meth c b L xs D aX aM cA ce sl) (hd : decode code pc = .ok (.iadd, 1)) (k : Lv l e below p s m meth c b D aX aM cA ce sl (pc + 1) (.int (u + v) :: st) i x d sw) : Lv l e below p s m meth c b D aX aM cA ce sl pc (.int v :: .int u :: st) i x d sw := by
  intro H locs la hP hD hS hl
  obtain ⟨hx, hb, hr, hlk, hml, hown, hts, hX, hbl, hL, hK, hEX, hEM, hce, hsl⟩ := E
  exact lv_iadd hx hb hd (k H locs la hP hD hS hl)
theorem lr_isub {u v : Int32} (E : LE p s m meth c b L xs D aX aM cA ce sl) (hd : decode code pc = .ok (.isub, 1)) (k : Lv l e below p s m meth c b D aX aM cA ce sl (pc + 1) (.int (u - v) :: st) i x d sw) : Lv l e below p s m meth c b D aX aM cA ce sl pc (.int v :: .int u :: st) i x d sw := by
  intro H locs la hP hD hS hl
  obtain ⟨hx, hb, hr, hlk, hml, hown, hts, hX, hbl, hL, hK, hEX, hEM, hce, hsl⟩ := E
  exact lv_isub hx hb hd (k H locs la hP hD hS hl)
theorem lr_iand {u v : Int32} (E : LE p s m meth c b L xs D aX aM cA ce sl) (hd : decode code pc = .ok (.iand, 1)) (k : Lv l e below p s m meth c b D aX aM cA ce sl (pc + 1) (.int (u &&& v) :: st) i x d sw) : Lv l e below p s m meth c b D aX aM cA ce sl pc (.int v :: .int u :: st) i x d sw := by
  intro H locs la hP hD hS hl
  obtain ⟨hx, hb, hr, hlk, hml, hown, hts, hX, hbl, hL, hK, hEX, hEM, hce, hsl⟩ := E
  exact lv_iand hx hb hd (k H locs la hP hD hS hl)
theorem lr_len (E : LE p s m meth c b L xs D aX aM cA ce sl) (hd : decode code pc = .ok (.arraylength, 1)) (k : Lv l e below p s m meth c b D aX aM cA ce sl (pc + 1) (.int (nI L) :: st) i x d sw) : Lv l e below p s m meth c b D aX aM cA ce sl pc (.ref b :: st) i x d sw := by
  intro H locs la hP hD hS hl
  obtain ⟨hx, hb, hr, hlk, hml, hown, hts, hX, hbl, hL, hK, hEX, hEM, hce, hsl⟩ := E
  exact va_slen hx hb hX hbl (Nat.not_le.mpr hbl) hS hd (k H locs la hP hD hS hl)
theorem lr_ld {u : Int32} {n : Nat} (E : LE p s m meth c b L xs D aX aM cA ce sl) (hd : decode code pc = .ok (.iaload, 1)) (hu : u = nI n) (hn : n < L) (k : Lv l e below p s m meth c b D aX aM cA ce sl (pc + 1) (.int (xs n) :: st) i x d sw) : Lv l e below p s m meth c b D aX aM cA ce sl pc (.int u :: .ref b :: st) i x d sw := by
  intro H locs la hP hD hS hl
  obtain ⟨hx, hb, hr, hlk, hml, hown, hts, hX, hbl, hL, hK, hEX, hEM, hce, hsl⟩ := E
  subst hu
  refine va_sld hx hb hX hbl (Nat.not_le.mpr hbl) hS (vp_in_nI hn (by omega)) hd ?_
  rw [nI_clamp (by omega)]
  exact k H locs la hP hD hS hl
/-- an argument out of the script -/
theorem lr_arg {n j : Nat} {j9 : Int} (E : LE p s m meth c b L xs D aX aM cA ce sl) (hi : i = nI n) (hn : n + j < L) (h0 : decode code pc = .ok (.aload_n 0, 1)) (h1 : decode code (pc + 1) = .ok (.iload_n 3, 1)) (h2 : decode code (pc + 1 + 1) = .ok (.iconst j9, 1)) (hj : Int32.ofInt j9 = nI j) (h3 : decode code (pc + 1 + 1 + 1) = .ok (.iadd, 1)) (h4 : decode code (pc + 1 + 1 + 1 + 1) = .ok (.iaload, 1)) (k : Lv l e below p s m meth c b D aX aM cA ce sl (pc + 5) (.int (xs (n + j)) :: st) i x d sw) : Lv l e below p s m meth c b D aX aM cA ce sl pc st i x d sw :=
  lr_a E h0 rfl (lr_i E h1 rfl (lr_iconst E h2 hj (lr_iadd E h3 (lr_ld E h4 (by rw [hi, nI_add]) hn k))))
theorem lr_goto {off : Int} {tgt : Nat} (E : LE p s m meth c b L xs D aX aM cA ce sl) (hd : decode code pc = .ok (.goto off, 3)) (ht : (pc : Int) + off = (tgt : Int)) (k : Lv l e below p s m meth c b D aX aM cA ce sl tgt st i x d sw) : Lv l e below p s m meth c b D aX aM cA ce sl pc st i x d sw := by
  intro H locs la hP hD hS hl
  obtain ⟨hx, hb, hr, hlk, hml, hown, hts, hX, hbl, hL, hK, hEX, hEM, hce, hsl⟩ := E
  exact lv_goto hx hb hd ht (k H locs la hP hD hS hl)
theorem lr_eq {off : Int} {tgt : Nat} {u v : Int32} (E : LE p s m meth c b L xs D aX aM cA ce sl) (hd : decode code pc = .ok (.if_icmp .eq off, 3)) (ht : (pc : Int) + off = (tgt : Int)) (huv : u = v) (k : Lv l e below p s m meth c b D aX aM cA ce sl tgt st i x d sw) : Lv l e below p s m meth c b D aX aM cA ce sl pc (.int v :: .int u :: st) i x d sw := by
  intro H locs la hP hD hS hl
  obtain ⟨hx, hb, hr, hlk, hml, hown, hts, hX, hbl, hL, hK, hEX, hEM, hce, hsl⟩ := E
  exact lv_icmp_eq hx hb hd ht (fun _ => k H locs la hP hD hS hl) (fun z => absurd huv z)
theorem lr_pop {u : Int32} (E : LE p s m meth c b L xs D aX aM cA ce sl) (hd : decode code pc = .ok (.pop, 1)) (k : Lv l e below p s m meth c b D aX aM cA ce sl (pc + 1) st i x d sw) : Lv l e below p s m meth c b D aX aM cA ce sl pc (.int u :: st) i x d sw := by
  intro H locs la hP hD hS hl
  obtain ⟨hx, hb, hr, hlk, hml, hown, hts, hX, hbl, hL, hK, hEX, hEM, hce, hsl⟩ := E
  exact lv_pop hx hb hd rfl (k H locs la hP hD hS hl)
theorem lr_pop2 {u : Int64} (E : LE p s m meth c b L xs D aX aM cA ce sl) (hd : decode code pc = .ok (.pop2, 1)) (k : Lv l e below p s m meth c b D aX aM cA ce sl (pc + 1) st i x d sw) : Lv l e below p s m meth c b D aX aM cA ce sl pc (.long u :: st) i x d sw := by
  intro H locs la hP hD hS hl
  obtain ⟨hx, hb, hr, hlk, hml, hown, hts, hX, hbl, hL, hK, hEX, hEM, hce, hsl⟩ := E
  exact lv_pop2_2 hx hb hd rfl (k H locs la hP hD hS hl)
theorem lcmp_eq {u : Int64} : lg_cmp u u = 0 := by
  have h1 := lcmp_lt (x := u) (y := u)
  have h2 := lcmp_gt (x := u) (y := u)
  rw [i_lt, show ((0 : Int32)).toInt = 0 from rfl] at h1 h2
  rw [i_eq, show ((0 : Int32)).toInt = 0 from rfl]
  omega
theorem lr_eqL {off : Int} {tgt : Nat} {u v : Int64} (E : LE p s m meth c b L xs D aX aM cA ce sl) (hd : decode code pc = .ok (.lcmp, 1)) (hd2 : decode code (pc + 1) = .ok (.ifCond .eq off, 3)) (ht : ((pc + 1 : Nat) : Int) + off = (tgt : Int)) (huv : u = v) (k : Lv l e below p s m meth c b D aX aM cA ce sl tgt st i x d sw) : Lv l e below p s m meth c b D aX aM cA ce sl pc (.long v :: .long u :: st) i x d sw := by
  intro H locs la hP hD hS hl
  obtain ⟨hx, hb, hr, hlk, hml, hown, hts, hX, hbl, hL, hK, hEX, hEM, hce, hsl⟩ := E
  subst huv
  refine W.lcmp hx hb hd (lv_if_eq hx hb hd2 ht (fun _ => k H locs la hP hD hS hl) (fun z => absurd lcmp_eq z))
theorem lr_gt {off : Int} {tgt : Nat} {u v : Int32} (E : LE p s m meth c b L xs D aX aM cA ce sl) (hd : decode code pc = .ok (.if_icmp .gt off, 3)) (ht : (pc : Int) + off = (tgt : Int)) (k1 : v < u → Lv l e below p s m meth c b D aX aM cA ce sl tgt st i x d sw) (k2 : ¬ v < u → Lv l e below p s m meth c b D aX aM cA ce sl (pc + 3) st i x d sw) : Lv l e below p s m meth c b D aX aM cA ce sl pc (.int v :: .int u :: st) i x d sw := by
  intro H locs la hP hD hS hl
  obtain ⟨hx, hb, hr, hlk, hml, hown, hts, hX, hbl, hL, hK, hEX, hEM, hce, hsl⟩ := E
  exact lv_icmp_gt hx hb hd ht (fun z => k1 z H locs la hP hD hS hl) (fun z => k2 z H locs la hP hD hS hl)
theorem lr_iinc {n : Int} {v : Int32} (E : LE p s m meth c b L xs D aX aM cA ce sl) (hd : decode code pc = .ok (.iinc 3 n, 3)) (hv : i + Int32.ofInt n = v) (k : Lv l e below p s m meth c b D aX aM cA ce sl (pc + 3) st v x d sw) : Lv l e below p s m meth c b D aX aM cA ce sl pc st i x d sw := by
  intro H locs la hP hD hS hl
  obtain ⟨hx, hb, hr, hlk, hml, hown, hts, hX, hbl, hL, hK, hEX, hEM, hce, hsl⟩ := E
  exact lv_iinc (lv' := [(3, .int v), (0, .ref b), (1, .ref (aX 0)), (2, .ref (aM 0))]) hx hb hd hl (k := 3) rfl hv (by decide) rfl (fun ls hl => k H locs ls hP hD hS (lv_sub hl [1, 2, 3, 0] rfl))
theorem lr_tin {dflt lo hi : Int} {offs : Array Int} {len : Nat} {u : Int32} {off : Int} {tgt : Nat} (E : LE p s m meth c b L xs D aX aM cA ce sl) (hd : decode code pc = .ok (.tableswitch dflt lo hi offs, len)) (h1 : ¬ u.toInt < lo) (h2 : ¬ hi < u.toInt) (ho : offs[(u.toInt - lo).toNat]? = some off) (ht : (pc : Int) + off = (tgt : Int)) (k : Lv l e below p s m meth c b D aX aM cA ce sl tgt st i x d sw) : Lv l e below p s m meth c b D aX aM cA ce sl pc (.int u :: st) i x d sw := by
  intro H locs la hP hD hS hl
  obtain ⟨hx, hb, hr, hlk, hml, hown, hts, hX, hbl, hL, hK, hEX, hEM, hce, hsl⟩ := E
  exact lv_tableIn hx hb hd h1 h2 ho ht (k H locs la hP hD hS hl)
theorem lr_tout {dflt lo hi : Int} {offs : Array Int} {len : Nat} {u : Int32} {tgt : Nat} (E : LE p s m meth c b L xs D aX aM cA ce sl) (hd : decode code pc = .ok (.tableswitch dflt lo hi offs, len)) (h : u.toInt < lo ∨ hi < u.toInt) (ht : (pc : Int) + dflt = (tgt : Int)) (k : Lv l e below p s m meth c b D aX aM cA ce sl tgt st i x d sw) : Lv l e below p s m meth c b D aX aM cA ce sl pc (.int u :: st) i x d sw := by
  intro H locs la hP hD hS hl
  obtain ⟨hx, hb, hr, hlk, hml, hown, hts, hX, hbl, hL, hK, hEX, hEM, hce, hsl⟩ := E
  exact lv_tableOut hx hb hd h ht (k H locs la hP hD hS hl)
theorem lr_ret (E : LE p s m meth c b L xs D aX aM cA ce sl) (hd : decode code pc = .ok (.ireturn, 1)) : Lv l e below p s m meth c b D aX aM cA ce sl pc [.int 1] i x d sw := by
  intro H locs la hP hD hS hl
  obtain ⟨hx, hb, hr, hlk, hml, hown, hts, hX, hbl, hL, hK, hEX, hEM, hce, hsl⟩ := E
  refine va_forget (fun q hq => hS.2.2 q hq) ?_
  refine W.widen hce hsl ?_
  exact lw_ret hx hb hr hlk hd
/-- what a call of the law's needs -/
theorem lc_pre {ad : Nat → Nat} {S : List Shp} {As : List Value} {d : DD} {H : Heap} {locs : List Loc} (hK : va_K D vwCl (tysOf cA) s) (hE : Ex ad (fun q => s.heap.size ≤ q) s s.heap) (hP : va_P D vwCl (wsOf ad cA S d) H) (hD : va_D (fun q => s.heap.size ≤ q) (wsOf ad cA S d)) (hS : va_S (fun q => s.heap.size ≤ q) s.heap H locs) :
    PreS s H (va_Pc (As.map (cv ad)) (fun U => U.heap.size = H.size ∧ va_P D vwCl (wsOf ad cA S d) U.heap ∧ va_K D vwCl (tysOf cA) U ∧ va_D (fun _ => True) (wsOf ad cA S d) ∧ Ex ad (va_A (wsOf ad cA S d) H.size) U U.heap)) (As.map (cv ad)) ∧ ∀ q, va_A (wsOf ad cA S d) H.size q → s.heap.size ≤ q := by
  have hF := va_A_sub (A := fun q => s.heap.size ≤ q) hD hS (fun _ h => h)
  refine ⟨⟨fun a U g mk h => ?_, fun U hU hW => ⟨rfl, by rw [hU], by rw [hU]; exact hP, va_K.moved hW.alike hK, hD.weaken (fun _ _ _ _ => trivial), hE.step hS hU hW hF⟩⟩, hF⟩
  obtain ⟨h1, h2, h3, h4, h5, h6⟩ := h
  exact ⟨h1, h2, h3, va_K.moved (u := U) (U := U.calling g mk a) (Vm.Alike.refl U.vm) h4, h5, Ex.same (u := U) (U := U.calling g mk a) rfl h6⟩
theorem lc_good {M2 : MM} {idx n : Nat} {C0 : String} (hC : (mY M2).cls = C0) (hw : Cond.methodLink RL idx (mY M2) ∈ wT) (mo : MvOk M2 n) : GoodIn wT (wsV RL idx C0 (mY M2) (mW M2)) := by
  obtain ⟨m1, m2, m3, m4, m5⟩ := mo
  subst hC
  intro w hw2
  rcases List.mem_append.mp hw2 with h | h
  · simp only [List.mem_cons, List.not_mem_nil, or_false] at h
    rcases h with rfl | rfl | rfl | rfl
    · exact good1 hw
    · exact good1 m1
    · exact good1 m2
    · exact good1 m3
  · exact mW_good m4 w h
theorem lr_cXi {M2 : MM} {is : List Int32} {q2 : Int32 → DD → Prop} {idx : Nat} (E : LE p s m meth c b L xs D aX aM cA ce sl) (hd : decode code pc = .ok (.invokevirtual idx, 3)) (hw : Cond.methodLink RL idx (mY M2) ∈ wT) (hC : (mY M2).cls = RX4) (mo : MvOk M2 is.length) (hk : mK M2 = 1) (hR : mF M2 + 1 ≤ 11 ∧ 8 + (mL M2 + 11) + mO M2 ≤ 386) (hst : st = (is.map Value.int).reverse ++ .ref (aX 0) :: rest) (hcat : (rest.map fun v => v.category).sum ≤ 8) (hcn : Cn SX M2 (.ref 0 :: is.map Value.int) x (rI q2)) (k : ∀ r x', q2 r x' → Lv l e below p s m meth c b D aX aM cA ce sl (pc + 3) (.int r :: rest) i x' d true) : Lv l e below p s m meth c b D aX aM cA ce sl pc st i x d false := by
  intro H locs la hP hD hS hl
  obtain ⟨hx, hb, hr, hlk, hml, hown, hts, hX, hbl, hL, hK, hEX, hEM, hce, hsl⟩ := E
  subst hst
  have hPa := va_P.lft hP
  have hDa := va_D.lft hD
  obtain ⟨hpre, hF⟩ := lc_pre (As := .ref 0 :: is.map Value.int) hK hEX hPa hDa hS
  have hM := hcn l D aX cA H.size
  rw [show QQ SX (mK M2) D aX cA (va_A (wsOf aX cA SX x) H.size) (rI q2) = va_Qi q2 (fun (d : DD) t => va_P D vwCl (wsOf aX cA SX d) t.heap) (va_A (wsOf aX cA SX x) H.size) by rw [hk]; rfl] at hM
  have eA : (Value.ref 0 :: is.map Value.int).map (cv aX) = .ref (aX 0) :: is.map Value.int := by show _ :: _ = _ :: _; rw [cv_ints]; rfl
  rw [eA] at hpre hM
  refine va_calli (va_runV (As := is.map Value.int) (rest := rest) (C := RX4) ⟨hx, hb, hml, hown, hts⟩ hM (cwV is.length hts (lc_good hC hw mo) rfl rfl rfl ⟨hC, mo.2.2.2.2⟩ hR) ⟨hpre.1, va_recv hK hPa (ci := 4) rfl (wsOf_get sX_0), hpre.2⟩ rfl (by rw [List.length_map]) hl.1 rfl (lv_room hcat) hd ⟨hce, hsl⟩) hS (fun q _ h => hF q h) hF (fun r d2 t H1 locs1 ht hvm hq hB hz hk1 hS1 => ?_)
  rw [ht] at hB
  have hD1 : va_D (va_A (wsOf aX cA SX x) H.size) (wsOf aX cA SX d2) := wsOf_D (hDa.self)
  obtain ⟨hP2, hD2⟩ := wp_join (va_P.rgt hP) (va_D.rgt hD) (fun i j p q hp hq => (va_D.lr hD hq hp).symm) hk1 hF hB hD1
  exact k r d2 hq H1 locs1 la hP2 hD2 hS1 hl
theorem lr_cMi {M2 : MM} {is : List Int32} {q2 : Int32 → DD → Prop} {idx : Nat} (E : LE p s m meth c b L xs D aX aM cA ce sl) (hd : decode code pc = .ok (.invokevirtual idx, 3)) (hw : Cond.methodLink RL idx (mY M2) ∈ wT) (hC : (mY M2).cls = RX5) (mo : MvOk M2 is.length) (hk : mK M2 = 1) (hR : mF M2 + 1 ≤ 11 ∧ 8 + (mL M2 + 11) + mO M2 ≤ 386) (hst : st = (is.map Value.int).reverse ++ .ref (aM 0) :: rest) (hcat : (rest.map fun v => v.category).sum ≤ 8) (hcn : Cn SM M2 (.ref 0 :: is.map Value.int) d (rI q2)) (k : ∀ r d', q2 r d' → Lv l e below p s m meth c b D aX aM cA ce sl (pc + 3) (.int r :: rest) i x d' false) : Lv l e below p s m meth c b D aX aM cA ce sl pc st i x d true := by
  intro H locs la hP hD hS hl
  obtain ⟨hx, hb, hr, hlk, hml, hown, hts, hX, hbl, hL, hK, hEX, hEM, hce, hsl⟩ := E
  subst hst
  have hPa := va_P.lft hP
  have hDa := va_D.lft hD
  obtain ⟨hpre, hF⟩ := lc_pre (As := .ref 0 :: is.map Value.int) hK hEM hPa hDa hS
  have hM := hcn l D aM cA H.size
  rw [show QQ SM (mK M2) D aM cA (va_A (wsOf aM cA SM d) H.size) (rI q2) = va_Qi q2 (fun (d : DD) t => va_P D vwCl (wsOf aM cA SM d) t.heap) (va_A (wsOf aM cA SM d) H.size) by rw [hk]; rfl] at hM
  have eA : (Value.ref 0 :: is.map Value.int).map (cv aM) = .ref (aM 0) :: is.map Value.int := by show _ :: _ = _ :: _; rw [cv_ints]; rfl
  rw [eA] at hpre hM
  refine va_calli (va_runV (As := is.map Value.int) (rest := rest) (C := RX5) ⟨hx, hb, hml, hown, hts⟩ hM (cwV is.length hts (lc_good hC hw mo) rfl rfl rfl ⟨hC, mo.2.2.2.2⟩ hR) ⟨hpre.1, va_recv hK hPa (ci := 5) rfl (wsOf_get sM_0), hpre.2⟩ rfl (by rw [List.length_map]) hl.1 rfl (lv_room hcat) hd ⟨hce, hsl⟩) hS (fun q _ h => hF q h) hF (fun r d2 t H1 locs1 ht hvm hq hB hz hk1 hS1 => ?_)
  rw [ht] at hB
  have hD1 : va_D (va_A (wsOf aM cA SM d) H.size) (wsOf aM cA SM d2) := wsOf_D (hDa.self)
  obtain ⟨hP2, hD2⟩ := wp_join (va_P.rgt hP) (va_D.rgt hD) (fun i j p q hp hq => (va_D.lr hD hq hp).symm) hk1 hF hB hD1
  exact k r d2 hq H1 locs1 la hP2 hD2 hS1 hl
theorem lr_cXl {M2 : MM} {is : List Int32} {q2 : Int64 → DD → Prop} {idx : Nat} (E : LE p s m meth c b L xs D aX aM cA ce sl) (hd : decode code pc = .ok (.invokevirtual idx, 3)) (hw : Cond.methodLink RL idx (mY M2) ∈ wT) (hC : (mY M2).cls = RX4) (mo : MvOk M2 is.length) (hk : mK M2 = 2) (hR : mF M2 + 1 ≤ 11 ∧ 8 + (mL M2 + 11) + mO M2 ≤ 386) (hst : st = (is.map Value.int).reverse ++ .ref (aX 0) :: rest) (hcat : (rest.map fun v => v.category).sum ≤ 8) (hcn : Cn SX M2 (.ref 0 :: is.map Value.int) x (rL q2)) (k : ∀ r x', q2 r x' → Lv l e below p s m meth c b D aX aM cA ce sl (pc + 3) (.long r :: rest) i x' d true) : Lv l e below p s m meth c b D aX aM cA ce sl pc st i x d false := by
  intro H locs la hP hD hS hl
  obtain ⟨hx, hb, hr, hlk, hml, hown, hts, hX, hbl, hL, hK, hEX, hEM, hce, hsl⟩ := E
  subst hst
  have hPa := va_P.lft hP
  have hDa := va_D.lft hD
  obtain ⟨hpre, hF⟩ := lc_pre (As := .ref 0 :: is.map Value.int) hK hEX hPa hDa hS
  have hM := hcn l D aX cA H.size
  rw [show QQ SX (mK M2) D aX cA (va_A (wsOf aX cA SX x) H.size) (rL q2) = va_Ql q2 (fun (d : DD) t => va_P D vwCl (wsOf aX cA SX d) t.heap) (va_A (wsOf aX cA SX x) H.size) by rw [hk]; rfl] at hM
  have eA : (Value.ref 0 :: is.map Value.int).map (cv aX) = .ref (aX 0) :: is.map Value.int := by show _ :: _ = _ :: _; rw [cv_ints]; rfl
  rw [eA] at hpre hM
  refine va_calll (va_runV (As := is.map Value.int) (rest := rest) (C := RX4) ⟨hx, hb, hml, hown, hts⟩ hM (cwV is.length hts (lc_good hC hw mo) rfl rfl rfl ⟨hC, mo.2.2.2.2⟩ hR) ⟨hpre.1, va_recv hK hPa (ci := 4) rfl (wsOf_get sX_0), hpre.2⟩ rfl (by rw [List.length_map]) hl.1 rfl (lv_room hcat) hd ⟨hce, hsl⟩) hS (fun q _ h => hF q h) hF (fun r d2 t H1 locs1 ht hvm hq hB hz hk1 hS1 => ?_)
  rw [ht] at hB
  have hD1 : va_D (va_A (wsOf aX cA SX x) H.size) (wsOf aX cA SX d2) := wsOf_D (hDa.self)
  obtain ⟨hP2, hD2⟩ := wp_join (va_P.rgt hP) (va_D.rgt hD) (fun i j p q hp hq => (va_D.lr hD hq hp).symm) hk1 hF hB hD1
  exact k r d2 hq H1 locs1 la hP2 hD2 hS1 hl
theorem lr_cMl {M2 : MM} {is : List Int32} {q2 : Int64 → DD → Prop} {idx : Nat} (E : LE p s m meth c b L xs D aX aM cA ce sl) (hd : decode code pc = .ok (.invokevirtual idx, 3)) (hw : Cond.methodLink RL idx (mY M2) ∈ wT) (hC : (mY M2).cls = RX5) (mo : MvOk M2 is.length) (hk : mK M2 = 2) (hR : mF M2 + 1 ≤ 11 ∧ 8 + (mL M2 + 11) + mO M2 ≤ 386) (hst : st = (is.map Value.int).reverse ++ .ref (aM 0) :: rest) (hcat : (rest.map fun v => v.category).sum ≤ 8) (hcn : Cn SM M2 (.ref 0 :: is.map Value.int) d (rL q2)) (k : ∀ r d', q2 r d' → Lv l e below p s m meth c b D aX aM cA ce sl (pc + 3) (.long r :: rest) i x d' false) : Lv l e below p s m meth c b D aX aM cA ce sl pc st i x d true := by
  intro H locs la hP hD hS hl
  obtain ⟨hx, hb, hr, hlk, hml, hown, hts, hX, hbl, hL, hK, hEX, hEM, hce, hsl⟩ := E
  subst hst
  have hPa := va_P.lft hP
  have hDa := va_D.lft hD
  obtain ⟨hpre, hF⟩ := lc_pre (As := .ref 0 :: is.map Value.int) hK hEM hPa hDa hS
  have hM := hcn l D aM cA H.size
  rw [show QQ SM (mK M2) D aM cA (va_A (wsOf aM cA SM d) H.size) (rL q2) = va_Ql q2 (fun (d : DD) t => va_P D vwCl (wsOf aM cA SM d) t.heap) (va_A (wsOf aM cA SM d) H.size) by rw [hk]; rfl] at hM
  have eA : (Value.ref 0 :: is.map Value.int).map (cv aM) = .ref (aM 0) :: is.map Value.int := by show _ :: _ = _ :: _; rw [cv_ints]; rfl
  rw [eA] at hpre hM
  refine va_calll (va_runV (As := is.map Value.int) (rest := rest) (C := RX5) ⟨hx, hb, hml, hown, hts⟩ hM (cwV is.length hts (lc_good hC hw mo) rfl rfl rfl ⟨hC, mo.2.2.2.2⟩ hR) ⟨hpre.1, va_recv hK hPa (ci := 5) rfl (wsOf_get sM_0), hpre.2⟩ rfl (by rw [List.length_map]) hl.1 rfl (lv_room hcat) hd ⟨hce, hsl⟩) hS (fun q _ h => hF q h) hF (fun r d2 t H1 locs1 ht hvm hq hB hz hk1 hS1 => ?_)
  rw [ht] at hB
  have hD1 : va_D (va_A (wsOf aM cA SM d) H.size) (wsOf aM cA SM d2) := wsOf_D (hDa.self)
  obtain ⟨hP2, hD2⟩ := wp_join (va_P.rgt hP) (va_D.rgt hD) (fun i j p q hp hq => (va_D.lr hD hq hp).symm) hk1 hF hB hD1
  exact k r d2 hq H1 locs1 la hP2 hD2 hS1 hl
end LV
