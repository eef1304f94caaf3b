section
/-! ===== the law's frame: the script at b, the class's object, the reference's object, the place i ===== -/
def LE (p : Program) (s : State) (m : MethodId) (meth : Method) (c : Code) (b L : Nat) (xs : Nat → Int32) (D : va_G) (aX aM : Nat → Nat) (cA : Nat → ClassId) (ce sl : Nat) : Prop :=
  p.tables.exec = Jvm.exec ∧ c.code = code ∧ meth.sig.returnType = ret ∧ meth.locks = false ∧ c.maxLocals = 4 ∧ s.vm.findClass RL = some m.cls ∧ (∀ w ∈ wT, w.before #[Value.ref b] s = true) ∧ va_X b L xs s s.heap ∧ b < s.heap.size ∧ L ≤ 320 ∧ va_K D vwCl (tysOf cA) s ∧
    Ex aX (fun q => s.heap.size ≤ q) s s.heap ∧ Ex aM (fun q => s.heap.size ≤ q) s s.heap ∧ ce ≤ 600000 ∧ sl ≤ 7302250
def wxm (aX aM : Nat → Nat) (cA : Nat → ClassId) (x d : DD) (sw : Bool) : va_W := match sw with
  | false => wsOf aX cA SX x ++ wsOf aM cA SM d
  | true => wsOf aM cA SM d ++ wsOf aX cA SX x
abbrev lvL (b : Nat) (aX aM : Nat → Nat) (i : Int32) : List (Nat × Value) := [(0, .ref b), (1, .ref (aX 0)), (2, .ref (aM 0)), (3, .int i)]
def Lv (l : Launch) (e : Env) (below : List Frame) (p : Program) (s : State) (m : MethodId) (meth : Method) (c : Code) (b : Nat) (D : va_G) (aX aM : Nat → Nat) (cA : Nat → ClassId) (ce sl : Nat) (pc : Nat) (st : List Value) (i : Int32) (x d : DD) (sw : Bool) : Prop :=
  ∀ (H : Heap) (locs : List Loc) (la : Array Slot), va_P D vwCl (wxm aX aM cA x d sw) H → va_D (fun q => s.heap.size ≤ q) (wxm aX aM cA x d sw) → va_S (fun q => s.heap.size ≤ q) s.heap H locs → lv_has la 4 (lvL b aX aM i) →
    W p l e room_1 s m #[Value.ref b] below meth c H locs ce sl (lw_Z below #[Value.ref b] s) (F0 m pc la st)
theorem cv_ints (ad : Nat → Nat) : ∀ is : List Int32, (is.map Value.int).map (cv ad) = is.map Value.int := by
  intro is
  induction is with
  | nil => rfl
  | cons a is ih => show _ :: _ = _ :: _; rw [ih]; rfl
section LV
variable {l : Launch} {e : Env} {below : List Frame} {p : Program} {s : State} {m : MethodId} {meth : Method} {c : Code} {b L : Nat} {xs : Nat → Int32} {D : va_G} {aX aM : Nat → Nat} {cA : Nat → ClassId} {ce sl : Nat} {pc : Nat} {st rest : List Value} {i : Int32} {x d : DD} {sw : Bool}
theorem lr_a {k0 : Fin 4} {v : Nat} (E : LE p s m meth c b L xs D aX aM cA ce sl) (hd : decode code pc = .ok (.aload_n k0, 1)) (h : (lvL b aX aM i)[(k0 : Nat)]? = some ((k0 : Nat), .ref v)) (k : Lv l e below p s m meth c b D aX aM cA ce sl (pc + 1) (.ref v :: st) i x d sw) : Lv l e below p s m meth c b D aX aM cA ce sl pc st i x d sw := by
  intro H locs la hP hD hS hl
  obtain ⟨hx, hb, hr, hlk, hml, hown, hts, hX, hbl, hL, hK, hEX, hEM, hce, hsl⟩ := E
  exact lv_aload_n hx hb hd rfl (lv_at hl (k0 : Nat) h) (k H locs la hP hD hS hl)
theorem lr_i {k0 : Fin 4} {v : Int32} (E : LE p s m meth c b L xs D aX aM cA ce sl) (hd : decode code pc = .ok (.iload_n k0, 1)) (h : (lvL b aX aM i)[(k0 : Nat)]? = some ((k0 : Nat), .int v)) (k : Lv l e below p s m meth c b D aX aM cA ce sl (pc + 1) (.int v :: st) i x d sw) : Lv l e below p s m meth c b D aX aM cA ce sl pc st i x d sw := by
  intro H locs la hP hD hS hl
  obtain ⟨hx, hb, hr, hlk, hml, hown, hts, hX, hbl, hL, hK, hEX, hEM, hce, hsl⟩ := E
  exact lv_iload_n hx hb hd rfl (lv_at hl (k0 : Nat) h) (k H locs la hP hD hS hl)
theorem lr_iconst {n : Int} {v : Int32} (E : LE p s m meth c b L xs D aX aM cA ce sl) (hd : decode code pc = .ok (.iconst n, 1)) (hv : Int32.ofInt n = v) (k : Lv l e below p s m meth c b D aX aM cA ce sl (pc + 1) (.int v :: st) i x d sw) : Lv l e below p s m meth c b D aX aM cA ce sl pc st i x d sw := by
  intro H locs la hP hD hS hl
  obtain ⟨hx, hb, hr, hlk, hml, hown, hts, hX, hbl, hL, hK, hEX, hEM, hce, hsl⟩ := E
  exact lv_iconst hx hb hd hv (k H locs la hP hD hS hl)
theorem lr_bipush {n : Int} {v : Int32} (E : LE p s m meth c b L xs D aX aM cA ce sl) (hd : decode code pc = .ok (.bipush n, 2)) (hv : (Int8.ofInt n).toInt32 = v) (k : Lv l e below p s m meth c b D aX aM cA ce sl (pc + 2) (.int v :: st) i x d sw) : Lv l e below p s m meth c b D aX aM cA ce sl pc st i x d sw := by
  intro H locs la hP hD hS hl
  obtain ⟨hx, hb, hr, hlk, hml, hown, hts, hX, hbl, hL, hK, hEX, hEM, hce, hsl⟩ := E
  exact lv_bipush hx hb hd hv (k H locs la hP hD hS hl)
theorem lr_iadd {u v : Int32} (E : LE p s m meth c b L xs D aX aM cA ce sl) (hd : decode code pc = .ok (.iadd, 1)) (k : Lv l e below p s m meth c b D aX aM cA ce sl (pc + 1) (.int (u + v) :: st) i x d sw) : Lv l e below p s m meth c b D aX aM cA ce sl pc (.int v :: .int u :: st) i x d sw := by
  intro H locs la hP hD hS hl
  obtain ⟨hx, hb, hr, hlk, hml, hown, hts, hX, hbl, hL, hK, hEX, hEM, hce, hsl⟩ := E
  exact lv_iadd hx hb hd (k H locs la hP hD hS hl)
theorem lr_isub {u v : Int32} (E : LE p s m meth c b L xs D aX aM cA ce sl) (hd : decode code pc = .ok (.isub, 1)) (k : Lv l e below p s m meth c b D aX aM cA ce sl (pc + 1) (.int (u - v) :: st) i x d sw) : Lv l e below p s m meth c b D aX aM cA ce sl pc (.int v :: .int u :: st) i x d sw := by
  intro H locs la hP hD hS hl
  obtain ⟨hx, hb, hr, hlk, hml, hown, hts, hX, hbl, hL, hK, hEX, hEM, hce, hsl⟩ := E
  exact lv_isub hx hb hd (k H locs la hP hD hS hl)
theorem lr_iand {u v : Int32} (E : LE p s m meth c b L xs D aX aM cA ce sl) (hd : decode code pc = .ok (.iand, 1)) (k : Lv l e below p s m meth c b D aX aM cA ce sl (pc + 1) (.int (u &&& v) :: st) i x d sw) : Lv l e below p s m meth c b D aX aM cA ce sl pc (.int v :: .int u :: st) i x d sw := by
  intro H locs la hP hD hS hl
  obtain ⟨hx, hb, hr, hlk, hml, hown, hts, hX, hbl, hL, hK, hEX, hEM, hce, hsl⟩ := E
  exact lv_iand hx hb hd (k H locs la hP hD hS hl)
theorem lr_len (E : LE p s m meth c b L xs D aX aM cA ce sl) (hd : decode code pc = .ok (.arraylength, 1)) (k : Lv l e below p s m meth c b D aX aM cA ce sl (pc + 1) (.int (nI L) :: st) i x d sw) : Lv l e below p s m meth c b D aX aM cA ce sl pc (.ref b :: st) i x d sw := by
  intro H locs la hP hD hS hl
  obtain ⟨hx, hb, hr, hlk, hml, hown, hts, hX, hbl, hL, hK, hEX, hEM, hce, hsl⟩ := E
  exact va_slen hx hb hX hbl (Nat.not_le.mpr hbl) hS hd (k H locs la hP hD hS hl)
theorem lr_ld {u : Int32} {n : Nat} (E : LE p s m meth c b L xs D aX aM cA ce sl) (hd : decode code pc = .ok (.iaload, 1)) (hu : u = nI n) (hn : n < L) (k : Lv l e below p s m meth c b D aX aM cA ce sl (pc + 1) (.int (xs n) :: st) i x d sw) : Lv l e below p s m meth c b D aX aM cA ce sl pc (.int u :: .ref b :: st) i x d sw := by
  intro H locs la hP hD hS hl
  obtain ⟨hx, hb, hr, hlk, hml, hown, hts, hX, hbl, hL, hK, hEX, hEM, hce, hsl⟩ := E
  subst hu
  refine va_sld hx hb hX hbl (Nat.not_le.mpr hbl) hS (vp_in_nI hn (by omega)) hd ?_
  rw [nI_clamp (by omega)]
  exact k H locs la hP hD hS hl
/-- an argument out of the script -/
theorem lr_arg {n j : Nat} {j9 : Int} (E : LE p s m meth c b L xs D aX aM cA ce sl) (hi : i = nI n) (hn : n + j < L) (h0 : decode code pc = .ok (.aload_n 0, 1)) (h1 : decode code (pc + 1) = .ok (.iload_n 3, 1)) (h2 : decode code (pc + 1 + 1) = .ok (.iconst j9, 1)) (hj : Int32.ofInt j9 = nI j) (h3 : decode code (pc + 1 + 1 + 1) = .ok (.iadd, 1)) (h4 : decode code (pc + 1 + 1 + 1 + 1) = .ok (.iaload, 1)) (k : Lv l e below p s m meth c b D aX aM cA ce sl (pc + 5) (.int (xs (n + j)) :: st) i x d sw) : Lv l e below p s m meth c b D aX aM cA ce sl pc st i x d sw :=
  lr_a E h0 rfl (lr_i E h1 rfl (lr_iconst E h2 hj (lr_iadd E h3 (lr_ld E h4 (by rw [hi, nI_add]) hn k))))
theorem lr_goto {off : Int} {tgt : Nat} (E : LE p s m meth c b L xs D aX aM cA ce sl) (hd : decode code pc = .ok (.goto off, 3)) (ht : (pc : Int) + off = (tgt : Int)) (k : Lv l e below p s m meth c b D aX aM cA ce sl tgt st i x d sw) : Lv l e below p s m meth c b D aX aM cA ce sl pc st i x d sw := by
  intro H locs la hP hD hS hl
  obtain ⟨hx, hb, hr, hlk, hml, hown, hts, hX, hbl, hL, hK, hEX, hEM, hce, hsl⟩ := E
  exact lv_goto hx hb hd ht (k H locs la hP hD hS hl)
theorem lr_eq {off : Int} {tgt : Nat} {u v : Int32} (E : LE p s m meth c b L xs D aX aM cA ce sl) (hd : decode code pc = .ok (.if_icmp .eq off, 3)) (ht : (pc : Int) + off = (tgt : Int)) (huv : u = v) (k : Lv l e below p s m meth c b D aX aM cA ce sl tgt st i x d sw) : Lv l e below p s m meth c b D aX aM cA ce sl pc (.int v :: .int u :: st) i x d sw := by
  intro H locs la hP hD hS hl
  obtain ⟨hx, hb, hr, hlk, hml, hown, hts, hX, hbl, hL, hK, hEX, hEM, hce, hsl⟩ := E
  exact lv_icmp_eq hx hb hd ht (fun _ => k H locs la hP hD hS hl) (fun z => absurd huv z)
theorem lr_pop {u : Int32} (E : LE p s m meth c b L xs D aX aM cA ce sl) (hd : decode code pc = .ok (.pop, 1)) (k : Lv l e below p s m meth c b D aX aM cA ce sl (pc + 1) st i x d sw) : Lv l e below p s m meth c b D aX aM cA ce sl pc (.int u :: st) i x d sw := by
  intro H locs la hP hD hS hl
  obtain ⟨hx, hb, hr, hlk, hml, hown, hts, hX, hbl, hL, hK, hEX, hEM, hce, hsl⟩ := E
  exact lv_pop hx hb hd rfl (k H locs la hP hD hS hl)
theorem lr_pop2 {u : Int64} (E : LE p s m meth c b L xs D aX aM cA ce sl) (hd : decode code pc = .ok (.pop2, 1)) (k : Lv l e below p s m meth c b D aX aM cA ce sl (pc + 1) st i x d sw) : Lv l e below p s m meth c b D aX aM cA ce sl pc (.long u :: st) i x d sw := by
  intro H locs la hP hD hS hl
  obtain ⟨hx, hb, hr, hlk, hml, hown, hts, hX, hbl, hL, hK, hEX, hEM, hce, hsl⟩ := E
  exact lv_pop2_2 hx hb hd rfl (k H locs la hP hD hS hl)
theorem lcmp_eq {u : Int64} : lg_cmp u u = 0 := by
  have h1 := lcmp_lt (x := u) (y := u)
  have h2 := lcmp_gt (x := u) (y := u)
  rw [i_lt, show ((0 : Int32)).toInt = 0 from rfl] at h1 h2
  rw [i_eq, show ((0 : Int32)).toInt = 0 from rfl]
  omega
theorem lr_eqL {off : Int} {tgt : Nat} {u v : Int64} (E : LE p s m meth c b L xs D aX aM cA ce sl) (hd : decode code pc = .ok (.lcmp, 1)) (hd2 : decode code (pc + 1) = .ok (.ifCond .eq off, 3)) (ht : ((pc + 1 : Nat) : Int) + off = (tgt : Int)) (huv : u = v) (k : Lv l e below p s m meth c b D aX aM cA ce sl tgt st i x d sw) : Lv l e below p s m meth c b D aX aM cA ce sl pc (.long v :: .long u :: st) i x d sw := by
  intro H locs la hP hD hS hl
  obtain ⟨hx, hb, hr, hlk, hml, hown, hts, hX, hbl, hL, hK, hEX, hEM, hce, hsl⟩ := E
  subst huv
  refine W.lcmp hx hb hd (lv_if_eq hx hb hd2 ht (fun _ => k H locs la hP hD hS hl) (fun z => absurd lcmp_eq z))
theorem lr_gt {off : Int} {tgt : Nat} {u v : Int32} (E : LE p s m meth c b L xs D aX aM cA ce sl) (hd : decode code pc = .ok (.if_icmp .gt off, 3)) (ht : (pc : Int) + off = (tgt : Int)) (k1 : v < u → Lv l e below p s m meth c b D aX aM cA ce sl tgt st i x d sw) (k2 : ¬ v < u → Lv l e below p s m meth c b D aX aM cA ce sl (pc + 3) st i x d sw) : Lv l e below p s m meth c b D aX aM cA ce sl pc (.int v :: .int u :: st) i x d sw := by
  intro H locs la hP hD hS hl
  obtain ⟨hx, hb, hr, hlk, hml, hown, hts, hX, hbl, hL, hK, hEX, hEM, hce, hsl⟩ := E
  exact lv_icmp_gt hx hb hd ht (fun z => k1 z H locs la hP hD hS hl) (fun z => k2 z H locs la hP hD hS hl)
theorem lr_iinc {n : Int} {v : Int32} (E : LE p s m meth c b L xs D aX aM cA ce sl) (hd : decode code pc = .ok (.iinc 3 n, 3)) (hv : i + Int32.ofInt n = v) (k : Lv l e below p s m meth c b D aX aM cA ce sl (pc + 3) st v x d sw) : Lv l e below p s m meth c b D aX aM cA ce sl pc st i x d sw := by
  intro H locs la hP hD hS hl
  obtain ⟨hx, hb, hr, hlk, hml, hown, hts, hX, hbl, hL, hK, hEX, hEM, hce, hsl⟩ := E
  exact lv_iinc (lv' := [(3, .int v), (0, .ref b), (1, .ref (aX 0)), (2, .ref (aM 0))]) hx hb hd hl (k := 3) rfl hv (by decide) rfl (fun ls hl => k H locs ls hP hD hS (lv_sub hl [1, 2, 3, 0] rfl))
theorem lr_tin {dflt lo hi : Int} {offs : Array Int} {len : Nat} {u : Int32} {off : Int} {tgt : Nat} (E : LE p s m meth c b L xs D aX aM cA ce sl) (hd : decode code pc = .ok (.tableswitch dflt lo hi offs, len)) (h1 : ¬ u.toInt < lo) (h2 : ¬ hi < u.toInt) (ho : offs[(u.toInt - lo).toNat]? = some off) (ht : (pc : Int) + off = (tgt : Int)) (k : Lv l e below p s m meth c b D aX aM cA ce sl tgt st i x d sw) : Lv l e below p s m meth c b D aX aM cA ce sl pc (.int u :: st) i x d sw := by
  intro H locs la hP hD hS hl
  obtain ⟨hx, hb, hr, hlk, hml, hown, hts, hX, hbl, hL, hK, hEX, hEM, hce, hsl⟩ := E
  exact lv_tableIn hx hb hd h1 h2 ho ht (k H locs la hP hD hS hl)
theorem lr_tout {dflt lo hi : Int} {offs : Array Int} {len : Nat} {u : Int32} {tgt : Nat} (E : LE p s m meth c b L xs D aX aM cA ce sl) (hd : decode code pc = .ok (.tableswitch dflt lo hi offs, len)) (h : u.toInt < lo ∨ hi < u.toInt) (ht : (pc : Int) + dflt = (tgt : Int)) (k : Lv l e below p s m meth c b D aX aM cA ce sl tgt st i x d sw) : Lv l e below p s m meth c b D aX aM cA ce sl pc (.int u :: st) i x d sw := by
  intro H locs la hP hD hS hl
  obtain ⟨hx, hb, hr, hlk, hml, hown, hts, hX, hbl, hL, hK, hEX, hEM, hce, hsl⟩ := E
  exact lv_tableOut hx hb hd h ht (k H locs la hP hD hS hl)
theorem lr_ret (E : LE p s m meth c b L xs D aX aM cA ce sl) (hd : decode code pc = .ok (.ireturn, 1)) : Lv l e below p s m meth c b D aX aM cA ce sl pc [.int 1] i x d sw := by
  intro H locs la hP hD hS hl
  obtain ⟨hx, hb, hr, hlk, hml, hown, hts, hX, hbl, hL, hK, hEX, hEM, hce, hsl⟩ := E
  refine va_forget (fun q hq => hS.2.2 q hq) ?_
  refine W.widen hce hsl ?_
  exact lw_ret hx hb hr hlk hd
/-- what a call of the law's needs -/
theorem lc_pre {ad : Nat → Nat} {S : List Shp} {As : List Value} {d : DD} {H : Heap} {locs : List Loc} (hK : va_K D vwCl (tysOf cA) s) (hE : Ex ad (fun q => s.heap.size ≤ q) s s.heap) (hP : va_P D vwCl (wsOf ad cA S d) H) (hD : va_D (fun q => s.heap.size ≤ q) (wsOf ad cA S d)) (hS : va_S (fun q => s.heap.size ≤ q) s.heap H locs) :
    PreS s H (va_Pc (As.map (cv ad)) (fun U => U.heap.size = H.size ∧ va_P D vwCl (wsOf ad cA S d) U.heap ∧ va_K D vwCl (tysOf cA) U ∧ va_D (fun _ => True) (wsOf ad cA S d) ∧ Ex ad (va_A (wsOf ad cA S d) H.size) U U.heap)) (As.map (cv ad)) ∧ ∀ q, va_A (wsOf ad cA S d) H.size q → s.heap.size ≤ q := by
  have hF := va_A_sub (A := fun q => s.heap.size ≤ q) hD hS (fun _ h => h)
  refine ⟨⟨fun a U g mk h => ?_, fun U hU hW => ⟨rfl, by rw [hU], by rw [hU]; exact hP, va_K.moved hW.alike hK, hD.weaken (fun _ _ _ _ => trivial), hE.step hS hU hW hF⟩⟩, hF⟩
  obtain ⟨h1, h2, h3, h4, h5, h6⟩ := h
  exact ⟨h1, h2, h3, va_K.moved (u := U) (U := U.calling g mk a) (Vm.Alike.refl U.vm) h4, h5, Ex.same (u := U) (U := U.calling g mk a) rfl h6⟩
theorem lc_good {M2 : MM} {idx n : Nat} {C0 : String} (hC : (mY M2).cls = C0) (hw : Cond.methodLink RL idx (mY M2) ∈ wT) (mo : MvOk M2 n) : GoodIn wT (wsV RL idx C0 (mY M2) (mW M2)) := by
  obtain ⟨m1, m2, m3, m4, m5⟩ := mo
  subst hC
  intro w hw2
  rcases List.mem_append.mp hw2 with h | h
  · simp only [List.mem_cons, List.not_mem_nil, or_false] at h
    rcases h with rfl | rfl | rfl | rfl
    · exact good1 hw
    · exact good1 m1
    · exact good1 m2
    · exact good1 m3
  · exact mW_good m4 w h
theorem lr_cXi {M2 : MM} {is : List Int32} {q2 : Int32 → DD → Prop} {idx : Nat} (E : LE p s m meth c b L xs D aX aM cA ce sl) (hd : decode code pc = .ok (.invokevirtual idx, 3)) (hw : Cond.methodLink RL idx (mY M2) ∈ wT) (hC : (mY M2).cls = RX4) (mo : MvOk M2 is.length) (hk : mK M2 = 1) (hR : mF M2 + 1 ≤ 11 ∧ 8 + (mL M2 + 11) + mO M2 ≤ 386) (hst : st = (is.map Value.int).reverse ++ .ref (aX 0) :: rest) (hcat : (rest.map fun v => v.category).sum ≤ 8) (hcn : Cn SX M2 (.ref 0 :: is.map Value.int) x (rI q2)) (k : ∀ r x', q2 r x' → Lv l e below p s m meth c b D aX aM cA ce sl (pc + 3) (.int r :: rest) i x' d true) : Lv l e below p s m meth c b D aX aM cA ce sl pc st i x d false := by
  intro H locs la hP hD hS hl
  obtain ⟨hx, hb, hr, hlk, hml, hown, hts, hX, hbl, hL, hK, hEX, hEM, hce, hsl⟩ := E
  subst hst
  have hPa := va_P.lft hP
  have hDa := va_D.lft hD
  obtain ⟨hpre, hF⟩ := lc_pre (As := .ref 0 :: is.map Value.int) hK hEX hPa hDa hS
  have hM := hcn l D aX cA H.size
  rw [show QQ SX (mK M2) D aX cA (va_A (wsOf aX cA SX x) H.size) (rI q2) = va_Qi q2 (fun (d : DD) t => va_P D vwCl (wsOf aX cA SX d) t.heap) (va_A (wsOf aX cA SX x) H.size) by rw [hk]; rfl] at hM
  have eA : (Value.ref 0 :: is.map Value.int).map (cv aX) = .ref (aX 0) :: is.map Value.int := by show _ :: _ = _ :: _; rw [cv_ints]; rfl
  rw [eA] at hpre hM
  refine va_calli (va_runV (As := is.map Value.int) (rest := rest) (C := RX4) ⟨hx, hb, hml, hown, hts⟩ hM (cwV is.length hts (lc_good hC hw mo) rfl rfl rfl ⟨hC, mo.2.2.2.2⟩ hR) ⟨hpre.1, va_recv hK hPa (ci := 4) rfl (wsOf_get sX_0), hpre.2⟩ rfl (by rw [List.length_map]) hl.1 rfl (lv_room hcat) hd ⟨hce, hsl⟩) hS (fun q _ h => hF q h) hF (fun r d2 t H1 locs1 ht hvm hq hB hz hk1 hS1 => ?_)
  rw [ht] at hB
  have hD1 : va_D (va_A (wsOf aX cA SX x) H.size) (wsOf aX cA SX d2) := wsOf_D (hDa.self)
  obtain ⟨hP2, hD2⟩ := wp_join (va_P.rgt hP) (va_D.rgt hD) (fun i j p q hp hq => (va_D.lr hD hq hp).symm) hk1 hF hB hD1
  exact k r d2 hq H1 locs1 la hP2 hD2 hS1 hl
theorem lr_cMi {M2 : MM} {is : List Int32} {q2 : Int32 → DD → Prop} {idx : Nat} (E : LE p s m meth c b L xs D aX aM cA ce sl) (hd : decode code pc = .ok (.invokevirtual idx, 3)) (hw : Cond.methodLink RL idx (mY M2) ∈ wT) (hC : (mY M2).cls = RX5) (mo : MvOk M2 is.length) (hk : mK M2 = 1) (hR : mF M2 + 1 ≤ 11 ∧ 8 + (mL M2 + 11) + mO M2 ≤ 386) (hst : st = (is.map Value.int).reverse ++ .ref (aM 0) :: rest) (hcat : (rest.map fun v => v.category).sum ≤ 8) (hcn : Cn SM M2 (.ref 0 :: is.map Value.int) d (rI q2)) (k : ∀ r d', q2 r d' → Lv l e below p s m meth c b D aX aM cA ce sl (pc + 3) (.int r :: rest) i x d' false) : Lv l e below p s m meth c b D aX aM cA ce sl pc st i x d true := by
  intro H locs la hP hD hS hl
  obtain ⟨hx, hb, hr, hlk, hml, hown, hts, hX, hbl, hL, hK, hEX, hEM, hce, hsl⟩ := E
  subst hst
  have hPa := va_P.lft hP
  have hDa := va_D.lft hD
  obtain ⟨hpre, hF⟩ := lc_pre (As := .ref 0 :: is.map Value.int) hK hEM hPa hDa hS
  have hM := hcn l D aM cA H.size
  rw [show QQ SM (mK M2) D aM cA (va_A (wsOf aM cA SM d) H.size) (rI q2) = va_Qi q2 (fun (d : DD) t => va_P D vwCl (wsOf aM cA SM d) t.heap) (va_A (wsOf aM cA SM d) H.size) by rw [hk]; rfl] at hM
  have eA : (Value.ref 0 :: is.map Value.int).map (cv aM) = .ref (aM 0) :: is.map Value.int := by show _ :: _ = _ :: _; rw [cv_ints]; rfl
  rw [eA] at hpre hM
  refine va_calli (va_runV (As := is.map Value.int) (rest := rest) (C := RX5) ⟨hx, hb, hml, hown, hts⟩ hM (cwV is.length hts (lc_good hC hw mo) rfl rfl rfl ⟨hC, mo.2.2.2.2⟩ hR) ⟨hpre.1, va_recv hK hPa (ci := 5) rfl (wsOf_get sM_0), hpre.2⟩ rfl (by rw [List.length_map]) hl.1 rfl (lv_room hcat) hd ⟨hce, hsl⟩) hS (fun q _ h => hF q h) hF (fun r d2 t H1 locs1 ht hvm hq hB hz hk1 hS1 => ?_)
  rw [ht] at hB
  have hD1 : va_D (va_A (wsOf aM cA SM d) H.size) (wsOf aM cA SM d2) := wsOf_D (hDa.self)
  obtain ⟨hP2, hD2⟩ := wp_join (va_P.rgt hP) (va_D.rgt hD) (fun i j p q hp hq => (va_D.lr hD hq hp).symm) hk1 hF hB hD1
  exact k r d2 hq H1 locs1 la hP2 hD2 hS1 hl
theorem lr_cXl {M2 : MM} {is : List Int32} {q2 : Int64 → DD → Prop} {idx : Nat} (E : LE p s m meth c b L xs D aX aM cA ce sl) (hd : decode code pc = .ok (.invokevirtual idx, 3)) (hw : Cond.methodLink RL idx (mY M2) ∈ wT) (hC : (mY M2).cls = RX4) (mo : MvOk M2 is.length) (hk : mK M2 = 2) (hR : mF M2 + 1 ≤ 11 ∧ 8 + (mL M2 + 11) + mO M2 ≤ 386) (hst : st = (is.map Value.int).reverse ++ .ref (aX 0) :: rest) (hcat : (rest.map fun v => v.category).sum ≤ 8) (hcn : Cn SX M2 (.ref 0 :: is.map Value.int) x (rL q2)) (k : ∀ r x', q2 r x' → Lv l e below p s m meth c b D aX aM cA ce sl (pc + 3) (.long r :: rest) i x' d true) : Lv l e below p s m meth c b D aX aM cA ce sl pc st i x d false := by
  intro H locs la hP hD hS hl
  obtain ⟨hx, hb, hr, hlk, hml, hown, hts, hX, hbl, hL, hK, hEX, hEM, hce, hsl⟩ := E
  subst hst
  have hPa := va_P.lft hP
  have hDa := va_D.lft hD
  obtain ⟨hpre, hF⟩ := lc_pre (As := .ref 0 :: is.map Value.int) hK hEX hPa hDa hS
  have hM := hcn l D aX cA H.size
  rw [show QQ SX (mK M2) D aX cA (va_A (wsOf aX cA SX x) H.size) (rL q2) = va_Ql q2 (fun (d : DD) t => va_P D vwCl (wsOf aX cA SX d) t.heap) (va_A (wsOf aX cA SX x) H.size) by rw [hk]; rfl] at hM
  have eA : (Value.ref 0 :: is.map Value.int).map (cv aX) = .ref (aX 0) :: is.map Value.int := by show _ :: _ = _ :: _; rw [cv_ints]; rfl
  rw [eA] at hpre hM
  refine va_calll (va_runV (As := is.map Value.int) (rest := rest) (C := RX4) ⟨hx, hb, hml, hown, hts⟩ hM (cwV is.length hts (lc_good hC hw mo) rfl rfl rfl ⟨hC, mo.2.2.2.2⟩ hR) ⟨hpre.1, va_recv hK hPa (ci := 4) rfl (wsOf_get sX_0), hpre.2⟩ rfl (by rw [List.length_map]) hl.1 rfl (lv_room hcat) hd ⟨hce, hsl⟩) hS (fun q _ h => hF q h) hF (fun r d2 t H1 locs1 ht hvm hq hB hz hk1 hS1 => ?_)
  rw [ht] at hB
  have hD1 : va_D (va_A (wsOf aX cA SX x) H.size) (wsOf aX cA SX d2) := wsOf_D (hDa.self)
  obtain ⟨hP2, hD2⟩ := wp_join (va_P.rgt hP) (va_D.rgt hD) (fun i j p q hp hq => (va_D.lr hD hq hp).symm) hk1 hF hB hD1
  exact k r d2 hq H1 locs1 la hP2 hD2 hS1 hl
theorem lr_cMl {M2 : MM} {is : List Int32} {q2 : Int64 → DD → Prop} {idx : Nat} (E : LE p s m meth c b L xs D aX aM cA ce sl) (hd : decode code pc = .ok (.invokevirtual idx, 3)) (hw : Cond.methodLink RL idx (mY M2) ∈ wT) (hC : (mY M2).cls = RX5) (mo : MvOk M2 is.length) (hk : mK M2 = 2) (hR : mF M2 + 1 ≤ 11 ∧ 8 + (mL M2 + 11) + mO M2 ≤ 386) (hst : st = (is.map Value.int).reverse ++ .ref (aM 0) :: rest) (hcat : (rest.map fun v => v.category).sum ≤ 8) (hcn : Cn SM M2 (.ref 0 :: is.map Value.int) d (rL q2)) (k : ∀ r d', q2 r d' → Lv l e below p s m meth c b D aX aM cA ce sl (pc + 3) (.long r :: rest) i x d' false) : Lv l e below p s m meth c b D aX aM cA ce sl pc st i x d true := by
  intro H locs la hP hD hS hl
  obtain ⟨hx, hb, hr, hlk, hml, hown, hts, hX, hbl, hL, hK, hEX, hEM, hce, hsl⟩ := E
  subst hst
  have hPa := va_P.lft hP
  have hDa := va_D.lft hD
  obtain ⟨hpre, hF⟩ := lc_pre (As := .ref 0 :: is.map Value.int) hK hEM hPa hDa hS
  have hM := hcn l D aM cA H.size
  rw [show QQ SM (mK M2) D aM cA (va_A (wsOf aM cA SM d) H.size) (rL q2) = va_Ql q2 (fun (d : DD) t => va_P D vwCl (wsOf aM cA SM d) t.heap) (va_A (wsOf aM cA SM d) H.size) by rw [hk]; rfl] at hM
  have eA : (Value.ref 0 :: is.map Value.int).map (cv aM) = .ref (aM 0) :: is.map Value.int := by show _ :: _ = _ :: _; rw [cv_ints]; rfl
  rw [eA] at hpre hM
  refine va_calll (va_runV (As := is.map Value.int) (rest := rest) (C := RX5) ⟨hx, hb, hml, hown, hts⟩ hM (cwV is.length hts (lc_good hC hw mo) rfl rfl rfl ⟨hC, mo.2.2.2.2⟩ hR) ⟨hpre.1, va_recv hK hPa (ci := 5) rfl (wsOf_get sM_0), hpre.2⟩ rfl (by rw [List.length_map]) hl.1 rfl (lv_room hcat) hd ⟨hce, hsl⟩) hS (fun q _ h => hF q h) hF (fun r d2 t H1 locs1 ht hvm hq hB hz hk1 hS1 => ?_)
  rw [ht] at hB
  have hD1 : va_D (va_A (wsOf aM cA SM d) H.size) (wsOf aM cA SM d2) := wsOf_D (hDa.self)
  obtain ⟨hP2, hD2⟩ := wp_join (va_P.rgt hP) (va_D.rgt hD) (fun i j p q hp hq => (va_D.lr hD hq hp).symm) hk1 hF hB hD1
  exact k r d2 hq H1 locs1 la hP2 hD2 hS1 hl
end LV
end
section
/-! ===== the law's instructions ===== -/
def lrL_law_k0 : List (Nat × Nat × Nat × Nat) := [(0, 187, 7, 3), (3, 89, 0, 1), (4, 183, 9, 3), (7, 76, 0, 1), (8, 187, 10, 3), (11, 89, 0, 1), (12, 183, 12, 3), (15, 77, 0, 1), (16, 3, 0, 1), (17, 62, 0, 1), (18, 29, 0, 1), (19, 42, 0, 1), (20, 190, 0, 1), (21, 8, 0, 1), (22, 100, 0, 1), (23, 163, 1401, 3), (26, 42, 0, 1), (27, 29, 0, 1), (28, 46, 0, 1), (29, 16, 63, 2)]
theorem arL_law_k0 : fdChk ((cL_law).data.toList.drop 0) 0 lrL_law_k0 = true := by decide +kernel
theorem dL_law_0 : decode cL_law 0 = .ok (.new 7, 3) := fl_new (w := 7) (fd_at arL_law_k0 0 rfl)
theorem dL_law_3 : decode cL_law 3 = .ok (.dup, 1) := fl_dup (w := 0) (fd_at arL_law_k0 1 rfl)
theorem dL_law_4 : decode cL_law 4 = .ok (.invokespecial 9, 3) := fl_invokespecial (w := 9) (fd_at arL_law_k0 2 rfl)
theorem dL_law_7 : decode cL_law 7 = .ok (.astore_n 1, 1) := fl_astore_n_1 (w := 0) (fd_at arL_law_k0 3 rfl)
theorem dL_law_8 : decode cL_law 8 = .ok (.new 10, 3) := fl_new (w := 10) (fd_at arL_law_k0 4 rfl)
theorem dL_law_11 : decode cL_law 11 = .ok (.dup, 1) := fl_dup (w := 0) (fd_at arL_law_k0 5 rfl)
theorem dL_law_12 : decode cL_law 12 = .ok (.invokespecial 12, 3) := fl_invokespecial (w := 12) (fd_at arL_law_k0 6 rfl)
theorem dL_law_15 : decode cL_law 15 = .ok (.astore_n 2, 1) := fl_astore_n_2 (w := 0) (fd_at arL_law_k0 7 rfl)
theorem dL_law_16 : decode cL_law 16 = .ok (.iconst 0, 1) := fl_iconst_0 (w := 0) (fd_at arL_law_k0 8 rfl)
theorem dL_law_17 : decode cL_law 17 = .ok (.istore_n 3, 1) := fl_istore_n_3 (w := 0) (fd_at arL_law_k0 9 rfl)
theorem dL_law_18 : decode cL_law 18 = .ok (.iload_n 3, 1) := fl_iload_n_3 (w := 0) (fd_at arL_law_k0 10 rfl)
theorem dL_law_19 : decode cL_law 19 = .ok (.aload_n 0, 1) := fl_aload_n_0 (w := 0) (fd_at arL_law_k0 11 rfl)
theorem dL_law_20 : decode cL_law 20 = .ok (.arraylength, 1) := fl_arraylength (w := 0) (fd_at arL_law_k0 12 rfl)
theorem dL_law_21 : decode cL_law 21 = .ok (.iconst 5, 1) := fl_iconst_5 (w := 0) (fd_at arL_law_k0 13 rfl)
theorem dL_law_22 : decode cL_law 22 = .ok (.isub, 1) := fl_isub (w := 0) (fd_at arL_law_k0 14 rfl)
theorem dL_law_23 : decode cL_law 23 = .ok (.if_icmp .gt 1401, 3) := fl_if_icmp_gt (w := 1401) (fd_at arL_law_k0 15 rfl) rfl
theorem dL_law_26 : decode cL_law 26 = .ok (.aload_n 0, 1) := fl_aload_n_0 (w := 0) (fd_at arL_law_k0 16 rfl)
theorem dL_law_27 : decode cL_law 27 = .ok (.iload_n 3, 1) := fl_iload_n_3 (w := 0) (fd_at arL_law_k0 17 rfl)
theorem dL_law_28 : decode cL_law 28 = .ok (.iaload, 1) := fl_iaload (w := 0) (fd_at arL_law_k0 18 rfl)
theorem dL_law_29 : decode cL_law 29 = .ok (.bipush 63, 2) := fl_bipush (w := 63) (fd_at arL_law_k0 19 rfl) rfl
def lrL_law_k1 : List (Nat × Nat × Nat × Nat) := [(31, 126, 0, 1)]
theorem arL_law_k1 : fdChk ((cL_law).data.toList.drop 31) 31 lrL_law_k1 = true := by decide +kernel
theorem dL_law_31 : decode cL_law 31 = .ok (.iand, 1) := fl_iand (w := 0) (fd_at arL_law_k1 0 rfl)
theorem dL_law_32 : decode cL_law 32 = .ok (.tableswitch 1386 0 39 #[176, 199, 222, 235, 248, 271, 304, 337, 370, 403, 426, 469, 502, 545, 588, 621, 654, 687, 710, 733, 756, 779, 802, 825, 858, 901, 924, 957, 1000, 1043, 1066, 1089, 1122, 1165, 1188, 1211, 1254, 1297, 1350, 1363], 176) := by decide +kernel
def lrL_law_k2 : List (Nat × Nat × Nat × Nat) := [(208, 43, 0, 1), (209, 42, 0, 1), (210, 29, 0, 1), (211, 4, 0, 1), (212, 96, 0, 1), (213, 46, 0, 1), (214, 182, 13, 3), (217, 87, 0, 1), (218, 44, 0, 1), (219, 42, 0, 1), (220, 29, 0, 1), (221, 4, 0, 1), (222, 96, 0, 1), (223, 46, 0, 1), (224, 182, 17, 3), (227, 87, 0, 1), (228, 167, 1190, 3), (231, 43, 0, 1), (232, 42, 0, 1), (233, 29, 0, 1)]
theorem arL_law_k2 : fdChk ((cL_law).data.toList.drop 208) 208 lrL_law_k2 = true := by decide +kernel
theorem dL_law_208 : decode cL_law 208 = .ok (.aload_n 1, 1) := fl_aload_n_1 (w := 0) (fd_at arL_law_k2 0 rfl)
theorem dL_law_209 : decode cL_law 209 = .ok (.aload_n 0, 1) := fl_aload_n_0 (w := 0) (fd_at arL_law_k2 1 rfl)
theorem dL_law_210 : decode cL_law 210 = .ok (.iload_n 3, 1) := fl_iload_n_3 (w := 0) (fd_at arL_law_k2 2 rfl)
theorem dL_law_211 : decode cL_law 211 = .ok (.iconst 1, 1) := fl_iconst_1 (w := 0) (fd_at arL_law_k2 3 rfl)
theorem dL_law_212 : decode cL_law 212 = .ok (.iadd, 1) := fl_iadd (w := 0) (fd_at arL_law_k2 4 rfl)
theorem dL_law_213 : decode cL_law 213 = .ok (.iaload, 1) := fl_iaload (w := 0) (fd_at arL_law_k2 5 rfl)
theorem dL_law_214 : decode cL_law 214 = .ok (.invokevirtual 13, 3) := fl_invokevirtual (w := 13) (fd_at arL_law_k2 6 rfl)
theorem dL_law_217 : decode cL_law 217 = .ok (.pop, 1) := fl_pop (w := 0) (fd_at arL_law_k2 7 rfl)
theorem dL_law_218 : decode cL_law 218 = .ok (.aload_n 2, 1) := fl_aload_n_2 (w := 0) (fd_at arL_law_k2 8 rfl)
theorem dL_law_219 : decode cL_law 219 = .ok (.aload_n 0, 1) := fl_aload_n_0 (w := 0) (fd_at arL_law_k2 9 rfl)
theorem dL_law_220 : decode cL_law 220 = .ok (.iload_n 3, 1) := fl_iload_n_3 (w := 0) (fd_at arL_law_k2 10 rfl)
theorem dL_law_221 : decode cL_law 221 = .ok (.iconst 1, 1) := fl_iconst_1 (w := 0) (fd_at arL_law_k2 11 rfl)
theorem dL_law_222 : decode cL_law 222 = .ok (.iadd, 1) := fl_iadd (w := 0) (fd_at arL_law_k2 12 rfl)
theorem dL_law_223 : decode cL_law 223 = .ok (.iaload, 1) := fl_iaload (w := 0) (fd_at arL_law_k2 13 rfl)
theorem dL_law_224 : decode cL_law 224 = .ok (.invokevirtual 17, 3) := fl_invokevirtual (w := 17) (fd_at arL_law_k2 14 rfl)
theorem dL_law_227 : decode cL_law 227 = .ok (.pop, 1) := fl_pop (w := 0) (fd_at arL_law_k2 15 rfl)
theorem dL_law_228 : decode cL_law 228 = .ok (.goto 1190, 3) := fl_goto (w := 1190) (fd_at arL_law_k2 16 rfl) rfl
theorem dL_law_231 : decode cL_law 231 = .ok (.aload_n 1, 1) := fl_aload_n_1 (w := 0) (fd_at arL_law_k2 17 rfl)
theorem dL_law_232 : decode cL_law 232 = .ok (.aload_n 0, 1) := fl_aload_n_0 (w := 0) (fd_at arL_law_k2 18 rfl)
theorem dL_law_233 : decode cL_law 233 = .ok (.iload_n 3, 1) := fl_iload_n_3 (w := 0) (fd_at arL_law_k2 19 rfl)
def lrL_law_k3 : List (Nat × Nat × Nat × Nat) := [(234, 4, 0, 1), (235, 96, 0, 1), (236, 46, 0, 1), (237, 182, 18, 3), (240, 87, 0, 1), (241, 44, 0, 1), (242, 42, 0, 1), (243, 29, 0, 1), (244, 4, 0, 1), (245, 96, 0, 1), (246, 46, 0, 1), (247, 182, 21, 3), (250, 87, 0, 1), (251, 167, 1167, 3), (254, 43, 0, 1), (255, 182, 22, 3), (258, 87, 0, 1), (259, 44, 0, 1), (260, 182, 26, 3), (263, 87, 0, 1)]
theorem arL_law_k3 : fdChk ((cL_law).data.toList.drop 234) 234 lrL_law_k3 = true := by decide +kernel
theorem dL_law_234 : decode cL_law 234 = .ok (.iconst 1, 1) := fl_iconst_1 (w := 0) (fd_at arL_law_k3 0 rfl)
theorem dL_law_235 : decode cL_law 235 = .ok (.iadd, 1) := fl_iadd (w := 0) (fd_at arL_law_k3 1 rfl)
theorem dL_law_236 : decode cL_law 236 = .ok (.iaload, 1) := fl_iaload (w := 0) (fd_at arL_law_k3 2 rfl)
theorem dL_law_237 : decode cL_law 237 = .ok (.invokevirtual 18, 3) := fl_invokevirtual (w := 18) (fd_at arL_law_k3 3 rfl)
theorem dL_law_240 : decode cL_law 240 = .ok (.pop, 1) := fl_pop (w := 0) (fd_at arL_law_k3 4 rfl)
theorem dL_law_241 : decode cL_law 241 = .ok (.aload_n 2, 1) := fl_aload_n_2 (w := 0) (fd_at arL_law_k3 5 rfl)
theorem dL_law_242 : decode cL_law 242 = .ok (.aload_n 0, 1) := fl_aload_n_0 (w := 0) (fd_at arL_law_k3 6 rfl)
theorem dL_law_243 : decode cL_law 243 = .ok (.iload_n 3, 1) := fl_iload_n_3 (w := 0) (fd_at arL_law_k3 7 rfl)
theorem dL_law_244 : decode cL_law 244 = .ok (.iconst 1, 1) := fl_iconst_1 (w := 0) (fd_at arL_law_k3 8 rfl)
theorem dL_law_245 : decode cL_law 245 = .ok (.iadd, 1) := fl_iadd (w := 0) (fd_at arL_law_k3 9 rfl)
theorem dL_law_246 : decode cL_law 246 = .ok (.iaload, 1) := fl_iaload (w := 0) (fd_at arL_law_k3 10 rfl)
theorem dL_law_247 : decode cL_law 247 = .ok (.invokevirtual 21, 3) := fl_invokevirtual (w := 21) (fd_at arL_law_k3 11 rfl)
theorem dL_law_250 : decode cL_law 250 = .ok (.pop, 1) := fl_pop (w := 0) (fd_at arL_law_k3 12 rfl)
theorem dL_law_251 : decode cL_law 251 = .ok (.goto 1167, 3) := fl_goto (w := 1167) (fd_at arL_law_k3 13 rfl) rfl
theorem dL_law_254 : decode cL_law 254 = .ok (.aload_n 1, 1) := fl_aload_n_1 (w := 0) (fd_at arL_law_k3 14 rfl)
theorem dL_law_255 : decode cL_law 255 = .ok (.invokevirtual 22, 3) := fl_invokevirtual (w := 22) (fd_at arL_law_k3 15 rfl)
theorem dL_law_258 : decode cL_law 258 = .ok (.pop, 1) := fl_pop (w := 0) (fd_at arL_law_k3 16 rfl)
theorem dL_law_259 : decode cL_law 259 = .ok (.aload_n 2, 1) := fl_aload_n_2 (w := 0) (fd_at arL_law_k3 17 rfl)
theorem dL_law_260 : decode cL_law 260 = .ok (.invokevirtual 26, 3) := fl_invokevirtual (w := 26) (fd_at arL_law_k3 18 rfl)
theorem dL_law_263 : decode cL_law 263 = .ok (.pop, 1) := fl_pop (w := 0) (fd_at arL_law_k3 19 rfl)
def lrL_law_k4 : List (Nat × Nat × Nat × Nat) := [(264, 167, 1154, 3), (267, 43, 0, 1), (268, 182, 27, 3), (271, 87, 0, 1), (272, 44, 0, 1), (273, 182, 30, 3), (276, 87, 0, 1), (277, 167, 1141, 3), (280, 43, 0, 1), (281, 42, 0, 1), (282, 29, 0, 1), (283, 4, 0, 1), (284, 96, 0, 1), (285, 46, 0, 1), (286, 182, 31, 3), (289, 87, 0, 1), (290, 44, 0, 1), (291, 42, 0, 1), (292, 29, 0, 1), (293, 4, 0, 1)]
theorem arL_law_k4 : fdChk ((cL_law).data.toList.drop 264) 264 lrL_law_k4 = true := by decide +kernel
theorem dL_law_264 : decode cL_law 264 = .ok (.goto 1154, 3) := fl_goto (w := 1154) (fd_at arL_law_k4 0 rfl) rfl
theorem dL_law_267 : decode cL_law 267 = .ok (.aload_n 1, 1) := fl_aload_n_1 (w := 0) (fd_at arL_law_k4 1 rfl)
theorem dL_law_268 : decode cL_law 268 = .ok (.invokevirtual 27, 3) := fl_invokevirtual (w := 27) (fd_at arL_law_k4 2 rfl)
theorem dL_law_271 : decode cL_law 271 = .ok (.pop, 1) := fl_pop (w := 0) (fd_at arL_law_k4 3 rfl)
theorem dL_law_272 : decode cL_law 272 = .ok (.aload_n 2, 1) := fl_aload_n_2 (w := 0) (fd_at arL_law_k4 4 rfl)
theorem dL_law_273 : decode cL_law 273 = .ok (.invokevirtual 30, 3) := fl_invokevirtual (w := 30) (fd_at arL_law_k4 5 rfl)
theorem dL_law_276 : decode cL_law 276 = .ok (.pop, 1) := fl_pop (w := 0) (fd_at arL_law_k4 6 rfl)
theorem dL_law_277 : decode cL_law 277 = .ok (.goto 1141, 3) := fl_goto (w := 1141) (fd_at arL_law_k4 7 rfl) rfl
theorem dL_law_280 : decode cL_law 280 = .ok (.aload_n 1, 1) := fl_aload_n_1 (w := 0) (fd_at arL_law_k4 8 rfl)
theorem dL_law_281 : decode cL_law 281 = .ok (.aload_n 0, 1) := fl_aload_n_0 (w := 0) (fd_at arL_law_k4 9 rfl)
theorem dL_law_282 : decode cL_law 282 = .ok (.iload_n 3, 1) := fl_iload_n_3 (w := 0) (fd_at arL_law_k4 10 rfl)
theorem dL_law_283 : decode cL_law 283 = .ok (.iconst 1, 1) := fl_iconst_1 (w := 0) (fd_at arL_law_k4 11 rfl)
theorem dL_law_284 : decode cL_law 284 = .ok (.iadd, 1) := fl_iadd (w := 0) (fd_at arL_law_k4 12 rfl)
theorem dL_law_285 : decode cL_law 285 = .ok (.iaload, 1) := fl_iaload (w := 0) (fd_at arL_law_k4 13 rfl)
theorem dL_law_286 : decode cL_law 286 = .ok (.invokevirtual 31, 3) := fl_invokevirtual (w := 31) (fd_at arL_law_k4 14 rfl)
theorem dL_law_289 : decode cL_law 289 = .ok (.pop, 1) := fl_pop (w := 0) (fd_at arL_law_k4 15 rfl)
theorem dL_law_290 : decode cL_law 290 = .ok (.aload_n 2, 1) := fl_aload_n_2 (w := 0) (fd_at arL_law_k4 16 rfl)
theorem dL_law_291 : decode cL_law 291 = .ok (.aload_n 0, 1) := fl_aload_n_0 (w := 0) (fd_at arL_law_k4 17 rfl)
theorem dL_law_292 : decode cL_law 292 = .ok (.iload_n 3, 1) := fl_iload_n_3 (w := 0) (fd_at arL_law_k4 18 rfl)
theorem dL_law_293 : decode cL_law 293 = .ok (.iconst 1, 1) := fl_iconst_1 (w := 0) (fd_at arL_law_k4 19 rfl)
def lrL_law_k5 : List (Nat × Nat × Nat × Nat) := [(294, 96, 0, 1), (295, 46, 0, 1), (296, 182, 34, 3), (299, 87, 0, 1), (300, 167, 1118, 3), (303, 43, 0, 1), (304, 42, 0, 1), (305, 29, 0, 1), (306, 4, 0, 1), (307, 96, 0, 1), (308, 46, 0, 1), (309, 42, 0, 1), (310, 29, 0, 1), (311, 5, 0, 1), (312, 96, 0, 1), (313, 46, 0, 1), (314, 182, 35, 3), (317, 87, 0, 1), (318, 44, 0, 1), (319, 42, 0, 1)]
theorem arL_law_k5 : fdChk ((cL_law).data.toList.drop 294) 294 lrL_law_k5 = true := by decide +kernel
theorem dL_law_294 : decode cL_law 294 = .ok (.iadd, 1) := fl_iadd (w := 0) (fd_at arL_law_k5 0 rfl)
theorem dL_law_295 : decode cL_law 295 = .ok (.iaload, 1) := fl_iaload (w := 0) (fd_at arL_law_k5 1 rfl)
theorem dL_law_296 : decode cL_law 296 = .ok (.invokevirtual 34, 3) := fl_invokevirtual (w := 34) (fd_at arL_law_k5 2 rfl)
theorem dL_law_299 : decode cL_law 299 = .ok (.pop, 1) := fl_pop (w := 0) (fd_at arL_law_k5 3 rfl)
theorem dL_law_300 : decode cL_law 300 = .ok (.goto 1118, 3) := fl_goto (w := 1118) (fd_at arL_law_k5 4 rfl) rfl
theorem dL_law_303 : decode cL_law 303 = .ok (.aload_n 1, 1) := fl_aload_n_1 (w := 0) (fd_at arL_law_k5 5 rfl)
theorem dL_law_304 : decode cL_law 304 = .ok (.aload_n 0, 1) := fl_aload_n_0 (w := 0) (fd_at arL_law_k5 6 rfl)
theorem dL_law_305 : decode cL_law 305 = .ok (.iload_n 3, 1) := fl_iload_n_3 (w := 0) (fd_at arL_law_k5 7 rfl)
theorem dL_law_306 : decode cL_law 306 = .ok (.iconst 1, 1) := fl_iconst_1 (w := 0) (fd_at arL_law_k5 8 rfl)
theorem dL_law_307 : decode cL_law 307 = .ok (.iadd, 1) := fl_iadd (w := 0) (fd_at arL_law_k5 9 rfl)
theorem dL_law_308 : decode cL_law 308 = .ok (.iaload, 1) := fl_iaload (w := 0) (fd_at arL_law_k5 10 rfl)
theorem dL_law_309 : decode cL_law 309 = .ok (.aload_n 0, 1) := fl_aload_n_0 (w := 0) (fd_at arL_law_k5 11 rfl)
theorem dL_law_310 : decode cL_law 310 = .ok (.iload_n 3, 1) := fl_iload_n_3 (w := 0) (fd_at arL_law_k5 12 rfl)
theorem dL_law_311 : decode cL_law 311 = .ok (.iconst 2, 1) := fl_iconst_2 (w := 0) (fd_at arL_law_k5 13 rfl)
theorem dL_law_312 : decode cL_law 312 = .ok (.iadd, 1) := fl_iadd (w := 0) (fd_at arL_law_k5 14 rfl)
theorem dL_law_313 : decode cL_law 313 = .ok (.iaload, 1) := fl_iaload (w := 0) (fd_at arL_law_k5 15 rfl)
theorem dL_law_314 : decode cL_law 314 = .ok (.invokevirtual 35, 3) := fl_invokevirtual (w := 35) (fd_at arL_law_k5 16 rfl)
theorem dL_law_317 : decode cL_law 317 = .ok (.pop, 1) := fl_pop (w := 0) (fd_at arL_law_k5 17 rfl)
theorem dL_law_318 : decode cL_law 318 = .ok (.aload_n 2, 1) := fl_aload_n_2 (w := 0) (fd_at arL_law_k5 18 rfl)
theorem dL_law_319 : decode cL_law 319 = .ok (.aload_n 0, 1) := fl_aload_n_0 (w := 0) (fd_at arL_law_k5 19 rfl)
def lrL_law_k6 : List (Nat × Nat × Nat × Nat) := [(320, 29, 0, 1), (321, 4, 0, 1), (322, 96, 0, 1), (323, 46, 0, 1), (324, 42, 0, 1), (325, 29, 0, 1), (326, 5, 0, 1), (327, 96, 0, 1), (328, 46, 0, 1), (329, 182, 39, 3), (332, 87, 0, 1), (333, 167, 1085, 3), (336, 43, 0, 1), (337, 42, 0, 1), (338, 29, 0, 1), (339, 4, 0, 1), (340, 96, 0, 1), (341, 46, 0, 1), (342, 42, 0, 1), (343, 29, 0, 1)]
theorem arL_law_k6 : fdChk ((cL_law).data.toList.drop 320) 320 lrL_law_k6 = true := by decide +kernel
theorem dL_law_320 : decode cL_law 320 = .ok (.iload_n 3, 1) := fl_iload_n_3 (w := 0) (fd_at arL_law_k6 0 rfl)
theorem dL_law_321 : decode cL_law 321 = .ok (.iconst 1, 1) := fl_iconst_1 (w := 0) (fd_at arL_law_k6 1 rfl)
theorem dL_law_322 : decode cL_law 322 = .ok (.iadd, 1) := fl_iadd (w := 0) (fd_at arL_law_k6 2 rfl)
theorem dL_law_323 : decode cL_law 323 = .ok (.iaload, 1) := fl_iaload (w := 0) (fd_at arL_law_k6 3 rfl)
theorem dL_law_324 : decode cL_law 324 = .ok (.aload_n 0, 1) := fl_aload_n_0 (w := 0) (fd_at arL_law_k6 4 rfl)
theorem dL_law_325 : decode cL_law 325 = .ok (.iload_n 3, 1) := fl_iload_n_3 (w := 0) (fd_at arL_law_k6 5 rfl)
theorem dL_law_326 : decode cL_law 326 = .ok (.iconst 2, 1) := fl_iconst_2 (w := 0) (fd_at arL_law_k6 6 rfl)
theorem dL_law_327 : decode cL_law 327 = .ok (.iadd, 1) := fl_iadd (w := 0) (fd_at arL_law_k6 7 rfl)
theorem dL_law_328 : decode cL_law 328 = .ok (.iaload, 1) := fl_iaload (w := 0) (fd_at arL_law_k6 8 rfl)
theorem dL_law_329 : decode cL_law 329 = .ok (.invokevirtual 39, 3) := fl_invokevirtual (w := 39) (fd_at arL_law_k6 9 rfl)
theorem dL_law_332 : decode cL_law 332 = .ok (.pop, 1) := fl_pop (w := 0) (fd_at arL_law_k6 10 rfl)
theorem dL_law_333 : decode cL_law 333 = .ok (.goto 1085, 3) := fl_goto (w := 1085) (fd_at arL_law_k6 11 rfl) rfl
theorem dL_law_336 : decode cL_law 336 = .ok (.aload_n 1, 1) := fl_aload_n_1 (w := 0) (fd_at arL_law_k6 12 rfl)
theorem dL_law_337 : decode cL_law 337 = .ok (.aload_n 0, 1) := fl_aload_n_0 (w := 0) (fd_at arL_law_k6 13 rfl)
theorem dL_law_338 : decode cL_law 338 = .ok (.iload_n 3, 1) := fl_iload_n_3 (w := 0) (fd_at arL_law_k6 14 rfl)
theorem dL_law_339 : decode cL_law 339 = .ok (.iconst 1, 1) := fl_iconst_1 (w := 0) (fd_at arL_law_k6 15 rfl)
theorem dL_law_340 : decode cL_law 340 = .ok (.iadd, 1) := fl_iadd (w := 0) (fd_at arL_law_k6 16 rfl)
theorem dL_law_341 : decode cL_law 341 = .ok (.iaload, 1) := fl_iaload (w := 0) (fd_at arL_law_k6 17 rfl)
theorem dL_law_342 : decode cL_law 342 = .ok (.aload_n 0, 1) := fl_aload_n_0 (w := 0) (fd_at arL_law_k6 18 rfl)
theorem dL_law_343 : decode cL_law 343 = .ok (.iload_n 3, 1) := fl_iload_n_3 (w := 0) (fd_at arL_law_k6 19 rfl)
def lrL_law_k7 : List (Nat × Nat × Nat × Nat) := [(344, 5, 0, 1), (345, 96, 0, 1), (346, 46, 0, 1), (347, 182, 40, 3), (350, 87, 0, 1), (351, 44, 0, 1), (352, 42, 0, 1), (353, 29, 0, 1), (354, 4, 0, 1), (355, 96, 0, 1), (356, 46, 0, 1), (357, 42, 0, 1), (358, 29, 0, 1), (359, 5, 0, 1), (360, 96, 0, 1), (361, 46, 0, 1), (362, 182, 43, 3), (365, 87, 0, 1), (366, 167, 1052, 3), (369, 43, 0, 1)]
theorem arL_law_k7 : fdChk ((cL_law).data.toList.drop 344) 344 lrL_law_k7 = true := by decide +kernel
theorem dL_law_344 : decode cL_law 344 = .ok (.iconst 2, 1) := fl_iconst_2 (w := 0) (fd_at arL_law_k7 0 rfl)
theorem dL_law_345 : decode cL_law 345 = .ok (.iadd, 1) := fl_iadd (w := 0) (fd_at arL_law_k7 1 rfl)
theorem dL_law_346 : decode cL_law 346 = .ok (.iaload, 1) := fl_iaload (w := 0) (fd_at arL_law_k7 2 rfl)
theorem dL_law_347 : decode cL_law 347 = .ok (.invokevirtual 40, 3) := fl_invokevirtual (w := 40) (fd_at arL_law_k7 3 rfl)
theorem dL_law_350 : decode cL_law 350 = .ok (.pop, 1) := fl_pop (w := 0) (fd_at arL_law_k7 4 rfl)
theorem dL_law_351 : decode cL_law 351 = .ok (.aload_n 2, 1) := fl_aload_n_2 (w := 0) (fd_at arL_law_k7 5 rfl)
theorem dL_law_352 : decode cL_law 352 = .ok (.aload_n 0, 1) := fl_aload_n_0 (w := 0) (fd_at arL_law_k7 6 rfl)
theorem dL_law_353 : decode cL_law 353 = .ok (.iload_n 3, 1) := fl_iload_n_3 (w := 0) (fd_at arL_law_k7 7 rfl)
theorem dL_law_354 : decode cL_law 354 = .ok (.iconst 1, 1) := fl_iconst_1 (w := 0) (fd_at arL_law_k7 8 rfl)
theorem dL_law_355 : decode cL_law 355 = .ok (.iadd, 1) := fl_iadd (w := 0) (fd_at arL_law_k7 9 rfl)
theorem dL_law_356 : decode cL_law 356 = .ok (.iaload, 1) := fl_iaload (w := 0) (fd_at arL_law_k7 10 rfl)
theorem dL_law_357 : decode cL_law 357 = .ok (.aload_n 0, 1) := fl_aload_n_0 (w := 0) (fd_at arL_law_k7 11 rfl)
theorem dL_law_358 : decode cL_law 358 = .ok (.iload_n 3, 1) := fl_iload_n_3 (w := 0) (fd_at arL_law_k7 12 rfl)
theorem dL_law_359 : decode cL_law 359 = .ok (.iconst 2, 1) := fl_iconst_2 (w := 0) (fd_at arL_law_k7 13 rfl)
theorem dL_law_360 : decode cL_law 360 = .ok (.iadd, 1) := fl_iadd (w := 0) (fd_at arL_law_k7 14 rfl)
theorem dL_law_361 : decode cL_law 361 = .ok (.iaload, 1) := fl_iaload (w := 0) (fd_at arL_law_k7 15 rfl)
theorem dL_law_362 : decode cL_law 362 = .ok (.invokevirtual 43, 3) := fl_invokevirtual (w := 43) (fd_at arL_law_k7 16 rfl)
theorem dL_law_365 : decode cL_law 365 = .ok (.pop, 1) := fl_pop (w := 0) (fd_at arL_law_k7 17 rfl)
theorem dL_law_366 : decode cL_law 366 = .ok (.goto 1052, 3) := fl_goto (w := 1052) (fd_at arL_law_k7 18 rfl) rfl
theorem dL_law_369 : decode cL_law 369 = .ok (.aload_n 1, 1) := fl_aload_n_1 (w := 0) (fd_at arL_law_k7 19 rfl)
def lrL_law_k8 : List (Nat × Nat × Nat × Nat) := [(370, 42, 0, 1), (371, 29, 0, 1), (372, 4, 0, 1), (373, 96, 0, 1), (374, 46, 0, 1), (375, 42, 0, 1), (376, 29, 0, 1), (377, 5, 0, 1), (378, 96, 0, 1), (379, 46, 0, 1), (380, 182, 44, 3), (383, 87, 0, 1), (384, 44, 0, 1), (385, 42, 0, 1), (386, 29, 0, 1), (387, 4, 0, 1), (388, 96, 0, 1), (389, 46, 0, 1), (390, 42, 0, 1), (391, 29, 0, 1)]
theorem arL_law_k8 : fdChk ((cL_law).data.toList.drop 370) 370 lrL_law_k8 = true := by decide +kernel
theorem dL_law_370 : decode cL_law 370 = .ok (.aload_n 0, 1) := fl_aload_n_0 (w := 0) (fd_at arL_law_k8 0 rfl)
theorem dL_law_371 : decode cL_law 371 = .ok (.iload_n 3, 1) := fl_iload_n_3 (w := 0) (fd_at arL_law_k8 1 rfl)
theorem dL_law_372 : decode cL_law 372 = .ok (.iconst 1, 1) := fl_iconst_1 (w := 0) (fd_at arL_law_k8 2 rfl)
theorem dL_law_373 : decode cL_law 373 = .ok (.iadd, 1) := fl_iadd (w := 0) (fd_at arL_law_k8 3 rfl)
theorem dL_law_374 : decode cL_law 374 = .ok (.iaload, 1) := fl_iaload (w := 0) (fd_at arL_law_k8 4 rfl)
theorem dL_law_375 : decode cL_law 375 = .ok (.aload_n 0, 1) := fl_aload_n_0 (w := 0) (fd_at arL_law_k8 5 rfl)
theorem dL_law_376 : decode cL_law 376 = .ok (.iload_n 3, 1) := fl_iload_n_3 (w := 0) (fd_at arL_law_k8 6 rfl)
theorem dL_law_377 : decode cL_law 377 = .ok (.iconst 2, 1) := fl_iconst_2 (w := 0) (fd_at arL_law_k8 7 rfl)
theorem dL_law_378 : decode cL_law 378 = .ok (.iadd, 1) := fl_iadd (w := 0) (fd_at arL_law_k8 8 rfl)
theorem dL_law_379 : decode cL_law 379 = .ok (.iaload, 1) := fl_iaload (w := 0) (fd_at arL_law_k8 9 rfl)
theorem dL_law_380 : decode cL_law 380 = .ok (.invokevirtual 44, 3) := fl_invokevirtual (w := 44) (fd_at arL_law_k8 10 rfl)
theorem dL_law_383 : decode cL_law 383 = .ok (.pop, 1) := fl_pop (w := 0) (fd_at arL_law_k8 11 rfl)
theorem dL_law_384 : decode cL_law 384 = .ok (.aload_n 2, 1) := fl_aload_n_2 (w := 0) (fd_at arL_law_k8 12 rfl)
theorem dL_law_385 : decode cL_law 385 = .ok (.aload_n 0, 1) := fl_aload_n_0 (w := 0) (fd_at arL_law_k8 13 rfl)
theorem dL_law_386 : decode cL_law 386 = .ok (.iload_n 3, 1) := fl_iload_n_3 (w := 0) (fd_at arL_law_k8 14 rfl)
theorem dL_law_387 : decode cL_law 387 = .ok (.iconst 1, 1) := fl_iconst_1 (w := 0) (fd_at arL_law_k8 15 rfl)
theorem dL_law_388 : decode cL_law 388 = .ok (.iadd, 1) := fl_iadd (w := 0) (fd_at arL_law_k8 16 rfl)
theorem dL_law_389 : decode cL_law 389 = .ok (.iaload, 1) := fl_iaload (w := 0) (fd_at arL_law_k8 17 rfl)
theorem dL_law_390 : decode cL_law 390 = .ok (.aload_n 0, 1) := fl_aload_n_0 (w := 0) (fd_at arL_law_k8 18 rfl)
theorem dL_law_391 : decode cL_law 391 = .ok (.iload_n 3, 1) := fl_iload_n_3 (w := 0) (fd_at arL_law_k8 19 rfl)
def lrL_law_k9 : List (Nat × Nat × Nat × Nat) := [(392, 5, 0, 1), (393, 96, 0, 1), (394, 46, 0, 1), (395, 182, 47, 3), (398, 87, 0, 1), (399, 167, 1019, 3), (402, 43, 0, 1), (403, 42, 0, 1), (404, 29, 0, 1), (405, 4, 0, 1), (406, 96, 0, 1), (407, 46, 0, 1), (408, 42, 0, 1), (409, 29, 0, 1), (410, 5, 0, 1), (411, 96, 0, 1), (412, 46, 0, 1), (413, 182, 48, 3), (416, 87, 0, 1), (417, 44, 0, 1)]
theorem arL_law_k9 : fdChk ((cL_law).data.toList.drop 392) 392 lrL_law_k9 = true := by decide +kernel
theorem dL_law_392 : decode cL_law 392 = .ok (.iconst 2, 1) := fl_iconst_2 (w := 0) (fd_at arL_law_k9 0 rfl)
theorem dL_law_393 : decode cL_law 393 = .ok (.iadd, 1) := fl_iadd (w := 0) (fd_at arL_law_k9 1 rfl)
theorem dL_law_394 : decode cL_law 394 = .ok (.iaload, 1) := fl_iaload (w := 0) (fd_at arL_law_k9 2 rfl)
theorem dL_law_395 : decode cL_law 395 = .ok (.invokevirtual 47, 3) := fl_invokevirtual (w := 47) (fd_at arL_law_k9 3 rfl)
theorem dL_law_398 : decode cL_law 398 = .ok (.pop, 1) := fl_pop (w := 0) (fd_at arL_law_k9 4 rfl)
theorem dL_law_399 : decode cL_law 399 = .ok (.goto 1019, 3) := fl_goto (w := 1019) (fd_at arL_law_k9 5 rfl) rfl
theorem dL_law_402 : decode cL_law 402 = .ok (.aload_n 1, 1) := fl_aload_n_1 (w := 0) (fd_at arL_law_k9 6 rfl)
theorem dL_law_403 : decode cL_law 403 = .ok (.aload_n 0, 1) := fl_aload_n_0 (w := 0) (fd_at arL_law_k9 7 rfl)
theorem dL_law_404 : decode cL_law 404 = .ok (.iload_n 3, 1) := fl_iload_n_3 (w := 0) (fd_at arL_law_k9 8 rfl)
theorem dL_law_405 : decode cL_law 405 = .ok (.iconst 1, 1) := fl_iconst_1 (w := 0) (fd_at arL_law_k9 9 rfl)
theorem dL_law_406 : decode cL_law 406 = .ok (.iadd, 1) := fl_iadd (w := 0) (fd_at arL_law_k9 10 rfl)
theorem dL_law_407 : decode cL_law 407 = .ok (.iaload, 1) := fl_iaload (w := 0) (fd_at arL_law_k9 11 rfl)
theorem dL_law_408 : decode cL_law 408 = .ok (.aload_n 0, 1) := fl_aload_n_0 (w := 0) (fd_at arL_law_k9 12 rfl)
theorem dL_law_409 : decode cL_law 409 = .ok (.iload_n 3, 1) := fl_iload_n_3 (w := 0) (fd_at arL_law_k9 13 rfl)
theorem dL_law_410 : decode cL_law 410 = .ok (.iconst 2, 1) := fl_iconst_2 (w := 0) (fd_at arL_law_k9 14 rfl)
theorem dL_law_411 : decode cL_law 411 = .ok (.iadd, 1) := fl_iadd (w := 0) (fd_at arL_law_k9 15 rfl)
theorem dL_law_412 : decode cL_law 412 = .ok (.iaload, 1) := fl_iaload (w := 0) (fd_at arL_law_k9 16 rfl)
theorem dL_law_413 : decode cL_law 413 = .ok (.invokevirtual 48, 3) := fl_invokevirtual (w := 48) (fd_at arL_law_k9 17 rfl)
theorem dL_law_416 : decode cL_law 416 = .ok (.pop, 1) := fl_pop (w := 0) (fd_at arL_law_k9 18 rfl)
theorem dL_law_417 : decode cL_law 417 = .ok (.aload_n 2, 1) := fl_aload_n_2 (w := 0) (fd_at arL_law_k9 19 rfl)
def lrL_law_k10 : List (Nat × Nat × Nat × Nat) := [(418, 42, 0, 1), (419, 29, 0, 1), (420, 4, 0, 1), (421, 96, 0, 1), (422, 46, 0, 1), (423, 42, 0, 1), (424, 29, 0, 1), (425, 5, 0, 1), (426, 96, 0, 1), (427, 46, 0, 1), (428, 182, 51, 3), (431, 87, 0, 1), (432, 167, 986, 3), (435, 43, 0, 1), (436, 42, 0, 1), (437, 29, 0, 1), (438, 4, 0, 1), (439, 96, 0, 1), (440, 46, 0, 1), (441, 182, 52, 3)]
theorem arL_law_k10 : fdChk ((cL_law).data.toList.drop 418) 418 lrL_law_k10 = true := by decide +kernel
theorem dL_law_418 : decode cL_law 418 = .ok (.aload_n 0, 1) := fl_aload_n_0 (w := 0) (fd_at arL_law_k10 0 rfl)
theorem dL_law_419 : decode cL_law 419 = .ok (.iload_n 3, 1) := fl_iload_n_3 (w := 0) (fd_at arL_law_k10 1 rfl)
theorem dL_law_420 : decode cL_law 420 = .ok (.iconst 1, 1) := fl_iconst_1 (w := 0) (fd_at arL_law_k10 2 rfl)
theorem dL_law_421 : decode cL_law 421 = .ok (.iadd, 1) := fl_iadd (w := 0) (fd_at arL_law_k10 3 rfl)
theorem dL_law_422 : decode cL_law 422 = .ok (.iaload, 1) := fl_iaload (w := 0) (fd_at arL_law_k10 4 rfl)
theorem dL_law_423 : decode cL_law 423 = .ok (.aload_n 0, 1) := fl_aload_n_0 (w := 0) (fd_at arL_law_k10 5 rfl)
theorem dL_law_424 : decode cL_law 424 = .ok (.iload_n 3, 1) := fl_iload_n_3 (w := 0) (fd_at arL_law_k10 6 rfl)
theorem dL_law_425 : decode cL_law 425 = .ok (.iconst 2, 1) := fl_iconst_2 (w := 0) (fd_at arL_law_k10 7 rfl)
theorem dL_law_426 : decode cL_law 426 = .ok (.iadd, 1) := fl_iadd (w := 0) (fd_at arL_law_k10 8 rfl)
theorem dL_law_427 : decode cL_law 427 = .ok (.iaload, 1) := fl_iaload (w := 0) (fd_at arL_law_k10 9 rfl)
theorem dL_law_428 : decode cL_law 428 = .ok (.invokevirtual 51, 3) := fl_invokevirtual (w := 51) (fd_at arL_law_k10 10 rfl)
theorem dL_law_431 : decode cL_law 431 = .ok (.pop, 1) := fl_pop (w := 0) (fd_at arL_law_k10 11 rfl)
theorem dL_law_432 : decode cL_law 432 = .ok (.goto 986, 3) := fl_goto (w := 986) (fd_at arL_law_k10 12 rfl) rfl
theorem dL_law_435 : decode cL_law 435 = .ok (.aload_n 1, 1) := fl_aload_n_1 (w := 0) (fd_at arL_law_k10 13 rfl)
theorem dL_law_436 : decode cL_law 436 = .ok (.aload_n 0, 1) := fl_aload_n_0 (w := 0) (fd_at arL_law_k10 14 rfl)
theorem dL_law_437 : decode cL_law 437 = .ok (.iload_n 3, 1) := fl_iload_n_3 (w := 0) (fd_at arL_law_k10 15 rfl)
theorem dL_law_438 : decode cL_law 438 = .ok (.iconst 1, 1) := fl_iconst_1 (w := 0) (fd_at arL_law_k10 16 rfl)
theorem dL_law_439 : decode cL_law 439 = .ok (.iadd, 1) := fl_iadd (w := 0) (fd_at arL_law_k10 17 rfl)
theorem dL_law_440 : decode cL_law 440 = .ok (.iaload, 1) := fl_iaload (w := 0) (fd_at arL_law_k10 18 rfl)
theorem dL_law_441 : decode cL_law 441 = .ok (.invokevirtual 52, 3) := fl_invokevirtual (w := 52) (fd_at arL_law_k10 19 rfl)
def lrL_law_k11 : List (Nat × Nat × Nat × Nat) := [(444, 87, 0, 1), (445, 44, 0, 1), (446, 42, 0, 1), (447, 29, 0, 1), (448, 4, 0, 1), (449, 96, 0, 1), (450, 46, 0, 1), (451, 182, 55, 3), (454, 87, 0, 1), (455, 167, 963, 3), (458, 43, 0, 1), (459, 42, 0, 1), (460, 29, 0, 1), (461, 4, 0, 1), (462, 96, 0, 1), (463, 46, 0, 1), (464, 42, 0, 1), (465, 29, 0, 1), (466, 5, 0, 1), (467, 96, 0, 1)]
theorem arL_law_k11 : fdChk ((cL_law).data.toList.drop 444) 444 lrL_law_k11 = true := by decide +kernel
theorem dL_law_444 : decode cL_law 444 = .ok (.pop, 1) := fl_pop (w := 0) (fd_at arL_law_k11 0 rfl)
theorem dL_law_445 : decode cL_law 445 = .ok (.aload_n 2, 1) := fl_aload_n_2 (w := 0) (fd_at arL_law_k11 1 rfl)
theorem dL_law_446 : decode cL_law 446 = .ok (.aload_n 0, 1) := fl_aload_n_0 (w := 0) (fd_at arL_law_k11 2 rfl)
theorem dL_law_447 : decode cL_law 447 = .ok (.iload_n 3, 1) := fl_iload_n_3 (w := 0) (fd_at arL_law_k11 3 rfl)
theorem dL_law_448 : decode cL_law 448 = .ok (.iconst 1, 1) := fl_iconst_1 (w := 0) (fd_at arL_law_k11 4 rfl)
theorem dL_law_449 : decode cL_law 449 = .ok (.iadd, 1) := fl_iadd (w := 0) (fd_at arL_law_k11 5 rfl)
theorem dL_law_450 : decode cL_law 450 = .ok (.iaload, 1) := fl_iaload (w := 0) (fd_at arL_law_k11 6 rfl)
theorem dL_law_451 : decode cL_law 451 = .ok (.invokevirtual 55, 3) := fl_invokevirtual (w := 55) (fd_at arL_law_k11 7 rfl)
theorem dL_law_454 : decode cL_law 454 = .ok (.pop, 1) := fl_pop (w := 0) (fd_at arL_law_k11 8 rfl)
theorem dL_law_455 : decode cL_law 455 = .ok (.goto 963, 3) := fl_goto (w := 963) (fd_at arL_law_k11 9 rfl) rfl
theorem dL_law_458 : decode cL_law 458 = .ok (.aload_n 1, 1) := fl_aload_n_1 (w := 0) (fd_at arL_law_k11 10 rfl)
theorem dL_law_459 : decode cL_law 459 = .ok (.aload_n 0, 1) := fl_aload_n_0 (w := 0) (fd_at arL_law_k11 11 rfl)
theorem dL_law_460 : decode cL_law 460 = .ok (.iload_n 3, 1) := fl_iload_n_3 (w := 0) (fd_at arL_law_k11 12 rfl)
theorem dL_law_461 : decode cL_law 461 = .ok (.iconst 1, 1) := fl_iconst_1 (w := 0) (fd_at arL_law_k11 13 rfl)
theorem dL_law_462 : decode cL_law 462 = .ok (.iadd, 1) := fl_iadd (w := 0) (fd_at arL_law_k11 14 rfl)
theorem dL_law_463 : decode cL_law 463 = .ok (.iaload, 1) := fl_iaload (w := 0) (fd_at arL_law_k11 15 rfl)
theorem dL_law_464 : decode cL_law 464 = .ok (.aload_n 0, 1) := fl_aload_n_0 (w := 0) (fd_at arL_law_k11 16 rfl)
theorem dL_law_465 : decode cL_law 465 = .ok (.iload_n 3, 1) := fl_iload_n_3 (w := 0) (fd_at arL_law_k11 17 rfl)
theorem dL_law_466 : decode cL_law 466 = .ok (.iconst 2, 1) := fl_iconst_2 (w := 0) (fd_at arL_law_k11 18 rfl)
theorem dL_law_467 : decode cL_law 467 = .ok (.iadd, 1) := fl_iadd (w := 0) (fd_at arL_law_k11 19 rfl)
def lrL_law_k12 : List (Nat × Nat × Nat × Nat) := [(468, 46, 0, 1), (469, 42, 0, 1), (470, 29, 0, 1), (471, 6, 0, 1), (472, 96, 0, 1), (473, 46, 0, 1), (474, 182, 56, 3), (477, 87, 0, 1), (478, 44, 0, 1), (479, 42, 0, 1), (480, 29, 0, 1), (481, 4, 0, 1), (482, 96, 0, 1), (483, 46, 0, 1), (484, 42, 0, 1), (485, 29, 0, 1), (486, 5, 0, 1), (487, 96, 0, 1), (488, 46, 0, 1), (489, 42, 0, 1)]
theorem arL_law_k12 : fdChk ((cL_law).data.toList.drop 468) 468 lrL_law_k12 = true := by decide +kernel
theorem dL_law_468 : decode cL_law 468 = .ok (.iaload, 1) := fl_iaload (w := 0) (fd_at arL_law_k12 0 rfl)
theorem dL_law_469 : decode cL_law 469 = .ok (.aload_n 0, 1) := fl_aload_n_0 (w := 0) (fd_at arL_law_k12 1 rfl)
theorem dL_law_470 : decode cL_law 470 = .ok (.iload_n 3, 1) := fl_iload_n_3 (w := 0) (fd_at arL_law_k12 2 rfl)
theorem dL_law_471 : decode cL_law 471 = .ok (.iconst 3, 1) := fl_iconst_3 (w := 0) (fd_at arL_law_k12 3 rfl)
theorem dL_law_472 : decode cL_law 472 = .ok (.iadd, 1) := fl_iadd (w := 0) (fd_at arL_law_k12 4 rfl)
theorem dL_law_473 : decode cL_law 473 = .ok (.iaload, 1) := fl_iaload (w := 0) (fd_at arL_law_k12 5 rfl)
theorem dL_law_474 : decode cL_law 474 = .ok (.invokevirtual 56, 3) := fl_invokevirtual (w := 56) (fd_at arL_law_k12 6 rfl)
theorem dL_law_477 : decode cL_law 477 = .ok (.pop, 1) := fl_pop (w := 0) (fd_at arL_law_k12 7 rfl)
theorem dL_law_478 : decode cL_law 478 = .ok (.aload_n 2, 1) := fl_aload_n_2 (w := 0) (fd_at arL_law_k12 8 rfl)
theorem dL_law_479 : decode cL_law 479 = .ok (.aload_n 0, 1) := fl_aload_n_0 (w := 0) (fd_at arL_law_k12 9 rfl)
theorem dL_law_480 : decode cL_law 480 = .ok (.iload_n 3, 1) := fl_iload_n_3 (w := 0) (fd_at arL_law_k12 10 rfl)
theorem dL_law_481 : decode cL_law 481 = .ok (.iconst 1, 1) := fl_iconst_1 (w := 0) (fd_at arL_law_k12 11 rfl)
theorem dL_law_482 : decode cL_law 482 = .ok (.iadd, 1) := fl_iadd (w := 0) (fd_at arL_law_k12 12 rfl)
theorem dL_law_483 : decode cL_law 483 = .ok (.iaload, 1) := fl_iaload (w := 0) (fd_at arL_law_k12 13 rfl)
theorem dL_law_484 : decode cL_law 484 = .ok (.aload_n 0, 1) := fl_aload_n_0 (w := 0) (fd_at arL_law_k12 14 rfl)
theorem dL_law_485 : decode cL_law 485 = .ok (.iload_n 3, 1) := fl_iload_n_3 (w := 0) (fd_at arL_law_k12 15 rfl)
theorem dL_law_486 : decode cL_law 486 = .ok (.iconst 2, 1) := fl_iconst_2 (w := 0) (fd_at arL_law_k12 16 rfl)
theorem dL_law_487 : decode cL_law 487 = .ok (.iadd, 1) := fl_iadd (w := 0) (fd_at arL_law_k12 17 rfl)
theorem dL_law_488 : decode cL_law 488 = .ok (.iaload, 1) := fl_iaload (w := 0) (fd_at arL_law_k12 18 rfl)
theorem dL_law_489 : decode cL_law 489 = .ok (.aload_n 0, 1) := fl_aload_n_0 (w := 0) (fd_at arL_law_k12 19 rfl)
def lrL_law_k13 : List (Nat × Nat × Nat × Nat) := [(490, 29, 0, 1), (491, 6, 0, 1), (492, 96, 0, 1), (493, 46, 0, 1), (494, 182, 60, 3), (497, 87, 0, 1), (498, 167, 920, 3), (501, 43, 0, 1), (502, 42, 0, 1), (503, 29, 0, 1), (504, 4, 0, 1), (505, 96, 0, 1), (506, 46, 0, 1), (507, 42, 0, 1), (508, 29, 0, 1), (509, 5, 0, 1), (510, 96, 0, 1), (511, 46, 0, 1), (512, 182, 61, 3), (515, 87, 0, 1)]
theorem arL_law_k13 : fdChk ((cL_law).data.toList.drop 490) 490 lrL_law_k13 = true := by decide +kernel
theorem dL_law_490 : decode cL_law 490 = .ok (.iload_n 3, 1) := fl_iload_n_3 (w := 0) (fd_at arL_law_k13 0 rfl)
theorem dL_law_491 : decode cL_law 491 = .ok (.iconst 3, 1) := fl_iconst_3 (w := 0) (fd_at arL_law_k13 1 rfl)
theorem dL_law_492 : decode cL_law 492 = .ok (.iadd, 1) := fl_iadd (w := 0) (fd_at arL_law_k13 2 rfl)
theorem dL_law_493 : decode cL_law 493 = .ok (.iaload, 1) := fl_iaload (w := 0) (fd_at arL_law_k13 3 rfl)
theorem dL_law_494 : decode cL_law 494 = .ok (.invokevirtual 60, 3) := fl_invokevirtual (w := 60) (fd_at arL_law_k13 4 rfl)
theorem dL_law_497 : decode cL_law 497 = .ok (.pop, 1) := fl_pop (w := 0) (fd_at arL_law_k13 5 rfl)
theorem dL_law_498 : decode cL_law 498 = .ok (.goto 920, 3) := fl_goto (w := 920) (fd_at arL_law_k13 6 rfl) rfl
theorem dL_law_501 : decode cL_law 501 = .ok (.aload_n 1, 1) := fl_aload_n_1 (w := 0) (fd_at arL_law_k13 7 rfl)
theorem dL_law_502 : decode cL_law 502 = .ok (.aload_n 0, 1) := fl_aload_n_0 (w := 0) (fd_at arL_law_k13 8 rfl)
theorem dL_law_503 : decode cL_law 503 = .ok (.iload_n 3, 1) := fl_iload_n_3 (w := 0) (fd_at arL_law_k13 9 rfl)
theorem dL_law_504 : decode cL_law 504 = .ok (.iconst 1, 1) := fl_iconst_1 (w := 0) (fd_at arL_law_k13 10 rfl)
theorem dL_law_505 : decode cL_law 505 = .ok (.iadd, 1) := fl_iadd (w := 0) (fd_at arL_law_k13 11 rfl)
theorem dL_law_506 : decode cL_law 506 = .ok (.iaload, 1) := fl_iaload (w := 0) (fd_at arL_law_k13 12 rfl)
theorem dL_law_507 : decode cL_law 507 = .ok (.aload_n 0, 1) := fl_aload_n_0 (w := 0) (fd_at arL_law_k13 13 rfl)
theorem dL_law_508 : decode cL_law 508 = .ok (.iload_n 3, 1) := fl_iload_n_3 (w := 0) (fd_at arL_law_k13 14 rfl)
theorem dL_law_509 : decode cL_law 509 = .ok (.iconst 2, 1) := fl_iconst_2 (w := 0) (fd_at arL_law_k13 15 rfl)
theorem dL_law_510 : decode cL_law 510 = .ok (.iadd, 1) := fl_iadd (w := 0) (fd_at arL_law_k13 16 rfl)
theorem dL_law_511 : decode cL_law 511 = .ok (.iaload, 1) := fl_iaload (w := 0) (fd_at arL_law_k13 17 rfl)
theorem dL_law_512 : decode cL_law 512 = .ok (.invokevirtual 61, 3) := fl_invokevirtual (w := 61) (fd_at arL_law_k13 18 rfl)
theorem dL_law_515 : decode cL_law 515 = .ok (.pop, 1) := fl_pop (w := 0) (fd_at arL_law_k13 19 rfl)
def lrL_law_k14 : List (Nat × Nat × Nat × Nat) := [(516, 44, 0, 1), (517, 42, 0, 1), (518, 29, 0, 1), (519, 4, 0, 1), (520, 96, 0, 1), (521, 46, 0, 1), (522, 42, 0, 1), (523, 29, 0, 1), (524, 5, 0, 1), (525, 96, 0, 1), (526, 46, 0, 1), (527, 182, 64, 3), (530, 87, 0, 1), (531, 167, 887, 3), (534, 43, 0, 1), (535, 42, 0, 1), (536, 29, 0, 1), (537, 4, 0, 1), (538, 96, 0, 1), (539, 46, 0, 1)]
theorem arL_law_k14 : fdChk ((cL_law).data.toList.drop 516) 516 lrL_law_k14 = true := by decide +kernel
theorem dL_law_516 : decode cL_law 516 = .ok (.aload_n 2, 1) := fl_aload_n_2 (w := 0) (fd_at arL_law_k14 0 rfl)
theorem dL_law_517 : decode cL_law 517 = .ok (.aload_n 0, 1) := fl_aload_n_0 (w := 0) (fd_at arL_law_k14 1 rfl)
theorem dL_law_518 : decode cL_law 518 = .ok (.iload_n 3, 1) := fl_iload_n_3 (w := 0) (fd_at arL_law_k14 2 rfl)
theorem dL_law_519 : decode cL_law 519 = .ok (.iconst 1, 1) := fl_iconst_1 (w := 0) (fd_at arL_law_k14 3 rfl)
theorem dL_law_520 : decode cL_law 520 = .ok (.iadd, 1) := fl_iadd (w := 0) (fd_at arL_law_k14 4 rfl)
theorem dL_law_521 : decode cL_law 521 = .ok (.iaload, 1) := fl_iaload (w := 0) (fd_at arL_law_k14 5 rfl)
theorem dL_law_522 : decode cL_law 522 = .ok (.aload_n 0, 1) := fl_aload_n_0 (w := 0) (fd_at arL_law_k14 6 rfl)
theorem dL_law_523 : decode cL_law 523 = .ok (.iload_n 3, 1) := fl_iload_n_3 (w := 0) (fd_at arL_law_k14 7 rfl)
theorem dL_law_524 : decode cL_law 524 = .ok (.iconst 2, 1) := fl_iconst_2 (w := 0) (fd_at arL_law_k14 8 rfl)
theorem dL_law_525 : decode cL_law 525 = .ok (.iadd, 1) := fl_iadd (w := 0) (fd_at arL_law_k14 9 rfl)
theorem dL_law_526 : decode cL_law 526 = .ok (.iaload, 1) := fl_iaload (w := 0) (fd_at arL_law_k14 10 rfl)
theorem dL_law_527 : decode cL_law 527 = .ok (.invokevirtual 64, 3) := fl_invokevirtual (w := 64) (fd_at arL_law_k14 11 rfl)
theorem dL_law_530 : decode cL_law 530 = .ok (.pop, 1) := fl_pop (w := 0) (fd_at arL_law_k14 12 rfl)
theorem dL_law_531 : decode cL_law 531 = .ok (.goto 887, 3) := fl_goto (w := 887) (fd_at arL_law_k14 13 rfl) rfl
theorem dL_law_534 : decode cL_law 534 = .ok (.aload_n 1, 1) := fl_aload_n_1 (w := 0) (fd_at arL_law_k14 14 rfl)
theorem dL_law_535 : decode cL_law 535 = .ok (.aload_n 0, 1) := fl_aload_n_0 (w := 0) (fd_at arL_law_k14 15 rfl)
theorem dL_law_536 : decode cL_law 536 = .ok (.iload_n 3, 1) := fl_iload_n_3 (w := 0) (fd_at arL_law_k14 16 rfl)
theorem dL_law_537 : decode cL_law 537 = .ok (.iconst 1, 1) := fl_iconst_1 (w := 0) (fd_at arL_law_k14 17 rfl)
theorem dL_law_538 : decode cL_law 538 = .ok (.iadd, 1) := fl_iadd (w := 0) (fd_at arL_law_k14 18 rfl)
theorem dL_law_539 : decode cL_law 539 = .ok (.iaload, 1) := fl_iaload (w := 0) (fd_at arL_law_k14 19 rfl)
def lrL_law_k15 : List (Nat × Nat × Nat × Nat) := [(540, 42, 0, 1), (541, 29, 0, 1), (542, 5, 0, 1), (543, 96, 0, 1), (544, 46, 0, 1), (545, 42, 0, 1), (546, 29, 0, 1), (547, 6, 0, 1), (548, 96, 0, 1), (549, 46, 0, 1), (550, 182, 65, 3), (553, 87, 0, 1), (554, 44, 0, 1), (555, 42, 0, 1), (556, 29, 0, 1), (557, 4, 0, 1), (558, 96, 0, 1), (559, 46, 0, 1), (560, 42, 0, 1), (561, 29, 0, 1)]
theorem arL_law_k15 : fdChk ((cL_law).data.toList.drop 540) 540 lrL_law_k15 = true := by decide +kernel
theorem dL_law_540 : decode cL_law 540 = .ok (.aload_n 0, 1) := fl_aload_n_0 (w := 0) (fd_at arL_law_k15 0 rfl)
theorem dL_law_541 : decode cL_law 541 = .ok (.iload_n 3, 1) := fl_iload_n_3 (w := 0) (fd_at arL_law_k15 1 rfl)
theorem dL_law_542 : decode cL_law 542 = .ok (.iconst 2, 1) := fl_iconst_2 (w := 0) (fd_at arL_law_k15 2 rfl)
theorem dL_law_543 : decode cL_law 543 = .ok (.iadd, 1) := fl_iadd (w := 0) (fd_at arL_law_k15 3 rfl)
theorem dL_law_544 : decode cL_law 544 = .ok (.iaload, 1) := fl_iaload (w := 0) (fd_at arL_law_k15 4 rfl)
theorem dL_law_545 : decode cL_law 545 = .ok (.aload_n 0, 1) := fl_aload_n_0 (w := 0) (fd_at arL_law_k15 5 rfl)
theorem dL_law_546 : decode cL_law 546 = .ok (.iload_n 3, 1) := fl_iload_n_3 (w := 0) (fd_at arL_law_k15 6 rfl)
theorem dL_law_547 : decode cL_law 547 = .ok (.iconst 3, 1) := fl_iconst_3 (w := 0) (fd_at arL_law_k15 7 rfl)
theorem dL_law_548 : decode cL_law 548 = .ok (.iadd, 1) := fl_iadd (w := 0) (fd_at arL_law_k15 8 rfl)
theorem dL_law_549 : decode cL_law 549 = .ok (.iaload, 1) := fl_iaload (w := 0) (fd_at arL_law_k15 9 rfl)
theorem dL_law_550 : decode cL_law 550 = .ok (.invokevirtual 65, 3) := fl_invokevirtual (w := 65) (fd_at arL_law_k15 10 rfl)
theorem dL_law_553 : decode cL_law 553 = .ok (.pop, 1) := fl_pop (w := 0) (fd_at arL_law_k15 11 rfl)
theorem dL_law_554 : decode cL_law 554 = .ok (.aload_n 2, 1) := fl_aload_n_2 (w := 0) (fd_at arL_law_k15 12 rfl)
theorem dL_law_555 : decode cL_law 555 = .ok (.aload_n 0, 1) := fl_aload_n_0 (w := 0) (fd_at arL_law_k15 13 rfl)
theorem dL_law_556 : decode cL_law 556 = .ok (.iload_n 3, 1) := fl_iload_n_3 (w := 0) (fd_at arL_law_k15 14 rfl)
theorem dL_law_557 : decode cL_law 557 = .ok (.iconst 1, 1) := fl_iconst_1 (w := 0) (fd_at arL_law_k15 15 rfl)
theorem dL_law_558 : decode cL_law 558 = .ok (.iadd, 1) := fl_iadd (w := 0) (fd_at arL_law_k15 16 rfl)
theorem dL_law_559 : decode cL_law 559 = .ok (.iaload, 1) := fl_iaload (w := 0) (fd_at arL_law_k15 17 rfl)
theorem dL_law_560 : decode cL_law 560 = .ok (.aload_n 0, 1) := fl_aload_n_0 (w := 0) (fd_at arL_law_k15 18 rfl)
theorem dL_law_561 : decode cL_law 561 = .ok (.iload_n 3, 1) := fl_iload_n_3 (w := 0) (fd_at arL_law_k15 19 rfl)
def lrL_law_k16 : List (Nat × Nat × Nat × Nat) := [(562, 5, 0, 1), (563, 96, 0, 1), (564, 46, 0, 1), (565, 42, 0, 1), (566, 29, 0, 1), (567, 6, 0, 1), (568, 96, 0, 1), (569, 46, 0, 1), (570, 182, 68, 3), (573, 87, 0, 1), (574, 167, 844, 3), (577, 43, 0, 1), (578, 42, 0, 1), (579, 29, 0, 1), (580, 4, 0, 1), (581, 96, 0, 1), (582, 46, 0, 1), (583, 42, 0, 1), (584, 29, 0, 1), (585, 5, 0, 1)]
theorem arL_law_k16 : fdChk ((cL_law).data.toList.drop 562) 562 lrL_law_k16 = true := by decide +kernel
theorem dL_law_562 : decode cL_law 562 = .ok (.iconst 2, 1) := fl_iconst_2 (w := 0) (fd_at arL_law_k16 0 rfl)
theorem dL_law_563 : decode cL_law 563 = .ok (.iadd, 1) := fl_iadd (w := 0) (fd_at arL_law_k16 1 rfl)
theorem dL_law_564 : decode cL_law 564 = .ok (.iaload, 1) := fl_iaload (w := 0) (fd_at arL_law_k16 2 rfl)
theorem dL_law_565 : decode cL_law 565 = .ok (.aload_n 0, 1) := fl_aload_n_0 (w := 0) (fd_at arL_law_k16 3 rfl)
theorem dL_law_566 : decode cL_law 566 = .ok (.iload_n 3, 1) := fl_iload_n_3 (w := 0) (fd_at arL_law_k16 4 rfl)
theorem dL_law_567 : decode cL_law 567 = .ok (.iconst 3, 1) := fl_iconst_3 (w := 0) (fd_at arL_law_k16 5 rfl)
theorem dL_law_568 : decode cL_law 568 = .ok (.iadd, 1) := fl_iadd (w := 0) (fd_at arL_law_k16 6 rfl)
theorem dL_law_569 : decode cL_law 569 = .ok (.iaload, 1) := fl_iaload (w := 0) (fd_at arL_law_k16 7 rfl)
theorem dL_law_570 : decode cL_law 570 = .ok (.invokevirtual 68, 3) := fl_invokevirtual (w := 68) (fd_at arL_law_k16 8 rfl)
theorem dL_law_573 : decode cL_law 573 = .ok (.pop, 1) := fl_pop (w := 0) (fd_at arL_law_k16 9 rfl)
theorem dL_law_574 : decode cL_law 574 = .ok (.goto 844, 3) := fl_goto (w := 844) (fd_at arL_law_k16 10 rfl) rfl
theorem dL_law_577 : decode cL_law 577 = .ok (.aload_n 1, 1) := fl_aload_n_1 (w := 0) (fd_at arL_law_k16 11 rfl)
theorem dL_law_578 : decode cL_law 578 = .ok (.aload_n 0, 1) := fl_aload_n_0 (w := 0) (fd_at arL_law_k16 12 rfl)
theorem dL_law_579 : decode cL_law 579 = .ok (.iload_n 3, 1) := fl_iload_n_3 (w := 0) (fd_at arL_law_k16 13 rfl)
theorem dL_law_580 : decode cL_law 580 = .ok (.iconst 1, 1) := fl_iconst_1 (w := 0) (fd_at arL_law_k16 14 rfl)
theorem dL_law_581 : decode cL_law 581 = .ok (.iadd, 1) := fl_iadd (w := 0) (fd_at arL_law_k16 15 rfl)
theorem dL_law_582 : decode cL_law 582 = .ok (.iaload, 1) := fl_iaload (w := 0) (fd_at arL_law_k16 16 rfl)
theorem dL_law_583 : decode cL_law 583 = .ok (.aload_n 0, 1) := fl_aload_n_0 (w := 0) (fd_at arL_law_k16 17 rfl)
theorem dL_law_584 : decode cL_law 584 = .ok (.iload_n 3, 1) := fl_iload_n_3 (w := 0) (fd_at arL_law_k16 18 rfl)
theorem dL_law_585 : decode cL_law 585 = .ok (.iconst 2, 1) := fl_iconst_2 (w := 0) (fd_at arL_law_k16 19 rfl)
def lrL_law_k17 : List (Nat × Nat × Nat × Nat) := [(586, 96, 0, 1), (587, 46, 0, 1), (588, 42, 0, 1), (589, 29, 0, 1), (590, 6, 0, 1), (591, 96, 0, 1), (592, 46, 0, 1), (593, 182, 69, 3), (596, 87, 0, 1), (597, 44, 0, 1), (598, 42, 0, 1), (599, 29, 0, 1), (600, 4, 0, 1), (601, 96, 0, 1), (602, 46, 0, 1), (603, 42, 0, 1), (604, 29, 0, 1), (605, 5, 0, 1), (606, 96, 0, 1), (607, 46, 0, 1)]
theorem arL_law_k17 : fdChk ((cL_law).data.toList.drop 586) 586 lrL_law_k17 = true := by decide +kernel
theorem dL_law_586 : decode cL_law 586 = .ok (.iadd, 1) := fl_iadd (w := 0) (fd_at arL_law_k17 0 rfl)
theorem dL_law_587 : decode cL_law 587 = .ok (.iaload, 1) := fl_iaload (w := 0) (fd_at arL_law_k17 1 rfl)
theorem dL_law_588 : decode cL_law 588 = .ok (.aload_n 0, 1) := fl_aload_n_0 (w := 0) (fd_at arL_law_k17 2 rfl)
theorem dL_law_589 : decode cL_law 589 = .ok (.iload_n 3, 1) := fl_iload_n_3 (w := 0) (fd_at arL_law_k17 3 rfl)
theorem dL_law_590 : decode cL_law 590 = .ok (.iconst 3, 1) := fl_iconst_3 (w := 0) (fd_at arL_law_k17 4 rfl)
theorem dL_law_591 : decode cL_law 591 = .ok (.iadd, 1) := fl_iadd (w := 0) (fd_at arL_law_k17 5 rfl)
theorem dL_law_592 : decode cL_law 592 = .ok (.iaload, 1) := fl_iaload (w := 0) (fd_at arL_law_k17 6 rfl)
theorem dL_law_593 : decode cL_law 593 = .ok (.invokevirtual 69, 3) := fl_invokevirtual (w := 69) (fd_at arL_law_k17 7 rfl)
theorem dL_law_596 : decode cL_law 596 = .ok (.pop, 1) := fl_pop (w := 0) (fd_at arL_law_k17 8 rfl)
theorem dL_law_597 : decode cL_law 597 = .ok (.aload_n 2, 1) := fl_aload_n_2 (w := 0) (fd_at arL_law_k17 9 rfl)
theorem dL_law_598 : decode cL_law 598 = .ok (.aload_n 0, 1) := fl_aload_n_0 (w := 0) (fd_at arL_law_k17 10 rfl)
theorem dL_law_599 : decode cL_law 599 = .ok (.iload_n 3, 1) := fl_iload_n_3 (w := 0) (fd_at arL_law_k17 11 rfl)
theorem dL_law_600 : decode cL_law 600 = .ok (.iconst 1, 1) := fl_iconst_1 (w := 0) (fd_at arL_law_k17 12 rfl)
theorem dL_law_601 : decode cL_law 601 = .ok (.iadd, 1) := fl_iadd (w := 0) (fd_at arL_law_k17 13 rfl)
theorem dL_law_602 : decode cL_law 602 = .ok (.iaload, 1) := fl_iaload (w := 0) (fd_at arL_law_k17 14 rfl)
theorem dL_law_603 : decode cL_law 603 = .ok (.aload_n 0, 1) := fl_aload_n_0 (w := 0) (fd_at arL_law_k17 15 rfl)
theorem dL_law_604 : decode cL_law 604 = .ok (.iload_n 3, 1) := fl_iload_n_3 (w := 0) (fd_at arL_law_k17 16 rfl)
theorem dL_law_605 : decode cL_law 605 = .ok (.iconst 2, 1) := fl_iconst_2 (w := 0) (fd_at arL_law_k17 17 rfl)
theorem dL_law_606 : decode cL_law 606 = .ok (.iadd, 1) := fl_iadd (w := 0) (fd_at arL_law_k17 18 rfl)
theorem dL_law_607 : decode cL_law 607 = .ok (.iaload, 1) := fl_iaload (w := 0) (fd_at arL_law_k17 19 rfl)
def lrL_law_k18 : List (Nat × Nat × Nat × Nat) := [(608, 42, 0, 1), (609, 29, 0, 1), (610, 6, 0, 1), (611, 96, 0, 1), (612, 46, 0, 1), (613, 182, 72, 3), (616, 87, 0, 1), (617, 167, 801, 3), (620, 43, 0, 1), (621, 42, 0, 1), (622, 29, 0, 1), (623, 4, 0, 1), (624, 96, 0, 1), (625, 46, 0, 1), (626, 42, 0, 1), (627, 29, 0, 1), (628, 5, 0, 1), (629, 96, 0, 1), (630, 46, 0, 1), (631, 182, 73, 3)]
theorem arL_law_k18 : fdChk ((cL_law).data.toList.drop 608) 608 lrL_law_k18 = true := by decide +kernel
theorem dL_law_608 : decode cL_law 608 = .ok (.aload_n 0, 1) := fl_aload_n_0 (w := 0) (fd_at arL_law_k18 0 rfl)
theorem dL_law_609 : decode cL_law 609 = .ok (.iload_n 3, 1) := fl_iload_n_3 (w := 0) (fd_at arL_law_k18 1 rfl)
theorem dL_law_610 : decode cL_law 610 = .ok (.iconst 3, 1) := fl_iconst_3 (w := 0) (fd_at arL_law_k18 2 rfl)
theorem dL_law_611 : decode cL_law 611 = .ok (.iadd, 1) := fl_iadd (w := 0) (fd_at arL_law_k18 3 rfl)
theorem dL_law_612 : decode cL_law 612 = .ok (.iaload, 1) := fl_iaload (w := 0) (fd_at arL_law_k18 4 rfl)
theorem dL_law_613 : decode cL_law 613 = .ok (.invokevirtual 72, 3) := fl_invokevirtual (w := 72) (fd_at arL_law_k18 5 rfl)
theorem dL_law_616 : decode cL_law 616 = .ok (.pop, 1) := fl_pop (w := 0) (fd_at arL_law_k18 6 rfl)
theorem dL_law_617 : decode cL_law 617 = .ok (.goto 801, 3) := fl_goto (w := 801) (fd_at arL_law_k18 7 rfl) rfl
theorem dL_law_620 : decode cL_law 620 = .ok (.aload_n 1, 1) := fl_aload_n_1 (w := 0) (fd_at arL_law_k18 8 rfl)
theorem dL_law_621 : decode cL_law 621 = .ok (.aload_n 0, 1) := fl_aload_n_0 (w := 0) (fd_at arL_law_k18 9 rfl)
theorem dL_law_622 : decode cL_law 622 = .ok (.iload_n 3, 1) := fl_iload_n_3 (w := 0) (fd_at arL_law_k18 10 rfl)
theorem dL_law_623 : decode cL_law 623 = .ok (.iconst 1, 1) := fl_iconst_1 (w := 0) (fd_at arL_law_k18 11 rfl)
theorem dL_law_624 : decode cL_law 624 = .ok (.iadd, 1) := fl_iadd (w := 0) (fd_at arL_law_k18 12 rfl)
theorem dL_law_625 : decode cL_law 625 = .ok (.iaload, 1) := fl_iaload (w := 0) (fd_at arL_law_k18 13 rfl)
theorem dL_law_626 : decode cL_law 626 = .ok (.aload_n 0, 1) := fl_aload_n_0 (w := 0) (fd_at arL_law_k18 14 rfl)
theorem dL_law_627 : decode cL_law 627 = .ok (.iload_n 3, 1) := fl_iload_n_3 (w := 0) (fd_at arL_law_k18 15 rfl)
theorem dL_law_628 : decode cL_law 628 = .ok (.iconst 2, 1) := fl_iconst_2 (w := 0) (fd_at arL_law_k18 16 rfl)
theorem dL_law_629 : decode cL_law 629 = .ok (.iadd, 1) := fl_iadd (w := 0) (fd_at arL_law_k18 17 rfl)
theorem dL_law_630 : decode cL_law 630 = .ok (.iaload, 1) := fl_iaload (w := 0) (fd_at arL_law_k18 18 rfl)
theorem dL_law_631 : decode cL_law 631 = .ok (.invokevirtual 73, 3) := fl_invokevirtual (w := 73) (fd_at arL_law_k18 19 rfl)
def lrL_law_k19 : List (Nat × Nat × Nat × Nat) := [(634, 87, 0, 1), (635, 44, 0, 1), (636, 42, 0, 1), (637, 29, 0, 1), (638, 4, 0, 1), (639, 96, 0, 1), (640, 46, 0, 1), (641, 42, 0, 1), (642, 29, 0, 1), (643, 5, 0, 1), (644, 96, 0, 1), (645, 46, 0, 1), (646, 182, 76, 3), (649, 87, 0, 1), (650, 167, 768, 3), (653, 43, 0, 1), (654, 42, 0, 1), (655, 29, 0, 1), (656, 4, 0, 1), (657, 96, 0, 1)]
theorem arL_law_k19 : fdChk ((cL_law).data.toList.drop 634) 634 lrL_law_k19 = true := by decide +kernel
theorem dL_law_634 : decode cL_law 634 = .ok (.pop, 1) := fl_pop (w := 0) (fd_at arL_law_k19 0 rfl)
theorem dL_law_635 : decode cL_law 635 = .ok (.aload_n 2, 1) := fl_aload_n_2 (w := 0) (fd_at arL_law_k19 1 rfl)
theorem dL_law_636 : decode cL_law 636 = .ok (.aload_n 0, 1) := fl_aload_n_0 (w := 0) (fd_at arL_law_k19 2 rfl)
theorem dL_law_637 : decode cL_law 637 = .ok (.iload_n 3, 1) := fl_iload_n_3 (w := 0) (fd_at arL_law_k19 3 rfl)
theorem dL_law_638 : decode cL_law 638 = .ok (.iconst 1, 1) := fl_iconst_1 (w := 0) (fd_at arL_law_k19 4 rfl)
theorem dL_law_639 : decode cL_law 639 = .ok (.iadd, 1) := fl_iadd (w := 0) (fd_at arL_law_k19 5 rfl)
theorem dL_law_640 : decode cL_law 640 = .ok (.iaload, 1) := fl_iaload (w := 0) (fd_at arL_law_k19 6 rfl)
theorem dL_law_641 : decode cL_law 641 = .ok (.aload_n 0, 1) := fl_aload_n_0 (w := 0) (fd_at arL_law_k19 7 rfl)
theorem dL_law_642 : decode cL_law 642 = .ok (.iload_n 3, 1) := fl_iload_n_3 (w := 0) (fd_at arL_law_k19 8 rfl)
theorem dL_law_643 : decode cL_law 643 = .ok (.iconst 2, 1) := fl_iconst_2 (w := 0) (fd_at arL_law_k19 9 rfl)
theorem dL_law_644 : decode cL_law 644 = .ok (.iadd, 1) := fl_iadd (w := 0) (fd_at arL_law_k19 10 rfl)
theorem dL_law_645 : decode cL_law 645 = .ok (.iaload, 1) := fl_iaload (w := 0) (fd_at arL_law_k19 11 rfl)
theorem dL_law_646 : decode cL_law 646 = .ok (.invokevirtual 76, 3) := fl_invokevirtual (w := 76) (fd_at arL_law_k19 12 rfl)
theorem dL_law_649 : decode cL_law 649 = .ok (.pop, 1) := fl_pop (w := 0) (fd_at arL_law_k19 13 rfl)
theorem dL_law_650 : decode cL_law 650 = .ok (.goto 768, 3) := fl_goto (w := 768) (fd_at arL_law_k19 14 rfl) rfl
theorem dL_law_653 : decode cL_law 653 = .ok (.aload_n 1, 1) := fl_aload_n_1 (w := 0) (fd_at arL_law_k19 15 rfl)
theorem dL_law_654 : decode cL_law 654 = .ok (.aload_n 0, 1) := fl_aload_n_0 (w := 0) (fd_at arL_law_k19 16 rfl)
theorem dL_law_655 : decode cL_law 655 = .ok (.iload_n 3, 1) := fl_iload_n_3 (w := 0) (fd_at arL_law_k19 17 rfl)
theorem dL_law_656 : decode cL_law 656 = .ok (.iconst 1, 1) := fl_iconst_1 (w := 0) (fd_at arL_law_k19 18 rfl)
theorem dL_law_657 : decode cL_law 657 = .ok (.iadd, 1) := fl_iadd (w := 0) (fd_at arL_law_k19 19 rfl)
def lrL_law_k20 : List (Nat × Nat × Nat × Nat) := [(658, 46, 0, 1), (659, 42, 0, 1), (660, 29, 0, 1), (661, 5, 0, 1), (662, 96, 0, 1), (663, 46, 0, 1), (664, 182, 77, 3), (667, 87, 0, 1), (668, 44, 0, 1), (669, 42, 0, 1), (670, 29, 0, 1), (671, 4, 0, 1), (672, 96, 0, 1), (673, 46, 0, 1), (674, 42, 0, 1), (675, 29, 0, 1), (676, 5, 0, 1), (677, 96, 0, 1), (678, 46, 0, 1), (679, 182, 80, 3)]
theorem arL_law_k20 : fdChk ((cL_law).data.toList.drop 658) 658 lrL_law_k20 = true := by decide +kernel
theorem dL_law_658 : decode cL_law 658 = .ok (.iaload, 1) := fl_iaload (w := 0) (fd_at arL_law_k20 0 rfl)
theorem dL_law_659 : decode cL_law 659 = .ok (.aload_n 0, 1) := fl_aload_n_0 (w := 0) (fd_at arL_law_k20 1 rfl)
theorem dL_law_660 : decode cL_law 660 = .ok (.iload_n 3, 1) := fl_iload_n_3 (w := 0) (fd_at arL_law_k20 2 rfl)
theorem dL_law_661 : decode cL_law 661 = .ok (.iconst 2, 1) := fl_iconst_2 (w := 0) (fd_at arL_law_k20 3 rfl)
theorem dL_law_662 : decode cL_law 662 = .ok (.iadd, 1) := fl_iadd (w := 0) (fd_at arL_law_k20 4 rfl)
theorem dL_law_663 : decode cL_law 663 = .ok (.iaload, 1) := fl_iaload (w := 0) (fd_at arL_law_k20 5 rfl)
theorem dL_law_664 : decode cL_law 664 = .ok (.invokevirtual 77, 3) := fl_invokevirtual (w := 77) (fd_at arL_law_k20 6 rfl)
theorem dL_law_667 : decode cL_law 667 = .ok (.pop, 1) := fl_pop (w := 0) (fd_at arL_law_k20 7 rfl)
theorem dL_law_668 : decode cL_law 668 = .ok (.aload_n 2, 1) := fl_aload_n_2 (w := 0) (fd_at arL_law_k20 8 rfl)
theorem dL_law_669 : decode cL_law 669 = .ok (.aload_n 0, 1) := fl_aload_n_0 (w := 0) (fd_at arL_law_k20 9 rfl)
theorem dL_law_670 : decode cL_law 670 = .ok (.iload_n 3, 1) := fl_iload_n_3 (w := 0) (fd_at arL_law_k20 10 rfl)
theorem dL_law_671 : decode cL_law 671 = .ok (.iconst 1, 1) := fl_iconst_1 (w := 0) (fd_at arL_law_k20 11 rfl)
theorem dL_law_672 : decode cL_law 672 = .ok (.iadd, 1) := fl_iadd (w := 0) (fd_at arL_law_k20 12 rfl)
theorem dL_law_673 : decode cL_law 673 = .ok (.iaload, 1) := fl_iaload (w := 0) (fd_at arL_law_k20 13 rfl)
theorem dL_law_674 : decode cL_law 674 = .ok (.aload_n 0, 1) := fl_aload_n_0 (w := 0) (fd_at arL_law_k20 14 rfl)
theorem dL_law_675 : decode cL_law 675 = .ok (.iload_n 3, 1) := fl_iload_n_3 (w := 0) (fd_at arL_law_k20 15 rfl)
theorem dL_law_676 : decode cL_law 676 = .ok (.iconst 2, 1) := fl_iconst_2 (w := 0) (fd_at arL_law_k20 16 rfl)
theorem dL_law_677 : decode cL_law 677 = .ok (.iadd, 1) := fl_iadd (w := 0) (fd_at arL_law_k20 17 rfl)
theorem dL_law_678 : decode cL_law 678 = .ok (.iaload, 1) := fl_iaload (w := 0) (fd_at arL_law_k20 18 rfl)
theorem dL_law_679 : decode cL_law 679 = .ok (.invokevirtual 80, 3) := fl_invokevirtual (w := 80) (fd_at arL_law_k20 19 rfl)
def lrL_law_k21 : List (Nat × Nat × Nat × Nat) := [(682, 87, 0, 1), (683, 167, 735, 3), (686, 43, 0, 1), (687, 42, 0, 1), (688, 29, 0, 1), (689, 4, 0, 1), (690, 96, 0, 1), (691, 46, 0, 1), (692, 42, 0, 1), (693, 29, 0, 1), (694, 5, 0, 1), (695, 96, 0, 1), (696, 46, 0, 1), (697, 182, 81, 3), (700, 87, 0, 1), (701, 44, 0, 1), (702, 42, 0, 1), (703, 29, 0, 1), (704, 4, 0, 1), (705, 96, 0, 1)]
theorem arL_law_k21 : fdChk ((cL_law).data.toList.drop 682) 682 lrL_law_k21 = true := by decide +kernel
theorem dL_law_682 : decode cL_law 682 = .ok (.pop, 1) := fl_pop (w := 0) (fd_at arL_law_k21 0 rfl)
theorem dL_law_683 : decode cL_law 683 = .ok (.goto 735, 3) := fl_goto (w := 735) (fd_at arL_law_k21 1 rfl) rfl
theorem dL_law_686 : decode cL_law 686 = .ok (.aload_n 1, 1) := fl_aload_n_1 (w := 0) (fd_at arL_law_k21 2 rfl)
theorem dL_law_687 : decode cL_law 687 = .ok (.aload_n 0, 1) := fl_aload_n_0 (w := 0) (fd_at arL_law_k21 3 rfl)
theorem dL_law_688 : decode cL_law 688 = .ok (.iload_n 3, 1) := fl_iload_n_3 (w := 0) (fd_at arL_law_k21 4 rfl)
theorem dL_law_689 : decode cL_law 689 = .ok (.iconst 1, 1) := fl_iconst_1 (w := 0) (fd_at arL_law_k21 5 rfl)
theorem dL_law_690 : decode cL_law 690 = .ok (.iadd, 1) := fl_iadd (w := 0) (fd_at arL_law_k21 6 rfl)
theorem dL_law_691 : decode cL_law 691 = .ok (.iaload, 1) := fl_iaload (w := 0) (fd_at arL_law_k21 7 rfl)
theorem dL_law_692 : decode cL_law 692 = .ok (.aload_n 0, 1) := fl_aload_n_0 (w := 0) (fd_at arL_law_k21 8 rfl)
theorem dL_law_693 : decode cL_law 693 = .ok (.iload_n 3, 1) := fl_iload_n_3 (w := 0) (fd_at arL_law_k21 9 rfl)
theorem dL_law_694 : decode cL_law 694 = .ok (.iconst 2, 1) := fl_iconst_2 (w := 0) (fd_at arL_law_k21 10 rfl)
theorem dL_law_695 : decode cL_law 695 = .ok (.iadd, 1) := fl_iadd (w := 0) (fd_at arL_law_k21 11 rfl)
theorem dL_law_696 : decode cL_law 696 = .ok (.iaload, 1) := fl_iaload (w := 0) (fd_at arL_law_k21 12 rfl)
theorem dL_law_697 : decode cL_law 697 = .ok (.invokevirtual 81, 3) := fl_invokevirtual (w := 81) (fd_at arL_law_k21 13 rfl)
theorem dL_law_700 : decode cL_law 700 = .ok (.pop, 1) := fl_pop (w := 0) (fd_at arL_law_k21 14 rfl)
theorem dL_law_701 : decode cL_law 701 = .ok (.aload_n 2, 1) := fl_aload_n_2 (w := 0) (fd_at arL_law_k21 15 rfl)
theorem dL_law_702 : decode cL_law 702 = .ok (.aload_n 0, 1) := fl_aload_n_0 (w := 0) (fd_at arL_law_k21 16 rfl)
theorem dL_law_703 : decode cL_law 703 = .ok (.iload_n 3, 1) := fl_iload_n_3 (w := 0) (fd_at arL_law_k21 17 rfl)
theorem dL_law_704 : decode cL_law 704 = .ok (.iconst 1, 1) := fl_iconst_1 (w := 0) (fd_at arL_law_k21 18 rfl)
theorem dL_law_705 : decode cL_law 705 = .ok (.iadd, 1) := fl_iadd (w := 0) (fd_at arL_law_k21 19 rfl)
def lrL_law_k22 : List (Nat × Nat × Nat × Nat) := [(706, 46, 0, 1), (707, 42, 0, 1), (708, 29, 0, 1), (709, 5, 0, 1), (710, 96, 0, 1), (711, 46, 0, 1), (712, 182, 84, 3), (715, 87, 0, 1), (716, 167, 702, 3), (719, 43, 0, 1), (720, 42, 0, 1), (721, 29, 0, 1), (722, 4, 0, 1), (723, 96, 0, 1), (724, 46, 0, 1), (725, 182, 85, 3), (728, 87, 0, 1), (729, 44, 0, 1), (730, 42, 0, 1), (731, 29, 0, 1)]
theorem arL_law_k22 : fdChk ((cL_law).data.toList.drop 706) 706 lrL_law_k22 = true := by decide +kernel
theorem dL_law_706 : decode cL_law 706 = .ok (.iaload, 1) := fl_iaload (w := 0) (fd_at arL_law_k22 0 rfl)
theorem dL_law_707 : decode cL_law 707 = .ok (.aload_n 0, 1) := fl_aload_n_0 (w := 0) (fd_at arL_law_k22 1 rfl)
theorem dL_law_708 : decode cL_law 708 = .ok (.iload_n 3, 1) := fl_iload_n_3 (w := 0) (fd_at arL_law_k22 2 rfl)
theorem dL_law_709 : decode cL_law 709 = .ok (.iconst 2, 1) := fl_iconst_2 (w := 0) (fd_at arL_law_k22 3 rfl)
theorem dL_law_710 : decode cL_law 710 = .ok (.iadd, 1) := fl_iadd (w := 0) (fd_at arL_law_k22 4 rfl)
theorem dL_law_711 : decode cL_law 711 = .ok (.iaload, 1) := fl_iaload (w := 0) (fd_at arL_law_k22 5 rfl)
theorem dL_law_712 : decode cL_law 712 = .ok (.invokevirtual 84, 3) := fl_invokevirtual (w := 84) (fd_at arL_law_k22 6 rfl)
theorem dL_law_715 : decode cL_law 715 = .ok (.pop, 1) := fl_pop (w := 0) (fd_at arL_law_k22 7 rfl)
theorem dL_law_716 : decode cL_law 716 = .ok (.goto 702, 3) := fl_goto (w := 702) (fd_at arL_law_k22 8 rfl) rfl
theorem dL_law_719 : decode cL_law 719 = .ok (.aload_n 1, 1) := fl_aload_n_1 (w := 0) (fd_at arL_law_k22 9 rfl)
theorem dL_law_720 : decode cL_law 720 = .ok (.aload_n 0, 1) := fl_aload_n_0 (w := 0) (fd_at arL_law_k22 10 rfl)
theorem dL_law_721 : decode cL_law 721 = .ok (.iload_n 3, 1) := fl_iload_n_3 (w := 0) (fd_at arL_law_k22 11 rfl)
theorem dL_law_722 : decode cL_law 722 = .ok (.iconst 1, 1) := fl_iconst_1 (w := 0) (fd_at arL_law_k22 12 rfl)
theorem dL_law_723 : decode cL_law 723 = .ok (.iadd, 1) := fl_iadd (w := 0) (fd_at arL_law_k22 13 rfl)
theorem dL_law_724 : decode cL_law 724 = .ok (.iaload, 1) := fl_iaload (w := 0) (fd_at arL_law_k22 14 rfl)
theorem dL_law_725 : decode cL_law 725 = .ok (.invokevirtual 85, 3) := fl_invokevirtual (w := 85) (fd_at arL_law_k22 15 rfl)
theorem dL_law_728 : decode cL_law 728 = .ok (.pop, 1) := fl_pop (w := 0) (fd_at arL_law_k22 16 rfl)
theorem dL_law_729 : decode cL_law 729 = .ok (.aload_n 2, 1) := fl_aload_n_2 (w := 0) (fd_at arL_law_k22 17 rfl)
theorem dL_law_730 : decode cL_law 730 = .ok (.aload_n 0, 1) := fl_aload_n_0 (w := 0) (fd_at arL_law_k22 18 rfl)
theorem dL_law_731 : decode cL_law 731 = .ok (.iload_n 3, 1) := fl_iload_n_3 (w := 0) (fd_at arL_law_k22 19 rfl)
def lrL_law_k23 : List (Nat × Nat × Nat × Nat) := [(732, 4, 0, 1), (733, 96, 0, 1), (734, 46, 0, 1), (735, 182, 88, 3), (738, 87, 0, 1), (739, 167, 679, 3), (742, 43, 0, 1), (743, 42, 0, 1), (744, 29, 0, 1), (745, 4, 0, 1), (746, 96, 0, 1), (747, 46, 0, 1), (748, 182, 89, 3), (751, 87, 0, 1), (752, 44, 0, 1), (753, 42, 0, 1), (754, 29, 0, 1), (755, 4, 0, 1), (756, 96, 0, 1), (757, 46, 0, 1)]
theorem arL_law_k23 : fdChk ((cL_law).data.toList.drop 732) 732 lrL_law_k23 = true := by decide +kernel
theorem dL_law_732 : decode cL_law 732 = .ok (.iconst 1, 1) := fl_iconst_1 (w := 0) (fd_at arL_law_k23 0 rfl)
theorem dL_law_733 : decode cL_law 733 = .ok (.iadd, 1) := fl_iadd (w := 0) (fd_at arL_law_k23 1 rfl)
theorem dL_law_734 : decode cL_law 734 = .ok (.iaload, 1) := fl_iaload (w := 0) (fd_at arL_law_k23 2 rfl)
theorem dL_law_735 : decode cL_law 735 = .ok (.invokevirtual 88, 3) := fl_invokevirtual (w := 88) (fd_at arL_law_k23 3 rfl)
theorem dL_law_738 : decode cL_law 738 = .ok (.pop, 1) := fl_pop (w := 0) (fd_at arL_law_k23 4 rfl)
theorem dL_law_739 : decode cL_law 739 = .ok (.goto 679, 3) := fl_goto (w := 679) (fd_at arL_law_k23 5 rfl) rfl
theorem dL_law_742 : decode cL_law 742 = .ok (.aload_n 1, 1) := fl_aload_n_1 (w := 0) (fd_at arL_law_k23 6 rfl)
theorem dL_law_743 : decode cL_law 743 = .ok (.aload_n 0, 1) := fl_aload_n_0 (w := 0) (fd_at arL_law_k23 7 rfl)
theorem dL_law_744 : decode cL_law 744 = .ok (.iload_n 3, 1) := fl_iload_n_3 (w := 0) (fd_at arL_law_k23 8 rfl)
theorem dL_law_745 : decode cL_law 745 = .ok (.iconst 1, 1) := fl_iconst_1 (w := 0) (fd_at arL_law_k23 9 rfl)
theorem dL_law_746 : decode cL_law 746 = .ok (.iadd, 1) := fl_iadd (w := 0) (fd_at arL_law_k23 10 rfl)
theorem dL_law_747 : decode cL_law 747 = .ok (.iaload, 1) := fl_iaload (w := 0) (fd_at arL_law_k23 11 rfl)
theorem dL_law_748 : decode cL_law 748 = .ok (.invokevirtual 89, 3) := fl_invokevirtual (w := 89) (fd_at arL_law_k23 12 rfl)
theorem dL_law_751 : decode cL_law 751 = .ok (.pop, 1) := fl_pop (w := 0) (fd_at arL_law_k23 13 rfl)
theorem dL_law_752 : decode cL_law 752 = .ok (.aload_n 2, 1) := fl_aload_n_2 (w := 0) (fd_at arL_law_k23 14 rfl)
theorem dL_law_753 : decode cL_law 753 = .ok (.aload_n 0, 1) := fl_aload_n_0 (w := 0) (fd_at arL_law_k23 15 rfl)
theorem dL_law_754 : decode cL_law 754 = .ok (.iload_n 3, 1) := fl_iload_n_3 (w := 0) (fd_at arL_law_k23 16 rfl)
theorem dL_law_755 : decode cL_law 755 = .ok (.iconst 1, 1) := fl_iconst_1 (w := 0) (fd_at arL_law_k23 17 rfl)
theorem dL_law_756 : decode cL_law 756 = .ok (.iadd, 1) := fl_iadd (w := 0) (fd_at arL_law_k23 18 rfl)
theorem dL_law_757 : decode cL_law 757 = .ok (.iaload, 1) := fl_iaload (w := 0) (fd_at arL_law_k23 19 rfl)
def lrL_law_k24 : List (Nat × Nat × Nat × Nat) := [(758, 182, 92, 3), (761, 87, 0, 1), (762, 167, 656, 3), (765, 43, 0, 1), (766, 42, 0, 1), (767, 29, 0, 1), (768, 4, 0, 1), (769, 96, 0, 1), (770, 46, 0, 1), (771, 182, 93, 3), (774, 87, 0, 1), (775, 44, 0, 1), (776, 42, 0, 1), (777, 29, 0, 1), (778, 4, 0, 1), (779, 96, 0, 1), (780, 46, 0, 1), (781, 182, 96, 3), (784, 87, 0, 1), (785, 167, 633, 3)]
theorem arL_law_k24 : fdChk ((cL_law).data.toList.drop 758) 758 lrL_law_k24 = true := by decide +kernel
theorem dL_law_758 : decode cL_law 758 = .ok (.invokevirtual 92, 3) := fl_invokevirtual (w := 92) (fd_at arL_law_k24 0 rfl)
theorem dL_law_761 : decode cL_law 761 = .ok (.pop, 1) := fl_pop (w := 0) (fd_at arL_law_k24 1 rfl)
theorem dL_law_762 : decode cL_law 762 = .ok (.goto 656, 3) := fl_goto (w := 656) (fd_at arL_law_k24 2 rfl) rfl
theorem dL_law_765 : decode cL_law 765 = .ok (.aload_n 1, 1) := fl_aload_n_1 (w := 0) (fd_at arL_law_k24 3 rfl)
theorem dL_law_766 : decode cL_law 766 = .ok (.aload_n 0, 1) := fl_aload_n_0 (w := 0) (fd_at arL_law_k24 4 rfl)
theorem dL_law_767 : decode cL_law 767 = .ok (.iload_n 3, 1) := fl_iload_n_3 (w := 0) (fd_at arL_law_k24 5 rfl)
theorem dL_law_768 : decode cL_law 768 = .ok (.iconst 1, 1) := fl_iconst_1 (w := 0) (fd_at arL_law_k24 6 rfl)
theorem dL_law_769 : decode cL_law 769 = .ok (.iadd, 1) := fl_iadd (w := 0) (fd_at arL_law_k24 7 rfl)
theorem dL_law_770 : decode cL_law 770 = .ok (.iaload, 1) := fl_iaload (w := 0) (fd_at arL_law_k24 8 rfl)
theorem dL_law_771 : decode cL_law 771 = .ok (.invokevirtual 93, 3) := fl_invokevirtual (w := 93) (fd_at arL_law_k24 9 rfl)
theorem dL_law_774 : decode cL_law 774 = .ok (.pop, 1) := fl_pop (w := 0) (fd_at arL_law_k24 10 rfl)
theorem dL_law_775 : decode cL_law 775 = .ok (.aload_n 2, 1) := fl_aload_n_2 (w := 0) (fd_at arL_law_k24 11 rfl)
theorem dL_law_776 : decode cL_law 776 = .ok (.aload_n 0, 1) := fl_aload_n_0 (w := 0) (fd_at arL_law_k24 12 rfl)
theorem dL_law_777 : decode cL_law 777 = .ok (.iload_n 3, 1) := fl_iload_n_3 (w := 0) (fd_at arL_law_k24 13 rfl)
theorem dL_law_778 : decode cL_law 778 = .ok (.iconst 1, 1) := fl_iconst_1 (w := 0) (fd_at arL_law_k24 14 rfl)
theorem dL_law_779 : decode cL_law 779 = .ok (.iadd, 1) := fl_iadd (w := 0) (fd_at arL_law_k24 15 rfl)
theorem dL_law_780 : decode cL_law 780 = .ok (.iaload, 1) := fl_iaload (w := 0) (fd_at arL_law_k24 16 rfl)
theorem dL_law_781 : decode cL_law 781 = .ok (.invokevirtual 96, 3) := fl_invokevirtual (w := 96) (fd_at arL_law_k24 17 rfl)
theorem dL_law_784 : decode cL_law 784 = .ok (.pop, 1) := fl_pop (w := 0) (fd_at arL_law_k24 18 rfl)
theorem dL_law_785 : decode cL_law 785 = .ok (.goto 633, 3) := fl_goto (w := 633) (fd_at arL_law_k24 19 rfl) rfl
def lrL_law_k25 : List (Nat × Nat × Nat × Nat) := [(788, 43, 0, 1), (789, 42, 0, 1), (790, 29, 0, 1), (791, 4, 0, 1), (792, 96, 0, 1), (793, 46, 0, 1), (794, 182, 97, 3), (797, 87, 0, 1), (798, 44, 0, 1), (799, 42, 0, 1), (800, 29, 0, 1), (801, 4, 0, 1), (802, 96, 0, 1), (803, 46, 0, 1), (804, 182, 100, 3), (807, 87, 0, 1), (808, 167, 610, 3), (811, 43, 0, 1), (812, 42, 0, 1), (813, 29, 0, 1)]
theorem arL_law_k25 : fdChk ((cL_law).data.toList.drop 788) 788 lrL_law_k25 = true := by decide +kernel
theorem dL_law_788 : decode cL_law 788 = .ok (.aload_n 1, 1) := fl_aload_n_1 (w := 0) (fd_at arL_law_k25 0 rfl)
theorem dL_law_789 : decode cL_law 789 = .ok (.aload_n 0, 1) := fl_aload_n_0 (w := 0) (fd_at arL_law_k25 1 rfl)
theorem dL_law_790 : decode cL_law 790 = .ok (.iload_n 3, 1) := fl_iload_n_3 (w := 0) (fd_at arL_law_k25 2 rfl)
theorem dL_law_791 : decode cL_law 791 = .ok (.iconst 1, 1) := fl_iconst_1 (w := 0) (fd_at arL_law_k25 3 rfl)
theorem dL_law_792 : decode cL_law 792 = .ok (.iadd, 1) := fl_iadd (w := 0) (fd_at arL_law_k25 4 rfl)
theorem dL_law_793 : decode cL_law 793 = .ok (.iaload, 1) := fl_iaload (w := 0) (fd_at arL_law_k25 5 rfl)
theorem dL_law_794 : decode cL_law 794 = .ok (.invokevirtual 97, 3) := fl_invokevirtual (w := 97) (fd_at arL_law_k25 6 rfl)
theorem dL_law_797 : decode cL_law 797 = .ok (.pop, 1) := fl_pop (w := 0) (fd_at arL_law_k25 7 rfl)
theorem dL_law_798 : decode cL_law 798 = .ok (.aload_n 2, 1) := fl_aload_n_2 (w := 0) (fd_at arL_law_k25 8 rfl)
theorem dL_law_799 : decode cL_law 799 = .ok (.aload_n 0, 1) := fl_aload_n_0 (w := 0) (fd_at arL_law_k25 9 rfl)
theorem dL_law_800 : decode cL_law 800 = .ok (.iload_n 3, 1) := fl_iload_n_3 (w := 0) (fd_at arL_law_k25 10 rfl)
theorem dL_law_801 : decode cL_law 801 = .ok (.iconst 1, 1) := fl_iconst_1 (w := 0) (fd_at arL_law_k25 11 rfl)
theorem dL_law_802 : decode cL_law 802 = .ok (.iadd, 1) := fl_iadd (w := 0) (fd_at arL_law_k25 12 rfl)
theorem dL_law_803 : decode cL_law 803 = .ok (.iaload, 1) := fl_iaload (w := 0) (fd_at arL_law_k25 13 rfl)
theorem dL_law_804 : decode cL_law 804 = .ok (.invokevirtual 100, 3) := fl_invokevirtual (w := 100) (fd_at arL_law_k25 14 rfl)
theorem dL_law_807 : decode cL_law 807 = .ok (.pop, 1) := fl_pop (w := 0) (fd_at arL_law_k25 15 rfl)
theorem dL_law_808 : decode cL_law 808 = .ok (.goto 610, 3) := fl_goto (w := 610) (fd_at arL_law_k25 16 rfl) rfl
theorem dL_law_811 : decode cL_law 811 = .ok (.aload_n 1, 1) := fl_aload_n_1 (w := 0) (fd_at arL_law_k25 17 rfl)
theorem dL_law_812 : decode cL_law 812 = .ok (.aload_n 0, 1) := fl_aload_n_0 (w := 0) (fd_at arL_law_k25 18 rfl)
theorem dL_law_813 : decode cL_law 813 = .ok (.iload_n 3, 1) := fl_iload_n_3 (w := 0) (fd_at arL_law_k25 19 rfl)
def lrL_law_k26 : List (Nat × Nat × Nat × Nat) := [(814, 4, 0, 1), (815, 96, 0, 1), (816, 46, 0, 1), (817, 182, 101, 3), (820, 87, 0, 1), (821, 44, 0, 1), (822, 42, 0, 1), (823, 29, 0, 1), (824, 4, 0, 1), (825, 96, 0, 1), (826, 46, 0, 1), (827, 182, 104, 3), (830, 87, 0, 1), (831, 167, 587, 3), (834, 43, 0, 1), (835, 42, 0, 1), (836, 29, 0, 1), (837, 4, 0, 1), (838, 96, 0, 1), (839, 46, 0, 1)]
theorem arL_law_k26 : fdChk ((cL_law).data.toList.drop 814) 814 lrL_law_k26 = true := by decide +kernel
theorem dL_law_814 : decode cL_law 814 = .ok (.iconst 1, 1) := fl_iconst_1 (w := 0) (fd_at arL_law_k26 0 rfl)
theorem dL_law_815 : decode cL_law 815 = .ok (.iadd, 1) := fl_iadd (w := 0) (fd_at arL_law_k26 1 rfl)
theorem dL_law_816 : decode cL_law 816 = .ok (.iaload, 1) := fl_iaload (w := 0) (fd_at arL_law_k26 2 rfl)
theorem dL_law_817 : decode cL_law 817 = .ok (.invokevirtual 101, 3) := fl_invokevirtual (w := 101) (fd_at arL_law_k26 3 rfl)
theorem dL_law_820 : decode cL_law 820 = .ok (.pop, 1) := fl_pop (w := 0) (fd_at arL_law_k26 4 rfl)
theorem dL_law_821 : decode cL_law 821 = .ok (.aload_n 2, 1) := fl_aload_n_2 (w := 0) (fd_at arL_law_k26 5 rfl)
theorem dL_law_822 : decode cL_law 822 = .ok (.aload_n 0, 1) := fl_aload_n_0 (w := 0) (fd_at arL_law_k26 6 rfl)
theorem dL_law_823 : decode cL_law 823 = .ok (.iload_n 3, 1) := fl_iload_n_3 (w := 0) (fd_at arL_law_k26 7 rfl)
theorem dL_law_824 : decode cL_law 824 = .ok (.iconst 1, 1) := fl_iconst_1 (w := 0) (fd_at arL_law_k26 8 rfl)
theorem dL_law_825 : decode cL_law 825 = .ok (.iadd, 1) := fl_iadd (w := 0) (fd_at arL_law_k26 9 rfl)
theorem dL_law_826 : decode cL_law 826 = .ok (.iaload, 1) := fl_iaload (w := 0) (fd_at arL_law_k26 10 rfl)
theorem dL_law_827 : decode cL_law 827 = .ok (.invokevirtual 104, 3) := fl_invokevirtual (w := 104) (fd_at arL_law_k26 11 rfl)
theorem dL_law_830 : decode cL_law 830 = .ok (.pop, 1) := fl_pop (w := 0) (fd_at arL_law_k26 12 rfl)
theorem dL_law_831 : decode cL_law 831 = .ok (.goto 587, 3) := fl_goto (w := 587) (fd_at arL_law_k26 13 rfl) rfl
theorem dL_law_834 : decode cL_law 834 = .ok (.aload_n 1, 1) := fl_aload_n_1 (w := 0) (fd_at arL_law_k26 14 rfl)
theorem dL_law_835 : decode cL_law 835 = .ok (.aload_n 0, 1) := fl_aload_n_0 (w := 0) (fd_at arL_law_k26 15 rfl)
theorem dL_law_836 : decode cL_law 836 = .ok (.iload_n 3, 1) := fl_iload_n_3 (w := 0) (fd_at arL_law_k26 16 rfl)
theorem dL_law_837 : decode cL_law 837 = .ok (.iconst 1, 1) := fl_iconst_1 (w := 0) (fd_at arL_law_k26 17 rfl)
theorem dL_law_838 : decode cL_law 838 = .ok (.iadd, 1) := fl_iadd (w := 0) (fd_at arL_law_k26 18 rfl)
theorem dL_law_839 : decode cL_law 839 = .ok (.iaload, 1) := fl_iaload (w := 0) (fd_at arL_law_k26 19 rfl)
def lrL_law_k27 : List (Nat × Nat × Nat × Nat) := [(840, 182, 105, 3), (843, 87, 0, 1), (844, 44, 0, 1), (845, 42, 0, 1), (846, 29, 0, 1), (847, 4, 0, 1), (848, 96, 0, 1), (849, 46, 0, 1), (850, 182, 108, 3), (853, 87, 0, 1), (854, 167, 564, 3), (857, 43, 0, 1), (858, 42, 0, 1), (859, 29, 0, 1), (860, 4, 0, 1), (861, 96, 0, 1), (862, 46, 0, 1), (863, 42, 0, 1), (864, 29, 0, 1), (865, 5, 0, 1)]
theorem arL_law_k27 : fdChk ((cL_law).data.toList.drop 840) 840 lrL_law_k27 = true := by decide +kernel
theorem dL_law_840 : decode cL_law 840 = .ok (.invokevirtual 105, 3) := fl_invokevirtual (w := 105) (fd_at arL_law_k27 0 rfl)
theorem dL_law_843 : decode cL_law 843 = .ok (.pop, 1) := fl_pop (w := 0) (fd_at arL_law_k27 1 rfl)
theorem dL_law_844 : decode cL_law 844 = .ok (.aload_n 2, 1) := fl_aload_n_2 (w := 0) (fd_at arL_law_k27 2 rfl)
theorem dL_law_845 : decode cL_law 845 = .ok (.aload_n 0, 1) := fl_aload_n_0 (w := 0) (fd_at arL_law_k27 3 rfl)
theorem dL_law_846 : decode cL_law 846 = .ok (.iload_n 3, 1) := fl_iload_n_3 (w := 0) (fd_at arL_law_k27 4 rfl)
theorem dL_law_847 : decode cL_law 847 = .ok (.iconst 1, 1) := fl_iconst_1 (w := 0) (fd_at arL_law_k27 5 rfl)
theorem dL_law_848 : decode cL_law 848 = .ok (.iadd, 1) := fl_iadd (w := 0) (fd_at arL_law_k27 6 rfl)
theorem dL_law_849 : decode cL_law 849 = .ok (.iaload, 1) := fl_iaload (w := 0) (fd_at arL_law_k27 7 rfl)
theorem dL_law_850 : decode cL_law 850 = .ok (.invokevirtual 108, 3) := fl_invokevirtual (w := 108) (fd_at arL_law_k27 8 rfl)
theorem dL_law_853 : decode cL_law 853 = .ok (.pop, 1) := fl_pop (w := 0) (fd_at arL_law_k27 9 rfl)
theorem dL_law_854 : decode cL_law 854 = .ok (.goto 564, 3) := fl_goto (w := 564) (fd_at arL_law_k27 10 rfl) rfl
theorem dL_law_857 : decode cL_law 857 = .ok (.aload_n 1, 1) := fl_aload_n_1 (w := 0) (fd_at arL_law_k27 11 rfl)
theorem dL_law_858 : decode cL_law 858 = .ok (.aload_n 0, 1) := fl_aload_n_0 (w := 0) (fd_at arL_law_k27 12 rfl)
theorem dL_law_859 : decode cL_law 859 = .ok (.iload_n 3, 1) := fl_iload_n_3 (w := 0) (fd_at arL_law_k27 13 rfl)
theorem dL_law_860 : decode cL_law 860 = .ok (.iconst 1, 1) := fl_iconst_1 (w := 0) (fd_at arL_law_k27 14 rfl)
theorem dL_law_861 : decode cL_law 861 = .ok (.iadd, 1) := fl_iadd (w := 0) (fd_at arL_law_k27 15 rfl)
theorem dL_law_862 : decode cL_law 862 = .ok (.iaload, 1) := fl_iaload (w := 0) (fd_at arL_law_k27 16 rfl)
theorem dL_law_863 : decode cL_law 863 = .ok (.aload_n 0, 1) := fl_aload_n_0 (w := 0) (fd_at arL_law_k27 17 rfl)
theorem dL_law_864 : decode cL_law 864 = .ok (.iload_n 3, 1) := fl_iload_n_3 (w := 0) (fd_at arL_law_k27 18 rfl)
theorem dL_law_865 : decode cL_law 865 = .ok (.iconst 2, 1) := fl_iconst_2 (w := 0) (fd_at arL_law_k27 19 rfl)
def lrL_law_k28 : List (Nat × Nat × Nat × Nat) := [(866, 96, 0, 1), (867, 46, 0, 1), (868, 182, 109, 3), (871, 87, 0, 1), (872, 44, 0, 1), (873, 42, 0, 1), (874, 29, 0, 1), (875, 4, 0, 1), (876, 96, 0, 1), (877, 46, 0, 1), (878, 42, 0, 1), (879, 29, 0, 1), (880, 5, 0, 1), (881, 96, 0, 1), (882, 46, 0, 1), (883, 182, 112, 3), (886, 87, 0, 1), (887, 167, 531, 3), (890, 43, 0, 1), (891, 42, 0, 1)]
theorem arL_law_k28 : fdChk ((cL_law).data.toList.drop 866) 866 lrL_law_k28 = true := by decide +kernel
theorem dL_law_866 : decode cL_law 866 = .ok (.iadd, 1) := fl_iadd (w := 0) (fd_at arL_law_k28 0 rfl)
theorem dL_law_867 : decode cL_law 867 = .ok (.iaload, 1) := fl_iaload (w := 0) (fd_at arL_law_k28 1 rfl)
theorem dL_law_868 : decode cL_law 868 = .ok (.invokevirtual 109, 3) := fl_invokevirtual (w := 109) (fd_at arL_law_k28 2 rfl)
theorem dL_law_871 : decode cL_law 871 = .ok (.pop, 1) := fl_pop (w := 0) (fd_at arL_law_k28 3 rfl)
theorem dL_law_872 : decode cL_law 872 = .ok (.aload_n 2, 1) := fl_aload_n_2 (w := 0) (fd_at arL_law_k28 4 rfl)
theorem dL_law_873 : decode cL_law 873 = .ok (.aload_n 0, 1) := fl_aload_n_0 (w := 0) (fd_at arL_law_k28 5 rfl)
theorem dL_law_874 : decode cL_law 874 = .ok (.iload_n 3, 1) := fl_iload_n_3 (w := 0) (fd_at arL_law_k28 6 rfl)
theorem dL_law_875 : decode cL_law 875 = .ok (.iconst 1, 1) := fl_iconst_1 (w := 0) (fd_at arL_law_k28 7 rfl)
theorem dL_law_876 : decode cL_law 876 = .ok (.iadd, 1) := fl_iadd (w := 0) (fd_at arL_law_k28 8 rfl)
theorem dL_law_877 : decode cL_law 877 = .ok (.iaload, 1) := fl_iaload (w := 0) (fd_at arL_law_k28 9 rfl)
theorem dL_law_878 : decode cL_law 878 = .ok (.aload_n 0, 1) := fl_aload_n_0 (w := 0) (fd_at arL_law_k28 10 rfl)
theorem dL_law_879 : decode cL_law 879 = .ok (.iload_n 3, 1) := fl_iload_n_3 (w := 0) (fd_at arL_law_k28 11 rfl)
theorem dL_law_880 : decode cL_law 880 = .ok (.iconst 2, 1) := fl_iconst_2 (w := 0) (fd_at arL_law_k28 12 rfl)
theorem dL_law_881 : decode cL_law 881 = .ok (.iadd, 1) := fl_iadd (w := 0) (fd_at arL_law_k28 13 rfl)
theorem dL_law_882 : decode cL_law 882 = .ok (.iaload, 1) := fl_iaload (w := 0) (fd_at arL_law_k28 14 rfl)
theorem dL_law_883 : decode cL_law 883 = .ok (.invokevirtual 112, 3) := fl_invokevirtual (w := 112) (fd_at arL_law_k28 15 rfl)
theorem dL_law_886 : decode cL_law 886 = .ok (.pop, 1) := fl_pop (w := 0) (fd_at arL_law_k28 16 rfl)
theorem dL_law_887 : decode cL_law 887 = .ok (.goto 531, 3) := fl_goto (w := 531) (fd_at arL_law_k28 17 rfl) rfl
theorem dL_law_890 : decode cL_law 890 = .ok (.aload_n 1, 1) := fl_aload_n_1 (w := 0) (fd_at arL_law_k28 18 rfl)
theorem dL_law_891 : decode cL_law 891 = .ok (.aload_n 0, 1) := fl_aload_n_0 (w := 0) (fd_at arL_law_k28 19 rfl)
def lrL_law_k29 : List (Nat × Nat × Nat × Nat) := [(892, 29, 0, 1), (893, 4, 0, 1), (894, 96, 0, 1), (895, 46, 0, 1), (896, 42, 0, 1), (897, 29, 0, 1), (898, 5, 0, 1), (899, 96, 0, 1), (900, 46, 0, 1), (901, 42, 0, 1), (902, 29, 0, 1), (903, 6, 0, 1), (904, 96, 0, 1), (905, 46, 0, 1), (906, 182, 113, 3), (909, 87, 0, 1), (910, 44, 0, 1), (911, 42, 0, 1), (912, 29, 0, 1), (913, 4, 0, 1)]
theorem arL_law_k29 : fdChk ((cL_law).data.toList.drop 892) 892 lrL_law_k29 = true := by decide +kernel
theorem dL_law_892 : decode cL_law 892 = .ok (.iload_n 3, 1) := fl_iload_n_3 (w := 0) (fd_at arL_law_k29 0 rfl)
theorem dL_law_893 : decode cL_law 893 = .ok (.iconst 1, 1) := fl_iconst_1 (w := 0) (fd_at arL_law_k29 1 rfl)
theorem dL_law_894 : decode cL_law 894 = .ok (.iadd, 1) := fl_iadd (w := 0) (fd_at arL_law_k29 2 rfl)
theorem dL_law_895 : decode cL_law 895 = .ok (.iaload, 1) := fl_iaload (w := 0) (fd_at arL_law_k29 3 rfl)
theorem dL_law_896 : decode cL_law 896 = .ok (.aload_n 0, 1) := fl_aload_n_0 (w := 0) (fd_at arL_law_k29 4 rfl)
theorem dL_law_897 : decode cL_law 897 = .ok (.iload_n 3, 1) := fl_iload_n_3 (w := 0) (fd_at arL_law_k29 5 rfl)
theorem dL_law_898 : decode cL_law 898 = .ok (.iconst 2, 1) := fl_iconst_2 (w := 0) (fd_at arL_law_k29 6 rfl)
theorem dL_law_899 : decode cL_law 899 = .ok (.iadd, 1) := fl_iadd (w := 0) (fd_at arL_law_k29 7 rfl)
theorem dL_law_900 : decode cL_law 900 = .ok (.iaload, 1) := fl_iaload (w := 0) (fd_at arL_law_k29 8 rfl)
theorem dL_law_901 : decode cL_law 901 = .ok (.aload_n 0, 1) := fl_aload_n_0 (w := 0) (fd_at arL_law_k29 9 rfl)
theorem dL_law_902 : decode cL_law 902 = .ok (.iload_n 3, 1) := fl_iload_n_3 (w := 0) (fd_at arL_law_k29 10 rfl)
theorem dL_law_903 : decode cL_law 903 = .ok (.iconst 3, 1) := fl_iconst_3 (w := 0) (fd_at arL_law_k29 11 rfl)
theorem dL_law_904 : decode cL_law 904 = .ok (.iadd, 1) := fl_iadd (w := 0) (fd_at arL_law_k29 12 rfl)
theorem dL_law_905 : decode cL_law 905 = .ok (.iaload, 1) := fl_iaload (w := 0) (fd_at arL_law_k29 13 rfl)
theorem dL_law_906 : decode cL_law 906 = .ok (.invokevirtual 113, 3) := fl_invokevirtual (w := 113) (fd_at arL_law_k29 14 rfl)
theorem dL_law_909 : decode cL_law 909 = .ok (.pop, 1) := fl_pop (w := 0) (fd_at arL_law_k29 15 rfl)
theorem dL_law_910 : decode cL_law 910 = .ok (.aload_n 2, 1) := fl_aload_n_2 (w := 0) (fd_at arL_law_k29 16 rfl)
theorem dL_law_911 : decode cL_law 911 = .ok (.aload_n 0, 1) := fl_aload_n_0 (w := 0) (fd_at arL_law_k29 17 rfl)
theorem dL_law_912 : decode cL_law 912 = .ok (.iload_n 3, 1) := fl_iload_n_3 (w := 0) (fd_at arL_law_k29 18 rfl)
theorem dL_law_913 : decode cL_law 913 = .ok (.iconst 1, 1) := fl_iconst_1 (w := 0) (fd_at arL_law_k29 19 rfl)
def lrL_law_k30 : List (Nat × Nat × Nat × Nat) := [(914, 96, 0, 1), (915, 46, 0, 1), (916, 42, 0, 1), (917, 29, 0, 1), (918, 5, 0, 1), (919, 96, 0, 1), (920, 46, 0, 1), (921, 42, 0, 1), (922, 29, 0, 1), (923, 6, 0, 1), (924, 96, 0, 1), (925, 46, 0, 1), (926, 182, 116, 3), (929, 87, 0, 1), (930, 167, 488, 3), (933, 43, 0, 1), (934, 42, 0, 1), (935, 29, 0, 1), (936, 4, 0, 1), (937, 96, 0, 1)]
theorem arL_law_k30 : fdChk ((cL_law).data.toList.drop 914) 914 lrL_law_k30 = true := by decide +kernel
theorem dL_law_914 : decode cL_law 914 = .ok (.iadd, 1) := fl_iadd (w := 0) (fd_at arL_law_k30 0 rfl)
theorem dL_law_915 : decode cL_law 915 = .ok (.iaload, 1) := fl_iaload (w := 0) (fd_at arL_law_k30 1 rfl)
theorem dL_law_916 : decode cL_law 916 = .ok (.aload_n 0, 1) := fl_aload_n_0 (w := 0) (fd_at arL_law_k30 2 rfl)
theorem dL_law_917 : decode cL_law 917 = .ok (.iload_n 3, 1) := fl_iload_n_3 (w := 0) (fd_at arL_law_k30 3 rfl)
theorem dL_law_918 : decode cL_law 918 = .ok (.iconst 2, 1) := fl_iconst_2 (w := 0) (fd_at arL_law_k30 4 rfl)
theorem dL_law_919 : decode cL_law 919 = .ok (.iadd, 1) := fl_iadd (w := 0) (fd_at arL_law_k30 5 rfl)
theorem dL_law_920 : decode cL_law 920 = .ok (.iaload, 1) := fl_iaload (w := 0) (fd_at arL_law_k30 6 rfl)
theorem dL_law_921 : decode cL_law 921 = .ok (.aload_n 0, 1) := fl_aload_n_0 (w := 0) (fd_at arL_law_k30 7 rfl)
theorem dL_law_922 : decode cL_law 922 = .ok (.iload_n 3, 1) := fl_iload_n_3 (w := 0) (fd_at arL_law_k30 8 rfl)
theorem dL_law_923 : decode cL_law 923 = .ok (.iconst 3, 1) := fl_iconst_3 (w := 0) (fd_at arL_law_k30 9 rfl)
theorem dL_law_924 : decode cL_law 924 = .ok (.iadd, 1) := fl_iadd (w := 0) (fd_at arL_law_k30 10 rfl)
theorem dL_law_925 : decode cL_law 925 = .ok (.iaload, 1) := fl_iaload (w := 0) (fd_at arL_law_k30 11 rfl)
theorem dL_law_926 : decode cL_law 926 = .ok (.invokevirtual 116, 3) := fl_invokevirtual (w := 116) (fd_at arL_law_k30 12 rfl)
theorem dL_law_929 : decode cL_law 929 = .ok (.pop, 1) := fl_pop (w := 0) (fd_at arL_law_k30 13 rfl)
theorem dL_law_930 : decode cL_law 930 = .ok (.goto 488, 3) := fl_goto (w := 488) (fd_at arL_law_k30 14 rfl) rfl
theorem dL_law_933 : decode cL_law 933 = .ok (.aload_n 1, 1) := fl_aload_n_1 (w := 0) (fd_at arL_law_k30 15 rfl)
theorem dL_law_934 : decode cL_law 934 = .ok (.aload_n 0, 1) := fl_aload_n_0 (w := 0) (fd_at arL_law_k30 16 rfl)
theorem dL_law_935 : decode cL_law 935 = .ok (.iload_n 3, 1) := fl_iload_n_3 (w := 0) (fd_at arL_law_k30 17 rfl)
theorem dL_law_936 : decode cL_law 936 = .ok (.iconst 1, 1) := fl_iconst_1 (w := 0) (fd_at arL_law_k30 18 rfl)
theorem dL_law_937 : decode cL_law 937 = .ok (.iadd, 1) := fl_iadd (w := 0) (fd_at arL_law_k30 19 rfl)
def lrL_law_k31 : List (Nat × Nat × Nat × Nat) := [(938, 46, 0, 1), (939, 182, 117, 3), (942, 87, 0, 1), (943, 44, 0, 1), (944, 42, 0, 1), (945, 29, 0, 1), (946, 4, 0, 1), (947, 96, 0, 1), (948, 46, 0, 1), (949, 182, 120, 3), (952, 87, 0, 1), (953, 167, 465, 3), (956, 43, 0, 1), (957, 42, 0, 1), (958, 29, 0, 1), (959, 4, 0, 1), (960, 96, 0, 1), (961, 46, 0, 1), (962, 42, 0, 1), (963, 29, 0, 1)]
theorem arL_law_k31 : fdChk ((cL_law).data.toList.drop 938) 938 lrL_law_k31 = true := by decide +kernel
theorem dL_law_938 : decode cL_law 938 = .ok (.iaload, 1) := fl_iaload (w := 0) (fd_at arL_law_k31 0 rfl)
theorem dL_law_939 : decode cL_law 939 = .ok (.invokevirtual 117, 3) := fl_invokevirtual (w := 117) (fd_at arL_law_k31 1 rfl)
theorem dL_law_942 : decode cL_law 942 = .ok (.pop, 1) := fl_pop (w := 0) (fd_at arL_law_k31 2 rfl)
theorem dL_law_943 : decode cL_law 943 = .ok (.aload_n 2, 1) := fl_aload_n_2 (w := 0) (fd_at arL_law_k31 3 rfl)
theorem dL_law_944 : decode cL_law 944 = .ok (.aload_n 0, 1) := fl_aload_n_0 (w := 0) (fd_at arL_law_k31 4 rfl)
theorem dL_law_945 : decode cL_law 945 = .ok (.iload_n 3, 1) := fl_iload_n_3 (w := 0) (fd_at arL_law_k31 5 rfl)
theorem dL_law_946 : decode cL_law 946 = .ok (.iconst 1, 1) := fl_iconst_1 (w := 0) (fd_at arL_law_k31 6 rfl)
theorem dL_law_947 : decode cL_law 947 = .ok (.iadd, 1) := fl_iadd (w := 0) (fd_at arL_law_k31 7 rfl)
theorem dL_law_948 : decode cL_law 948 = .ok (.iaload, 1) := fl_iaload (w := 0) (fd_at arL_law_k31 8 rfl)
theorem dL_law_949 : decode cL_law 949 = .ok (.invokevirtual 120, 3) := fl_invokevirtual (w := 120) (fd_at arL_law_k31 9 rfl)
theorem dL_law_952 : decode cL_law 952 = .ok (.pop, 1) := fl_pop (w := 0) (fd_at arL_law_k31 10 rfl)
theorem dL_law_953 : decode cL_law 953 = .ok (.goto 465, 3) := fl_goto (w := 465) (fd_at arL_law_k31 11 rfl) rfl
theorem dL_law_956 : decode cL_law 956 = .ok (.aload_n 1, 1) := fl_aload_n_1 (w := 0) (fd_at arL_law_k31 12 rfl)
theorem dL_law_957 : decode cL_law 957 = .ok (.aload_n 0, 1) := fl_aload_n_0 (w := 0) (fd_at arL_law_k31 13 rfl)
theorem dL_law_958 : decode cL_law 958 = .ok (.iload_n 3, 1) := fl_iload_n_3 (w := 0) (fd_at arL_law_k31 14 rfl)
theorem dL_law_959 : decode cL_law 959 = .ok (.iconst 1, 1) := fl_iconst_1 (w := 0) (fd_at arL_law_k31 15 rfl)
theorem dL_law_960 : decode cL_law 960 = .ok (.iadd, 1) := fl_iadd (w := 0) (fd_at arL_law_k31 16 rfl)
theorem dL_law_961 : decode cL_law 961 = .ok (.iaload, 1) := fl_iaload (w := 0) (fd_at arL_law_k31 17 rfl)
theorem dL_law_962 : decode cL_law 962 = .ok (.aload_n 0, 1) := fl_aload_n_0 (w := 0) (fd_at arL_law_k31 18 rfl)
theorem dL_law_963 : decode cL_law 963 = .ok (.iload_n 3, 1) := fl_iload_n_3 (w := 0) (fd_at arL_law_k31 19 rfl)
def lrL_law_k32 : List (Nat × Nat × Nat × Nat) := [(964, 5, 0, 1), (965, 96, 0, 1), (966, 46, 0, 1), (967, 182, 121, 3), (970, 88, 0, 1), (971, 44, 0, 1), (972, 42, 0, 1), (973, 29, 0, 1), (974, 4, 0, 1), (975, 96, 0, 1), (976, 46, 0, 1), (977, 42, 0, 1), (978, 29, 0, 1), (979, 5, 0, 1), (980, 96, 0, 1), (981, 46, 0, 1), (982, 182, 125, 3), (985, 88, 0, 1), (986, 167, 432, 3), (989, 43, 0, 1)]
theorem arL_law_k32 : fdChk ((cL_law).data.toList.drop 964) 964 lrL_law_k32 = true := by decide +kernel
theorem dL_law_964 : decode cL_law 964 = .ok (.iconst 2, 1) := fl_iconst_2 (w := 0) (fd_at arL_law_k32 0 rfl)
theorem dL_law_965 : decode cL_law 965 = .ok (.iadd, 1) := fl_iadd (w := 0) (fd_at arL_law_k32 1 rfl)
theorem dL_law_966 : decode cL_law 966 = .ok (.iaload, 1) := fl_iaload (w := 0) (fd_at arL_law_k32 2 rfl)
theorem dL_law_967 : decode cL_law 967 = .ok (.invokevirtual 121, 3) := fl_invokevirtual (w := 121) (fd_at arL_law_k32 3 rfl)
theorem dL_law_970 : decode cL_law 970 = .ok (.pop2, 1) := fl_pop2 (w := 0) (fd_at arL_law_k32 4 rfl)
theorem dL_law_971 : decode cL_law 971 = .ok (.aload_n 2, 1) := fl_aload_n_2 (w := 0) (fd_at arL_law_k32 5 rfl)
theorem dL_law_972 : decode cL_law 972 = .ok (.aload_n 0, 1) := fl_aload_n_0 (w := 0) (fd_at arL_law_k32 6 rfl)
theorem dL_law_973 : decode cL_law 973 = .ok (.iload_n 3, 1) := fl_iload_n_3 (w := 0) (fd_at arL_law_k32 7 rfl)
theorem dL_law_974 : decode cL_law 974 = .ok (.iconst 1, 1) := fl_iconst_1 (w := 0) (fd_at arL_law_k32 8 rfl)
theorem dL_law_975 : decode cL_law 975 = .ok (.iadd, 1) := fl_iadd (w := 0) (fd_at arL_law_k32 9 rfl)
theorem dL_law_976 : decode cL_law 976 = .ok (.iaload, 1) := fl_iaload (w := 0) (fd_at arL_law_k32 10 rfl)
theorem dL_law_977 : decode cL_law 977 = .ok (.aload_n 0, 1) := fl_aload_n_0 (w := 0) (fd_at arL_law_k32 11 rfl)
theorem dL_law_978 : decode cL_law 978 = .ok (.iload_n 3, 1) := fl_iload_n_3 (w := 0) (fd_at arL_law_k32 12 rfl)
theorem dL_law_979 : decode cL_law 979 = .ok (.iconst 2, 1) := fl_iconst_2 (w := 0) (fd_at arL_law_k32 13 rfl)
theorem dL_law_980 : decode cL_law 980 = .ok (.iadd, 1) := fl_iadd (w := 0) (fd_at arL_law_k32 14 rfl)
theorem dL_law_981 : decode cL_law 981 = .ok (.iaload, 1) := fl_iaload (w := 0) (fd_at arL_law_k32 15 rfl)
theorem dL_law_982 : decode cL_law 982 = .ok (.invokevirtual 125, 3) := fl_invokevirtual (w := 125) (fd_at arL_law_k32 16 rfl)
theorem dL_law_985 : decode cL_law 985 = .ok (.pop2, 1) := fl_pop2 (w := 0) (fd_at arL_law_k32 17 rfl)
theorem dL_law_986 : decode cL_law 986 = .ok (.goto 432, 3) := fl_goto (w := 432) (fd_at arL_law_k32 18 rfl) rfl
theorem dL_law_989 : decode cL_law 989 = .ok (.aload_n 1, 1) := fl_aload_n_1 (w := 0) (fd_at arL_law_k32 19 rfl)
def lrL_law_k33 : List (Nat × Nat × Nat × Nat) := [(990, 42, 0, 1), (991, 29, 0, 1), (992, 4, 0, 1), (993, 96, 0, 1), (994, 46, 0, 1), (995, 42, 0, 1), (996, 29, 0, 1), (997, 5, 0, 1), (998, 96, 0, 1), (999, 46, 0, 1), (1000, 42, 0, 1), (1001, 29, 0, 1), (1002, 6, 0, 1), (1003, 96, 0, 1), (1004, 46, 0, 1), (1005, 182, 126, 3), (1008, 88, 0, 1), (1009, 44, 0, 1), (1010, 42, 0, 1), (1011, 29, 0, 1)]
theorem arL_law_k33 : fdChk ((cL_law).data.toList.drop 990) 990 lrL_law_k33 = true := by decide +kernel
theorem dL_law_990 : decode cL_law 990 = .ok (.aload_n 0, 1) := fl_aload_n_0 (w := 0) (fd_at arL_law_k33 0 rfl)
theorem dL_law_991 : decode cL_law 991 = .ok (.iload_n 3, 1) := fl_iload_n_3 (w := 0) (fd_at arL_law_k33 1 rfl)
theorem dL_law_992 : decode cL_law 992 = .ok (.iconst 1, 1) := fl_iconst_1 (w := 0) (fd_at arL_law_k33 2 rfl)
theorem dL_law_993 : decode cL_law 993 = .ok (.iadd, 1) := fl_iadd (w := 0) (fd_at arL_law_k33 3 rfl)
theorem dL_law_994 : decode cL_law 994 = .ok (.iaload, 1) := fl_iaload (w := 0) (fd_at arL_law_k33 4 rfl)
theorem dL_law_995 : decode cL_law 995 = .ok (.aload_n 0, 1) := fl_aload_n_0 (w := 0) (fd_at arL_law_k33 5 rfl)
theorem dL_law_996 : decode cL_law 996 = .ok (.iload_n 3, 1) := fl_iload_n_3 (w := 0) (fd_at arL_law_k33 6 rfl)
theorem dL_law_997 : decode cL_law 997 = .ok (.iconst 2, 1) := fl_iconst_2 (w := 0) (fd_at arL_law_k33 7 rfl)
theorem dL_law_998 : decode cL_law 998 = .ok (.iadd, 1) := fl_iadd (w := 0) (fd_at arL_law_k33 8 rfl)
theorem dL_law_999 : decode cL_law 999 = .ok (.iaload, 1) := fl_iaload (w := 0) (fd_at arL_law_k33 9 rfl)
theorem dL_law_1000 : decode cL_law 1000 = .ok (.aload_n 0, 1) := fl_aload_n_0 (w := 0) (fd_at arL_law_k33 10 rfl)
theorem dL_law_1001 : decode cL_law 1001 = .ok (.iload_n 3, 1) := fl_iload_n_3 (w := 0) (fd_at arL_law_k33 11 rfl)
theorem dL_law_1002 : decode cL_law 1002 = .ok (.iconst 3, 1) := fl_iconst_3 (w := 0) (fd_at arL_law_k33 12 rfl)
theorem dL_law_1003 : decode cL_law 1003 = .ok (.iadd, 1) := fl_iadd (w := 0) (fd_at arL_law_k33 13 rfl)
theorem dL_law_1004 : decode cL_law 1004 = .ok (.iaload, 1) := fl_iaload (w := 0) (fd_at arL_law_k33 14 rfl)
theorem dL_law_1005 : decode cL_law 1005 = .ok (.invokevirtual 126, 3) := fl_invokevirtual (w := 126) (fd_at arL_law_k33 15 rfl)
theorem dL_law_1008 : decode cL_law 1008 = .ok (.pop2, 1) := fl_pop2 (w := 0) (fd_at arL_law_k33 16 rfl)
theorem dL_law_1009 : decode cL_law 1009 = .ok (.aload_n 2, 1) := fl_aload_n_2 (w := 0) (fd_at arL_law_k33 17 rfl)
theorem dL_law_1010 : decode cL_law 1010 = .ok (.aload_n 0, 1) := fl_aload_n_0 (w := 0) (fd_at arL_law_k33 18 rfl)
theorem dL_law_1011 : decode cL_law 1011 = .ok (.iload_n 3, 1) := fl_iload_n_3 (w := 0) (fd_at arL_law_k33 19 rfl)
def lrL_law_k34 : List (Nat × Nat × Nat × Nat) := [(1012, 4, 0, 1), (1013, 96, 0, 1), (1014, 46, 0, 1), (1015, 42, 0, 1), (1016, 29, 0, 1), (1017, 5, 0, 1), (1018, 96, 0, 1), (1019, 46, 0, 1), (1020, 42, 0, 1), (1021, 29, 0, 1), (1022, 6, 0, 1), (1023, 96, 0, 1), (1024, 46, 0, 1), (1025, 182, 130, 3), (1028, 88, 0, 1), (1029, 167, 389, 3), (1032, 43, 0, 1), (1033, 42, 0, 1), (1034, 29, 0, 1), (1035, 4, 0, 1)]
theorem arL_law_k34 : fdChk ((cL_law).data.toList.drop 1012) 1012 lrL_law_k34 = true := by decide +kernel
theorem dL_law_1012 : decode cL_law 1012 = .ok (.iconst 1, 1) := fl_iconst_1 (w := 0) (fd_at arL_law_k34 0 rfl)
theorem dL_law_1013 : decode cL_law 1013 = .ok (.iadd, 1) := fl_iadd (w := 0) (fd_at arL_law_k34 1 rfl)
theorem dL_law_1014 : decode cL_law 1014 = .ok (.iaload, 1) := fl_iaload (w := 0) (fd_at arL_law_k34 2 rfl)
theorem dL_law_1015 : decode cL_law 1015 = .ok (.aload_n 0, 1) := fl_aload_n_0 (w := 0) (fd_at arL_law_k34 3 rfl)
theorem dL_law_1016 : decode cL_law 1016 = .ok (.iload_n 3, 1) := fl_iload_n_3 (w := 0) (fd_at arL_law_k34 4 rfl)
theorem dL_law_1017 : decode cL_law 1017 = .ok (.iconst 2, 1) := fl_iconst_2 (w := 0) (fd_at arL_law_k34 5 rfl)
theorem dL_law_1018 : decode cL_law 1018 = .ok (.iadd, 1) := fl_iadd (w := 0) (fd_at arL_law_k34 6 rfl)
theorem dL_law_1019 : decode cL_law 1019 = .ok (.iaload, 1) := fl_iaload (w := 0) (fd_at arL_law_k34 7 rfl)
theorem dL_law_1020 : decode cL_law 1020 = .ok (.aload_n 0, 1) := fl_aload_n_0 (w := 0) (fd_at arL_law_k34 8 rfl)
theorem dL_law_1021 : decode cL_law 1021 = .ok (.iload_n 3, 1) := fl_iload_n_3 (w := 0) (fd_at arL_law_k34 9 rfl)
theorem dL_law_1022 : decode cL_law 1022 = .ok (.iconst 3, 1) := fl_iconst_3 (w := 0) (fd_at arL_law_k34 10 rfl)
theorem dL_law_1023 : decode cL_law 1023 = .ok (.iadd, 1) := fl_iadd (w := 0) (fd_at arL_law_k34 11 rfl)
theorem dL_law_1024 : decode cL_law 1024 = .ok (.iaload, 1) := fl_iaload (w := 0) (fd_at arL_law_k34 12 rfl)
theorem dL_law_1025 : decode cL_law 1025 = .ok (.invokevirtual 130, 3) := fl_invokevirtual (w := 130) (fd_at arL_law_k34 13 rfl)
theorem dL_law_1028 : decode cL_law 1028 = .ok (.pop2, 1) := fl_pop2 (w := 0) (fd_at arL_law_k34 14 rfl)
theorem dL_law_1029 : decode cL_law 1029 = .ok (.goto 389, 3) := fl_goto (w := 389) (fd_at arL_law_k34 15 rfl) rfl
theorem dL_law_1032 : decode cL_law 1032 = .ok (.aload_n 1, 1) := fl_aload_n_1 (w := 0) (fd_at arL_law_k34 16 rfl)
theorem dL_law_1033 : decode cL_law 1033 = .ok (.aload_n 0, 1) := fl_aload_n_0 (w := 0) (fd_at arL_law_k34 17 rfl)
theorem dL_law_1034 : decode cL_law 1034 = .ok (.iload_n 3, 1) := fl_iload_n_3 (w := 0) (fd_at arL_law_k34 18 rfl)
theorem dL_law_1035 : decode cL_law 1035 = .ok (.iconst 1, 1) := fl_iconst_1 (w := 0) (fd_at arL_law_k34 19 rfl)
def lrL_law_k35 : List (Nat × Nat × Nat × Nat) := [(1036, 96, 0, 1), (1037, 46, 0, 1), (1038, 42, 0, 1), (1039, 29, 0, 1), (1040, 5, 0, 1), (1041, 96, 0, 1), (1042, 46, 0, 1), (1043, 42, 0, 1), (1044, 29, 0, 1), (1045, 6, 0, 1), (1046, 96, 0, 1), (1047, 46, 0, 1), (1048, 182, 131, 3), (1051, 87, 0, 1), (1052, 44, 0, 1), (1053, 42, 0, 1), (1054, 29, 0, 1), (1055, 4, 0, 1), (1056, 96, 0, 1), (1057, 46, 0, 1)]
theorem arL_law_k35 : fdChk ((cL_law).data.toList.drop 1036) 1036 lrL_law_k35 = true := by decide +kernel
theorem dL_law_1036 : decode cL_law 1036 = .ok (.iadd, 1) := fl_iadd (w := 0) (fd_at arL_law_k35 0 rfl)
theorem dL_law_1037 : decode cL_law 1037 = .ok (.iaload, 1) := fl_iaload (w := 0) (fd_at arL_law_k35 1 rfl)
theorem dL_law_1038 : decode cL_law 1038 = .ok (.aload_n 0, 1) := fl_aload_n_0 (w := 0) (fd_at arL_law_k35 2 rfl)
theorem dL_law_1039 : decode cL_law 1039 = .ok (.iload_n 3, 1) := fl_iload_n_3 (w := 0) (fd_at arL_law_k35 3 rfl)
theorem dL_law_1040 : decode cL_law 1040 = .ok (.iconst 2, 1) := fl_iconst_2 (w := 0) (fd_at arL_law_k35 4 rfl)
theorem dL_law_1041 : decode cL_law 1041 = .ok (.iadd, 1) := fl_iadd (w := 0) (fd_at arL_law_k35 5 rfl)
theorem dL_law_1042 : decode cL_law 1042 = .ok (.iaload, 1) := fl_iaload (w := 0) (fd_at arL_law_k35 6 rfl)
theorem dL_law_1043 : decode cL_law 1043 = .ok (.aload_n 0, 1) := fl_aload_n_0 (w := 0) (fd_at arL_law_k35 7 rfl)
theorem dL_law_1044 : decode cL_law 1044 = .ok (.iload_n 3, 1) := fl_iload_n_3 (w := 0) (fd_at arL_law_k35 8 rfl)
theorem dL_law_1045 : decode cL_law 1045 = .ok (.iconst 3, 1) := fl_iconst_3 (w := 0) (fd_at arL_law_k35 9 rfl)
theorem dL_law_1046 : decode cL_law 1046 = .ok (.iadd, 1) := fl_iadd (w := 0) (fd_at arL_law_k35 10 rfl)
theorem dL_law_1047 : decode cL_law 1047 = .ok (.iaload, 1) := fl_iaload (w := 0) (fd_at arL_law_k35 11 rfl)
theorem dL_law_1048 : decode cL_law 1048 = .ok (.invokevirtual 131, 3) := fl_invokevirtual (w := 131) (fd_at arL_law_k35 12 rfl)
theorem dL_law_1051 : decode cL_law 1051 = .ok (.pop, 1) := fl_pop (w := 0) (fd_at arL_law_k35 13 rfl)
theorem dL_law_1052 : decode cL_law 1052 = .ok (.aload_n 2, 1) := fl_aload_n_2 (w := 0) (fd_at arL_law_k35 14 rfl)
theorem dL_law_1053 : decode cL_law 1053 = .ok (.aload_n 0, 1) := fl_aload_n_0 (w := 0) (fd_at arL_law_k35 15 rfl)
theorem dL_law_1054 : decode cL_law 1054 = .ok (.iload_n 3, 1) := fl_iload_n_3 (w := 0) (fd_at arL_law_k35 16 rfl)
theorem dL_law_1055 : decode cL_law 1055 = .ok (.iconst 1, 1) := fl_iconst_1 (w := 0) (fd_at arL_law_k35 17 rfl)
theorem dL_law_1056 : decode cL_law 1056 = .ok (.iadd, 1) := fl_iadd (w := 0) (fd_at arL_law_k35 18 rfl)
theorem dL_law_1057 : decode cL_law 1057 = .ok (.iaload, 1) := fl_iaload (w := 0) (fd_at arL_law_k35 19 rfl)
def lrL_law_k36 : List (Nat × Nat × Nat × Nat) := [(1058, 42, 0, 1), (1059, 29, 0, 1), (1060, 5, 0, 1), (1061, 96, 0, 1), (1062, 46, 0, 1), (1063, 42, 0, 1), (1064, 29, 0, 1), (1065, 6, 0, 1), (1066, 96, 0, 1), (1067, 46, 0, 1), (1068, 182, 134, 3), (1071, 87, 0, 1), (1072, 167, 346, 3), (1075, 43, 0, 1), (1076, 42, 0, 1), (1077, 29, 0, 1), (1078, 4, 0, 1), (1079, 96, 0, 1), (1080, 46, 0, 1), (1081, 182, 135, 3)]
theorem arL_law_k36 : fdChk ((cL_law).data.toList.drop 1058) 1058 lrL_law_k36 = true := by decide +kernel
theorem dL_law_1058 : decode cL_law 1058 = .ok (.aload_n 0, 1) := fl_aload_n_0 (w := 0) (fd_at arL_law_k36 0 rfl)
theorem dL_law_1059 : decode cL_law 1059 = .ok (.iload_n 3, 1) := fl_iload_n_3 (w := 0) (fd_at arL_law_k36 1 rfl)
theorem dL_law_1060 : decode cL_law 1060 = .ok (.iconst 2, 1) := fl_iconst_2 (w := 0) (fd_at arL_law_k36 2 rfl)
theorem dL_law_1061 : decode cL_law 1061 = .ok (.iadd, 1) := fl_iadd (w := 0) (fd_at arL_law_k36 3 rfl)
theorem dL_law_1062 : decode cL_law 1062 = .ok (.iaload, 1) := fl_iaload (w := 0) (fd_at arL_law_k36 4 rfl)
theorem dL_law_1063 : decode cL_law 1063 = .ok (.aload_n 0, 1) := fl_aload_n_0 (w := 0) (fd_at arL_law_k36 5 rfl)
theorem dL_law_1064 : decode cL_law 1064 = .ok (.iload_n 3, 1) := fl_iload_n_3 (w := 0) (fd_at arL_law_k36 6 rfl)
theorem dL_law_1065 : decode cL_law 1065 = .ok (.iconst 3, 1) := fl_iconst_3 (w := 0) (fd_at arL_law_k36 7 rfl)
theorem dL_law_1066 : decode cL_law 1066 = .ok (.iadd, 1) := fl_iadd (w := 0) (fd_at arL_law_k36 8 rfl)
theorem dL_law_1067 : decode cL_law 1067 = .ok (.iaload, 1) := fl_iaload (w := 0) (fd_at arL_law_k36 9 rfl)
theorem dL_law_1068 : decode cL_law 1068 = .ok (.invokevirtual 134, 3) := fl_invokevirtual (w := 134) (fd_at arL_law_k36 10 rfl)
theorem dL_law_1071 : decode cL_law 1071 = .ok (.pop, 1) := fl_pop (w := 0) (fd_at arL_law_k36 11 rfl)
theorem dL_law_1072 : decode cL_law 1072 = .ok (.goto 346, 3) := fl_goto (w := 346) (fd_at arL_law_k36 12 rfl) rfl
theorem dL_law_1075 : decode cL_law 1075 = .ok (.aload_n 1, 1) := fl_aload_n_1 (w := 0) (fd_at arL_law_k36 13 rfl)
theorem dL_law_1076 : decode cL_law 1076 = .ok (.aload_n 0, 1) := fl_aload_n_0 (w := 0) (fd_at arL_law_k36 14 rfl)
theorem dL_law_1077 : decode cL_law 1077 = .ok (.iload_n 3, 1) := fl_iload_n_3 (w := 0) (fd_at arL_law_k36 15 rfl)
theorem dL_law_1078 : decode cL_law 1078 = .ok (.iconst 1, 1) := fl_iconst_1 (w := 0) (fd_at arL_law_k36 16 rfl)
theorem dL_law_1079 : decode cL_law 1079 = .ok (.iadd, 1) := fl_iadd (w := 0) (fd_at arL_law_k36 17 rfl)
theorem dL_law_1080 : decode cL_law 1080 = .ok (.iaload, 1) := fl_iaload (w := 0) (fd_at arL_law_k36 18 rfl)
theorem dL_law_1081 : decode cL_law 1081 = .ok (.invokevirtual 135, 3) := fl_invokevirtual (w := 135) (fd_at arL_law_k36 19 rfl)
def lrL_law_k37 : List (Nat × Nat × Nat × Nat) := [(1084, 87, 0, 1), (1085, 44, 0, 1), (1086, 42, 0, 1), (1087, 29, 0, 1), (1088, 4, 0, 1), (1089, 96, 0, 1), (1090, 46, 0, 1), (1091, 182, 138, 3), (1094, 87, 0, 1), (1095, 167, 323, 3), (1098, 43, 0, 1), (1099, 42, 0, 1), (1100, 29, 0, 1), (1101, 4, 0, 1), (1102, 96, 0, 1), (1103, 46, 0, 1), (1104, 182, 139, 3), (1107, 87, 0, 1), (1108, 44, 0, 1), (1109, 42, 0, 1)]
theorem arL_law_k37 : fdChk ((cL_law).data.toList.drop 1084) 1084 lrL_law_k37 = true := by decide +kernel
theorem dL_law_1084 : decode cL_law 1084 = .ok (.pop, 1) := fl_pop (w := 0) (fd_at arL_law_k37 0 rfl)
theorem dL_law_1085 : decode cL_law 1085 = .ok (.aload_n 2, 1) := fl_aload_n_2 (w := 0) (fd_at arL_law_k37 1 rfl)
theorem dL_law_1086 : decode cL_law 1086 = .ok (.aload_n 0, 1) := fl_aload_n_0 (w := 0) (fd_at arL_law_k37 2 rfl)
theorem dL_law_1087 : decode cL_law 1087 = .ok (.iload_n 3, 1) := fl_iload_n_3 (w := 0) (fd_at arL_law_k37 3 rfl)
theorem dL_law_1088 : decode cL_law 1088 = .ok (.iconst 1, 1) := fl_iconst_1 (w := 0) (fd_at arL_law_k37 4 rfl)
theorem dL_law_1089 : decode cL_law 1089 = .ok (.iadd, 1) := fl_iadd (w := 0) (fd_at arL_law_k37 5 rfl)
theorem dL_law_1090 : decode cL_law 1090 = .ok (.iaload, 1) := fl_iaload (w := 0) (fd_at arL_law_k37 6 rfl)
theorem dL_law_1091 : decode cL_law 1091 = .ok (.invokevirtual 138, 3) := fl_invokevirtual (w := 138) (fd_at arL_law_k37 7 rfl)
theorem dL_law_1094 : decode cL_law 1094 = .ok (.pop, 1) := fl_pop (w := 0) (fd_at arL_law_k37 8 rfl)
theorem dL_law_1095 : decode cL_law 1095 = .ok (.goto 323, 3) := fl_goto (w := 323) (fd_at arL_law_k37 9 rfl) rfl
theorem dL_law_1098 : decode cL_law 1098 = .ok (.aload_n 1, 1) := fl_aload_n_1 (w := 0) (fd_at arL_law_k37 10 rfl)
theorem dL_law_1099 : decode cL_law 1099 = .ok (.aload_n 0, 1) := fl_aload_n_0 (w := 0) (fd_at arL_law_k37 11 rfl)
theorem dL_law_1100 : decode cL_law 1100 = .ok (.iload_n 3, 1) := fl_iload_n_3 (w := 0) (fd_at arL_law_k37 12 rfl)
theorem dL_law_1101 : decode cL_law 1101 = .ok (.iconst 1, 1) := fl_iconst_1 (w := 0) (fd_at arL_law_k37 13 rfl)
theorem dL_law_1102 : decode cL_law 1102 = .ok (.iadd, 1) := fl_iadd (w := 0) (fd_at arL_law_k37 14 rfl)
theorem dL_law_1103 : decode cL_law 1103 = .ok (.iaload, 1) := fl_iaload (w := 0) (fd_at arL_law_k37 15 rfl)
theorem dL_law_1104 : decode cL_law 1104 = .ok (.invokevirtual 139, 3) := fl_invokevirtual (w := 139) (fd_at arL_law_k37 16 rfl)
theorem dL_law_1107 : decode cL_law 1107 = .ok (.pop, 1) := fl_pop (w := 0) (fd_at arL_law_k37 17 rfl)
theorem dL_law_1108 : decode cL_law 1108 = .ok (.aload_n 2, 1) := fl_aload_n_2 (w := 0) (fd_at arL_law_k37 18 rfl)
theorem dL_law_1109 : decode cL_law 1109 = .ok (.aload_n 0, 1) := fl_aload_n_0 (w := 0) (fd_at arL_law_k37 19 rfl)
def lrL_law_k38 : List (Nat × Nat × Nat × Nat) := [(1110, 29, 0, 1), (1111, 4, 0, 1), (1112, 96, 0, 1), (1113, 46, 0, 1), (1114, 182, 142, 3), (1117, 87, 0, 1), (1118, 167, 300, 3), (1121, 43, 0, 1), (1122, 42, 0, 1), (1123, 29, 0, 1), (1124, 4, 0, 1), (1125, 96, 0, 1), (1126, 46, 0, 1), (1127, 42, 0, 1), (1128, 29, 0, 1), (1129, 5, 0, 1), (1130, 96, 0, 1), (1131, 46, 0, 1), (1132, 182, 143, 3), (1135, 87, 0, 1)]
theorem arL_law_k38 : fdChk ((cL_law).data.toList.drop 1110) 1110 lrL_law_k38 = true := by decide +kernel
theorem dL_law_1110 : decode cL_law 1110 = .ok (.iload_n 3, 1) := fl_iload_n_3 (w := 0) (fd_at arL_law_k38 0 rfl)
theorem dL_law_1111 : decode cL_law 1111 = .ok (.iconst 1, 1) := fl_iconst_1 (w := 0) (fd_at arL_law_k38 1 rfl)
theorem dL_law_1112 : decode cL_law 1112 = .ok (.iadd, 1) := fl_iadd (w := 0) (fd_at arL_law_k38 2 rfl)
theorem dL_law_1113 : decode cL_law 1113 = .ok (.iaload, 1) := fl_iaload (w := 0) (fd_at arL_law_k38 3 rfl)
theorem dL_law_1114 : decode cL_law 1114 = .ok (.invokevirtual 142, 3) := fl_invokevirtual (w := 142) (fd_at arL_law_k38 4 rfl)
theorem dL_law_1117 : decode cL_law 1117 = .ok (.pop, 1) := fl_pop (w := 0) (fd_at arL_law_k38 5 rfl)
theorem dL_law_1118 : decode cL_law 1118 = .ok (.goto 300, 3) := fl_goto (w := 300) (fd_at arL_law_k38 6 rfl) rfl
theorem dL_law_1121 : decode cL_law 1121 = .ok (.aload_n 1, 1) := fl_aload_n_1 (w := 0) (fd_at arL_law_k38 7 rfl)
theorem dL_law_1122 : decode cL_law 1122 = .ok (.aload_n 0, 1) := fl_aload_n_0 (w := 0) (fd_at arL_law_k38 8 rfl)
theorem dL_law_1123 : decode cL_law 1123 = .ok (.iload_n 3, 1) := fl_iload_n_3 (w := 0) (fd_at arL_law_k38 9 rfl)
theorem dL_law_1124 : decode cL_law 1124 = .ok (.iconst 1, 1) := fl_iconst_1 (w := 0) (fd_at arL_law_k38 10 rfl)
theorem dL_law_1125 : decode cL_law 1125 = .ok (.iadd, 1) := fl_iadd (w := 0) (fd_at arL_law_k38 11 rfl)
theorem dL_law_1126 : decode cL_law 1126 = .ok (.iaload, 1) := fl_iaload (w := 0) (fd_at arL_law_k38 12 rfl)
theorem dL_law_1127 : decode cL_law 1127 = .ok (.aload_n 0, 1) := fl_aload_n_0 (w := 0) (fd_at arL_law_k38 13 rfl)
theorem dL_law_1128 : decode cL_law 1128 = .ok (.iload_n 3, 1) := fl_iload_n_3 (w := 0) (fd_at arL_law_k38 14 rfl)
theorem dL_law_1129 : decode cL_law 1129 = .ok (.iconst 2, 1) := fl_iconst_2 (w := 0) (fd_at arL_law_k38 15 rfl)
theorem dL_law_1130 : decode cL_law 1130 = .ok (.iadd, 1) := fl_iadd (w := 0) (fd_at arL_law_k38 16 rfl)
theorem dL_law_1131 : decode cL_law 1131 = .ok (.iaload, 1) := fl_iaload (w := 0) (fd_at arL_law_k38 17 rfl)
theorem dL_law_1132 : decode cL_law 1132 = .ok (.invokevirtual 143, 3) := fl_invokevirtual (w := 143) (fd_at arL_law_k38 18 rfl)
theorem dL_law_1135 : decode cL_law 1135 = .ok (.pop, 1) := fl_pop (w := 0) (fd_at arL_law_k38 19 rfl)
def lrL_law_k39 : List (Nat × Nat × Nat × Nat) := [(1136, 44, 0, 1), (1137, 42, 0, 1), (1138, 29, 0, 1), (1139, 4, 0, 1), (1140, 96, 0, 1), (1141, 46, 0, 1), (1142, 42, 0, 1), (1143, 29, 0, 1), (1144, 5, 0, 1), (1145, 96, 0, 1), (1146, 46, 0, 1), (1147, 182, 146, 3), (1150, 87, 0, 1), (1151, 167, 267, 3), (1154, 43, 0, 1), (1155, 42, 0, 1), (1156, 29, 0, 1), (1157, 4, 0, 1), (1158, 96, 0, 1), (1159, 46, 0, 1)]
theorem arL_law_k39 : fdChk ((cL_law).data.toList.drop 1136) 1136 lrL_law_k39 = true := by decide +kernel
theorem dL_law_1136 : decode cL_law 1136 = .ok (.aload_n 2, 1) := fl_aload_n_2 (w := 0) (fd_at arL_law_k39 0 rfl)
theorem dL_law_1137 : decode cL_law 1137 = .ok (.aload_n 0, 1) := fl_aload_n_0 (w := 0) (fd_at arL_law_k39 1 rfl)
theorem dL_law_1138 : decode cL_law 1138 = .ok (.iload_n 3, 1) := fl_iload_n_3 (w := 0) (fd_at arL_law_k39 2 rfl)
theorem dL_law_1139 : decode cL_law 1139 = .ok (.iconst 1, 1) := fl_iconst_1 (w := 0) (fd_at arL_law_k39 3 rfl)
theorem dL_law_1140 : decode cL_law 1140 = .ok (.iadd, 1) := fl_iadd (w := 0) (fd_at arL_law_k39 4 rfl)
theorem dL_law_1141 : decode cL_law 1141 = .ok (.iaload, 1) := fl_iaload (w := 0) (fd_at arL_law_k39 5 rfl)
theorem dL_law_1142 : decode cL_law 1142 = .ok (.aload_n 0, 1) := fl_aload_n_0 (w := 0) (fd_at arL_law_k39 6 rfl)
theorem dL_law_1143 : decode cL_law 1143 = .ok (.iload_n 3, 1) := fl_iload_n_3 (w := 0) (fd_at arL_law_k39 7 rfl)
theorem dL_law_1144 : decode cL_law 1144 = .ok (.iconst 2, 1) := fl_iconst_2 (w := 0) (fd_at arL_law_k39 8 rfl)
theorem dL_law_1145 : decode cL_law 1145 = .ok (.iadd, 1) := fl_iadd (w := 0) (fd_at arL_law_k39 9 rfl)
theorem dL_law_1146 : decode cL_law 1146 = .ok (.iaload, 1) := fl_iaload (w := 0) (fd_at arL_law_k39 10 rfl)
theorem dL_law_1147 : decode cL_law 1147 = .ok (.invokevirtual 146, 3) := fl_invokevirtual (w := 146) (fd_at arL_law_k39 11 rfl)
theorem dL_law_1150 : decode cL_law 1150 = .ok (.pop, 1) := fl_pop (w := 0) (fd_at arL_law_k39 12 rfl)
theorem dL_law_1151 : decode cL_law 1151 = .ok (.goto 267, 3) := fl_goto (w := 267) (fd_at arL_law_k39 13 rfl) rfl
theorem dL_law_1154 : decode cL_law 1154 = .ok (.aload_n 1, 1) := fl_aload_n_1 (w := 0) (fd_at arL_law_k39 14 rfl)
theorem dL_law_1155 : decode cL_law 1155 = .ok (.aload_n 0, 1) := fl_aload_n_0 (w := 0) (fd_at arL_law_k39 15 rfl)
theorem dL_law_1156 : decode cL_law 1156 = .ok (.iload_n 3, 1) := fl_iload_n_3 (w := 0) (fd_at arL_law_k39 16 rfl)
theorem dL_law_1157 : decode cL_law 1157 = .ok (.iconst 1, 1) := fl_iconst_1 (w := 0) (fd_at arL_law_k39 17 rfl)
theorem dL_law_1158 : decode cL_law 1158 = .ok (.iadd, 1) := fl_iadd (w := 0) (fd_at arL_law_k39 18 rfl)
theorem dL_law_1159 : decode cL_law 1159 = .ok (.iaload, 1) := fl_iaload (w := 0) (fd_at arL_law_k39 19 rfl)
def lrL_law_k40 : List (Nat × Nat × Nat × Nat) := [(1160, 42, 0, 1), (1161, 29, 0, 1), (1162, 5, 0, 1), (1163, 96, 0, 1), (1164, 46, 0, 1), (1165, 42, 0, 1), (1166, 29, 0, 1), (1167, 6, 0, 1), (1168, 96, 0, 1), (1169, 46, 0, 1), (1170, 182, 147, 3), (1173, 87, 0, 1), (1174, 44, 0, 1), (1175, 42, 0, 1), (1176, 29, 0, 1), (1177, 4, 0, 1), (1178, 96, 0, 1), (1179, 46, 0, 1), (1180, 42, 0, 1), (1181, 29, 0, 1)]
theorem arL_law_k40 : fdChk ((cL_law).data.toList.drop 1160) 1160 lrL_law_k40 = true := by decide +kernel
theorem dL_law_1160 : decode cL_law 1160 = .ok (.aload_n 0, 1) := fl_aload_n_0 (w := 0) (fd_at arL_law_k40 0 rfl)
theorem dL_law_1161 : decode cL_law 1161 = .ok (.iload_n 3, 1) := fl_iload_n_3 (w := 0) (fd_at arL_law_k40 1 rfl)
theorem dL_law_1162 : decode cL_law 1162 = .ok (.iconst 2, 1) := fl_iconst_2 (w := 0) (fd_at arL_law_k40 2 rfl)
theorem dL_law_1163 : decode cL_law 1163 = .ok (.iadd, 1) := fl_iadd (w := 0) (fd_at arL_law_k40 3 rfl)
theorem dL_law_1164 : decode cL_law 1164 = .ok (.iaload, 1) := fl_iaload (w := 0) (fd_at arL_law_k40 4 rfl)
theorem dL_law_1165 : decode cL_law 1165 = .ok (.aload_n 0, 1) := fl_aload_n_0 (w := 0) (fd_at arL_law_k40 5 rfl)
theorem dL_law_1166 : decode cL_law 1166 = .ok (.iload_n 3, 1) := fl_iload_n_3 (w := 0) (fd_at arL_law_k40 6 rfl)
theorem dL_law_1167 : decode cL_law 1167 = .ok (.iconst 3, 1) := fl_iconst_3 (w := 0) (fd_at arL_law_k40 7 rfl)
theorem dL_law_1168 : decode cL_law 1168 = .ok (.iadd, 1) := fl_iadd (w := 0) (fd_at arL_law_k40 8 rfl)
theorem dL_law_1169 : decode cL_law 1169 = .ok (.iaload, 1) := fl_iaload (w := 0) (fd_at arL_law_k40 9 rfl)
theorem dL_law_1170 : decode cL_law 1170 = .ok (.invokevirtual 147, 3) := fl_invokevirtual (w := 147) (fd_at arL_law_k40 10 rfl)
theorem dL_law_1173 : decode cL_law 1173 = .ok (.pop, 1) := fl_pop (w := 0) (fd_at arL_law_k40 11 rfl)
theorem dL_law_1174 : decode cL_law 1174 = .ok (.aload_n 2, 1) := fl_aload_n_2 (w := 0) (fd_at arL_law_k40 12 rfl)
theorem dL_law_1175 : decode cL_law 1175 = .ok (.aload_n 0, 1) := fl_aload_n_0 (w := 0) (fd_at arL_law_k40 13 rfl)
theorem dL_law_1176 : decode cL_law 1176 = .ok (.iload_n 3, 1) := fl_iload_n_3 (w := 0) (fd_at arL_law_k40 14 rfl)
theorem dL_law_1177 : decode cL_law 1177 = .ok (.iconst 1, 1) := fl_iconst_1 (w := 0) (fd_at arL_law_k40 15 rfl)
theorem dL_law_1178 : decode cL_law 1178 = .ok (.iadd, 1) := fl_iadd (w := 0) (fd_at arL_law_k40 16 rfl)
theorem dL_law_1179 : decode cL_law 1179 = .ok (.iaload, 1) := fl_iaload (w := 0) (fd_at arL_law_k40 17 rfl)
theorem dL_law_1180 : decode cL_law 1180 = .ok (.aload_n 0, 1) := fl_aload_n_0 (w := 0) (fd_at arL_law_k40 18 rfl)
theorem dL_law_1181 : decode cL_law 1181 = .ok (.iload_n 3, 1) := fl_iload_n_3 (w := 0) (fd_at arL_law_k40 19 rfl)
def lrL_law_k41 : List (Nat × Nat × Nat × Nat) := [(1182, 5, 0, 1), (1183, 96, 0, 1), (1184, 46, 0, 1), (1185, 42, 0, 1), (1186, 29, 0, 1), (1187, 6, 0, 1), (1188, 96, 0, 1), (1189, 46, 0, 1), (1190, 182, 150, 3), (1193, 87, 0, 1), (1194, 167, 224, 3), (1197, 43, 0, 1), (1198, 42, 0, 1), (1199, 29, 0, 1), (1200, 4, 0, 1), (1201, 96, 0, 1), (1202, 46, 0, 1), (1203, 182, 151, 3), (1206, 87, 0, 1), (1207, 44, 0, 1)]
theorem arL_law_k41 : fdChk ((cL_law).data.toList.drop 1182) 1182 lrL_law_k41 = true := by decide +kernel
theorem dL_law_1182 : decode cL_law 1182 = .ok (.iconst 2, 1) := fl_iconst_2 (w := 0) (fd_at arL_law_k41 0 rfl)
theorem dL_law_1183 : decode cL_law 1183 = .ok (.iadd, 1) := fl_iadd (w := 0) (fd_at arL_law_k41 1 rfl)
theorem dL_law_1184 : decode cL_law 1184 = .ok (.iaload, 1) := fl_iaload (w := 0) (fd_at arL_law_k41 2 rfl)
theorem dL_law_1185 : decode cL_law 1185 = .ok (.aload_n 0, 1) := fl_aload_n_0 (w := 0) (fd_at arL_law_k41 3 rfl)
theorem dL_law_1186 : decode cL_law 1186 = .ok (.iload_n 3, 1) := fl_iload_n_3 (w := 0) (fd_at arL_law_k41 4 rfl)
theorem dL_law_1187 : decode cL_law 1187 = .ok (.iconst 3, 1) := fl_iconst_3 (w := 0) (fd_at arL_law_k41 5 rfl)
theorem dL_law_1188 : decode cL_law 1188 = .ok (.iadd, 1) := fl_iadd (w := 0) (fd_at arL_law_k41 6 rfl)
theorem dL_law_1189 : decode cL_law 1189 = .ok (.iaload, 1) := fl_iaload (w := 0) (fd_at arL_law_k41 7 rfl)
theorem dL_law_1190 : decode cL_law 1190 = .ok (.invokevirtual 150, 3) := fl_invokevirtual (w := 150) (fd_at arL_law_k41 8 rfl)
theorem dL_law_1193 : decode cL_law 1193 = .ok (.pop, 1) := fl_pop (w := 0) (fd_at arL_law_k41 9 rfl)
theorem dL_law_1194 : decode cL_law 1194 = .ok (.goto 224, 3) := fl_goto (w := 224) (fd_at arL_law_k41 10 rfl) rfl
theorem dL_law_1197 : decode cL_law 1197 = .ok (.aload_n 1, 1) := fl_aload_n_1 (w := 0) (fd_at arL_law_k41 11 rfl)
theorem dL_law_1198 : decode cL_law 1198 = .ok (.aload_n 0, 1) := fl_aload_n_0 (w := 0) (fd_at arL_law_k41 12 rfl)
theorem dL_law_1199 : decode cL_law 1199 = .ok (.iload_n 3, 1) := fl_iload_n_3 (w := 0) (fd_at arL_law_k41 13 rfl)
theorem dL_law_1200 : decode cL_law 1200 = .ok (.iconst 1, 1) := fl_iconst_1 (w := 0) (fd_at arL_law_k41 14 rfl)
theorem dL_law_1201 : decode cL_law 1201 = .ok (.iadd, 1) := fl_iadd (w := 0) (fd_at arL_law_k41 15 rfl)
theorem dL_law_1202 : decode cL_law 1202 = .ok (.iaload, 1) := fl_iaload (w := 0) (fd_at arL_law_k41 16 rfl)
theorem dL_law_1203 : decode cL_law 1203 = .ok (.invokevirtual 151, 3) := fl_invokevirtual (w := 151) (fd_at arL_law_k41 17 rfl)
theorem dL_law_1206 : decode cL_law 1206 = .ok (.pop, 1) := fl_pop (w := 0) (fd_at arL_law_k41 18 rfl)
theorem dL_law_1207 : decode cL_law 1207 = .ok (.aload_n 2, 1) := fl_aload_n_2 (w := 0) (fd_at arL_law_k41 19 rfl)
def lrL_law_k42 : List (Nat × Nat × Nat × Nat) := [(1208, 42, 0, 1), (1209, 29, 0, 1), (1210, 4, 0, 1), (1211, 96, 0, 1), (1212, 46, 0, 1), (1213, 182, 154, 3), (1216, 87, 0, 1), (1217, 167, 201, 3), (1220, 43, 0, 1), (1221, 42, 0, 1), (1222, 29, 0, 1), (1223, 4, 0, 1), (1224, 96, 0, 1), (1225, 46, 0, 1), (1226, 182, 155, 3), (1229, 87, 0, 1), (1230, 44, 0, 1), (1231, 42, 0, 1), (1232, 29, 0, 1), (1233, 4, 0, 1)]
theorem arL_law_k42 : fdChk ((cL_law).data.toList.drop 1208) 1208 lrL_law_k42 = true := by decide +kernel
theorem dL_law_1208 : decode cL_law 1208 = .ok (.aload_n 0, 1) := fl_aload_n_0 (w := 0) (fd_at arL_law_k42 0 rfl)
theorem dL_law_1209 : decode cL_law 1209 = .ok (.iload_n 3, 1) := fl_iload_n_3 (w := 0) (fd_at arL_law_k42 1 rfl)
theorem dL_law_1210 : decode cL_law 1210 = .ok (.iconst 1, 1) := fl_iconst_1 (w := 0) (fd_at arL_law_k42 2 rfl)
theorem dL_law_1211 : decode cL_law 1211 = .ok (.iadd, 1) := fl_iadd (w := 0) (fd_at arL_law_k42 3 rfl)
theorem dL_law_1212 : decode cL_law 1212 = .ok (.iaload, 1) := fl_iaload (w := 0) (fd_at arL_law_k42 4 rfl)
theorem dL_law_1213 : decode cL_law 1213 = .ok (.invokevirtual 154, 3) := fl_invokevirtual (w := 154) (fd_at arL_law_k42 5 rfl)
theorem dL_law_1216 : decode cL_law 1216 = .ok (.pop, 1) := fl_pop (w := 0) (fd_at arL_law_k42 6 rfl)
theorem dL_law_1217 : decode cL_law 1217 = .ok (.goto 201, 3) := fl_goto (w := 201) (fd_at arL_law_k42 7 rfl) rfl
theorem dL_law_1220 : decode cL_law 1220 = .ok (.aload_n 1, 1) := fl_aload_n_1 (w := 0) (fd_at arL_law_k42 8 rfl)
theorem dL_law_1221 : decode cL_law 1221 = .ok (.aload_n 0, 1) := fl_aload_n_0 (w := 0) (fd_at arL_law_k42 9 rfl)
theorem dL_law_1222 : decode cL_law 1222 = .ok (.iload_n 3, 1) := fl_iload_n_3 (w := 0) (fd_at arL_law_k42 10 rfl)
theorem dL_law_1223 : decode cL_law 1223 = .ok (.iconst 1, 1) := fl_iconst_1 (w := 0) (fd_at arL_law_k42 11 rfl)
theorem dL_law_1224 : decode cL_law 1224 = .ok (.iadd, 1) := fl_iadd (w := 0) (fd_at arL_law_k42 12 rfl)
theorem dL_law_1225 : decode cL_law 1225 = .ok (.iaload, 1) := fl_iaload (w := 0) (fd_at arL_law_k42 13 rfl)
theorem dL_law_1226 : decode cL_law 1226 = .ok (.invokevirtual 155, 3) := fl_invokevirtual (w := 155) (fd_at arL_law_k42 14 rfl)
theorem dL_law_1229 : decode cL_law 1229 = .ok (.pop, 1) := fl_pop (w := 0) (fd_at arL_law_k42 15 rfl)
theorem dL_law_1230 : decode cL_law 1230 = .ok (.aload_n 2, 1) := fl_aload_n_2 (w := 0) (fd_at arL_law_k42 16 rfl)
theorem dL_law_1231 : decode cL_law 1231 = .ok (.aload_n 0, 1) := fl_aload_n_0 (w := 0) (fd_at arL_law_k42 17 rfl)
theorem dL_law_1232 : decode cL_law 1232 = .ok (.iload_n 3, 1) := fl_iload_n_3 (w := 0) (fd_at arL_law_k42 18 rfl)
theorem dL_law_1233 : decode cL_law 1233 = .ok (.iconst 1, 1) := fl_iconst_1 (w := 0) (fd_at arL_law_k42 19 rfl)
def lrL_law_k43 : List (Nat × Nat × Nat × Nat) := [(1234, 96, 0, 1), (1235, 46, 0, 1), (1236, 182, 158, 3), (1239, 87, 0, 1), (1240, 167, 178, 3), (1243, 43, 0, 1), (1244, 42, 0, 1), (1245, 29, 0, 1), (1246, 4, 0, 1), (1247, 96, 0, 1), (1248, 46, 0, 1), (1249, 42, 0, 1), (1250, 29, 0, 1), (1251, 5, 0, 1), (1252, 96, 0, 1), (1253, 46, 0, 1), (1254, 42, 0, 1), (1255, 29, 0, 1), (1256, 6, 0, 1), (1257, 96, 0, 1)]
theorem arL_law_k43 : fdChk ((cL_law).data.toList.drop 1234) 1234 lrL_law_k43 = true := by decide +kernel
theorem dL_law_1234 : decode cL_law 1234 = .ok (.iadd, 1) := fl_iadd (w := 0) (fd_at arL_law_k43 0 rfl)
theorem dL_law_1235 : decode cL_law 1235 = .ok (.iaload, 1) := fl_iaload (w := 0) (fd_at arL_law_k43 1 rfl)
theorem dL_law_1236 : decode cL_law 1236 = .ok (.invokevirtual 158, 3) := fl_invokevirtual (w := 158) (fd_at arL_law_k43 2 rfl)
theorem dL_law_1239 : decode cL_law 1239 = .ok (.pop, 1) := fl_pop (w := 0) (fd_at arL_law_k43 3 rfl)
theorem dL_law_1240 : decode cL_law 1240 = .ok (.goto 178, 3) := fl_goto (w := 178) (fd_at arL_law_k43 4 rfl) rfl
theorem dL_law_1243 : decode cL_law 1243 = .ok (.aload_n 1, 1) := fl_aload_n_1 (w := 0) (fd_at arL_law_k43 5 rfl)
theorem dL_law_1244 : decode cL_law 1244 = .ok (.aload_n 0, 1) := fl_aload_n_0 (w := 0) (fd_at arL_law_k43 6 rfl)
theorem dL_law_1245 : decode cL_law 1245 = .ok (.iload_n 3, 1) := fl_iload_n_3 (w := 0) (fd_at arL_law_k43 7 rfl)
theorem dL_law_1246 : decode cL_law 1246 = .ok (.iconst 1, 1) := fl_iconst_1 (w := 0) (fd_at arL_law_k43 8 rfl)
theorem dL_law_1247 : decode cL_law 1247 = .ok (.iadd, 1) := fl_iadd (w := 0) (fd_at arL_law_k43 9 rfl)
theorem dL_law_1248 : decode cL_law 1248 = .ok (.iaload, 1) := fl_iaload (w := 0) (fd_at arL_law_k43 10 rfl)
theorem dL_law_1249 : decode cL_law 1249 = .ok (.aload_n 0, 1) := fl_aload_n_0 (w := 0) (fd_at arL_law_k43 11 rfl)
theorem dL_law_1250 : decode cL_law 1250 = .ok (.iload_n 3, 1) := fl_iload_n_3 (w := 0) (fd_at arL_law_k43 12 rfl)
theorem dL_law_1251 : decode cL_law 1251 = .ok (.iconst 2, 1) := fl_iconst_2 (w := 0) (fd_at arL_law_k43 13 rfl)
theorem dL_law_1252 : decode cL_law 1252 = .ok (.iadd, 1) := fl_iadd (w := 0) (fd_at arL_law_k43 14 rfl)
theorem dL_law_1253 : decode cL_law 1253 = .ok (.iaload, 1) := fl_iaload (w := 0) (fd_at arL_law_k43 15 rfl)
theorem dL_law_1254 : decode cL_law 1254 = .ok (.aload_n 0, 1) := fl_aload_n_0 (w := 0) (fd_at arL_law_k43 16 rfl)
theorem dL_law_1255 : decode cL_law 1255 = .ok (.iload_n 3, 1) := fl_iload_n_3 (w := 0) (fd_at arL_law_k43 17 rfl)
theorem dL_law_1256 : decode cL_law 1256 = .ok (.iconst 3, 1) := fl_iconst_3 (w := 0) (fd_at arL_law_k43 18 rfl)
theorem dL_law_1257 : decode cL_law 1257 = .ok (.iadd, 1) := fl_iadd (w := 0) (fd_at arL_law_k43 19 rfl)
def lrL_law_k44 : List (Nat × Nat × Nat × Nat) := [(1258, 46, 0, 1), (1259, 182, 159, 3), (1262, 87, 0, 1), (1263, 44, 0, 1), (1264, 42, 0, 1), (1265, 29, 0, 1), (1266, 4, 0, 1), (1267, 96, 0, 1), (1268, 46, 0, 1), (1269, 42, 0, 1), (1270, 29, 0, 1), (1271, 5, 0, 1), (1272, 96, 0, 1), (1273, 46, 0, 1), (1274, 42, 0, 1), (1275, 29, 0, 1), (1276, 6, 0, 1), (1277, 96, 0, 1), (1278, 46, 0, 1), (1279, 182, 162, 3)]
theorem arL_law_k44 : fdChk ((cL_law).data.toList.drop 1258) 1258 lrL_law_k44 = true := by decide +kernel
theorem dL_law_1258 : decode cL_law 1258 = .ok (.iaload, 1) := fl_iaload (w := 0) (fd_at arL_law_k44 0 rfl)
theorem dL_law_1259 : decode cL_law 1259 = .ok (.invokevirtual 159, 3) := fl_invokevirtual (w := 159) (fd_at arL_law_k44 1 rfl)
theorem dL_law_1262 : decode cL_law 1262 = .ok (.pop, 1) := fl_pop (w := 0) (fd_at arL_law_k44 2 rfl)
theorem dL_law_1263 : decode cL_law 1263 = .ok (.aload_n 2, 1) := fl_aload_n_2 (w := 0) (fd_at arL_law_k44 3 rfl)
theorem dL_law_1264 : decode cL_law 1264 = .ok (.aload_n 0, 1) := fl_aload_n_0 (w := 0) (fd_at arL_law_k44 4 rfl)
theorem dL_law_1265 : decode cL_law 1265 = .ok (.iload_n 3, 1) := fl_iload_n_3 (w := 0) (fd_at arL_law_k44 5 rfl)
theorem dL_law_1266 : decode cL_law 1266 = .ok (.iconst 1, 1) := fl_iconst_1 (w := 0) (fd_at arL_law_k44 6 rfl)
theorem dL_law_1267 : decode cL_law 1267 = .ok (.iadd, 1) := fl_iadd (w := 0) (fd_at arL_law_k44 7 rfl)
theorem dL_law_1268 : decode cL_law 1268 = .ok (.iaload, 1) := fl_iaload (w := 0) (fd_at arL_law_k44 8 rfl)
theorem dL_law_1269 : decode cL_law 1269 = .ok (.aload_n 0, 1) := fl_aload_n_0 (w := 0) (fd_at arL_law_k44 9 rfl)
theorem dL_law_1270 : decode cL_law 1270 = .ok (.iload_n 3, 1) := fl_iload_n_3 (w := 0) (fd_at arL_law_k44 10 rfl)
theorem dL_law_1271 : decode cL_law 1271 = .ok (.iconst 2, 1) := fl_iconst_2 (w := 0) (fd_at arL_law_k44 11 rfl)
theorem dL_law_1272 : decode cL_law 1272 = .ok (.iadd, 1) := fl_iadd (w := 0) (fd_at arL_law_k44 12 rfl)
theorem dL_law_1273 : decode cL_law 1273 = .ok (.iaload, 1) := fl_iaload (w := 0) (fd_at arL_law_k44 13 rfl)
theorem dL_law_1274 : decode cL_law 1274 = .ok (.aload_n 0, 1) := fl_aload_n_0 (w := 0) (fd_at arL_law_k44 14 rfl)
theorem dL_law_1275 : decode cL_law 1275 = .ok (.iload_n 3, 1) := fl_iload_n_3 (w := 0) (fd_at arL_law_k44 15 rfl)
theorem dL_law_1276 : decode cL_law 1276 = .ok (.iconst 3, 1) := fl_iconst_3 (w := 0) (fd_at arL_law_k44 16 rfl)
theorem dL_law_1277 : decode cL_law 1277 = .ok (.iadd, 1) := fl_iadd (w := 0) (fd_at arL_law_k44 17 rfl)
theorem dL_law_1278 : decode cL_law 1278 = .ok (.iaload, 1) := fl_iaload (w := 0) (fd_at arL_law_k44 18 rfl)
theorem dL_law_1279 : decode cL_law 1279 = .ok (.invokevirtual 162, 3) := fl_invokevirtual (w := 162) (fd_at arL_law_k44 19 rfl)
def lrL_law_k45 : List (Nat × Nat × Nat × Nat) := [(1282, 87, 0, 1), (1283, 167, 135, 3), (1286, 43, 0, 1), (1287, 42, 0, 1), (1288, 29, 0, 1), (1289, 4, 0, 1), (1290, 96, 0, 1), (1291, 46, 0, 1), (1292, 42, 0, 1), (1293, 29, 0, 1), (1294, 5, 0, 1), (1295, 96, 0, 1), (1296, 46, 0, 1), (1297, 42, 0, 1), (1298, 29, 0, 1), (1299, 6, 0, 1), (1300, 96, 0, 1), (1301, 46, 0, 1), (1302, 182, 163, 3), (1305, 87, 0, 1)]
theorem arL_law_k45 : fdChk ((cL_law).data.toList.drop 1282) 1282 lrL_law_k45 = true := by decide +kernel
theorem dL_law_1282 : decode cL_law 1282 = .ok (.pop, 1) := fl_pop (w := 0) (fd_at arL_law_k45 0 rfl)
theorem dL_law_1283 : decode cL_law 1283 = .ok (.goto 135, 3) := fl_goto (w := 135) (fd_at arL_law_k45 1 rfl) rfl
theorem dL_law_1286 : decode cL_law 1286 = .ok (.aload_n 1, 1) := fl_aload_n_1 (w := 0) (fd_at arL_law_k45 2 rfl)
theorem dL_law_1287 : decode cL_law 1287 = .ok (.aload_n 0, 1) := fl_aload_n_0 (w := 0) (fd_at arL_law_k45 3 rfl)
theorem dL_law_1288 : decode cL_law 1288 = .ok (.iload_n 3, 1) := fl_iload_n_3 (w := 0) (fd_at arL_law_k45 4 rfl)
theorem dL_law_1289 : decode cL_law 1289 = .ok (.iconst 1, 1) := fl_iconst_1 (w := 0) (fd_at arL_law_k45 5 rfl)
theorem dL_law_1290 : decode cL_law 1290 = .ok (.iadd, 1) := fl_iadd (w := 0) (fd_at arL_law_k45 6 rfl)
theorem dL_law_1291 : decode cL_law 1291 = .ok (.iaload, 1) := fl_iaload (w := 0) (fd_at arL_law_k45 7 rfl)
theorem dL_law_1292 : decode cL_law 1292 = .ok (.aload_n 0, 1) := fl_aload_n_0 (w := 0) (fd_at arL_law_k45 8 rfl)
theorem dL_law_1293 : decode cL_law 1293 = .ok (.iload_n 3, 1) := fl_iload_n_3 (w := 0) (fd_at arL_law_k45 9 rfl)
theorem dL_law_1294 : decode cL_law 1294 = .ok (.iconst 2, 1) := fl_iconst_2 (w := 0) (fd_at arL_law_k45 10 rfl)
theorem dL_law_1295 : decode cL_law 1295 = .ok (.iadd, 1) := fl_iadd (w := 0) (fd_at arL_law_k45 11 rfl)
theorem dL_law_1296 : decode cL_law 1296 = .ok (.iaload, 1) := fl_iaload (w := 0) (fd_at arL_law_k45 12 rfl)
theorem dL_law_1297 : decode cL_law 1297 = .ok (.aload_n 0, 1) := fl_aload_n_0 (w := 0) (fd_at arL_law_k45 13 rfl)
theorem dL_law_1298 : decode cL_law 1298 = .ok (.iload_n 3, 1) := fl_iload_n_3 (w := 0) (fd_at arL_law_k45 14 rfl)
theorem dL_law_1299 : decode cL_law 1299 = .ok (.iconst 3, 1) := fl_iconst_3 (w := 0) (fd_at arL_law_k45 15 rfl)
theorem dL_law_1300 : decode cL_law 1300 = .ok (.iadd, 1) := fl_iadd (w := 0) (fd_at arL_law_k45 16 rfl)
theorem dL_law_1301 : decode cL_law 1301 = .ok (.iaload, 1) := fl_iaload (w := 0) (fd_at arL_law_k45 17 rfl)
theorem dL_law_1302 : decode cL_law 1302 = .ok (.invokevirtual 163, 3) := fl_invokevirtual (w := 163) (fd_at arL_law_k45 18 rfl)
theorem dL_law_1305 : decode cL_law 1305 = .ok (.pop, 1) := fl_pop (w := 0) (fd_at arL_law_k45 19 rfl)
def lrL_law_k46 : List (Nat × Nat × Nat × Nat) := [(1306, 44, 0, 1), (1307, 42, 0, 1), (1308, 29, 0, 1), (1309, 4, 0, 1), (1310, 96, 0, 1), (1311, 46, 0, 1), (1312, 42, 0, 1), (1313, 29, 0, 1), (1314, 5, 0, 1), (1315, 96, 0, 1), (1316, 46, 0, 1), (1317, 42, 0, 1), (1318, 29, 0, 1), (1319, 6, 0, 1), (1320, 96, 0, 1), (1321, 46, 0, 1), (1322, 182, 166, 3), (1325, 87, 0, 1), (1326, 167, 92, 3), (1329, 43, 0, 1)]
theorem arL_law_k46 : fdChk ((cL_law).data.toList.drop 1306) 1306 lrL_law_k46 = true := by decide +kernel
theorem dL_law_1306 : decode cL_law 1306 = .ok (.aload_n 2, 1) := fl_aload_n_2 (w := 0) (fd_at arL_law_k46 0 rfl)
theorem dL_law_1307 : decode cL_law 1307 = .ok (.aload_n 0, 1) := fl_aload_n_0 (w := 0) (fd_at arL_law_k46 1 rfl)
theorem dL_law_1308 : decode cL_law 1308 = .ok (.iload_n 3, 1) := fl_iload_n_3 (w := 0) (fd_at arL_law_k46 2 rfl)
theorem dL_law_1309 : decode cL_law 1309 = .ok (.iconst 1, 1) := fl_iconst_1 (w := 0) (fd_at arL_law_k46 3 rfl)
theorem dL_law_1310 : decode cL_law 1310 = .ok (.iadd, 1) := fl_iadd (w := 0) (fd_at arL_law_k46 4 rfl)
theorem dL_law_1311 : decode cL_law 1311 = .ok (.iaload, 1) := fl_iaload (w := 0) (fd_at arL_law_k46 5 rfl)
theorem dL_law_1312 : decode cL_law 1312 = .ok (.aload_n 0, 1) := fl_aload_n_0 (w := 0) (fd_at arL_law_k46 6 rfl)
theorem dL_law_1313 : decode cL_law 1313 = .ok (.iload_n 3, 1) := fl_iload_n_3 (w := 0) (fd_at arL_law_k46 7 rfl)
theorem dL_law_1314 : decode cL_law 1314 = .ok (.iconst 2, 1) := fl_iconst_2 (w := 0) (fd_at arL_law_k46 8 rfl)
theorem dL_law_1315 : decode cL_law 1315 = .ok (.iadd, 1) := fl_iadd (w := 0) (fd_at arL_law_k46 9 rfl)
theorem dL_law_1316 : decode cL_law 1316 = .ok (.iaload, 1) := fl_iaload (w := 0) (fd_at arL_law_k46 10 rfl)
theorem dL_law_1317 : decode cL_law 1317 = .ok (.aload_n 0, 1) := fl_aload_n_0 (w := 0) (fd_at arL_law_k46 11 rfl)
theorem dL_law_1318 : decode cL_law 1318 = .ok (.iload_n 3, 1) := fl_iload_n_3 (w := 0) (fd_at arL_law_k46 12 rfl)
theorem dL_law_1319 : decode cL_law 1319 = .ok (.iconst 3, 1) := fl_iconst_3 (w := 0) (fd_at arL_law_k46 13 rfl)
theorem dL_law_1320 : decode cL_law 1320 = .ok (.iadd, 1) := fl_iadd (w := 0) (fd_at arL_law_k46 14 rfl)
theorem dL_law_1321 : decode cL_law 1321 = .ok (.iaload, 1) := fl_iaload (w := 0) (fd_at arL_law_k46 15 rfl)
theorem dL_law_1322 : decode cL_law 1322 = .ok (.invokevirtual 166, 3) := fl_invokevirtual (w := 166) (fd_at arL_law_k46 16 rfl)
theorem dL_law_1325 : decode cL_law 1325 = .ok (.pop, 1) := fl_pop (w := 0) (fd_at arL_law_k46 17 rfl)
theorem dL_law_1326 : decode cL_law 1326 = .ok (.goto 92, 3) := fl_goto (w := 92) (fd_at arL_law_k46 18 rfl) rfl
theorem dL_law_1329 : decode cL_law 1329 = .ok (.aload_n 1, 1) := fl_aload_n_1 (w := 0) (fd_at arL_law_k46 19 rfl)
def lrL_law_k47 : List (Nat × Nat × Nat × Nat) := [(1330, 42, 0, 1), (1331, 29, 0, 1), (1332, 4, 0, 1), (1333, 96, 0, 1), (1334, 46, 0, 1), (1335, 42, 0, 1), (1336, 29, 0, 1), (1337, 5, 0, 1), (1338, 96, 0, 1), (1339, 46, 0, 1), (1340, 42, 0, 1), (1341, 29, 0, 1), (1342, 6, 0, 1), (1343, 96, 0, 1), (1344, 46, 0, 1), (1345, 42, 0, 1), (1346, 29, 0, 1), (1347, 7, 0, 1), (1348, 96, 0, 1), (1349, 46, 0, 1)]
theorem arL_law_k47 : fdChk ((cL_law).data.toList.drop 1330) 1330 lrL_law_k47 = true := by decide +kernel
theorem dL_law_1330 : decode cL_law 1330 = .ok (.aload_n 0, 1) := fl_aload_n_0 (w := 0) (fd_at arL_law_k47 0 rfl)
theorem dL_law_1331 : decode cL_law 1331 = .ok (.iload_n 3, 1) := fl_iload_n_3 (w := 0) (fd_at arL_law_k47 1 rfl)
theorem dL_law_1332 : decode cL_law 1332 = .ok (.iconst 1, 1) := fl_iconst_1 (w := 0) (fd_at arL_law_k47 2 rfl)
theorem dL_law_1333 : decode cL_law 1333 = .ok (.iadd, 1) := fl_iadd (w := 0) (fd_at arL_law_k47 3 rfl)
theorem dL_law_1334 : decode cL_law 1334 = .ok (.iaload, 1) := fl_iaload (w := 0) (fd_at arL_law_k47 4 rfl)
theorem dL_law_1335 : decode cL_law 1335 = .ok (.aload_n 0, 1) := fl_aload_n_0 (w := 0) (fd_at arL_law_k47 5 rfl)
theorem dL_law_1336 : decode cL_law 1336 = .ok (.iload_n 3, 1) := fl_iload_n_3 (w := 0) (fd_at arL_law_k47 6 rfl)
theorem dL_law_1337 : decode cL_law 1337 = .ok (.iconst 2, 1) := fl_iconst_2 (w := 0) (fd_at arL_law_k47 7 rfl)
theorem dL_law_1338 : decode cL_law 1338 = .ok (.iadd, 1) := fl_iadd (w := 0) (fd_at arL_law_k47 8 rfl)
theorem dL_law_1339 : decode cL_law 1339 = .ok (.iaload, 1) := fl_iaload (w := 0) (fd_at arL_law_k47 9 rfl)
theorem dL_law_1340 : decode cL_law 1340 = .ok (.aload_n 0, 1) := fl_aload_n_0 (w := 0) (fd_at arL_law_k47 10 rfl)
theorem dL_law_1341 : decode cL_law 1341 = .ok (.iload_n 3, 1) := fl_iload_n_3 (w := 0) (fd_at arL_law_k47 11 rfl)
theorem dL_law_1342 : decode cL_law 1342 = .ok (.iconst 3, 1) := fl_iconst_3 (w := 0) (fd_at arL_law_k47 12 rfl)
theorem dL_law_1343 : decode cL_law 1343 = .ok (.iadd, 1) := fl_iadd (w := 0) (fd_at arL_law_k47 13 rfl)
theorem dL_law_1344 : decode cL_law 1344 = .ok (.iaload, 1) := fl_iaload (w := 0) (fd_at arL_law_k47 14 rfl)
theorem dL_law_1345 : decode cL_law 1345 = .ok (.aload_n 0, 1) := fl_aload_n_0 (w := 0) (fd_at arL_law_k47 15 rfl)
theorem dL_law_1346 : decode cL_law 1346 = .ok (.iload_n 3, 1) := fl_iload_n_3 (w := 0) (fd_at arL_law_k47 16 rfl)
theorem dL_law_1347 : decode cL_law 1347 = .ok (.iconst 4, 1) := fl_iconst_4 (w := 0) (fd_at arL_law_k47 17 rfl)
theorem dL_law_1348 : decode cL_law 1348 = .ok (.iadd, 1) := fl_iadd (w := 0) (fd_at arL_law_k47 18 rfl)
theorem dL_law_1349 : decode cL_law 1349 = .ok (.iaload, 1) := fl_iaload (w := 0) (fd_at arL_law_k47 19 rfl)
def lrL_law_k48 : List (Nat × Nat × Nat × Nat) := [(1350, 182, 167, 3), (1353, 87, 0, 1), (1354, 44, 0, 1), (1355, 42, 0, 1), (1356, 29, 0, 1), (1357, 4, 0, 1), (1358, 96, 0, 1), (1359, 46, 0, 1), (1360, 42, 0, 1), (1361, 29, 0, 1), (1362, 5, 0, 1), (1363, 96, 0, 1), (1364, 46, 0, 1), (1365, 42, 0, 1), (1366, 29, 0, 1), (1367, 6, 0, 1), (1368, 96, 0, 1), (1369, 46, 0, 1), (1370, 42, 0, 1), (1371, 29, 0, 1)]
theorem arL_law_k48 : fdChk ((cL_law).data.toList.drop 1350) 1350 lrL_law_k48 = true := by decide +kernel
theorem dL_law_1350 : decode cL_law 1350 = .ok (.invokevirtual 167, 3) := fl_invokevirtual (w := 167) (fd_at arL_law_k48 0 rfl)
theorem dL_law_1353 : decode cL_law 1353 = .ok (.pop, 1) := fl_pop (w := 0) (fd_at arL_law_k48 1 rfl)
theorem dL_law_1354 : decode cL_law 1354 = .ok (.aload_n 2, 1) := fl_aload_n_2 (w := 0) (fd_at arL_law_k48 2 rfl)
theorem dL_law_1355 : decode cL_law 1355 = .ok (.aload_n 0, 1) := fl_aload_n_0 (w := 0) (fd_at arL_law_k48 3 rfl)
theorem dL_law_1356 : decode cL_law 1356 = .ok (.iload_n 3, 1) := fl_iload_n_3 (w := 0) (fd_at arL_law_k48 4 rfl)
theorem dL_law_1357 : decode cL_law 1357 = .ok (.iconst 1, 1) := fl_iconst_1 (w := 0) (fd_at arL_law_k48 5 rfl)
theorem dL_law_1358 : decode cL_law 1358 = .ok (.iadd, 1) := fl_iadd (w := 0) (fd_at arL_law_k48 6 rfl)
theorem dL_law_1359 : decode cL_law 1359 = .ok (.iaload, 1) := fl_iaload (w := 0) (fd_at arL_law_k48 7 rfl)
theorem dL_law_1360 : decode cL_law 1360 = .ok (.aload_n 0, 1) := fl_aload_n_0 (w := 0) (fd_at arL_law_k48 8 rfl)
theorem dL_law_1361 : decode cL_law 1361 = .ok (.iload_n 3, 1) := fl_iload_n_3 (w := 0) (fd_at arL_law_k48 9 rfl)
theorem dL_law_1362 : decode cL_law 1362 = .ok (.iconst 2, 1) := fl_iconst_2 (w := 0) (fd_at arL_law_k48 10 rfl)
theorem dL_law_1363 : decode cL_law 1363 = .ok (.iadd, 1) := fl_iadd (w := 0) (fd_at arL_law_k48 11 rfl)
theorem dL_law_1364 : decode cL_law 1364 = .ok (.iaload, 1) := fl_iaload (w := 0) (fd_at arL_law_k48 12 rfl)
theorem dL_law_1365 : decode cL_law 1365 = .ok (.aload_n 0, 1) := fl_aload_n_0 (w := 0) (fd_at arL_law_k48 13 rfl)
theorem dL_law_1366 : decode cL_law 1366 = .ok (.iload_n 3, 1) := fl_iload_n_3 (w := 0) (fd_at arL_law_k48 14 rfl)
theorem dL_law_1367 : decode cL_law 1367 = .ok (.iconst 3, 1) := fl_iconst_3 (w := 0) (fd_at arL_law_k48 15 rfl)
theorem dL_law_1368 : decode cL_law 1368 = .ok (.iadd, 1) := fl_iadd (w := 0) (fd_at arL_law_k48 16 rfl)
theorem dL_law_1369 : decode cL_law 1369 = .ok (.iaload, 1) := fl_iaload (w := 0) (fd_at arL_law_k48 17 rfl)
theorem dL_law_1370 : decode cL_law 1370 = .ok (.aload_n 0, 1) := fl_aload_n_0 (w := 0) (fd_at arL_law_k48 18 rfl)
theorem dL_law_1371 : decode cL_law 1371 = .ok (.iload_n 3, 1) := fl_iload_n_3 (w := 0) (fd_at arL_law_k48 19 rfl)
def lrL_law_k49 : List (Nat × Nat × Nat × Nat) := [(1372, 7, 0, 1), (1373, 96, 0, 1), (1374, 46, 0, 1), (1375, 182, 171, 3), (1378, 87, 0, 1), (1379, 167, 39, 3), (1382, 43, 0, 1), (1383, 182, 172, 3), (1386, 87, 0, 1), (1387, 44, 0, 1), (1388, 182, 175, 3), (1391, 87, 0, 1), (1392, 167, 26, 3), (1395, 43, 0, 1), (1396, 42, 0, 1), (1397, 29, 0, 1), (1398, 4, 0, 1), (1399, 96, 0, 1), (1400, 46, 0, 1), (1401, 182, 176, 3)]
theorem arL_law_k49 : fdChk ((cL_law).data.toList.drop 1372) 1372 lrL_law_k49 = true := by decide +kernel
theorem dL_law_1372 : decode cL_law 1372 = .ok (.iconst 4, 1) := fl_iconst_4 (w := 0) (fd_at arL_law_k49 0 rfl)
theorem dL_law_1373 : decode cL_law 1373 = .ok (.iadd, 1) := fl_iadd (w := 0) (fd_at arL_law_k49 1 rfl)
theorem dL_law_1374 : decode cL_law 1374 = .ok (.iaload, 1) := fl_iaload (w := 0) (fd_at arL_law_k49 2 rfl)
theorem dL_law_1375 : decode cL_law 1375 = .ok (.invokevirtual 171, 3) := fl_invokevirtual (w := 171) (fd_at arL_law_k49 3 rfl)
theorem dL_law_1378 : decode cL_law 1378 = .ok (.pop, 1) := fl_pop (w := 0) (fd_at arL_law_k49 4 rfl)
theorem dL_law_1379 : decode cL_law 1379 = .ok (.goto 39, 3) := fl_goto (w := 39) (fd_at arL_law_k49 5 rfl) rfl
theorem dL_law_1382 : decode cL_law 1382 = .ok (.aload_n 1, 1) := fl_aload_n_1 (w := 0) (fd_at arL_law_k49 6 rfl)
theorem dL_law_1383 : decode cL_law 1383 = .ok (.invokevirtual 172, 3) := fl_invokevirtual (w := 172) (fd_at arL_law_k49 7 rfl)
theorem dL_law_1386 : decode cL_law 1386 = .ok (.pop, 1) := fl_pop (w := 0) (fd_at arL_law_k49 8 rfl)
theorem dL_law_1387 : decode cL_law 1387 = .ok (.aload_n 2, 1) := fl_aload_n_2 (w := 0) (fd_at arL_law_k49 9 rfl)
theorem dL_law_1388 : decode cL_law 1388 = .ok (.invokevirtual 175, 3) := fl_invokevirtual (w := 175) (fd_at arL_law_k49 10 rfl)
theorem dL_law_1391 : decode cL_law 1391 = .ok (.pop, 1) := fl_pop (w := 0) (fd_at arL_law_k49 11 rfl)
theorem dL_law_1392 : decode cL_law 1392 = .ok (.goto 26, 3) := fl_goto (w := 26) (fd_at arL_law_k49 12 rfl) rfl
theorem dL_law_1395 : decode cL_law 1395 = .ok (.aload_n 1, 1) := fl_aload_n_1 (w := 0) (fd_at arL_law_k49 13 rfl)
theorem dL_law_1396 : decode cL_law 1396 = .ok (.aload_n 0, 1) := fl_aload_n_0 (w := 0) (fd_at arL_law_k49 14 rfl)
theorem dL_law_1397 : decode cL_law 1397 = .ok (.iload_n 3, 1) := fl_iload_n_3 (w := 0) (fd_at arL_law_k49 15 rfl)
theorem dL_law_1398 : decode cL_law 1398 = .ok (.iconst 1, 1) := fl_iconst_1 (w := 0) (fd_at arL_law_k49 16 rfl)
theorem dL_law_1399 : decode cL_law 1399 = .ok (.iadd, 1) := fl_iadd (w := 0) (fd_at arL_law_k49 17 rfl)
theorem dL_law_1400 : decode cL_law 1400 = .ok (.iaload, 1) := fl_iaload (w := 0) (fd_at arL_law_k49 18 rfl)
theorem dL_law_1401 : decode cL_law 1401 = .ok (.invokevirtual 176, 3) := fl_invokevirtual (w := 176) (fd_at arL_law_k49 19 rfl)
def lrL_law_k50 : List (Nat × Nat × Nat × Nat) := [(1404, 44, 0, 1), (1405, 42, 0, 1), (1406, 29, 0, 1), (1407, 4, 0, 1), (1408, 96, 0, 1), (1409, 46, 0, 1), (1410, 182, 179, 3), (1413, 159, 5, 3), (1416, 3, 0, 1), (1417, 172, 0, 1), (1418, 132, 773, 3), (1421, 167, 64133, 3), (1424, 4, 0, 1), (1425, 172, 0, 1)]
theorem arL_law_k50 : fdChk ((cL_law).data.toList.drop 1404) 1404 lrL_law_k50 = true := by decide +kernel
theorem dL_law_1404 : decode cL_law 1404 = .ok (.aload_n 2, 1) := fl_aload_n_2 (w := 0) (fd_at arL_law_k50 0 rfl)
theorem dL_law_1405 : decode cL_law 1405 = .ok (.aload_n 0, 1) := fl_aload_n_0 (w := 0) (fd_at arL_law_k50 1 rfl)
theorem dL_law_1406 : decode cL_law 1406 = .ok (.iload_n 3, 1) := fl_iload_n_3 (w := 0) (fd_at arL_law_k50 2 rfl)
theorem dL_law_1407 : decode cL_law 1407 = .ok (.iconst 1, 1) := fl_iconst_1 (w := 0) (fd_at arL_law_k50 3 rfl)
theorem dL_law_1408 : decode cL_law 1408 = .ok (.iadd, 1) := fl_iadd (w := 0) (fd_at arL_law_k50 4 rfl)
theorem dL_law_1409 : decode cL_law 1409 = .ok (.iaload, 1) := fl_iaload (w := 0) (fd_at arL_law_k50 5 rfl)
theorem dL_law_1410 : decode cL_law 1410 = .ok (.invokevirtual 179, 3) := fl_invokevirtual (w := 179) (fd_at arL_law_k50 6 rfl)
theorem dL_law_1413 : decode cL_law 1413 = .ok (.if_icmp .eq 5, 3) := fl_if_icmp_eq (w := 5) (fd_at arL_law_k50 7 rfl) rfl
theorem dL_law_1416 : decode cL_law 1416 = .ok (.iconst 0, 1) := fl_iconst_0 (w := 0) (fd_at arL_law_k50 8 rfl)
theorem dL_law_1417 : decode cL_law 1417 = .ok (.ireturn, 1) := fl_ireturn (w := 0) (fd_at arL_law_k50 9 rfl)
theorem dL_law_1418 : decode cL_law 1418 = .ok (.iinc 3 5, 3) := fl_iinc (w := 773) (fd_at arL_law_k50 10 rfl) rfl rfl
theorem dL_law_1421 : decode cL_law 1421 = .ok (.goto (-1403), 3) := fl_goto (w := 64133) (fd_at arL_law_k50 11 rfl) rfl
theorem dL_law_1424 : decode cL_law 1424 = .ok (.iconst 1, 1) := fl_iconst_1 (w := 0) (fd_at arL_law_k50 12 rfl)
theorem dL_law_1425 : decode cL_law 1425 = .ok (.ireturn, 1) := fl_ireturn (w := 0) (fd_at arL_law_k50 13 rfl)
end
