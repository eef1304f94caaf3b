section
/-! ===== constructors: worlds that grow ===== -/
theorem va_P.lft {D : va_G} {cl : List vw_C} {a b : va_W} {H : Heap} (h : va_P D cl (a ++ b) H) : va_P D cl a H := fun k q hq => h k q (by rw [List.getElem?_append_left (List.getElem?_eq_some_iff.mp hq).1]; exact hq)
theorem va_P.rgt {D : va_G} {cl : List vw_C} {a b : va_W} {H : Heap} (h : va_P D cl (a ++ b) H) : va_P D cl b H := fun k q hq => h (a.length + k) q (by rw [List.getElem?_append_right (Nat.le_add_right _ _), Nat.add_sub_cancel_left]; exact hq)
theorem va_D.lft {A : Nat → Prop} {a b : va_W} (h : va_D A (a ++ b)) : va_D A a := by
  have key : ∀ (k : Nat) (q : Nat × va_E), a[k]? = some q → (a ++ b)[k]? = some q := fun k q hq => by rw [List.getElem?_append_left (List.getElem?_eq_some_iff.mp hq).1]; exact hq
  exact ⟨fun i j p q hp hq e => h.1 i j p q (key i p hp) (key j q hq) e, fun k q hq => h.2 k q (key k q hq)⟩
theorem va_D.rgt {A : Nat → Prop} {a b : va_W} (h : va_D A (a ++ b)) : va_D A b := by
  have key : ∀ (k : Nat) (q : Nat × va_E), b[k]? = some q → (a ++ b)[a.length + k]? = some q := fun k q hq => by rw [List.getElem?_append_right (Nat.le_add_right _ _), Nat.add_sub_cancel_left]; exact hq
  exact ⟨fun i j p q hp hq e => Nat.add_left_cancel (h.1 _ _ p q (key i p hp) (key j q hq) e), fun k q hq => h.2 _ q (key k q hq)⟩
theorem va_D.lr {A : Nat → Prop} {a b : va_W} {i j : Nat} {p q : Nat × va_E} (h : va_D A (a ++ b)) (hp : a[i]? = some p) (hq : b[j]? = some q) : p.1 ≠ q.1 := by
  intro e
  have hi := (List.getElem?_eq_some_iff.mp hp).1
  have := h.1 i (a.length + j) p q (by rw [List.getElem?_append_left hi]; exact hp) (by rw [List.getElem?_append_right (Nat.le_add_right _ _), Nat.add_sub_cancel_left]; exact hq) e
  omega
theorem va_A_sub {A : Nat → Prop} {b : va_W} {s : State} {H : Heap} {locs : List Loc} (hD : va_D A b) (hS : va_S A s.heap H locs) (hA : ∀ q, s.heap.size ≤ q → A q) : ∀ q, va_A b H.size q → A q := by
  intro q h
  rcases h with ⟨k, e, h⟩ | h
  · exact hD.2 k (q, e) h
  · exact hA q (Nat.le_trans hS.1 h)
/-- behind a call on a part of the world: the rest ahead of what came back -/
theorem wp_join {A0 : Nat → Prop} {D : va_G} {cl : List vw_C} {r c w1 : va_W} {H H1 : Heap} (hP : va_P D cl r H) (hDr : va_D A0 r) (hrc : ∀ (i j : Nat) (p q : Nat × va_E), r[i]? = some p → c[j]? = some q → p.1 ≠ q.1) (hk : ∀ q : Nat, q < H.size → ¬ va_A c H.size q → H1[q]? = H[q]?) (hF : ∀ q, va_A c H.size q → A0 q) (hP1 : va_P D cl w1 H1) (hD1 : va_D (va_A c H.size) w1) : va_P D cl (r ++ w1) H1 ∧ va_D A0 (r ++ w1) := by
  have apart : ∀ (k : Nat) (q : Nat × va_E), r[k]? = some q → q.1 < H.size ∧ ¬ va_A c H.size q.1 := by
    intro k q hq
    have hl := (hP k q hq).lt
    refine ⟨hl, fun h => ?_⟩
    rcases h with ⟨k2, e, h⟩ | h
    · exact hrc k k2 q (q.1, e) hq h rfl
    · omega
  refine ⟨va_P.app (fun k q hq => ?_) hP1, va_D.app hDr (hD1.weaken (fun k q _ h => hF q.1 h)) (fun i j x y hx hy hxy => ?_)⟩
  · obtain ⟨g1, g2⟩ := apart k q hq
    exact (hP k q hq).kept (hk q.1 g1 g2)
  · exact (apart i x hx).2 (by rw [hxy]; exact hD1.2 j y hy)
/-! links to nest mates' constructors, arrays of references -/
def nestC : List Cond := [.methodLinkNest "TuneWard" 9 yX0_init "TuneWard", .methodLinkNest "TuneWard" 32 yX3_init "TuneWard", .methodLinkNest "TuneWard" 39 yX1_init "TuneWard", .methodLinkNest "TuneWard" 67 yX2_init "TuneWard"]
def Nf (U : State) : Prop := (∀ (i : Nat) (w : Cond), nestC[i]? = some w → va_Nw w U) ∧ va_AO RX0 U ∧ va_AO RX2 U
theorem Nf.same {u U : State} (hv : U.vm = u.vm) (h : Nf u) : Nf U := by
  obtain ⟨h1, h2, h3⟩ := h
  have ha : u.vm.Alike U.vm := by rw [hv]; exact Vm.Alike.refl _
  refine ⟨fun i w hw => ?_, h2.moved ha, h3.moved ha⟩
  match i, hw with
  | 0, e => cases e; exact va_Nw.same rfl hv.symm (h1 0 _ rfl)
  | 1, e => cases e; exact va_Nw.same rfl hv.symm (h1 1 _ rfl)
  | 2, e => cases e; exact va_Nw.same rfl hv.symm (h1 2 _ rfl)
  | 3, e => cases e; exact va_Nw.same rfl hv.symm (h1 3 _ rfl)
  | n + 4, e => simp [nestC] at e
theorem Nf.warm {s U : State} (hW : s.WarmedH U.vm) (h : Nf s) : Nf U := by
  obtain ⟨h1, h2, h3⟩ := h
  refine ⟨fun i w hw => ?_, h2.moved hW.alike, h3.moved hW.alike⟩
  match i, hw with
  | 0, e => cases e; exact va_Nw.warmM hW (h1 0 _ rfl)
  | 1, e => cases e; exact va_Nw.warmM hW (h1 1 _ rfl)
  | 2, e => cases e; exact va_Nw.warmM hW (h1 2 _ rfl)
  | 3, e => cases e; exact va_Nw.warmM hW (h1 3 _ rfl)
  | n + 4, e => simp [nestC] at e
/-- a constructor's frame -/
def Gx (M : MM) (p : Program) (s : State) (m : MethodId) (args : Array Value) (meth : Method) (c : Code) (D : va_G) (cA : Nat → ClassId) (A : Nat → Prop) : Prop :=
  p.tables.exec = Jvm.exec ∧ c.code = mC M ∧ c.maxLocals = mL M ∧ meth.sig.returnType = none ∧ meth.locks = false ∧ meth.name = "<init>" ∧ s.vm.findClass (mOwn M) = some m.cls ∧ (∀ w ∈ wT, w.before args s = true) ∧ va_K D vwCl (tysOf cA) s ∧ (∀ q, s.heap.size ≤ q → A q) ∧ Nf s
def Rg (M : MM) (mc ms : Nat) : Room := { frames := mF M, cells := mc, slots := ms, locals := mO M }
def Gv (M : MM) (cA : Nat → ClassId) (mc ms : Nat) (Qf : va_W → Prop) (pc : Nat) (ls st : List Value) (ws : va_W) (ce sl : Nat) : Prop :=
  ∀ (p : Program) (l : Launch) (e : Env) (s : State) (m : MethodId) (args : Array Value) (below : List Frame) (meth : Method) (c : Code) (D : va_G) (A : Nat → Prop) (H : Heap) (locs : List Loc) (la : Array Slot),
    Gx M p s m args meth c D cA A → va_P D vwCl ws H → va_D A ws → va_S A s.heap H locs → LH la (mL M) (fun k => k) ls →
    W p l e (Rg M mc ms) s m args below meth c H locs ce sl (MQ below (va_Qv Qf (fun (w : va_W) t => va_P D vwCl w t.heap ∧ va_D A w) A) args s mc ms A) (F0 m pc la st)
/-- a constructor's contract: from the bare object to the world wf -/
def Ci (M : MM) (cA : Nat → ClassId) (mc ms ci : Nat) (fs : List Value) (Qf : Nat → va_W → Prop) : Prop :=
  ∀ (l : Launch) (D : va_G) (q0 sz : Nat),
    Met l (mY M) (mW M) (Rg M mc ms) (va_Pc [.ref q0] (fun U => U.heap.size = sz ∧ va_P D vwCl [(q0, .inr (ci, fs))] U.heap ∧ va_K D vwCl (tysOf cA) U ∧ va_D (fun _ => True) [(q0, (.inr (ci, fs) : va_E))] ∧ Nf U))
      (va_Qv (Qf q0) (fun (w : va_W) t => va_P D vwCl w t.heap ∧ va_D (va_A [(q0, .inr (ci, fs))] sz) w) (va_A [(q0, .inr (ci, fs))] sz)) mc ms (va_A [(q0, .inr (ci, fs))] sz)
theorem ci_of {M : MM} {cA : Nat → ClassId} {mc ms ci : Nat} {fs : List Value} {Qf : Nat → va_W → Prop} (hy : plainName (mY M).cls = true) (hown : (mY M).cls = mOwn M) (hnm : (mY M).name = "<init>") (hr : mR M = none) (hL : 1 ≤ mL M) (h : ∀ q0, Gv M cA mc ms (Qf q0) 0 (.ref q0 :: List.replicate (mL M - 1) uJ) [] [(q0, .inr (ci, fs))] 0 0) : Ci M cA mc ms ci fs Qf := by
  intro l D q0 sz
  refine Met.ofW (cc := mC M) (maxL := mL M) (ret := mR M) hy rfl ?_
  intro p e s m args below meth c s₁ B hml hv
  obtain ⟨rfl, hsz, hP, hK, hD0, hN⟩ := hv
  have hts := atoms_spec (ws := mW M) B.pre
  have hown' : s.vm.findClass (mOwn M) = some m.cls := by rw [← hown]; exact findClass_of_methodNamed B.named
  have hin : meth.name = "<init>" := (name_of_methodNamed B.named B.method).1.trans hnm
  subst hsz
  have hD := hD0.self (sz := s.heap.size)
  have hl := lv_entry ([.ref q0]) (n := mL M) hL
  rw [lg_entry_eq]
  refine h q0 p l e s m _ below meth c D _ s.heap [] _ ⟨B.exec, B.bytes, hml, B.returns.trans hr, B.notSynchronized, hin, hown', fun w hw => hts w (List.mem_cons_of_mem _ hw), hK, fun q hq => Or.inr hq, hN⟩ hP hD va_S.rf ⟨hl.1, hl.2.1, fun i v hi hj => ?_⟩
  match i, hi with
  | 0, hi =>
    obtain rfl := Option.some.inj hi
    exact hl.2.2 (0, .ref q0) (by simp [lv_args])
  | i + 1, hi =>
    rw [List.getElem?_cons_succ, List.getElem?_replicate] at hi
    split at hi
    · cases hi; cases hj
    · cases hi
theorem objI : Cond.instanceMethod Lib.objectInit ∈ wT := w73
section GV
variable {M : MM} {cA : Nat → ClassId} {mc ms : Nat} {Qf : va_W → Prop} {pc : Nat} {ls st : List Value} {ws : va_W} {ce sl : Nat}
theorem g_aload_n {k0 : Fin 4} {x : Nat} (hd : decode (mC M) pc = .ok (.aload_n k0, 1)) (h : ls[(k0 : Nat)]? = some (.ref x)) (k : Gv M cA mc ms Qf (pc + 1) ls (.ref x :: st) ws ce sl) : Gv M cA mc ms Qf pc ls st ws ce sl := by
  intro p l e s m args below meth c D A H locs la C hP hD hS hl
  obtain ⟨hx, hb, hml, hr, hlocks, hin, hown, hts, hK, hA, hN⟩ := id C
  exact lv_aload_n hx hb hd rfl (hl.2.2 _ _ h rfl) (k p l e s m args below meth c D A H locs la C hP hD hS hl)
theorem g_iload_n {k0 : Fin 4} {x : Int32} (hd : decode (mC M) pc = .ok (.iload_n k0, 1)) (h : ls[(k0 : Nat)]? = some (.int x)) (k : Gv M cA mc ms Qf (pc + 1) ls (.int x :: st) ws ce sl) : Gv M cA mc ms Qf pc ls st ws ce sl := by
  intro p l e s m args below meth c D A H locs la C hP hD hS hl
  obtain ⟨hx, hb, hml, hr, hlocks, hin, hown, hts, hK, hA, hN⟩ := id C
  exact lv_iload_n hx hb hd rfl (hl.2.2 _ _ h rfl) (k p l e s m args below meth c D A H locs la C hP hD hS hl)
theorem g_dup {a : Nat} (hd : decode (mC M) pc = .ok (.dup, 1)) (k : Gv M cA mc ms Qf (pc + 1) ls (.ref a :: .ref a :: st) ws ce sl) : Gv M cA mc ms Qf pc ls (.ref a :: st) ws ce sl := by
  intro p l e s m args below meth c D A H locs la C hP hD hS hl
  obtain ⟨hx, hb, hml, hr, hlocks, hin, hown, hts, hK, hA, hN⟩ := id C
  exact lv_dup hx hb hd rfl (k p l e s m args below meth c D A H locs la C hP hD hS hl)
theorem g_iconst {n : Int} {v : Int32} (hd : decode (mC M) pc = .ok (.iconst n, 1)) (hv : Int32.ofInt n = v) (k : Gv M cA mc ms Qf (pc + 1) ls (.int v :: st) ws ce sl) : Gv M cA mc ms Qf pc ls st ws ce sl := by
  intro p l e s m args below meth c D A H locs la C hP hD hS hl
  obtain ⟨hx, hb, hml, hr, hlocks, hin, hown, hts, hK, hA, hN⟩ := id C
  exact lv_iconst hx hb hd hv (k p l e s m args below meth c D A H locs la C hP hD hS hl)
theorem g_bipush {n : Int} {v : Int32} (hd : decode (mC M) pc = .ok (.bipush n, 2)) (hv : (Int8.ofInt n).toInt32 = v) (k : Gv M cA mc ms Qf (pc + 2) ls (.int v :: st) ws ce sl) : Gv M cA mc ms Qf pc ls st ws ce sl := by
  intro p l e s m args below meth c D A H locs la C hP hD hS hl
  obtain ⟨hx, hb, hml, hr, hlocks, hin, hown, hts, hK, hA, hN⟩ := id C
  exact lv_bipush hx hb hd hv (k p l e s m args below meth c D A H locs la C hP hD hS hl)
theorem g_sipush {n : Int} {v : Int32} (hd : decode (mC M) pc = .ok (.sipush n, 3)) (hv : (Int16.ofInt n).toInt32 = v) (k : Gv M cA mc ms Qf (pc + 3) ls (.int v :: st) ws ce sl) : Gv M cA mc ms Qf pc ls st ws ce sl := by
  intro p l e s m args below meth c D A H locs la C hP hD hS hl
  obtain ⟨hx, hb, hml, hr, hlocks, hin, hown, hts, hK, hA, hN⟩ := id C
  exact lv_sipush hx hb hd hv (k p l e s m args below meth c D A H locs la C hP hD hS hl)
theorem g_goto {off : Int} {tgt : Nat} (hd : decode (mC M) pc = .ok (.goto off, 3)) (ht : (pc : Int) + off = (tgt : Int)) (k : Gv M cA mc ms Qf tgt ls st ws ce sl) : Gv M cA mc ms Qf pc ls st ws ce sl := by
  intro p l e s m args below meth c D A H locs la C hP hD hS hl
  obtain ⟨hx, hb, hml, hr, hlocks, hin, hown, hts, hK, hA, hN⟩ := id C
  exact lv_goto hx hb hd ht (k p l e s m args below meth c D A H locs la C hP hD hS hl)
theorem g_icmp_ge {off : Int} {tgt : Nat} {x y : Int32} (hd : decode (mC M) pc = .ok (.if_icmp .ge off, 3)) (ht : (pc : Int) + off = (tgt : Int)) (k1 : y ≤ x → Gv M cA mc ms Qf tgt ls st ws ce sl) (k2 : ¬ y ≤ x → Gv M cA mc ms Qf (pc + 3) ls st ws ce sl) : Gv M cA mc ms Qf pc ls (.int y :: .int x :: st) ws ce sl := by
  intro p l e s m args below meth c D A H locs la C hP hD hS hl
  obtain ⟨hx, hb, hml, hr, hlocks, hin, hown, hts, hK, hA, hN⟩ := id C
  exact lv_icmp_ge hx hb hd ht (fun c9 => k1 c9 p l e s m args below meth c D A H locs la C hP hD hS hl) (fun c9 => k2 c9 p l e s m args below meth c D A H locs la C hP hD hS hl)
theorem g_istore_n {k0 : Fin 4} {x : Int32} {ls2 : List Value} (i : Nat) (hd : decode (mC M) pc = .ok (.istore_n k0, 1)) (hi : (k0 : Nat) = i) (hn : i < mL M) (h : st1 i (.int x) ls = ls2) (k : Gv M cA mc ms Qf (pc + 1) ls2 st ws ce sl) : Gv M cA mc ms Qf pc ls (.int x :: st) ws ce sl := by
  intro p l e s m args below meth c D A H locs la C hP hD hS hl
  obtain ⟨hx, hb, hml, hr, hlocks, hin, hown, hts, hK, hA, hN⟩ := id C
  exact lv_istore_n hx hb hd hi (lhl_has hl) hn rfl (fun la2 h2 => k p l e s m args below meth c D A H locs la2 C hP hD hS (lh_st1 (v := (.int x)) h2 h))
theorem g_iinc {x v : Int32} {n : Int} {ls2 : List Value} {i : Nat} (hd : decode (mC M) pc = .ok (.iinc i n, 3)) (h0 : ls[i]? = some (.int x)) (hv : x + Int32.ofInt n = v) (hn : i < mL M) (h : st1 i (.int v) ls = ls2) (k : Gv M cA mc ms Qf (pc + 3) ls2 st ws ce sl) : Gv M cA mc ms Qf pc ls st ws ce sl := by
  intro p l e s m args below meth c D A H locs la C hP hD hS hl
  obtain ⟨hx, hb, hml, hr, hlocks, hin, hown, hts, hK, hA, hN⟩ := id C
  obtain ⟨k9, hk9⟩ := List.mem_iff_getElem?.mp (lhl_mem (ad := fun k => k) h0 rfl)
  exact lv_iinc hx hb hd (lhl_has hl) hk9 hv hn rfl (fun la2 h2 => k p l e s m args below meth c D A H locs la2 C hP hD hS (lh_st1 (v := .int v) h2 h))
theorem g_get {a ci N idx : Nat} {v : Value} {C0 : String} {T : u_T} {ty0 : Nat → FieldType} {fs : List Value} (q0 j : Nat) (hd : decode (mC M) pc = .ok (.getfield idx, 3)) (he : ws[q0]? = some (a, .inr (ci, fs))) (hc : ClsOk ci C0 T N ty0) (hj : j < N) (hv : fs[j]? = some v) (hw : Cond.fieldLink (mOwn M) idx (T j).1 (T j).2.1 (T j).2.2.1 ∈ wT) (k : Gv M cA mc ms Qf (pc + 3) ls (v :: st) ws ce sl) : Gv M cA mc ms Qf pc ls (.ref a :: st) ws ce sl := by
  intro p l e s m args below meth c D A H locs la C hP hD hS hl
  obtain ⟨hx, hb, hml, hr, hlocks, hin, hown, hts, hK, hA, hN⟩ := id C
  exact va_get hx hb hts hc.2.1 hown hK hP q0 he hc.1 j hj (hts _ hw) (fun _ z => z) hv hd (k p l e s m args below meth c D A H locs la C hP hD hS hl)
theorem g_put {a ci N idx : Nat} {x : Value} {C0 : String} {T : u_T} {ty0 : Nat → FieldType} {fs : List Value} {ws2 : va_W} (q0 j : Nat) (hd : decode (mC M) pc = .ok (.putfield idx, 3)) (he : ws[q0]? = some (a, .inr (ci, fs))) (hc : ClsOk ci C0 T N ty0) (hj : j < N) (hw : Cond.fieldLink (mOwn M) idx (T j).1 (T j).2.1 (T j).2.2.1 ∈ wT) (hfin : (T j).2.2.2 = false) (hn : narrow (ty0 j) x = x) (hfit : fits (ty0 j) x = true) (hl9 : j < fs.length) (e2 : ws.set q0 (a, .inr (ci, fs.set j x)) = ws2) (k : Gv M cA mc ms Qf (pc + 3) ls st ws2 ce sl) : Gv M cA mc ms Qf pc ls (x :: .ref a :: st) ws ce sl := by
  intro p l e s m args below meth c D A H locs la C hP hD hS hl
  obtain ⟨hx, hb, hml, hr, hlocks, hin, hown, hts, hK, hA, hN⟩ := id C
  subst e2
  exact va_put hx hb hts hc.2.1 ty0 hc.2.2.1 hc.2.2.2 hown hK hP hD hS q0 he hc.1 j hj (hts _ hw) (fun _ z => z) hfin (hc.2.2.1 j hj) hn hfit hl9 hd (fun H locs hP hD hS => k p l e s m args below meth c D A H locs la C hP hD hS hl)
theorem g_putF {a ci N idx : Nat} {x : Value} {C0 : String} {T : u_T} {ty0 : Nat → FieldType} {fs : List Value} {ws2 : va_W} (q0 j : Nat) (hd : decode (mC M) pc = .ok (.putfield idx, 3)) (he : ws[q0]? = some (a, .inr (ci, fs))) (hc : ClsOk ci C0 T N ty0) (hj : j < N) (hw : Cond.fieldLink (mOwn M) idx (T j).1 (T j).2.1 (T j).2.2.1 ∈ wT) (hfin : (T j).2.2.2 = true) (hdc : (T j).1 = mOwn M) (hn : narrow (ty0 j) x = x) (hfit : fits (ty0 j) x = true) (hl9 : j < fs.length) (e2 : ws.set q0 (a, .inr (ci, fs.set j x)) = ws2) (k : Gv M cA mc ms Qf (pc + 3) ls st ws2 ce sl) : Gv M cA mc ms Qf pc ls (x :: .ref a :: st) ws ce sl := by
  intro p l e s m args below meth c D A H locs la C hP hD hS hl
  obtain ⟨hx, hb, hml, hr, hlocks, hin, hown, hts, hK, hA, hN⟩ := id C
  subst e2
  exact va_putF hx hb hts hc.2.1 ty0 hc.2.2.1 hc.2.2.2 hown hK hP hD hS q0 he hc.1 j hj (hts _ hw) (fun _ z => z) hfin hin hdc (hc.2.2.1 j hj) hn hfit hl9 hd (fun H locs hP hD hS => k p l e s m args below meth c D A H locs la C hP hD hS hl)
theorem g_newi {n : Int32} {N : Nat} (hd : decode (mC M) pc = .ok (.newarray .int, 2)) (hn : n = nI N) (hN : N ≤ 1000) (h1 : ce + 1 ≤ mc) (h2 : sl + N ≤ ms) (k : ∀ q, Gv M cA mc ms Qf (pc + 2) ls (.ref q :: st) (ws ++ [(q, .inl (cA 0, N, .inl (fun _ => 0)))]) (ce + 1) (sl + N)) : Gv M cA mc ms Qf pc ls (.int n :: st) ws ce sl := by
  intro p l e s m args below meth c D A H locs la C hP hD hS hl
  obtain ⟨hx, hb, hml, hr, hlocks, hin, hown, hts, hK, hA, hN2⟩ := id C
  subst hn
  have hbytes : N * componentBytes FieldType.int ≤ 536870912 := by show N * 4 ≤ _; omega
  refine va_newa (atype := .int) (ty := .int) (a0 := (N, .inl (fun _ => 0))) hx hb (hts _ w158) rfl hK hP hD hS hA (fun cA => rfl) (nI_pos (show N < 2 ^ 31 by omega)) (nI_clamp (show N < 2 ^ 31 by omega)) hbytes h1 h2 hd (fun q c' H1 hK' hP hD hS => ?_)
  have e1 : c' = cA 0 := by
    have a1 : s.vm.findClass ("[" ++ FieldType.int.toString) = some c' := (hK'.2 4 (c', .int) rfl).2
    have a2 : s.vm.findClass ("[" ++ FieldType.int.toString) = some (cA 0) := (hK.2 0 (cA 0, .int) rfl).2
    exact Option.some.inj (a1.symm.trans a2)
  subst e1
  exact k q p l e s m args below meth c D A H1 locs la C hP hD hS hl
theorem g_newz {n : Int32} {N : Nat} (hd : decode (mC M) pc = .ok (.newarray .boolean, 2)) (hn : n = nI N) (hN : N ≤ 1000) (h1 : ce + 1 ≤ mc) (h2 : sl + N ≤ ms) (k : ∀ q, Gv M cA mc ms Qf (pc + 2) ls (.ref q :: st) (ws ++ [(q, .inl (cA 1, N, .inl (fun _ => 0)))]) (ce + 1) (sl + N)) : Gv M cA mc ms Qf pc ls (.int n :: st) ws ce sl := by
  intro p l e s m args below meth c D A H locs la C hP hD hS hl
  obtain ⟨hx, hb, hml, hr, hlocks, hin, hown, hts, hK, hA, hN2⟩ := id C
  subst hn
  have hbytes : N * componentBytes FieldType.boolean ≤ 536870912 := by show N * 1 ≤ _; omega
  refine va_newa (atype := .boolean) (ty := .boolean) (a0 := (N, .inl (fun _ => 0))) hx hb (hts _ w190) rfl hK hP hD hS hA (fun cA => rfl) (nI_pos (show N < 2 ^ 31 by omega)) (nI_clamp (show N < 2 ^ 31 by omega)) hbytes h1 h2 hd (fun q c' H1 hK' hP hD hS => ?_)
  have e1 : c' = cA 1 := by
    have a1 : s.vm.findClass ("[" ++ FieldType.boolean.toString) = some c' := (hK'.2 4 (c', .boolean) rfl).2
    have a2 : s.vm.findClass ("[" ++ FieldType.boolean.toString) = some (cA 1) := (hK.2 1 (cA 1, .boolean) rfl).2
    exact Option.some.inj (a1.symm.trans a2)
  subst e1
  exact k q p l e s m args below meth c D A H1 locs la C hP hD hS hl
theorem g_newq {n : Int32} {N t idx : Nat} {C0 : String} (hd : decode (mC M) pc = .ok (.anewarray idx, 3)) (hw : Cond.classLink (mOwn M) idx C0 ∈ wT) (ht : (C0 = RX0 ∧ t = 2) ∨ (C0 = RX2 ∧ t = 3)) (hn : n = nI N) (hN : N ≤ 1000) (h1 : ce + 1 ≤ mc) (h2 : sl + N ≤ ms) (k : ∀ q, Gv M cA mc ms Qf (pc + 3) ls (.ref q :: st) (ws ++ [(q, .inl (cA t, N, .inr (.inr (.inr (.inr (fun _ => none))))))]) (ce + 1) (sl + N)) : Gv M cA mc ms Qf pc ls (.int n :: st) ws ce sl := by
  intro p l e s m args below meth c D A H locs la C hP hD hS hl
  obtain ⟨hx, hb, hml, hr, hlocks, hin, hown, hts, hK, hA, hN2⟩ := id C
  subst hn
  have hao : va_AO C0 s := ht.elim (fun z => by rw [z.1]; exact hN2.2.1) (fun z => by rw [z.1]; exact hN2.2.2)
  refine va_newq (C := C0) hx hb hown (hts _ hw) hao hK hP hD hS hA (nI_pos (show N < 2 ^ 31 by omega)) (nI_clamp (show N < 2 ^ 31 by omega)) (by omega) h1 h2 hd (fun q c' H1 hK' hP hD hS => ?_)
  have e1 : c' = cA t := by
    obtain ⟨k1, c1, a1, a2, a3, a4⟩ := (hK'.2 4 (c', .object C0) rfl).2
    rcases ht with ⟨rfl, rfl⟩ | ⟨rfl, rfl⟩
    · obtain ⟨k2, c2, b1, b2, b3, b4⟩ := (hK.2 2 (cA 2, .object RX0) rfl).2
      exact Option.some.inj (a4.symm.trans b4)
    · obtain ⟨k2, c2, b1, b2, b3, b4⟩ := (hK.2 3 (cA 3, .object RX2) rfl).2
      exact Option.some.inj (a4.symm.trans b4)
  subst e1
  exact k q p l e s m args below meth c D A H1 locs la C hP hD hS hl
theorem g_new {ci N idx : Nat} {C0 : String} {T : u_T} {ty0 : Nat → FieldType} {fs : List Value} (hd : decode (mC M) pc = .ok (.new idx, 3)) (hc : ClsOk ci C0 T N ty0) (hw : Cond.classLink (mOwn M) idx C0 ∈ wT) (hi : Cond.instantiable C0 N ∈ wT) (hz : Cond.initialized C0 ∈ wT) (hfs : ∀ j, j < N → defaultValue (ty0 j) = vp_V fs j) (h1 : ce + 1 ≤ mc) (h2 : sl + N ≤ ms) (k : ∀ q, Gv M cA mc ms Qf (pc + 3) ls (.ref q :: st) (ws ++ [(q, .inr (ci, fs))]) (ce + 1) (sl + N)) : Gv M cA mc ms Qf pc ls st ws ce sl := by
  intro p l e s m args below meth c D A H locs la C hP hD hS hl
  obtain ⟨hx, hb, hml, hr, hlocks, hin, hown, hts, hK, hA, hN2⟩ := id C
  exact va_new hx hb hts hc.2.1 ty0 hc.2.2.1 hown (hts _ hw) (hts _ hi) (hts _ hz) hK hP hD hS hA hc.1 hfs h1 h2 hd (fun q H1 hP hD hS => k q p l e s m args below meth c D A H1 locs la C hP hD hS hl)
theorem g_obj {a idx : Nat} (hd : decode (mC M) pc = .ok (.invokespecial idx, 3)) (hw : Cond.methodLink (mOwn M) idx Lib.objectInit ∈ wT) (hf : 1 ≤ mF M) (ho : (st.map fun v => v.category).sum + 12 ≤ mO M) (k : Gv M cA mc ms Qf (pc + 3) ls st ws ce sl) : Gv M cA mc ms Qf pc ls (.ref a :: st) ws ce sl := by
  intro p l e s m args below meth c D A H locs la C hP hD hS hl
  obtain ⟨hx, hb, hml, hr, hlocks, hin, hown, hts, hK, hA, hN2⟩ := id C
  refine W.objInit hx hb hown (hts _ hw) (hts _ objI) (hts _ w74) rfl (by rw [hml]; exact hl.1) rfl hd hf (by show 2 * 0 + (st.map fun v => v.category).sum + 12 ≤ mO M; omega) ?_
  refine W.eq (g2 := F0 m (pc + 3) la st) rfl ?_
  exact k p l e s m args below meth c D A H locs la C hP hD hS hl
theorem g_iast {a n : Nat} {i x : Int32} {f : Nat → Int32} {ws2 : va_W} (q0 : Nat) (hd : decode (mC M) pc = .ok (.iastore, 1)) (he : ws[q0]? = some (a, .inl (cA 0, n, .inl f))) (hin9 : vp_in i n) (e2 : ws.set q0 (a, .inl (cA 0, n, .inl (upd f i.toNatClampNeg x))) = ws2) (k : Gv M cA mc ms Qf (pc + 1) ls st ws2 ce sl) : Gv M cA mc ms Qf pc ls (.int x :: .int i :: .ref a :: st) ws ce sl := by
  intro p l e s m args below meth c D A H locs la C hP hD hS hl
  obtain ⟨hx, hb, hml, hr, hlocks, hin, hown, hts, hK, hA, hN2⟩ := id C
  subst e2
  exact va_iast hx hb hK hP hD hS q0 0 he rfl hin9 hd (fun H locs hP hD hS => k p l e s m args below meth c D A H locs la C hP hD hS hl)
theorem g_aast {a b n ci t : Nat} {i : Int32} {vs : List Value} {f : Nat → Option Nat} {ws2 : va_W} {C0 : String} {T : u_T} {N : Nat} {ty0 : Nat → FieldType} (q0 qk : Nat) (hd : decode (mC M) pc = .ok (.aastore, 1)) (he : ws[q0]? = some (a, .inl (cA t, n, .inr (.inr (.inr (.inr f)))))) (hc : ClsOk ci C0 T N ty0) (ht : (C0 = RX0 ∧ t = 2) ∨ (C0 = RX2 ∧ t = 3)) (hv : ws[qk]? = some (b, .inr (ci, vs))) (hin9 : vp_in i n) (e2 : ws.set q0 (a, .inl (cA t, n, .inr (.inr (.inr (.inr (va_up f i.toNatClampNeg (some b))))))) = ws2) (k : Gv M cA mc ms Qf (pc + 1) ls st ws2 ce sl) : Gv M cA mc ms Qf pc ls (.ref b :: .int i :: .ref a :: st) ws ce sl := by
  intro p l e s m args below meth c D A H locs la C hP hD hS hl
  obtain ⟨hx, hb, hml, hr, hlocks, hin, hown, hts, hK, hA, hN2⟩ := id C
  subst e2
  refine va_astq (r := (C0, T, N)) hx hb hK hP hD hS q0 t qk ci he ?_ hv hc.1 hin9 hd (fun H locs hP hD hS => k p l e s m args below meth c D A H locs la C hP hD hS hl)
  rcases ht with ⟨rfl, rfl⟩ | ⟨rfl, rfl⟩ <;> rfl
theorem g_ret (hd : decode (mC M) pc = .ok (.return_, 1)) (h1 : ce ≤ mc) (h2 : sl ≤ ms) (hq : Qf ws) : Gv M cA mc ms Qf pc ls [] ws ce sl := by
  intro p l e s m args below meth c D A H locs la C hP hD hS hl
  obtain ⟨hx, hb, hml, hr, hlocks, hin, hown, hts, hK, hA, hN2⟩ := id C
  refine W.widen h1 h2 ?_
  exact W.vret hx hb hr (fun t ht hW => ⟨⟨ws, rfl, hq, by rw [ht]; exact hP, hD⟩, hS.F ht⟩) hS.2.2 hd
/-- a nest mate's constructor, on the object that was made last -/
theorem g_ninit {M2 : MM} {mc2 ms2 ci idx j0 q : Nat} {fs : List Value} {Q2 : Nat → va_W → Prop} {host : String} (hd : decode (mC M) pc = .ok (.invokespecial idx, 3)) (hci : Ci M2 cA mc2 ms2 ci fs Q2) (hw : nestC[j0]? = some (.methodLinkNest (mOwn M) idx (mY M2) host)) (hnm : (mY M2).name = "<init>") (hr2 : mR M2 = none) (hin2 : Cond.instanceMethod (mY M2) ∈ wT) (hz : Cond.initialized (mY M2).cls ∈ wT) (hcd : Cond.code (mY M2) (mC M2) (mL M2) (mR M2) ∈ wT) (hpl : (mY M2).cls ≠ "java/lang/invoke/MethodHandle" ∧ (mY M2).cls ≠ "java/lang/invoke/VarHandle" ∧ (parseMethodDescriptor (mY M2).desc).map (fun d => d.parameters.length) = some 0) (hR : mF M2 + 1 ≤ mF M ∧ 8 + (mL M2 + 11) + mO M2 ≤ mO M) (hcat : (st.map fun v => v.category).sum ≤ 8) (h1 : ce + mc2 ≤ mc) (h2 : sl + ms2 ≤ ms) (k : ∀ w, Q2 q w → Gv M cA mc ms Qf (pc + 3) ls st (ws ++ w) (ce + mc2) (sl + ms2)) : Gv M cA mc ms Qf pc ls (.ref q :: st) (ws ++ [(q, .inr (ci, fs))]) ce sl := by
  intro p l e s m args below meth c D A H locs la C hP hD hS hl
  obtain ⟨hx, hb, hml, hr, hlocks, hin, hown, hts, hK, hA, hN2⟩ := id C
  have hPc := hP.rgt
  have hDc := hD.rgt
  have hFc := va_A_sub hDc hS hA
  refine va_callv (va_runIN (As := []) (rest := st) ⟨hx, hb, hml, hown, hts⟩ (hci l D q H.size) ⟨va_cnB (ret := none) 0 hts (by have := mW_good hcd; exact this) (by show Cond.code _ _ _ _ :: wT = _; rw [hr2]) rfl rfl (hN2.1 j0 _ hw) (hts _ hz) hpl hR, hnm, hts _ hin2⟩ ⟨fun a U g mk h => ?_, fun U hU hW => ⟨rfl, by rw [hU], by rw [hU]; exact hPc, va_K.moved hW.alike hK, hDc.weaken (fun _ _ _ _ => trivial), Nf.warm hW hN2⟩⟩ rfl rfl hl.1 rfl (lv_room hcat) hd ⟨h1, h2⟩) hS (fun q _ h => hFc q h) hFc (fun w t H1 locs1 ht hvm hq hB hz1 hk1 hS1 => ?_)
  · obtain ⟨q0, q1, qP, qK, qD, qN⟩ := h
    exact ⟨q0, q1, qP, va_K.moved (u := U) (U := U.calling g mk a) (Vm.Alike.refl U.vm) qK, qD, Nf.same (u := U) (U := U.calling g mk a) rfl qN⟩
  · obtain ⟨hP1, hD1⟩ := hB
    rw [ht] at hP1
    obtain ⟨hP2, hD2⟩ := wp_join hP.lft hD.lft (fun i j p q hp hq => hD.lr hp hq) hk1 hFc hP1 hD1
    exact k w hq p l e s m args below meth c D A H1 locs1 la C hP2 hD2 hS1 hl
end GV
theorem g_iastN {M : MM} {cA : Nat → ClassId} {mc ms : Nat} {Qf : va_W → Prop} {pc : Nat} {ls st : List Value} {ws : va_W} {ce sl : Nat} {a n : Nat} {i x : Int32} {f : Nat → Int32} {ws2 : va_W} (q0 j : Nat) (hd : decode (mC M) pc = .ok (.iastore, 1)) (he : ws[q0]? = some (a, .inl (cA 0, n, .inl f))) (hi : i = nI j) (hj : j < n) (hn : n ≤ 1000) (e2 : ws.set q0 (a, .inl (cA 0, n, .inl (upd f j x))) = ws2) (k : Gv M cA mc ms Qf (pc + 1) ls st ws2 ce sl) : Gv M cA mc ms Qf pc ls (.int x :: .int i :: .ref a :: st) ws ce sl := by
  subst hi
  exact g_iast q0 hd he (vp_in_nI hj (by omega)) (by rw [nI_clamp (by omega)]; exact e2) k
theorem g_aastN {M : MM} {cA : Nat → ClassId} {mc ms : Nat} {Qf : va_W → Prop} {pc : Nat} {ls st : List Value} {ws : va_W} {ce sl : Nat} {a b n ci t : Nat} {i : Int32} {vs : List Value} {f : Nat → Option Nat} {ws2 : va_W} {C0 : String} {T : u_T} {N : Nat} {ty0 : Nat → FieldType} (q0 qk j : Nat) (hd : decode (mC M) pc = .ok (.aastore, 1)) (he : ws[q0]? = some (a, .inl (cA t, n, .inr (.inr (.inr (.inr f)))))) (hc : ClsOk ci C0 T N ty0) (ht : (C0 = RX0 ∧ t = 2) ∨ (C0 = RX2 ∧ t = 3)) (hv : ws[qk]? = some (b, .inr (ci, vs))) (hi : i = nI j) (hj : j < n) (hn : n ≤ 1000) (e2 : ws.set q0 (a, .inl (cA t, n, .inr (.inr (.inr (.inr (va_up f j (some b))))))) = ws2) (k : Gv M cA mc ms Qf (pc + 1) ls st ws2 ce sl) : Gv M cA mc ms Qf pc ls (.ref b :: .int i :: .ref a :: st) ws ce sl := by
  subst hi
  exact g_aast q0 qk hd he hc ht hv (vp_in_nI hj (by omega)) (by rw [nI_clamp (by omega)]; exact e2) k
section GH
variable {M : MM} {cA : Nat → ClassId} {mc ms : Nat} {Qf : va_W → Prop} {pc : Nat} {ls st : List Value} {x0 : Nat × va_E} {tl : va_W} {ce sl : Nat}
theorem gh_putF {a ci N idx : Nat} {x : Value} {C0 : String} {T : u_T} {ty0 : Nat → FieldType} {fs fs2 : List Value} (j : Nat) (hd : decode (mC M) pc = .ok (.putfield idx, 3)) (hc : ClsOk ci C0 T N ty0) (hj : j < N) (hw : Cond.fieldLink (mOwn M) idx (T j).1 (T j).2.1 (T j).2.2.1 ∈ wT) (hfin : (T j).2.2.2 = true) (hdc : (T j).1 = mOwn M) (hn : narrow (ty0 j) x = x) (hfit : fits (ty0 j) x = true) (hl9 : j < fs.length) (e2 : fs.set j x = fs2) (k : Gv M cA mc ms Qf (pc + 3) ls st ((a, .inr (ci, fs2)) :: tl) ce sl) : Gv M cA mc ms Qf pc ls (x :: .ref a :: st) ((a, .inr (ci, fs)) :: tl) ce sl := by
  subst e2
  exact g_putF (ws := (a, .inr (ci, fs)) :: tl) 0 j hd rfl hc hj hw hfin hdc hn hfit hl9 rfl k
theorem gh_put {a ci N idx : Nat} {x : Value} {C0 : String} {T : u_T} {ty0 : Nat → FieldType} {fs fs2 : List Value} (j : Nat) (hd : decode (mC M) pc = .ok (.putfield idx, 3)) (hc : ClsOk ci C0 T N ty0) (hj : j < N) (hw : Cond.fieldLink (mOwn M) idx (T j).1 (T j).2.1 (T j).2.2.1 ∈ wT) (hfin : (T j).2.2.2 = false) (hn : narrow (ty0 j) x = x) (hfit : fits (ty0 j) x = true) (hl9 : j < fs.length) (e2 : fs.set j x = fs2) (k : Gv M cA mc ms Qf (pc + 3) ls st ((a, .inr (ci, fs2)) :: tl) ce sl) : Gv M cA mc ms Qf pc ls (x :: .ref a :: st) ((a, .inr (ci, fs)) :: tl) ce sl := by
  subst e2
  exact g_put (ws := (a, .inr (ci, fs)) :: tl) 0 j hd rfl hc hj hw hfin hn hfit hl9 rfl k
theorem gh_get {a ci N idx : Nat} {v : Value} {C0 : String} {T : u_T} {ty0 : Nat → FieldType} {fs : List Value} (j : Nat) (hd : decode (mC M) pc = .ok (.getfield idx, 3)) (hc : ClsOk ci C0 T N ty0) (hj : j < N) (hv : fs[j]? = some v) (hw : Cond.fieldLink (mOwn M) idx (T j).1 (T j).2.1 (T j).2.2.1 ∈ wT) (k : Gv M cA mc ms Qf (pc + 3) ls (v :: st) ((a, .inr (ci, fs)) :: tl) ce sl) : Gv M cA mc ms Qf pc ls (.ref a :: st) ((a, .inr (ci, fs)) :: tl) ce sl := g_get (ws := (a, .inr (ci, fs)) :: tl) 0 j hd rfl hc hj hv hw k
theorem gh_newi {n : Int32} {N : Nat} (hd : decode (mC M) pc = .ok (.newarray .int, 2)) (hn : n = nI N) (hN : N ≤ 1000) (h1 : ce + 1 ≤ mc) (h2 : sl + N ≤ ms) (k : ∀ q, Gv M cA mc ms Qf (pc + 2) ls (.ref q :: st) (x0 :: (tl ++ [(q, .inl (cA 0, N, .inl (fun _ => 0)))])) (ce + 1) (sl + N)) : Gv M cA mc ms Qf pc ls (.int n :: st) (x0 :: tl) ce sl := g_newi hd hn hN h1 h2 k
theorem gh_newz {n : Int32} {N : Nat} (hd : decode (mC M) pc = .ok (.newarray .boolean, 2)) (hn : n = nI N) (hN : N ≤ 1000) (h1 : ce + 1 ≤ mc) (h2 : sl + N ≤ ms) (k : ∀ q, Gv M cA mc ms Qf (pc + 2) ls (.ref q :: st) (x0 :: (tl ++ [(q, .inl (cA 1, N, .inl (fun _ => 0)))])) (ce + 1) (sl + N)) : Gv M cA mc ms Qf pc ls (.int n :: st) (x0 :: tl) ce sl := g_newz hd hn hN h1 h2 k
theorem gh_newq {n : Int32} {N t idx : Nat} {C0 : String} (hd : decode (mC M) pc = .ok (.anewarray idx, 3)) (hw : Cond.classLink (mOwn M) idx C0 ∈ wT) (ht : (C0 = RX0 ∧ t = 2) ∨ (C0 = RX2 ∧ t = 3)) (hn : n = nI N) (hN : N ≤ 1000) (h1 : ce + 1 ≤ mc) (h2 : sl + N ≤ ms) (k : ∀ q, Gv M cA mc ms Qf (pc + 3) ls (.ref q :: st) (x0 :: (tl ++ [(q, .inl (cA t, N, .inr (.inr (.inr (.inr (fun _ => none))))))])) (ce + 1) (sl + N)) : Gv M cA mc ms Qf pc ls (.int n :: st) (x0 :: tl) ce sl := g_newq hd hw ht hn hN h1 h2 k
theorem gh_new {ci N idx : Nat} {C0 : String} {T : u_T} {ty0 : Nat → FieldType} {fs : List Value} (hd : decode (mC M) pc = .ok (.new idx, 3)) (hc : ClsOk ci C0 T N ty0) (hw : Cond.classLink (mOwn M) idx C0 ∈ wT) (hi : Cond.instantiable C0 N ∈ wT) (hz : Cond.initialized C0 ∈ wT) (hfs : ∀ j, j < N → defaultValue (ty0 j) = vp_V fs j) (h1 : ce + 1 ≤ mc) (h2 : sl + N ≤ ms) (k : ∀ q, Gv M cA mc ms Qf (pc + 3) ls (.ref q :: st) (x0 :: (tl ++ [(q, .inr (ci, fs))])) (ce + 1) (sl + N)) : Gv M cA mc ms Qf pc ls st (x0 :: tl) ce sl := g_new hd hc hw hi hz hfs h1 h2 k
theorem gh_ninit {M2 : MM} {mc2 ms2 ci idx j0 q : Nat} {fs : List Value} {Q2 : Nat → va_W → Prop} {host : String} (hd : decode (mC M) pc = .ok (.invokespecial idx, 3)) (hci : Ci M2 cA mc2 ms2 ci fs Q2) (hw : nestC[j0]? = some (.methodLinkNest (mOwn M) idx (mY M2) host)) (hnm : (mY M2).name = "<init>") (hr2 : mR M2 = none) (hin2 : Cond.instanceMethod (mY M2) ∈ wT) (hz : Cond.initialized (mY M2).cls ∈ wT) (hcd : Cond.code (mY M2) (mC M2) (mL M2) (mR M2) ∈ wT) (hpl : (mY M2).cls ≠ "java/lang/invoke/MethodHandle" ∧ (mY M2).cls ≠ "java/lang/invoke/VarHandle" ∧ (parseMethodDescriptor (mY M2).desc).map (fun d => d.parameters.length) = some 0) (hR : mF M2 + 1 ≤ mF M ∧ 8 + (mL M2 + 11) + mO M2 ≤ mO M) (hcat : (st.map fun v => v.category).sum ≤ 8) (h1 : ce + mc2 ≤ mc) (h2 : sl + ms2 ≤ ms) (k : ∀ w, Q2 q w → Gv M cA mc ms Qf (pc + 3) ls st (x0 :: (tl ++ w)) (ce + mc2) (sl + ms2)) : Gv M cA mc ms Qf pc ls (.ref q :: st) (x0 :: (tl ++ [(q, .inr (ci, fs))])) ce sl := g_ninit (ws := x0 :: tl) hd hci hw hnm hr2 hin2 hz hcd hpl hR hcat h1 h2 k
theorem gh_aastN {a b n ci t : Nat} {i : Int32} {vs : List Value} {f : Nat → Option Nat} {C0 : String} {T : u_T} {N : Nat} {ty0 : Nat → FieldType} (q0 qk j : Nat) (hd : decode (mC M) pc = .ok (.aastore, 1)) (he : tl[q0]? = some (a, .inl (cA t, n, .inr (.inr (.inr (.inr f)))))) (hc : ClsOk ci C0 T N ty0) (ht : (C0 = RX0 ∧ t = 2) ∨ (C0 = RX2 ∧ t = 3)) (hv : tl[qk]? = some (b, .inr (ci, vs))) (hi : i = nI j) (hj : j < n) (hn : n ≤ 1000) (k : Gv M cA mc ms Qf (pc + 1) ls st (x0 :: tl.set q0 (a, .inl (cA t, n, .inr (.inr (.inr (.inr (va_up f j (some b)))))))) ce sl) : Gv M cA mc ms Qf pc ls (.ref b :: .int i :: .ref a :: st) (x0 :: tl) ce sl := g_aastN (ws := x0 :: tl) (q0 + 1) (qk + 1) j hd (by rw [List.getElem?_cons_succ]; exact he) hc ht (by rw [List.getElem?_cons_succ]; exact hv) hi hj hn rfl k
end GH
end
section
/-! ===== the class's small constructors ===== -/
theorem dX0_init_0 : decode cX0_init 0 = .ok (.aload_n 0, 1) := by decide +kernel
theorem dX0_init_1 : decode cX0_init 1 = .ok (.invokespecial 3, 3) := by decide +kernel
theorem dX0_init_4 : decode cX0_init 4 = .ok (.aload_n 0, 1) := by decide +kernel
theorem dX0_init_5 : decode cX0_init 5 = .ok (.iconst 0, 1) := by decide +kernel
theorem dX0_init_6 : decode cX0_init 6 = .ok (.putfield 9, 3) := by decide +kernel
theorem dX0_init_9 : decode cX0_init 9 = .ok (.aload_n 0, 1) := by decide +kernel
theorem dX0_init_10 : decode cX0_init 10 = .ok (.iconst 0, 1) := by decide +kernel
theorem dX0_init_11 : decode cX0_init 11 = .ok (.putfield 15, 3) := by decide +kernel
theorem dX0_init_14 : decode cX0_init 14 = .ok (.aload_n 0, 1) := by decide +kernel
theorem dX0_init_15 : decode cX0_init 15 = .ok (.iconst 0, 1) := by decide +kernel
theorem dX0_init_16 : decode cX0_init 16 = .ok (.putfield 18, 3) := by decide +kernel
theorem dX0_init_19 : decode cX0_init 19 = .ok (.aload_n 0, 1) := by decide +kernel
theorem dX0_init_20 : decode cX0_init 20 = .ok (.iconst 4, 1) := by decide +kernel
theorem dX0_init_21 : decode cX0_init 21 = .ok (.newarray .int, 2) := by decide +kernel
theorem dX0_init_23 : decode cX0_init 23 = .ok (.putfield 21, 3) := by decide +kernel
theorem dX0_init_26 : decode cX0_init 26 = .ok (.aload_n 0, 1) := by decide +kernel
theorem dX0_init_27 : decode cX0_init 27 = .ok (.iconst 4, 1) := by decide +kernel
theorem dX0_init_28 : decode cX0_init 28 = .ok (.newarray .int, 2) := by decide +kernel
theorem dX0_init_30 : decode cX0_init 30 = .ok (.putfield 25, 3) := by decide +kernel
theorem dX0_init_33 : decode cX0_init 33 = .ok (.aload_n 0, 1) := by decide +kernel
theorem dX0_init_34 : decode cX0_init 34 = .ok (.iconst 4, 1) := by decide +kernel
theorem dX0_init_35 : decode cX0_init 35 = .ok (.newarray .int, 2) := by decide +kernel
theorem dX0_init_37 : decode cX0_init 37 = .ok (.putfield 28, 3) := by decide +kernel
theorem dX0_init_40 : decode cX0_init 40 = .ok (.aload_n 0, 1) := by decide +kernel
theorem dX0_init_41 : decode cX0_init 41 = .ok (.iconst 4, 1) := by decide +kernel
theorem dX0_init_42 : decode cX0_init 42 = .ok (.newarray .int, 2) := by decide +kernel
theorem dX0_init_44 : decode cX0_init 44 = .ok (.putfield 31, 3) := by decide +kernel
theorem dX0_init_47 : decode cX0_init 47 = .ok (.aload_n 0, 1) := by decide +kernel
theorem dX0_init_48 : decode cX0_init 48 = .ok (.bipush 32, 2) := by decide +kernel
theorem dX0_init_50 : decode cX0_init 50 = .ok (.newarray .int, 2) := by decide +kernel
theorem dX0_init_52 : decode cX0_init 52 = .ok (.putfield 34, 3) := by decide +kernel
theorem dX0_init_55 : decode cX0_init 55 = .ok (.aload_n 0, 1) := by decide +kernel
theorem dX0_init_56 : decode cX0_init 56 = .ok (.iconst 4, 1) := by decide +kernel
theorem dX0_init_57 : decode cX0_init 57 = .ok (.newarray .int, 2) := by decide +kernel
theorem dX0_init_59 : decode cX0_init 59 = .ok (.putfield 37, 3) := by decide +kernel
theorem dX0_init_62 : decode cX0_init 62 = .ok (.aload_n 0, 1) := by decide +kernel
theorem dX0_init_63 : decode cX0_init 63 = .ok (.iconst 4, 1) := by decide +kernel
theorem dX0_init_64 : decode cX0_init 64 = .ok (.newarray .int, 2) := by decide +kernel
theorem dX0_init_66 : decode cX0_init 66 = .ok (.putfield 40, 3) := by decide +kernel
theorem dX0_init_69 : decode cX0_init 69 = .ok (.aload_n 0, 1) := by decide +kernel
theorem dX0_init_70 : decode cX0_init 70 = .ok (.iconst 4, 1) := by decide +kernel
theorem dX0_init_71 : decode cX0_init 71 = .ok (.newarray .int, 2) := by decide +kernel
theorem dX0_init_73 : decode cX0_init 73 = .ok (.putfield 43, 3) := by decide +kernel
theorem dX0_init_76 : decode cX0_init 76 = .ok (.aload_n 0, 1) := by decide +kernel
theorem dX0_init_77 : decode cX0_init 77 = .ok (.iconst 4, 1) := by decide +kernel
theorem dX0_init_78 : decode cX0_init 78 = .ok (.newarray .int, 2) := by decide +kernel
theorem dX0_init_80 : decode cX0_init 80 = .ok (.putfield 46, 3) := by decide +kernel
theorem dX0_init_83 : decode cX0_init 83 = .ok (.aload_n 0, 1) := by decide +kernel
theorem dX0_init_84 : decode cX0_init 84 = .ok (.bipush 6, 2) := by decide +kernel
theorem dX0_init_86 : decode cX0_init 86 = .ok (.newarray .int, 2) := by decide +kernel
theorem dX0_init_88 : decode cX0_init 88 = .ok (.putfield 49, 3) := by decide +kernel
theorem dX0_init_91 : decode cX0_init 91 = .ok (.return_, 1) := by decide +kernel
def MX0_init : MM := (RX0, yX0_init, cX0_init, 1, none, 0, 1, 12)
theorem raw_X0 : ∀ j, j < 13 → defaultValue (tyX0 j) = vp_V [.int 0, .int 0, .int 0, .null, .null, .null, .null, .null, .null, .null, .null, .null, .null] j := by
  intro j hj
  match j, hj with
  | 0, _ => rfl
  | 1, _ => rfl
  | 2, _ => rfl
  | 3, _ => rfl
  | 4, _ => rfl
  | 5, _ => rfl
  | 6, _ => rfl
  | 7, _ => rfl
  | 8, _ => rfl
  | 9, _ => rfl
  | 10, _ => rfl
  | 11, _ => rfl
  | 12, _ => rfl
  | n + 13, h => exact absurd h (by omega)
def wH (cA : Nat → ClassId) (q0 : Nat) (a : Nat → Nat) : va_W := [(q0, .inr (0, [.int 0, .int 0, .int 0, .ref (a 1), .ref (a 2), .ref (a 3), .ref (a 4), .ref (a 5), .ref (a 6), .ref (a 7), .ref (a 8), .ref (a 9), .ref (a 10)])), (a 1, .inl (cA 0, 4, .inl (fun _ => 0))), (a 2, .inl (cA 0, 4, .inl (fun _ => 0))), (a 3, .inl (cA 0, 4, .inl (fun _ => 0))), (a 4, .inl (cA 0, 4, .inl (fun _ => 0))), (a 5, .inl (cA 0, 32, .inl (fun _ => 0))), (a 6, .inl (cA 0, 4, .inl (fun _ => 0))), (a 7, .inl (cA 0, 4, .inl (fun _ => 0))), (a 8, .inl (cA 0, 4, .inl (fun _ => 0))), (a 9, .inl (cA 0, 4, .inl (fun _ => 0))), (a 10, .inl (cA 0, 6, .inl (fun _ => 0)))]
set_option maxHeartbeats 4000000 in
theorem c_X0_init (cA : Nat → ClassId) : Ci MX0_init cA 10 70 0 [.int 0, .int 0, .int 0, .null, .null, .null, .null, .null, .null, .null, .null, .null, .null] (fun q0 w => ∃ a : Nat → Nat, w = wH cA q0 a) := by
  refine ci_of (by decide) rfl rfl rfl (by decide) (fun q0 => ?_)
  refine g_aload_n dX0_init_0 rfl ?_
  refine g_obj dX0_init_1 w80 (by decide) (by decide) ?_
  refine g_aload_n dX0_init_4 rfl ?_
  refine g_iconst (v := 0) dX0_init_5 (by decide +kernel) ?_
  refine g_put 0 0 dX0_init_6 rfl ck0 (by decide) w81 rfl rfl rfl (Nat.le_of_ble_eq_true rfl) (ws2 := ([(q0, .inr (0, [.int 0, .int 0, .int 0, .null, .null, .null, .null, .null, .null, .null, .null, .null, .null]))] : va_W)) rfl ?_
  refine g_aload_n dX0_init_9 rfl ?_
  refine g_iconst (v := 0) dX0_init_10 (by decide +kernel) ?_
  refine g_put 0 1 dX0_init_11 rfl ck0 (by decide) w85 rfl rfl rfl (Nat.le_of_ble_eq_true rfl) (ws2 := ([(q0, .inr (0, [.int 0, .int 0, .int 0, .null, .null, .null, .null, .null, .null, .null, .null, .null, .null]))] : va_W)) rfl ?_
  refine g_aload_n dX0_init_14 rfl ?_
  refine g_iconst (v := 0) dX0_init_15 (by decide +kernel) ?_
  refine g_put 0 2 dX0_init_16 rfl ck0 (by decide) w89 rfl rfl rfl (Nat.le_of_ble_eq_true rfl) (ws2 := ([(q0, .inr (0, [.int 0, .int 0, .int 0, .null, .null, .null, .null, .null, .null, .null, .null, .null, .null]))] : va_W)) rfl ?_
  refine g_aload_n dX0_init_19 rfl ?_
  refine g_iconst (v := 4) dX0_init_20 (by decide +kernel) ?_
  refine g_newi (N := 4) dX0_init_21 (by decide +kernel) (by decide) (by decide) (by decide) (fun q21 => ?_)
  refine g_putF 0 3 dX0_init_23 rfl ck0 (by decide) w93 rfl rfl rfl rfl (Nat.le_of_ble_eq_true rfl) (ws2 := ([(q0, .inr (0, [.int 0, .int 0, .int 0, .ref q21, .null, .null, .null, .null, .null, .null, .null, .null, .null])), (q21, .inl (cA 0, 4, .inl (fun _ => 0)))] : va_W)) rfl ?_
  refine g_aload_n dX0_init_26 rfl ?_
  refine g_iconst (v := 4) dX0_init_27 (by decide +kernel) ?_
  refine g_newi (N := 4) dX0_init_28 (by decide +kernel) (by decide) (by decide) (by decide) (fun q28 => ?_)
  refine g_putF 0 4 dX0_init_30 rfl ck0 (by decide) w97 rfl rfl rfl rfl (Nat.le_of_ble_eq_true rfl) (ws2 := ([(q0, .inr (0, [.int 0, .int 0, .int 0, .ref q21, .ref q28, .null, .null, .null, .null, .null, .null, .null, .null])), (q21, .inl (cA 0, 4, .inl (fun _ => 0))), (q28, .inl (cA 0, 4, .inl (fun _ => 0)))] : va_W)) rfl ?_
  refine g_aload_n dX0_init_33 rfl ?_
  refine g_iconst (v := 4) dX0_init_34 (by decide +kernel) ?_
  refine g_newi (N := 4) dX0_init_35 (by decide +kernel) (by decide) (by decide) (by decide) (fun q35 => ?_)
  refine g_putF 0 5 dX0_init_37 rfl ck0 (by decide) w101 rfl rfl rfl rfl (Nat.le_of_ble_eq_true rfl) (ws2 := ([(q0, .inr (0, [.int 0, .int 0, .int 0, .ref q21, .ref q28, .ref q35, .null, .null, .null, .null, .null, .null, .null])), (q21, .inl (cA 0, 4, .inl (fun _ => 0))), (q28, .inl (cA 0, 4, .inl (fun _ => 0))), (q35, .inl (cA 0, 4, .inl (fun _ => 0)))] : va_W)) rfl ?_
  refine g_aload_n dX0_init_40 rfl ?_
  refine g_iconst (v := 4) dX0_init_41 (by decide +kernel) ?_
  refine g_newi (N := 4) dX0_init_42 (by decide +kernel) (by decide) (by decide) (by decide) (fun q42 => ?_)
  refine g_putF 0 6 dX0_init_44 rfl ck0 (by decide) w104 rfl rfl rfl rfl (Nat.le_of_ble_eq_true rfl) (ws2 := ([(q0, .inr (0, [.int 0, .int 0, .int 0, .ref q21, .ref q28, .ref q35, .ref q42, .null, .null, .null, .null, .null, .null])), (q21, .inl (cA 0, 4, .inl (fun _ => 0))), (q28, .inl (cA 0, 4, .inl (fun _ => 0))), (q35, .inl (cA 0, 4, .inl (fun _ => 0))), (q42, .inl (cA 0, 4, .inl (fun _ => 0)))] : va_W)) rfl ?_
  refine g_aload_n dX0_init_47 rfl ?_
  refine g_bipush (v := 32) dX0_init_48 (by decide +kernel) ?_
  refine g_newi (N := 32) dX0_init_50 (by decide +kernel) (by decide) (by decide) (by decide) (fun q50 => ?_)
  refine g_putF 0 7 dX0_init_52 rfl ck0 (by decide) w108 rfl rfl rfl rfl (Nat.le_of_ble_eq_true rfl) (ws2 := ([(q0, .inr (0, [.int 0, .int 0, .int 0, .ref q21, .ref q28, .ref q35, .ref q42, .ref q50, .null, .null, .null, .null, .null])), (q21, .inl (cA 0, 4, .inl (fun _ => 0))), (q28, .inl (cA 0, 4, .inl (fun _ => 0))), (q35, .inl (cA 0, 4, .inl (fun _ => 0))), (q42, .inl (cA 0, 4, .inl (fun _ => 0))), (q50, .inl (cA 0, 32, .inl (fun _ => 0)))] : va_W)) rfl ?_
  refine g_aload_n dX0_init_55 rfl ?_
  refine g_iconst (v := 4) dX0_init_56 (by decide +kernel) ?_
  refine g_newi (N := 4) dX0_init_57 (by decide +kernel) (by decide) (by decide) (by decide) (fun q57 => ?_)
  refine g_putF 0 8 dX0_init_59 rfl ck0 (by decide) w111 rfl rfl rfl rfl (Nat.le_of_ble_eq_true rfl) (ws2 := ([(q0, .inr (0, [.int 0, .int 0, .int 0, .ref q21, .ref q28, .ref q35, .ref q42, .ref q50, .ref q57, .null, .null, .null, .null])), (q21, .inl (cA 0, 4, .inl (fun _ => 0))), (q28, .inl (cA 0, 4, .inl (fun _ => 0))), (q35, .inl (cA 0, 4, .inl (fun _ => 0))), (q42, .inl (cA 0, 4, .inl (fun _ => 0))), (q50, .inl (cA 0, 32, .inl (fun _ => 0))), (q57, .inl (cA 0, 4, .inl (fun _ => 0)))] : va_W)) rfl ?_
  refine g_aload_n dX0_init_62 rfl ?_
  refine g_iconst (v := 4) dX0_init_63 (by decide +kernel) ?_
  refine g_newi (N := 4) dX0_init_64 (by decide +kernel) (by decide) (by decide) (by decide) (fun q64 => ?_)
  refine g_putF 0 9 dX0_init_66 rfl ck0 (by decide) w115 rfl rfl rfl rfl (Nat.le_of_ble_eq_true rfl) (ws2 := ([(q0, .inr (0, [.int 0, .int 0, .int 0, .ref q21, .ref q28, .ref q35, .ref q42, .ref q50, .ref q57, .ref q64, .null, .null, .null])), (q21, .inl (cA 0, 4, .inl (fun _ => 0))), (q28, .inl (cA 0, 4, .inl (fun _ => 0))), (q35, .inl (cA 0, 4, .inl (fun _ => 0))), (q42, .inl (cA 0, 4, .inl (fun _ => 0))), (q50, .inl (cA 0, 32, .inl (fun _ => 0))), (q57, .inl (cA 0, 4, .inl (fun _ => 0))), (q64, .inl (cA 0, 4, .inl (fun _ => 0)))] : va_W)) rfl ?_
  refine g_aload_n dX0_init_69 rfl ?_
  refine g_iconst (v := 4) dX0_init_70 (by decide +kernel) ?_
  refine g_newi (N := 4) dX0_init_71 (by decide +kernel) (by decide) (by decide) (by decide) (fun q71 => ?_)
  refine g_putF 0 10 dX0_init_73 rfl ck0 (by decide) w119 rfl rfl rfl rfl (Nat.le_of_ble_eq_true rfl) (ws2 := ([(q0, .inr (0, [.int 0, .int 0, .int 0, .ref q21, .ref q28, .ref q35, .ref q42, .ref q50, .ref q57, .ref q64, .ref q71, .null, .null])), (q21, .inl (cA 0, 4, .inl (fun _ => 0))), (q28, .inl (cA 0, 4, .inl (fun _ => 0))), (q35, .inl (cA 0, 4, .inl (fun _ => 0))), (q42, .inl (cA 0, 4, .inl (fun _ => 0))), (q50, .inl (cA 0, 32, .inl (fun _ => 0))), (q57, .inl (cA 0, 4, .inl (fun _ => 0))), (q64, .inl (cA 0, 4, .inl (fun _ => 0))), (q71, .inl (cA 0, 4, .inl (fun _ => 0)))] : va_W)) rfl ?_
  refine g_aload_n dX0_init_76 rfl ?_
  refine g_iconst (v := 4) dX0_init_77 (by decide +kernel) ?_
  refine g_newi (N := 4) dX0_init_78 (by decide +kernel) (by decide) (by decide) (by decide) (fun q78 => ?_)
  refine g_putF 0 11 dX0_init_80 rfl ck0 (by decide) w123 rfl rfl rfl rfl (Nat.le_of_ble_eq_true rfl) (ws2 := ([(q0, .inr (0, [.int 0, .int 0, .int 0, .ref q21, .ref q28, .ref q35, .ref q42, .ref q50, .ref q57, .ref q64, .ref q71, .ref q78, .null])), (q21, .inl (cA 0, 4, .inl (fun _ => 0))), (q28, .inl (cA 0, 4, .inl (fun _ => 0))), (q35, .inl (cA 0, 4, .inl (fun _ => 0))), (q42, .inl (cA 0, 4, .inl (fun _ => 0))), (q50, .inl (cA 0, 32, .inl (fun _ => 0))), (q57, .inl (cA 0, 4, .inl (fun _ => 0))), (q64, .inl (cA 0, 4, .inl (fun _ => 0))), (q71, .inl (cA 0, 4, .inl (fun _ => 0))), (q78, .inl (cA 0, 4, .inl (fun _ => 0)))] : va_W)) rfl ?_
  refine g_aload_n dX0_init_83 rfl ?_
  refine g_bipush (v := 6) dX0_init_84 (by decide +kernel) ?_
  refine g_newi (N := 6) dX0_init_86 (by decide +kernel) (by decide) (by decide) (by decide) (fun q86 => ?_)
  refine g_putF 0 12 dX0_init_88 rfl ck0 (by decide) w127 rfl rfl rfl rfl (Nat.le_of_ble_eq_true rfl) (ws2 := ([(q0, .inr (0, [.int 0, .int 0, .int 0, .ref q21, .ref q28, .ref q35, .ref q42, .ref q50, .ref q57, .ref q64, .ref q71, .ref q78, .ref q86])), (q21, .inl (cA 0, 4, .inl (fun _ => 0))), (q28, .inl (cA 0, 4, .inl (fun _ => 0))), (q35, .inl (cA 0, 4, .inl (fun _ => 0))), (q42, .inl (cA 0, 4, .inl (fun _ => 0))), (q50, .inl (cA 0, 32, .inl (fun _ => 0))), (q57, .inl (cA 0, 4, .inl (fun _ => 0))), (q64, .inl (cA 0, 4, .inl (fun _ => 0))), (q71, .inl (cA 0, 4, .inl (fun _ => 0))), (q78, .inl (cA 0, 4, .inl (fun _ => 0))), (q86, .inl (cA 0, 6, .inl (fun _ => 0)))] : va_W)) rfl ?_
  exact g_ret dX0_init_91 (by decide) (by decide) ⟨fun k => [q0, q21, q28, q35, q42, q50, q57, q64, q71, q78, q86].getD k 0, rfl⟩
theorem dX1_init_0 : decode cX1_init 0 = .ok (.aload_n 0, 1) := by decide +kernel
theorem dX1_init_1 : decode cX1_init 1 = .ok (.invokespecial 3, 3) := by decide +kernel
theorem dX1_init_4 : decode cX1_init 4 = .ok (.aload_n 0, 1) := by decide +kernel
theorem dX1_init_5 : decode cX1_init 5 = .ok (.iconst 4, 1) := by decide +kernel
theorem dX1_init_6 : decode cX1_init 6 = .ok (.newarray .int, 2) := by decide +kernel
theorem dX1_init_8 : decode cX1_init 8 = .ok (.putfield 9, 3) := by decide +kernel
theorem dX1_init_11 : decode cX1_init 11 = .ok (.aload_n 0, 1) := by decide +kernel
theorem dX1_init_12 : decode cX1_init 12 = .ok (.iconst 4, 1) := by decide +kernel
theorem dX1_init_13 : decode cX1_init 13 = .ok (.newarray .int, 2) := by decide +kernel
theorem dX1_init_15 : decode cX1_init 15 = .ok (.putfield 15, 3) := by decide +kernel
theorem dX1_init_18 : decode cX1_init 18 = .ok (.aload_n 0, 1) := by decide +kernel
theorem dX1_init_19 : decode cX1_init 19 = .ok (.iconst 4, 1) := by decide +kernel
theorem dX1_init_20 : decode cX1_init 20 = .ok (.newarray .int, 2) := by decide +kernel
theorem dX1_init_22 : decode cX1_init 22 = .ok (.putfield 18, 3) := by decide +kernel
theorem dX1_init_25 : decode cX1_init 25 = .ok (.aload_n 0, 1) := by decide +kernel
theorem dX1_init_26 : decode cX1_init 26 = .ok (.iconst 4, 1) := by decide +kernel
theorem dX1_init_27 : decode cX1_init 27 = .ok (.newarray .int, 2) := by decide +kernel
theorem dX1_init_29 : decode cX1_init 29 = .ok (.putfield 21, 3) := by decide +kernel
theorem dX1_init_32 : decode cX1_init 32 = .ok (.aload_n 0, 1) := by decide +kernel
theorem dX1_init_33 : decode cX1_init 33 = .ok (.iconst 4, 1) := by decide +kernel
theorem dX1_init_34 : decode cX1_init 34 = .ok (.newarray .int, 2) := by decide +kernel
theorem dX1_init_36 : decode cX1_init 36 = .ok (.putfield 24, 3) := by decide +kernel
theorem dX1_init_39 : decode cX1_init 39 = .ok (.aload_n 0, 1) := by decide +kernel
theorem dX1_init_40 : decode cX1_init 40 = .ok (.iconst 4, 1) := by decide +kernel
theorem dX1_init_41 : decode cX1_init 41 = .ok (.newarray .int, 2) := by decide +kernel
theorem dX1_init_43 : decode cX1_init 43 = .ok (.putfield 27, 3) := by decide +kernel
theorem dX1_init_46 : decode cX1_init 46 = .ok (.aload_n 0, 1) := by decide +kernel
theorem dX1_init_47 : decode cX1_init 47 = .ok (.iconst 4, 1) := by decide +kernel
theorem dX1_init_48 : decode cX1_init 48 = .ok (.newarray .int, 2) := by decide +kernel
theorem dX1_init_50 : decode cX1_init 50 = .ok (.putfield 30, 3) := by decide +kernel
theorem dX1_init_53 : decode cX1_init 53 = .ok (.aload_n 0, 1) := by decide +kernel
theorem dX1_init_54 : decode cX1_init 54 = .ok (.iconst 4, 1) := by decide +kernel
theorem dX1_init_55 : decode cX1_init 55 = .ok (.newarray .int, 2) := by decide +kernel
theorem dX1_init_57 : decode cX1_init 57 = .ok (.putfield 33, 3) := by decide +kernel
theorem dX1_init_60 : decode cX1_init 60 = .ok (.aload_n 0, 1) := by decide +kernel
theorem dX1_init_61 : decode cX1_init 61 = .ok (.bipush 64, 2) := by decide +kernel
theorem dX1_init_63 : decode cX1_init 63 = .ok (.newarray .int, 2) := by decide +kernel
theorem dX1_init_65 : decode cX1_init 65 = .ok (.putfield 36, 3) := by decide +kernel
theorem dX1_init_68 : decode cX1_init 68 = .ok (.aload_n 0, 1) := by decide +kernel
theorem dX1_init_69 : decode cX1_init 69 = .ok (.iconst 0, 1) := by decide +kernel
theorem dX1_init_70 : decode cX1_init 70 = .ok (.putfield 39, 3) := by decide +kernel
theorem dX1_init_73 : decode cX1_init 73 = .ok (.return_, 1) := by decide +kernel
def MX1_init : MM := (RX1, yX1_init, cX1_init, 1, none, 0, 1, 12)
theorem raw_X1 : ∀ j, j < 10 → defaultValue (tyX1 j) = vp_V [.null, .null, .null, .null, .null, .null, .null, .null, .null, .int 0] j := by
  intro j hj
  match j, hj with
  | 0, _ => rfl
  | 1, _ => rfl
  | 2, _ => rfl
  | 3, _ => rfl
  | 4, _ => rfl
  | 5, _ => rfl
  | 6, _ => rfl
  | 7, _ => rfl
  | 8, _ => rfl
  | 9, _ => rfl
  | n + 10, h => exact absurd h (by omega)
def wY (cA : Nat → ClassId) (q0 : Nat) (a : Nat → Nat) : va_W := [(q0, .inr (1, [.ref (a 1), .ref (a 2), .ref (a 3), .ref (a 4), .ref (a 5), .ref (a 6), .ref (a 7), .ref (a 8), .ref (a 9), .int 0])), (a 1, .inl (cA 0, 4, .inl (fun _ => 0))), (a 2, .inl (cA 0, 4, .inl (fun _ => 0))), (a 3, .inl (cA 0, 4, .inl (fun _ => 0))), (a 4, .inl (cA 0, 4, .inl (fun _ => 0))), (a 5, .inl (cA 0, 4, .inl (fun _ => 0))), (a 6, .inl (cA 0, 4, .inl (fun _ => 0))), (a 7, .inl (cA 0, 4, .inl (fun _ => 0))), (a 8, .inl (cA 0, 4, .inl (fun _ => 0))), (a 9, .inl (cA 0, 64, .inl (fun _ => 0)))]
set_option maxHeartbeats 4000000 in
theorem c_X1_init (cA : Nat → ClassId) : Ci MX1_init cA 9 96 1 [.null, .null, .null, .null, .null, .null, .null, .null, .null, .int 0] (fun q0 w => ∃ a : Nat → Nat, w = wY cA q0 a) := by
  refine ci_of (by decide) rfl rfl rfl (by decide) (fun q0 => ?_)
  refine g_aload_n dX1_init_0 rfl ?_
  refine g_obj dX1_init_1 w196 (by decide) (by decide) ?_
  refine g_aload_n dX1_init_4 rfl ?_
  refine g_iconst (v := 4) dX1_init_5 (by decide +kernel) ?_
  refine g_newi (N := 4) dX1_init_6 (by decide +kernel) (by decide) (by decide) (by decide) (fun q6 => ?_)
  refine g_putF 0 0 dX1_init_8 rfl ck1 (by decide) w197 rfl rfl rfl rfl (Nat.le_of_ble_eq_true rfl) (ws2 := ([(q0, .inr (1, [.ref q6, .null, .null, .null, .null, .null, .null, .null, .null, .int 0])), (q6, .inl (cA 0, 4, .inl (fun _ => 0)))] : va_W)) rfl ?_
  refine g_aload_n dX1_init_11 rfl ?_
  refine g_iconst (v := 4) dX1_init_12 (by decide +kernel) ?_
  refine g_newi (N := 4) dX1_init_13 (by decide +kernel) (by decide) (by decide) (by decide) (fun q13 => ?_)
  refine g_putF 0 1 dX1_init_15 rfl ck1 (by decide) w199 rfl rfl rfl rfl (Nat.le_of_ble_eq_true rfl) (ws2 := ([(q0, .inr (1, [.ref q6, .ref q13, .null, .null, .null, .null, .null, .null, .null, .int 0])), (q6, .inl (cA 0, 4, .inl (fun _ => 0))), (q13, .inl (cA 0, 4, .inl (fun _ => 0)))] : va_W)) rfl ?_
  refine g_aload_n dX1_init_18 rfl ?_
  refine g_iconst (v := 4) dX1_init_19 (by decide +kernel) ?_
  refine g_newi (N := 4) dX1_init_20 (by decide +kernel) (by decide) (by decide) (by decide) (fun q20 => ?_)
  refine g_putF 0 2 dX1_init_22 rfl ck1 (by decide) w201 rfl rfl rfl rfl (Nat.le_of_ble_eq_true rfl) (ws2 := ([(q0, .inr (1, [.ref q6, .ref q13, .ref q20, .null, .null, .null, .null, .null, .null, .int 0])), (q6, .inl (cA 0, 4, .inl (fun _ => 0))), (q13, .inl (cA 0, 4, .inl (fun _ => 0))), (q20, .inl (cA 0, 4, .inl (fun _ => 0)))] : va_W)) rfl ?_
  refine g_aload_n dX1_init_25 rfl ?_
  refine g_iconst (v := 4) dX1_init_26 (by decide +kernel) ?_
  refine g_newi (N := 4) dX1_init_27 (by decide +kernel) (by decide) (by decide) (by decide) (fun q27 => ?_)
  refine g_putF 0 3 dX1_init_29 rfl ck1 (by decide) w203 rfl rfl rfl rfl (Nat.le_of_ble_eq_true rfl) (ws2 := ([(q0, .inr (1, [.ref q6, .ref q13, .ref q20, .ref q27, .null, .null, .null, .null, .null, .int 0])), (q6, .inl (cA 0, 4, .inl (fun _ => 0))), (q13, .inl (cA 0, 4, .inl (fun _ => 0))), (q20, .inl (cA 0, 4, .inl (fun _ => 0))), (q27, .inl (cA 0, 4, .inl (fun _ => 0)))] : va_W)) rfl ?_
  refine g_aload_n dX1_init_32 rfl ?_
  refine g_iconst (v := 4) dX1_init_33 (by decide +kernel) ?_
  refine g_newi (N := 4) dX1_init_34 (by decide +kernel) (by decide) (by decide) (by decide) (fun q34 => ?_)
  refine g_putF 0 4 dX1_init_36 rfl ck1 (by decide) w205 rfl rfl rfl rfl (Nat.le_of_ble_eq_true rfl) (ws2 := ([(q0, .inr (1, [.ref q6, .ref q13, .ref q20, .ref q27, .ref q34, .null, .null, .null, .null, .int 0])), (q6, .inl (cA 0, 4, .inl (fun _ => 0))), (q13, .inl (cA 0, 4, .inl (fun _ => 0))), (q20, .inl (cA 0, 4, .inl (fun _ => 0))), (q27, .inl (cA 0, 4, .inl (fun _ => 0))), (q34, .inl (cA 0, 4, .inl (fun _ => 0)))] : va_W)) rfl ?_
  refine g_aload_n dX1_init_39 rfl ?_
  refine g_iconst (v := 4) dX1_init_40 (by decide +kernel) ?_
  refine g_newi (N := 4) dX1_init_41 (by decide +kernel) (by decide) (by decide) (by decide) (fun q41 => ?_)
  refine g_putF 0 5 dX1_init_43 rfl ck1 (by decide) w206 rfl rfl rfl rfl (Nat.le_of_ble_eq_true rfl) (ws2 := ([(q0, .inr (1, [.ref q6, .ref q13, .ref q20, .ref q27, .ref q34, .ref q41, .null, .null, .null, .int 0])), (q6, .inl (cA 0, 4, .inl (fun _ => 0))), (q13, .inl (cA 0, 4, .inl (fun _ => 0))), (q20, .inl (cA 0, 4, .inl (fun _ => 0))), (q27, .inl (cA 0, 4, .inl (fun _ => 0))), (q34, .inl (cA 0, 4, .inl (fun _ => 0))), (q41, .inl (cA 0, 4, .inl (fun _ => 0)))] : va_W)) rfl ?_
  refine g_aload_n dX1_init_46 rfl ?_
  refine g_iconst (v := 4) dX1_init_47 (by decide +kernel) ?_
  refine g_newi (N := 4) dX1_init_48 (by decide +kernel) (by decide) (by decide) (by decide) (fun q48 => ?_)
  refine g_putF 0 6 dX1_init_50 rfl ck1 (by decide) w207 rfl rfl rfl rfl (Nat.le_of_ble_eq_true rfl) (ws2 := ([(q0, .inr (1, [.ref q6, .ref q13, .ref q20, .ref q27, .ref q34, .ref q41, .ref q48, .null, .null, .int 0])), (q6, .inl (cA 0, 4, .inl (fun _ => 0))), (q13, .inl (cA 0, 4, .inl (fun _ => 0))), (q20, .inl (cA 0, 4, .inl (fun _ => 0))), (q27, .inl (cA 0, 4, .inl (fun _ => 0))), (q34, .inl (cA 0, 4, .inl (fun _ => 0))), (q41, .inl (cA 0, 4, .inl (fun _ => 0))), (q48, .inl (cA 0, 4, .inl (fun _ => 0)))] : va_W)) rfl ?_
  refine g_aload_n dX1_init_53 rfl ?_
  refine g_iconst (v := 4) dX1_init_54 (by decide +kernel) ?_
  refine g_newi (N := 4) dX1_init_55 (by decide +kernel) (by decide) (by decide) (by decide) (fun q55 => ?_)
  refine g_putF 0 7 dX1_init_57 rfl ck1 (by decide) w208 rfl rfl rfl rfl (Nat.le_of_ble_eq_true rfl) (ws2 := ([(q0, .inr (1, [.ref q6, .ref q13, .ref q20, .ref q27, .ref q34, .ref q41, .ref q48, .ref q55, .null, .int 0])), (q6, .inl (cA 0, 4, .inl (fun _ => 0))), (q13, .inl (cA 0, 4, .inl (fun _ => 0))), (q20, .inl (cA 0, 4, .inl (fun _ => 0))), (q27, .inl (cA 0, 4, .inl (fun _ => 0))), (q34, .inl (cA 0, 4, .inl (fun _ => 0))), (q41, .inl (cA 0, 4, .inl (fun _ => 0))), (q48, .inl (cA 0, 4, .inl (fun _ => 0))), (q55, .inl (cA 0, 4, .inl (fun _ => 0)))] : va_W)) rfl ?_
  refine g_aload_n dX1_init_60 rfl ?_
  refine g_bipush (v := 64) dX1_init_61 (by decide +kernel) ?_
  refine g_newi (N := 64) dX1_init_63 (by decide +kernel) (by decide) (by decide) (by decide) (fun q63 => ?_)
  refine g_putF 0 8 dX1_init_65 rfl ck1 (by decide) w209 rfl rfl rfl rfl (Nat.le_of_ble_eq_true rfl) (ws2 := ([(q0, .inr (1, [.ref q6, .ref q13, .ref q20, .ref q27, .ref q34, .ref q41, .ref q48, .ref q55, .ref q63, .int 0])), (q6, .inl (cA 0, 4, .inl (fun _ => 0))), (q13, .inl (cA 0, 4, .inl (fun _ => 0))), (q20, .inl (cA 0, 4, .inl (fun _ => 0))), (q27, .inl (cA 0, 4, .inl (fun _ => 0))), (q34, .inl (cA 0, 4, .inl (fun _ => 0))), (q41, .inl (cA 0, 4, .inl (fun _ => 0))), (q48, .inl (cA 0, 4, .inl (fun _ => 0))), (q55, .inl (cA 0, 4, .inl (fun _ => 0))), (q63, .inl (cA 0, 64, .inl (fun _ => 0)))] : va_W)) rfl ?_
  refine g_aload_n dX1_init_68 rfl ?_
  refine g_iconst (v := 0) dX1_init_69 (by decide +kernel) ?_
  refine g_put 0 9 dX1_init_70 rfl ck1 (by decide) w210 rfl rfl rfl (Nat.le_of_ble_eq_true rfl) (ws2 := ([(q0, .inr (1, [.ref q6, .ref q13, .ref q20, .ref q27, .ref q34, .ref q41, .ref q48, .ref q55, .ref q63, .int 0])), (q6, .inl (cA 0, 4, .inl (fun _ => 0))), (q13, .inl (cA 0, 4, .inl (fun _ => 0))), (q20, .inl (cA 0, 4, .inl (fun _ => 0))), (q27, .inl (cA 0, 4, .inl (fun _ => 0))), (q34, .inl (cA 0, 4, .inl (fun _ => 0))), (q41, .inl (cA 0, 4, .inl (fun _ => 0))), (q48, .inl (cA 0, 4, .inl (fun _ => 0))), (q55, .inl (cA 0, 4, .inl (fun _ => 0))), (q63, .inl (cA 0, 64, .inl (fun _ => 0)))] : va_W)) rfl ?_
  exact g_ret dX1_init_73 (by decide) (by decide) ⟨fun k => [q0, q6, q13, q20, q27, q34, q41, q48, q55, q63].getD k 0, rfl⟩
theorem dX2_init_0 : decode cX2_init 0 = .ok (.aload_n 0, 1) := by decide +kernel
theorem dX2_init_1 : decode cX2_init 1 = .ok (.invokespecial 3, 3) := by decide +kernel
theorem dX2_init_4 : decode cX2_init 4 = .ok (.aload_n 0, 1) := by decide +kernel
theorem dX2_init_5 : decode cX2_init 5 = .ok (.iconst 0, 1) := by decide +kernel
theorem dX2_init_6 : decode cX2_init 6 = .ok (.putfield 9, 3) := by decide +kernel
theorem dX2_init_9 : decode cX2_init 9 = .ok (.aload_n 0, 1) := by decide +kernel
theorem dX2_init_10 : decode cX2_init 10 = .ok (.iconst 0, 1) := by decide +kernel
theorem dX2_init_11 : decode cX2_init 11 = .ok (.putfield 15, 3) := by decide +kernel
theorem dX2_init_14 : decode cX2_init 14 = .ok (.aload_n 0, 1) := by decide +kernel
theorem dX2_init_15 : decode cX2_init 15 = .ok (.iconst 0, 1) := by decide +kernel
theorem dX2_init_16 : decode cX2_init 16 = .ok (.putfield 19, 3) := by decide +kernel
theorem dX2_init_19 : decode cX2_init 19 = .ok (.aload_n 0, 1) := by decide +kernel
theorem dX2_init_20 : decode cX2_init 20 = .ok (.bipush 40, 2) := by decide +kernel
theorem dX2_init_22 : decode cX2_init 22 = .ok (.newarray .int, 2) := by decide +kernel
theorem dX2_init_24 : decode cX2_init 24 = .ok (.putfield 22, 3) := by decide +kernel
theorem dX2_init_27 : decode cX2_init 27 = .ok (.return_, 1) := by decide +kernel
def MX2_init : MM := (RX2, yX2_init, cX2_init, 1, none, 0, 1, 12)
theorem raw_X2 : ∀ j, j < 4 → defaultValue (tyX2 j) = vp_V [.int 0, .int 0, .int 0, .null] j := by
  intro j hj
  match j, hj with
  | 0, _ => rfl
  | 1, _ => rfl
  | 2, _ => rfl
  | 3, _ => rfl
  | n + 4, h => exact absurd h (by omega)
def wS (cA : Nat → ClassId) (q0 : Nat) (a : Nat → Nat) : va_W := [(q0, .inr (2, [.int 0, .int 0, .int 0, .ref (a 1)])), (a 1, .inl (cA 0, 40, .inl (fun _ => 0)))]
set_option maxHeartbeats 4000000 in
theorem c_X2_init (cA : Nat → ClassId) : Ci MX2_init cA 1 40 2 [.int 0, .int 0, .int 0, .null] (fun q0 w => ∃ a : Nat → Nat, w = wS cA q0 a) := by
  refine ci_of (by decide) rfl rfl rfl (by decide) (fun q0 => ?_)
  refine g_aload_n dX2_init_0 rfl ?_
  refine g_obj dX2_init_1 w238 (by decide) (by decide) ?_
  refine g_aload_n dX2_init_4 rfl ?_
  refine g_iconst (v := 0) dX2_init_5 (by decide +kernel) ?_
  refine g_put 0 0 dX2_init_6 rfl ck2 (by decide) w239 rfl rfl rfl (Nat.le_of_ble_eq_true rfl) (ws2 := ([(q0, .inr (2, [.int 0, .int 0, .int 0, .null]))] : va_W)) rfl ?_
  refine g_aload_n dX2_init_9 rfl ?_
  refine g_iconst (v := 0) dX2_init_10 (by decide +kernel) ?_
  refine g_put 0 1 dX2_init_11 rfl ck2 (by decide) w241 rfl rfl rfl (Nat.le_of_ble_eq_true rfl) (ws2 := ([(q0, .inr (2, [.int 0, .int 0, .int 0, .null]))] : va_W)) rfl ?_
  refine g_aload_n dX2_init_14 rfl ?_
  refine g_iconst (v := 0) dX2_init_15 (by decide +kernel) ?_
  refine g_put 0 2 dX2_init_16 rfl ck2 (by decide) w243 rfl rfl rfl (Nat.le_of_ble_eq_true rfl) (ws2 := ([(q0, .inr (2, [.int 0, .int 0, .int 0, .null]))] : va_W)) rfl ?_
  refine g_aload_n dX2_init_19 rfl ?_
  refine g_bipush (v := 40) dX2_init_20 (by decide +kernel) ?_
  refine g_newi (N := 40) dX2_init_22 (by decide +kernel) (by decide) (by decide) (by decide) (fun q22 => ?_)
  refine g_putF 0 3 dX2_init_24 rfl ck2 (by decide) w245 rfl rfl rfl rfl (Nat.le_of_ble_eq_true rfl) (ws2 := ([(q0, .inr (2, [.int 0, .int 0, .int 0, .ref q22])), (q22, .inl (cA 0, 40, .inl (fun _ => 0)))] : va_W)) rfl ?_
  exact g_ret dX2_init_27 (by decide) (by decide) ⟨fun k => [q0, q22].getD k 0, rfl⟩
theorem dX3_init_0 : decode cX3_init 0 = .ok (.aload_n 0, 1) := by decide +kernel
theorem dX3_init_1 : decode cX3_init 1 = .ok (.invokespecial 3, 3) := by decide +kernel
theorem dX3_init_4 : decode cX3_init 4 = .ok (.aload_n 0, 1) := by decide +kernel
theorem dX3_init_5 : decode cX3_init 5 = .ok (.sipush 160, 3) := by decide +kernel
theorem dX3_init_8 : decode cX3_init 8 = .ok (.newarray .int, 2) := by decide +kernel
theorem dX3_init_10 : decode cX3_init 10 = .ok (.putfield 11, 3) := by decide +kernel
theorem dX3_init_13 : decode cX3_init 13 = .ok (.aload_n 0, 1) := by decide +kernel
theorem dX3_init_14 : decode cX3_init 14 = .ok (.iconst 0, 1) := by decide +kernel
theorem dX3_init_15 : decode cX3_init 15 = .ok (.putfield 15, 3) := by decide +kernel
theorem dX3_init_18 : decode cX3_init 18 = .ok (.aload_n 0, 1) := by decide +kernel
theorem dX3_init_19 : decode cX3_init 19 = .ok (.iconst 0, 1) := by decide +kernel
theorem dX3_init_20 : decode cX3_init 20 = .ok (.putfield 19, 3) := by decide +kernel
theorem dX3_init_23 : decode cX3_init 23 = .ok (.aload_n 0, 1) := by decide +kernel
theorem dX3_init_24 : decode cX3_init 24 = .ok (.iconst 0, 1) := by decide +kernel
theorem dX3_init_25 : decode cX3_init 25 = .ok (.putfield 22, 3) := by decide +kernel
theorem dX3_init_28 : decode cX3_init 28 = .ok (.aload_n 0, 1) := by decide +kernel
theorem dX3_init_29 : decode cX3_init 29 = .ok (.iconst 0, 1) := by decide +kernel
theorem dX3_init_30 : decode cX3_init 30 = .ok (.putfield 25, 3) := by decide +kernel
theorem dX3_init_33 : decode cX3_init 33 = .ok (.aload_n 0, 1) := by decide +kernel
theorem dX3_init_34 : decode cX3_init 34 = .ok (.iconst 0, 1) := by decide +kernel
theorem dX3_init_35 : decode cX3_init 35 = .ok (.putfield 28, 3) := by decide +kernel
theorem dX3_init_38 : decode cX3_init 38 = .ok (.aload_n 0, 1) := by decide +kernel
theorem dX3_init_39 : decode cX3_init 39 = .ok (.iconst 0, 1) := by decide +kernel
theorem dX3_init_40 : decode cX3_init 40 = .ok (.putfield 31, 3) := by decide +kernel
theorem dX3_init_43 : decode cX3_init 43 = .ok (.return_, 1) := by decide +kernel
def MX3_init : MM := (RX3, yX3_init, cX3_init, 1, none, 0, 1, 12)
theorem raw_X3 : ∀ j, j < 7 → defaultValue (tyX3 j) = vp_V [.null, .int 0, .int 0, .int 0, .int 0, .int 0, .int 0] j := by
  intro j hj
  match j, hj with
  | 0, _ => rfl
  | 1, _ => rfl
  | 2, _ => rfl
  | 3, _ => rfl
  | 4, _ => rfl
  | 5, _ => rfl
  | 6, _ => rfl
  | n + 7, h => exact absurd h (by omega)
def wT3 (cA : Nat → ClassId) (q0 : Nat) (a : Nat → Nat) : va_W := [(q0, .inr (3, [.ref (a 1), .int 0, .int 0, .int 0, .int 0, .int 0, .int 0])), (a 1, .inl (cA 0, 160, .inl (fun _ => 0)))]
set_option maxHeartbeats 4000000 in
theorem c_X3_init (cA : Nat → ClassId) : Ci MX3_init cA 1 160 3 [.null, .int 0, .int 0, .int 0, .int 0, .int 0, .int 0] (fun q0 w => ∃ a : Nat → Nat, w = wT3 cA q0 a) := by
  refine ci_of (by decide) rfl rfl rfl (by decide) (fun q0 => ?_)
  refine g_aload_n dX3_init_0 rfl ?_
  refine g_obj dX3_init_1 w165 (by decide) (by decide) ?_
  refine g_aload_n dX3_init_4 rfl ?_
  refine g_sipush (v := 160) dX3_init_5 (by decide +kernel) ?_
  refine g_newi (N := 160) dX3_init_8 (by decide +kernel) (by decide) (by decide) (by decide) (fun q8 => ?_)
  refine g_putF 0 0 dX3_init_10 rfl ck3 (by decide) w166 rfl rfl rfl rfl (Nat.le_of_ble_eq_true rfl) (ws2 := ([(q0, .inr (3, [.ref q8, .int 0, .int 0, .int 0, .int 0, .int 0, .int 0])), (q8, .inl (cA 0, 160, .inl (fun _ => 0)))] : va_W)) rfl ?_
  refine g_aload_n dX3_init_13 rfl ?_
  refine g_iconst (v := 0) dX3_init_14 (by decide +kernel) ?_
  refine g_put 0 1 dX3_init_15 rfl ck3 (by decide) w167 rfl rfl rfl (Nat.le_of_ble_eq_true rfl) (ws2 := ([(q0, .inr (3, [.ref q8, .int 0, .int 0, .int 0, .int 0, .int 0, .int 0])), (q8, .inl (cA 0, 160, .inl (fun _ => 0)))] : va_W)) rfl ?_
  refine g_aload_n dX3_init_18 rfl ?_
  refine g_iconst (v := 0) dX3_init_19 (by decide +kernel) ?_
  refine g_put 0 2 dX3_init_20 rfl ck3 (by decide) w169 rfl rfl rfl (Nat.le_of_ble_eq_true rfl) (ws2 := ([(q0, .inr (3, [.ref q8, .int 0, .int 0, .int 0, .int 0, .int 0, .int 0])), (q8, .inl (cA 0, 160, .inl (fun _ => 0)))] : va_W)) rfl ?_
  refine g_aload_n dX3_init_23 rfl ?_
  refine g_iconst (v := 0) dX3_init_24 (by decide +kernel) ?_
  refine g_put 0 3 dX3_init_25 rfl ck3 (by decide) w171 rfl rfl rfl (Nat.le_of_ble_eq_true rfl) (ws2 := ([(q0, .inr (3, [.ref q8, .int 0, .int 0, .int 0, .int 0, .int 0, .int 0])), (q8, .inl (cA 0, 160, .inl (fun _ => 0)))] : va_W)) rfl ?_
  refine g_aload_n dX3_init_28 rfl ?_
  refine g_iconst (v := 0) dX3_init_29 (by decide +kernel) ?_
  refine g_put 0 4 dX3_init_30 rfl ck3 (by decide) w172 rfl rfl rfl (Nat.le_of_ble_eq_true rfl) (ws2 := ([(q0, .inr (3, [.ref q8, .int 0, .int 0, .int 0, .int 0, .int 0, .int 0])), (q8, .inl (cA 0, 160, .inl (fun _ => 0)))] : va_W)) rfl ?_
  refine g_aload_n dX3_init_33 rfl ?_
  refine g_iconst (v := 0) dX3_init_34 (by decide +kernel) ?_
  refine g_put 0 5 dX3_init_35 rfl ck3 (by decide) w173 rfl rfl rfl (Nat.le_of_ble_eq_true rfl) (ws2 := ([(q0, .inr (3, [.ref q8, .int 0, .int 0, .int 0, .int 0, .int 0, .int 0])), (q8, .inl (cA 0, 160, .inl (fun _ => 0)))] : va_W)) rfl ?_
  refine g_aload_n dX3_init_38 rfl ?_
  refine g_iconst (v := 0) dX3_init_39 (by decide +kernel) ?_
  refine g_put 0 6 dX3_init_40 rfl ck3 (by decide) w174 rfl rfl rfl (Nat.le_of_ble_eq_true rfl) (ws2 := ([(q0, .inr (3, [.ref q8, .int 0, .int 0, .int 0, .int 0, .int 0, .int 0])), (q8, .inl (cA 0, 160, .inl (fun _ => 0)))] : va_W)) rfl ?_
  exact g_ret dX3_init_43 (by decide) (by decide) ⟨fun k => [q0, q8].getD k 0, rfl⟩
end
section
theorem va_D_nd {A : Nat → Prop} {ws : va_W} : va_D A ws ↔ (ws.map (fun q => q.1)).Nodup ∧ ∀ q ∈ ws, A q.1 := by
  constructor
  · intro h
    refine ⟨List.pairwise_iff_getElem.mpr fun i j hi hj hij e => ?_, fun q hq => ?_⟩
    · rw [List.length_map] at hi hj
      rw [List.getElem_map, List.getElem_map] at e
      have := h.1 i j _ _ (List.getElem?_eq_getElem hi) (List.getElem?_eq_getElem hj) e
      omega
    · obtain ⟨k, hk⟩ := List.mem_iff_getElem?.mp hq
      exact h.2 k q hk
  · rintro ⟨h1, h2⟩
    refine ⟨fun i j p q hp hq e => ?_, fun k q hk => h2 q (List.mem_of_getElem? hk)⟩
    have hi := (List.getElem?_eq_some_iff.mp hp).1
    have a1 : (ws.map (fun q => q.1))[i]? = some p.1 := by rw [List.getElem?_map, hp]; rfl
    have a2 : (ws.map (fun q => q.1))[j]? = some q.1 := by rw [List.getElem?_map, hq]; rfl
    exact (List.getElem?_inj (by rw [List.length_map]; exact hi) h1).mp (by rw [a1, a2, e])
theorem va_P_mem {D : va_G} {cl : List vw_C} {ws : va_W} {H : Heap} : va_P D cl ws H ↔ ∀ q ∈ ws, va_at D cl q H := by
  constructor
  · intro h q hq
    obtain ⟨k, hk⟩ := List.mem_iff_getElem?.mp hq
    exact h k q hk
  · intro h k q hk
    exact h q (List.mem_of_getElem? hk)
theorem va_D.perm {A : Nat → Prop} {w1 w2 : va_W} (h : va_D A w1) (hp : w1.Perm w2) : va_D A w2 := by
  rw [va_D_nd] at h ⊢
  exact ⟨(hp.map _).nodup_iff.mp h.1, fun q hq => h.2 q (hp.mem_iff.mpr hq)⟩
theorem va_P.perm {D : va_G} {cl : List vw_C} {w1 w2 : va_W} {H : Heap} (h : va_P D cl w1 H) (hp : w1.Perm w2) : va_P D cl w2 H := by
  rw [va_P_mem] at h ⊢
  exact fun q hq => h q (hp.mem_iff.mpr hq)
theorem Gv.perm {M : MM} {cA : Nat → ClassId} {mc ms : Nat} {Qf : va_W → Prop} {pc : Nat} {ls st : List Value} {w1 w2 : va_W} {ce sl : Nat} (hp : w1.Perm w2) (k : Gv M cA mc ms Qf pc ls st w2 ce sl) : Gv M cA mc ms Qf pc ls st w1 ce sl := by
  intro p l e s m args below meth c D A H locs la C hP hD hS hl
  exact k p l e s m args below meth c D A H locs la C (hP.perm hp) (hD.perm hp) hS hl
section GK
variable {M : MM} {cA : Nat → ClassId} {mc ms : Nat} {Qf : va_W → Prop} {pc : Nat} {ls st : List Value} {x0 y0 z0 : Nat × va_E} {tl : va_W} {ce sl : Nat}
theorem gk_newi {n : Int32} {N : Nat} (hd : decode (mC M) pc = .ok (.newarray .int, 2)) (hn : n = nI N) (hN : N ≤ 1000) (h1 : ce + 1 ≤ mc) (h2 : sl + N ≤ ms) (k : ∀ q, Gv M cA mc ms Qf (pc + 2) ls (.ref q :: st) (x0 :: y0 :: z0 :: (tl ++ [(q, .inl (cA 0, N, .inl (fun _ => 0)))])) (ce + 1) (sl + N)) : Gv M cA mc ms Qf pc ls (.int n :: st) (x0 :: y0 :: z0 :: tl) ce sl := g_newi hd hn hN h1 h2 k
theorem gk_new {ci N idx : Nat} {C0 : String} {T : u_T} {ty0 : Nat → FieldType} {fs : List Value} (hd : decode (mC M) pc = .ok (.new idx, 3)) (hc : ClsOk ci C0 T N ty0) (hw : Cond.classLink (mOwn M) idx C0 ∈ wT) (hi : Cond.instantiable C0 N ∈ wT) (hz : Cond.initialized C0 ∈ wT) (hfs : ∀ j, j < N → defaultValue (ty0 j) = vp_V fs j) (h1 : ce + 1 ≤ mc) (h2 : sl + N ≤ ms) (k : ∀ q, Gv M cA mc ms Qf (pc + 3) ls (.ref q :: st) (x0 :: y0 :: z0 :: (tl ++ [(q, .inr (ci, fs))])) (ce + 1) (sl + N)) : Gv M cA mc ms Qf pc ls st (x0 :: y0 :: z0 :: tl) ce sl := g_new hd hc hw hi hz hfs h1 h2 k
theorem gk_ninit {M2 : MM} {mc2 ms2 ci idx j0 q : Nat} {fs : List Value} {Q2 : Nat → va_W → Prop} {host : String} (hd : decode (mC M) pc = .ok (.invokespecial idx, 3)) (hci : Ci M2 cA mc2 ms2 ci fs Q2) (hw : nestC[j0]? = some (.methodLinkNest (mOwn M) idx (mY M2) host)) (hnm : (mY M2).name = "<init>") (hr2 : mR M2 = none) (hin2 : Cond.instanceMethod (mY M2) ∈ wT) (hz : Cond.initialized (mY M2).cls ∈ wT) (hcd : Cond.code (mY M2) (mC M2) (mL M2) (mR M2) ∈ wT) (hpl : (mY M2).cls ≠ "java/lang/invoke/MethodHandle" ∧ (mY M2).cls ≠ "java/lang/invoke/VarHandle" ∧ (parseMethodDescriptor (mY M2).desc).map (fun d => d.parameters.length) = some 0) (hR : mF M2 + 1 ≤ mF M ∧ 8 + (mL M2 + 11) + mO M2 ≤ mO M) (hcat : (st.map fun v => v.category).sum ≤ 8) (h1 : ce + mc2 ≤ mc) (h2 : sl + ms2 ≤ ms) (k : ∀ w, Q2 q w → Gv M cA mc ms Qf (pc + 3) ls st (x0 :: y0 :: z0 :: (tl ++ w)) (ce + mc2) (sl + ms2)) : Gv M cA mc ms Qf pc ls (.ref q :: st) (x0 :: y0 :: z0 :: (tl ++ [(q, .inr (ci, fs))])) ce sl := g_ninit (ws := x0 :: y0 :: z0 :: tl) hd hci hw hnm hr2 hin2 hz hcd hpl hR hcat h1 h2 k
theorem gk_aast1 {a b n ci : Nat} {i : Int32} {vs : List Value} {w : va_W} {f : Nat → Option Nat} {C0 : String} {T : u_T} {N : Nat} {ty0 : Nat → FieldType} (j : Nat) (hd : decode (mC M) pc = .ok (.aastore, 1)) (hc : ClsOk ci C0 T N ty0) (h0 : C0 = RX0) (hv : (b, (.inr (ci, vs) : va_E)) ∈ w) (hi : i = nI j) (hj : j < n) (hn : n ≤ 1000) (k : Gv M cA mc ms Qf (pc + 1) ls st (x0 :: (a, .inl (cA 2, n, .inr (.inr (.inr (.inr (va_up f j (some b))))))) :: z0 :: (tl ++ w)) ce sl) : Gv M cA mc ms Qf pc ls (.ref b :: .int i :: .ref a :: st) (x0 :: (a, .inl (cA 2, n, .inr (.inr (.inr (.inr f))))) :: z0 :: (tl ++ w)) ce sl := by
  obtain ⟨q9, h9⟩ := List.mem_iff_getElem?.mp hv
  exact g_aastN (t := 2) 1 (3 + (tl.length + q9)) j hd rfl hc (Or.inl ⟨h0, rfl⟩) (by rw [show 3 + (tl.length + q9) = (tl.length + q9) + 1 + 1 + 1 by omega, List.getElem?_cons_succ, List.getElem?_cons_succ, List.getElem?_cons_succ, List.getElem?_append_right (Nat.le_add_right _ _), Nat.add_sub_cancel_left]; exact h9) hi hj hn rfl k
theorem gk_aast2 {a b n ci : Nat} {i : Int32} {vs : List Value} {w : va_W} {f : Nat → Option Nat} {C0 : String} {T : u_T} {N : Nat} {ty0 : Nat → FieldType} (j : Nat) (hd : decode (mC M) pc = .ok (.aastore, 1)) (hc : ClsOk ci C0 T N ty0) (h0 : C0 = RX2) (hv : (b, (.inr (ci, vs) : va_E)) ∈ w) (hi : i = nI j) (hj : j < n) (hn : n ≤ 1000) (k : Gv M cA mc ms Qf (pc + 1) ls st (x0 :: y0 :: (a, .inl (cA 3, n, .inr (.inr (.inr (.inr (va_up f j (some b))))))) :: (tl ++ w)) ce sl) : Gv M cA mc ms Qf pc ls (.ref b :: .int i :: .ref a :: st) (x0 :: y0 :: (a, .inl (cA 3, n, .inr (.inr (.inr (.inr f))))) :: (tl ++ w)) ce sl := by
  obtain ⟨q9, h9⟩ := List.mem_iff_getElem?.mp hv
  exact g_aastN (t := 3) 2 (3 + (tl.length + q9)) j hd rfl hc (Or.inr ⟨h0, rfl⟩) (by rw [show 3 + (tl.length + q9) = (tl.length + q9) + 1 + 1 + 1 by omega, List.getElem?_cons_succ, List.getElem?_cons_succ, List.getElem?_cons_succ, List.getElem?_append_right (Nat.le_add_right _ _), Nat.add_sub_cancel_left]; exact h9) hi hj hn rfl k
end GK
theorem pm_in {x y z : Nat × va_E} {P Q : va_W} : (x :: (P ++ [y] ++ Q ++ [z])).Perm (x :: y :: z :: (P ++ Q)) := by
  refine List.Perm.cons x ?_
  have h1 : (P ++ [y] ++ Q ++ [z]) = P ++ y :: (Q ++ z :: []) := by simp
  rw [h1]
  refine List.perm_middle.trans (List.Perm.cons y ?_)
  rw [show P ++ (Q ++ z :: []) = (P ++ Q) ++ z :: [] by simp]
  refine List.perm_middle.trans (List.Perm.cons z ?_)
  rw [List.append_nil]
theorem pm_out {x y z : Nat × va_E} {P Q R : va_W} : (x :: y :: z :: (P ++ Q ++ R)).Perm (x :: (P ++ (y :: (Q ++ (z :: R))))) := by
  refine List.Perm.cons x ?_
  refine List.Perm.trans (List.Perm.cons y ?_) List.perm_middle.symm
  rw [show P ++ (Q ++ z :: R) = (P ++ Q) ++ z :: R by simp]
  exact List.perm_middle.symm
/-- shapes from place n on -/
def wsF (ad : Nat → Nat) (cA : Nat → ClassId) (n : Nat) (S : List Shp) (d : DD) : va_W := S.mapIdx (fun k s => (ad (n + k), ent ad cA (d (n + k)) s))
theorem wsF_0 {ad : Nat → Nat} {cA : Nat → ClassId} {S : List Shp} {d : DD} : wsOf ad cA S d = wsF ad cA 0 S d := by
  unfold wsOf wsF
  congr 1
  funext k s
  rw [Nat.zero_add]
theorem wsF_app {ad : Nat → Nat} {cA : Nat → ClassId} {S T : List Shp} {d : DD} {n : Nat} : wsF ad cA n (S ++ T) d = wsF ad cA n S d ++ wsF ad cA (n + S.length) T d := by
  unfold wsF
  rw [List.mapIdx_append]
  congr 1
  congr 1
  funext k s
  rw [show n + (k + S.length) = n + S.length + k by omega]
theorem gl_iast {M : MM} {cA : Nat → ClassId} {mc ms : Nat} {Qf : va_W → Prop} {pc : Nat} {ls st : List Value} {x0 : Nat × va_E} {tl : va_W} {ce sl : Nat} {a n : Nat} {i x : Int32} {f : Nat → Int32} (j : Nat) (hd : decode (mC M) pc = .ok (.iastore, 1)) (hi : i = nI j) (hj : j < n) (hn : n ≤ 1000) (k : Gv M cA mc ms Qf (pc + 1) ls st (x0 :: (tl ++ [(a, .inl (cA 0, n, .inl (upd f j x)))])) ce sl) : Gv M cA mc ms Qf pc ls (.int x :: .int i :: .ref a :: st) (x0 :: (tl ++ [(a, .inl (cA 0, n, .inl f))])) ce sl := by
  refine g_iastN (f := f) (tl.length + 1) j hd ?_ hi hj hn ?_ k
  · rw [List.getElem?_cons_succ, List.getElem?_append_right (Nat.le_refl _), Nat.sub_self]; rfl
  · rw [List.set_cons_succ, List.set_append_right _ _ (Nat.le_refl _), Nat.sub_self]; rfl
end
