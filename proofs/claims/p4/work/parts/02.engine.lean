/-! the pure heap: cell k, place j; all references are fixed (shapes) -/
abbrev DD : Type := Nat → Nat → Int32
/-- a cell's shape: 0 int row, 1 boolean row, 2 row of TuneWard$House, 3 row of TuneWard$Sheet, 4 object; its length or class; its references -/
abbrev Shp : Type := Nat × Nat × List (Option Nat)
/-- a method: its class, name, code, locals, answer's type and kind (0 none, 1 int, 2 long), room -/
abbrev MM : Type := String × MethodName × ByteArray × Nat × Option FieldType × Nat × Nat × Nat
abbrev mOwn (M : MM) : String := M.1
abbrev mY (M : MM) : MethodName := M.2.1
abbrev mC (M : MM) : ByteArray := M.2.2.1
abbrev mL (M : MM) : Nat := M.2.2.2.1
abbrev mR (M : MM) : Option FieldType := M.2.2.2.2.1
abbrev mK (M : MM) : Nat := M.2.2.2.2.2.1
abbrev mF (M : MM) : Nat := M.2.2.2.2.2.2.1
abbrev mO (M : MM) : Nat := M.2.2.2.2.2.2.2
def mW (M : MM) : List Cond := .code (mY M) (mC M) (mL M) (mR M) :: wT
def mRm (M : MM) : Room := { frames := mF M, cells := 0, slots := 0, locals := mO M }
def cv (ad : Nat → Nat) : Value → Value
  | .ref k => .ref (ad k)
  | .int x => .int x
  | .long x => .long x
  | .float x => .float x
  | .double x => .double x
  | .null => .null
  | .retAddr x => .retAddr x
theorem cv_cat (ad : Nat → Nat) (v : Value) : (cv ad v).category = v.category := by cases v <;> rfl
def up (d : DD) (b j : Nat) (x : Int32) : DD := fun a => if a = b then upd (d a) j x else d a
def rowset (d : DD) (b : Nat) (f : Nat → Int32) : DD := fun a => if a = b then f else d a
def slotsOf (ad : Nat → Nat) (f : Nat → Int32) (sl : List (Option Nat)) : List Value := sl.mapIdx (fun j o => match o with
  | none => Value.int (f j)
  | some r => Value.ref (ad r))
def refsOf (ad : Nat → Nat) (sl : List (Option Nat)) : Nat → Option Nat := fun j => (sl.getD j none).map ad
def ent (ad : Nat → Nat) (cA : Nat → ClassId) (f : Nat → Int32) (s : Shp) : va_E := match s.1 with
  | 0 => .inl (cA 0, s.2.1, .inl f)
  | 1 => .inl (cA 1, s.2.1, .inl f)
  | 2 => .inl (cA 2, s.2.1, .inr (.inr (.inr (.inr (refsOf ad s.2.2)))))
  | 3 => .inl (cA 3, s.2.1, .inr (.inr (.inr (.inr (refsOf ad s.2.2)))))
  | _ => .inr (s.2.1, slotsOf ad f s.2.2)
def wsOf (ad : Nat → Nat) (cA : Nat → ClassId) (S : List Shp) (d : DD) : va_W := S.mapIdx (fun k s => (ad k, ent ad cA (d k) s))
def tysOf (cA : Nat → ClassId) : List (ClassId × FieldType) := [(cA 0, .int), (cA 1, .boolean), (cA 2, .object RX0), (cA 3, .object RX2)]
theorem wsOf_get {ad : Nat → Nat} {cA : Nat → ClassId} {S : List Shp} {d : DD} {k : Nat} {s : Shp} (h : S[k]? = some s) : (wsOf ad cA S d)[k]? = some (ad k, ent ad cA (d k) s) := by
  simp [wsOf, List.getElem?_mapIdx, h]
theorem wsOf_adr {ad : Nat → Nat} {cA : Nat → ClassId} {S : List Shp} {d : DD} {k : Nat} {q : Nat × va_E} (h : (wsOf ad cA S d)[k]? = some q) : k < S.length ∧ q.1 = ad k := by
  simp only [wsOf, List.getElem?_mapIdx] at h
  cases hs : S[k]? with
  | none => rw [hs] at h; cases h
  | some s =>
    rw [hs] at h
    obtain rfl := Option.some.inj h
    exact ⟨(List.getElem?_eq_some_iff.mp hs).1, rfl⟩
theorem wsOf_set {ad : Nat → Nat} {cA : Nat → ClassId} {S : List Shp} {d d' : DD} {b : Nat} {s : Shp} {e : va_E} (h : S[b]? = some s) (hd : ∀ a, a ≠ b → d' a = d a) (he : ent ad cA (d' b) s = e) : (wsOf ad cA S d).set b (ad b, e) = wsOf ad cA S d' := by
  refine List.ext_getElem? fun k => ?_
  by_cases hk : b = k
  · subst hk
    rw [wsOf_get h, List.getElem?_set_self (by simpa [wsOf] using (List.getElem?_eq_some_iff.mp h).1), he]
  · rw [List.getElem?_set_ne hk]
    simp only [wsOf, List.getElem?_mapIdx]
    rw [hd k (fun e => hk e.symm)]
theorem slotsOf_get {ad : Nat → Nat} {f : Nat → Int32} {sl : List (Option Nat)} {j : Nat} (h : sl[j]? = some none) : (slotsOf ad f sl)[j]? = some (.int (f j)) := by
  simp [slotsOf, List.getElem?_mapIdx, h]
theorem slotsOf_ref {ad : Nat → Nat} {f : Nat → Int32} {sl : List (Option Nat)} {j r : Nat} (h : sl[j]? = some (some r)) : (slotsOf ad f sl)[j]? = some (.ref (ad r)) := by
  simp [slotsOf, List.getElem?_mapIdx, h]
theorem slotsOf_set {ad : Nat → Nat} {f : Nat → Int32} {sl : List (Option Nat)} {j : Nat} {x : Int32} (h : sl[j]? = some none) : slotsOf ad (upd f j x) sl = (slotsOf ad f sl).set j (.int x) := by
  refine List.ext_getElem? fun k => ?_
  by_cases hk : j = k
  · subst hk
    rw [slotsOf_get h, List.getElem?_set_self (by simpa [slotsOf] using (List.getElem?_eq_some_iff.mp h).1)]
    simp [upd]
  · rw [List.getElem?_set_ne hk]
    simp only [slotsOf, List.getElem?_mapIdx]
    cases sl[k]? with
    | none => rfl
    | some o =>
      cases o with
      | none => simp [upd, Ne.symm hk]
      | some r => rfl
theorem up_ne {d : DD} {b j : Nat} {x : Int32} (a : Nat) (h : a ≠ b) : up d b j x a = d a := if_neg h
theorem up_at {d : DD} {b j : Nat} {x : Int32} : up d b j x b = upd (d b) j x := if_pos rfl
theorem rowset_ne {d : DD} {b : Nat} {f : Nat → Int32} (a : Nat) (h : a ≠ b) : rowset d b f a = d a := if_neg h
theorem rowset_at {d : DD} {b : Nat} {f : Nat → Int32} : rowset d b f b = f := if_pos rfl
theorem wsOf_D {A : Nat → Prop} {ad : Nat → Nat} {cA : Nat → ClassId} {S : List Shp} {d d' : DD} (h : va_D A (wsOf ad cA S d)) : va_D A (wsOf ad cA S d') := by
  have key : ∀ (k : Nat) (q : Nat × va_E), (wsOf ad cA S d')[k]? = some q → ∃ q', (wsOf ad cA S d)[k]? = some q' ∧ q'.1 = q.1 := by
    intro k q hq
    obtain ⟨h1, h2⟩ := wsOf_adr hq
    exact ⟨_, wsOf_get (List.getElem?_eq_getElem h1), h2.symm⟩
  refine ⟨fun i j p q hp hq e => ?_, fun k q hq => ?_⟩
  · obtain ⟨p', a1, a2⟩ := key i p hp
    obtain ⟨q', b1, b2⟩ := key j q hq
    exact h.1 i j p' q' a1 b1 (by rw [a2, b2, e])
  · obtain ⟨q', a1, a2⟩ := key k q hq
    rw [← a2]
    exact h.2 k q' a1
theorem wsOf_A {ad : Nat → Nat} {cA : Nat → ClassId} {S : List Shp} {d d' : DD} {sz q : Nat} (h : va_A (wsOf ad cA S d) sz q) : va_A (wsOf ad cA S d') sz q := by
  rcases h with ⟨k, e, h⟩ | h
  · obtain ⟨h1, h2⟩ := wsOf_adr h
    have h3 := wsOf_get (ad := ad) (cA := cA) (d := d') (List.getElem?_eq_getElem h1)
    rw [show ad k = q from h2.symm] at h3
    exact Or.inl ⟨k, _, h3⟩
  · exact Or.inr h
/-! what else the methods stand on: links to nest mates, String constants, two statics -/
def nestL : List Cond := [.methodLinkNest "TuneWard$Tape" 129 yX4_within "TuneWard", .methodLinkNest "TuneWard$House" 58 yX4_within "TuneWard", .methodLinkNest "TuneWard$House" 85 yX4_exchange "TuneWard"]
def strIx : List Nat := [54, 64, 66, 68, 70, 75]
def strTx : List String := ["plain", "rondo", "fugue", "lullaby", "player", "bound"]
def strLen : List Nat := [5, 5, 5, 7, 6, 5]
def strByt : List (List Int32) := [[112, 108, 97, 105, 110], [114, 111, 110, 100, 111], [102, 117, 103, 117, 101], [108, 117, 108, 108, 97, 98, 121], [112, 108, 97, 121, 101, 114], [98, 111, 117, 110, 100]]
def Ex (ad : Nat → Nat) (A : Nat → Prop) (U : State) (H : Heap) : Prop :=
  (∀ (i : Nat) (w : Cond), nestL[i]? = some w → va_Nw w U) ∧ (∀ i : Nat, i < 6 → vk_R RX3 (strIx.getD i 0) (strTx.getD i "") (ad (1000 + i)) U) ∧ vk_S 6 strLen strByt (fun i => ad (1000 + i)) (fun i => ad (2000 + i)) A U H ∧ va_Z "java/lang/String" "COMPACT_STRINGS" "Z" (.int 1) A U H ∧
    (va_Z "jdk/internal/util/Preconditions" "SIOOBE_FORMATTER" "Ljava/util/function/BiFunction;" .null A U H ∨ va_Z "jdk/internal/util/Preconditions" "SIOOBE_FORMATTER" "Ljava/util/function/BiFunction;" (.ref (ad 3000)) A U H)
theorem Ex.same {ad : Nat → Nat} {A : Nat → Prop} {u U : State} {H : Heap} (hv : U.vm = u.vm) (h : Ex ad A u H) : Ex ad A U H := by
  obtain ⟨h1, h2, h3, h4, h5⟩ := h
  have ha : u.vm.Alike U.vm := by rw [hv]; exact Vm.Alike.refl _
  refine ⟨fun i w hw => ?_, fun i hi => (h2 i hi).same hv, h3.moved ha, h4.moved ha, h5.imp (fun z => z.moved ha) (fun z => z.moved ha)⟩
  have hw' := hw
  match i, hw with
  | 0, e => cases e; exact va_Nw.same rfl hv.symm (h1 0 _ rfl)
  | 1, e => cases e; exact va_Nw.same rfl hv.symm (h1 1 _ rfl)
  | 2, e => cases e; exact va_Nw.same rfl hv.symm (h1 2 _ rfl)
  | n + 3, e => simp [nestL] at e
theorem Ex.step {ad : Nat → Nat} {A A1 : Nat → Prop} {s U : State} {H : Heap} {locs : List Loc} (h : Ex ad A s s.heap) (hS : va_S A s.heap H locs) (hU : U.heap = H) (hW : s.WarmedH U.vm) (hA : ∀ q, A1 q → A q) : Ex ad A1 U U.heap := by
  obtain ⟨h1, h2, h3, h4, h5⟩ := h
  have ha := hW.alike
  subst hU
  refine ⟨fun i w hw => ?_, fun i hi => (h2 i hi).warm hW, ((h3.moved ha).kept hS.2.1).narrow hA, ((h4.moved ha).kept hS.2.1).narrow hA, h5.imp (fun z => ((z.moved ha).kept hS.2.1).narrow hA) (fun z => ((z.moved ha).kept hS.2.1).narrow hA)⟩
  match i, hw with
  | 0, e => cases e; exact va_Nw.warmM hW (h1 0 _ rfl)
  | 1, e => cases e; exact va_Nw.warmM hW (h1 1 _ rfl)
  | 2, e => cases e; exact va_Nw.warmM hW (h1 2 _ rfl)
  | n + 3, e => simp [nestL] at e
/-! the judgement -/
def QQ (S : List Shp) (k : Nat) (D : va_G) (ad : Nat → Nat) (cA : Nat → ClassId) (A : Nat → Prop) (Q : Value → DD → Prop) : Array Value → State → Outcome → State → Prop := match k with
  | 0 => va_Qv (fun d => Q .null d) (fun (d : DD) t => va_P D vwCl (wsOf ad cA S d) t.heap) A
  | 1 => va_Qi (fun r d => Q (.int r) d) (fun (d : DD) t => va_P D vwCl (wsOf ad cA S d) t.heap) A
  | _ => va_Ql (fun r d => Q (.long r) d) (fun (d : DD) t => va_P D vwCl (wsOf ad cA S d) t.heap) A
def Cx (M : MM) (p : Program) (s : State) (m : MethodId) (args : Array Value) (meth : Method) (c : Code) (D : va_G) (ad : Nat → Nat) (cA : Nat → ClassId) (A : Nat → Prop) : Prop :=
  p.tables.exec = Jvm.exec ∧ c.code = mC M ∧ c.maxLocals = mL M ∧ meth.sig.returnType = mR M ∧ meth.locks = false ∧ s.vm.findClass (mOwn M) = some m.cls ∧ (∀ w ∈ wT, w.before args s = true) ∧ va_K D vwCl (tysOf cA) s ∧ (∀ q, s.heap.size ≤ q → A q) ∧ Ex ad A s s.heap
def isJ (v : Value) : Bool := match v with
  | .retAddr _ => true
  | _ => false
abbrev uJ : Value := .retAddr 0
/-- locals by their places; what is unset or a second half: uJ -/
def LH (la : Array Slot) (n : Nat) (ad : Nat → Nat) (ls : List Value) : Prop := la.size = n ∧ lv_wf la ∧ ∀ (i : Nat) (v : Value), ls[i]? = some v → isJ v = false → la[i]? = some (.val (cv ad v))
def Ev (S : List Shp) (M : MM) (pc : Nat) (ls : List Value) (st : List Value) (d : DD) (Q : Value → DD → Prop) : Prop :=
  ∀ (p : Program) (l : Launch) (e : Env) (s : State) (m : MethodId) (args : Array Value) (below : List Frame) (meth : Method) (c : Code) (D : va_G) (ad : Nat → Nat) (cA : Nat → ClassId) (A : Nat → Prop) (H : Heap) (locs : List Loc) (la : Array Slot),
    Cx M p s m args meth c D ad cA A → va_P D vwCl (wsOf ad cA S d) H → va_D A (wsOf ad cA S d) → va_S A s.heap H locs → LH la (mL M) ad ls →
    W p l e (mRm M) s m args below meth c H locs 0 0 (MQ below (QQ S (mK M) D ad cA A Q) args s 0 0 A) (F0 m pc la (st.map (cv ad)))
def Cn (S : List Shp) (M : MM) (As : List Value) (d : DD) (Q : Value → DD → Prop) : Prop :=
  ∀ (l : Launch) (D : va_G) (ad : Nat → Nat) (cA : Nat → ClassId) (sz : Nat),
    Met l (mY M) (mW M) (mRm M) (va_Pc (As.map (cv ad)) (fun U => U.heap.size = sz ∧ va_P D vwCl (wsOf ad cA S d) U.heap ∧ va_K D vwCl (tysOf cA) U ∧ va_D (fun _ => True) (wsOf ad cA S d) ∧ Ex ad (va_A (wsOf ad cA S d) sz) U U.heap))
      (QQ S (mK M) D ad cA (va_A (wsOf ad cA S d) sz) Q) 0 0 (va_A (wsOf ad cA S d) sz)
/-- a method's answer: an int, a long -/
abbrev rI (q : Int32 → DD → Prop) : Value → DD → Prop := fun v d => match v with
  | .int r => q r d
  | _ => False
abbrev rL (q : Int64 → DD → Prop) : Value → DD → Prop := fun v d => match v with
  | .long r => q r d
  | _ => False
abbrev rV (q : DD → Prop) : Value → DD → Prop := fun _ d => q d
/-- locals at a method's entry -/
def lsArgs : List Value → List Value
  | [] => []
  | v :: vs => if v.category = 2 then v :: uJ :: lsArgs vs else v :: lsArgs vs
theorem lg_sl_cv (ad : Nat → Nat) : ∀ (As : List Value) (i : Nat) (v : Value), (lsArgs As)[i]? = some v → isJ v = false → (lg_sl (As.map (cv ad)))[i]? = some (.val (cv ad v)) := by
  intro As
  induction As with
  | nil => intro i v h; simp [lsArgs] at h
  | cons a As ih =>
    intro i v h hv
    by_cases hc : a.category = 2
    · rw [lsArgs, if_pos hc] at h
      have e : lg_sl ((a :: As).map (cv ad)) = .val (cv ad a) :: .second :: lg_sl (As.map (cv ad)) := by simp [lg_sl, cv_cat, hc]
      rw [e]
      match i, h with
      | 0, h => obtain rfl := Option.some.inj h; rfl
      | 1, h => obtain rfl := Option.some.inj h; cases hv
      | i + 2, h => exact ih i v h hv
    · rw [lsArgs, if_neg hc] at h
      have e : lg_sl ((a :: As).map (cv ad)) = .val (cv ad a) :: lg_sl (As.map (cv ad)) := by simp [lg_sl, cv_cat, hc]
      rw [e]
      match i, h with
      | 0, h => obtain rfl := Option.some.inj h; rfl
      | i + 1, h => exact ih i v h hv
theorem lg_sl_cvlen (ad : Nat → Nat) : ∀ (As : List Value), (lg_sl (As.map (cv ad))).length = (lsArgs As).length := by
  intro As
  induction As with
  | nil => rfl
  | cons a As ih =>
    by_cases hc : a.category = 2
    · have e : lg_sl ((a :: As).map (cv ad)) = .val (cv ad a) :: .second :: lg_sl (As.map (cv ad)) := by simp [lg_sl, cv_cat, hc]
      rw [e, lsArgs, if_pos hc]; simp [ih]
    · have e : lg_sl ((a :: As).map (cv ad)) = .val (cv ad a) :: lg_sl (As.map (cv ad)) := by simp [lg_sl, cv_cat, hc]
      rw [e, lsArgs, if_neg hc]; simp [ih]
/-- a method's contract out of the walk from its entry; ls: the arguments, then uJ up to maxLocals -/
theorem cn_of {S : List Shp} {M : MM} {As ls : List Value} {d : DD} {Q : Value → DD → Prop} (hy : plainName (mY M).cls = true) (hown : (mY M).cls = mOwn M) (hls : ls = lsArgs As ++ List.replicate (mL M - (lsArgs As).length) uJ) (hlen : (lsArgs As).length ≤ mL M) (h : Ev S M 0 ls [] d Q) : Cn S M As d Q := by
  intro l D ad cA sz
  refine Met.ofW (cc := mC M) (maxL := mL M) (ret := mR M) hy rfl ?_
  intro p e s m args below meth c s₁ B hml hv
  obtain ⟨rfl, hsz, hP, hK, hD0, hE⟩ := hv
  have hts := atoms_spec (ws := mW M) B.pre
  have hown' : s.vm.findClass (mOwn M) = some m.cls := by rw [← hown]; exact findClass_of_methodNamed B.named
  subst hsz
  have hD := hD0.self (sz := s.heap.size)
  have hl := lv_entry (As.map (cv ad)) (n := mL M) (by rw [lg_sl_cvlen]; exact hlen)
  rw [lg_entry_eq]
  refine h p l e s m _ below meth c D ad cA _ s.heap [] _ ⟨B.exec, B.bytes, hml, B.returns, B.notSynchronized, hown', fun w hw => hts w (List.mem_cons_of_mem _ hw), hK, fun q hq => Or.inr hq, hE⟩ hP hD va_S.rf ⟨hl.1, hl.2.1, fun i v hi hj => ?_⟩
  subst hls
  have hlt : i < (lsArgs As).length := by
    rcases Nat.lt_or_ge i (lsArgs As).length with q | q
    · exact q
    · rw [List.getElem?_append_right q] at hi
      rw [List.getElem?_replicate] at hi
      split at hi
      · cases hi; cases hj
      · cases hi
  rw [List.getElem?_append_left hlt] at hi
  have h1 := lg_sl_cv ad As i v hi hj
  rw [List.getElem?_toArray, List.getElem?_append_left (by rw [lg_sl_cvlen]; exact hlt)]
  exact h1
/-- a stronger end -/
theorem Ev.imp {S : List Shp} {M : MM} {pc : Nat} {ls st : List Value} {d : DD} {Q Q2 : Value → DD → Prop} (h : Ev S M pc ls st d Q) (hq : ∀ v d', Q v d' → Q2 v d') : Ev S M pc ls st d Q2 := by
  intro p l e s m args below meth c D ad cA A H locs la C hP hD hS hl
  have k := h p l e s m args below meth c D ad cA A H locs la C hP hD hS hl
  intro T hT X
  obtain ⟨t, a1, o, b1, b2, b3, b4⟩ := k T hT X
  refine ⟨t, a1, o, b1, b2, ?_, b4⟩
  unfold QQ at b3 ⊢
  match hk : mK M, b3 with
  | 0, b3 =>
    obtain ⟨⟨u, c1, c2, c3⟩, c4⟩ := b3
    exact ⟨⟨u, c1, hq _ _ c2, c3⟩, c4⟩
  | 1, b3 =>
    obtain ⟨⟨r, u, c1, c2, c3⟩, c4⟩ := b3
    exact ⟨⟨r, u, c1, hq _ _ c2, c3⟩, c4⟩
  | n + 2, b3 =>
    obtain ⟨⟨r, u, c1, c2, c3⟩, c4⟩ := b3
    exact ⟨⟨r, u, c1, hq _ _ c2, c3⟩, c4⟩
