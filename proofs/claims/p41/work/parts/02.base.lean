section
/-! the pure heap: cell k, place j; all references are fixed (shapes) -/
abbrev DD : Type := Nat → Nat → Int32
/-- a cell's shape: 0 int row, 1 boolean row, 2 row of TuneWard$House, 3 row of TuneWard$Sheet, 4 object; its length or class; its references -/
abbrev Shp : Type := Nat × Nat × List (Option Nat)
/-- a method: its class, name, code, locals, answer's type and kind (0 none, 1 int, 2 long), room -/
abbrev MM : Type := String × MethodName × ByteArray × Nat × Option FieldType × Nat × Nat × Nat
abbrev mOwn (M : MM) : String := M.1
abbrev mY (M : MM) : MethodName := M.2.1
abbrev mC (M : MM) : ByteArray := M.2.2.1
abbrev mL (M : MM) : Nat := M.2.2.2.1
abbrev mR (M : MM) : Option FieldType := M.2.2.2.2.1
abbrev mK (M : MM) : Nat := M.2.2.2.2.2.1
abbrev mF (M : MM) : Nat := M.2.2.2.2.2.2.1
abbrev mO (M : MM) : Nat := M.2.2.2.2.2.2.2
def mW (M : MM) : List Cond := .code (mY M) (mC M) (mL M) (mR M) :: wT
def mRm (M : MM) : Room := { frames := mF M, cells := 0, slots := 0, locals := mO M }
def cv (ad : Nat → Nat) : Value → Value
  | .ref k => .ref (ad k)
  | .int x => .int x
  | .long x => .long x
  | .float x => .float x
  | .double x => .double x
  | .null => .null
  | .retAddr x => .retAddr x
theorem cv_cat (ad : Nat → Nat) (v : Value) : (cv ad v).category = v.category := by cases v <;> rfl
def up (d : DD) (b j : Nat) (x : Int32) : DD := fun a => if a = b then upd (d a) j x else d a
def rowset (d : DD) (b : Nat) (f : Nat → Int32) : DD := fun a => if a = b then f else d a
def slotsOf (ad : Nat → Nat) (f : Nat → Int32) (sl : List (Option Nat)) : List Value := sl.mapIdx (fun j o => match o with
  | none => Value.int (f j)
  | some r => Value.ref (ad r))
def refsOf (ad : Nat → Nat) (sl : List (Option Nat)) : Nat → Option Nat := fun j => (sl.getD j none).map ad
def ent (ad : Nat → Nat) (cA : Nat → ClassId) (f : Nat → Int32) (s : Shp) : va_E := match s.1 with
  | 0 => .inl (cA 0, s.2.1, .inl f)
  | 1 => .inl (cA 1, s.2.1, .inl f)
  | 2 => .inl (cA 2, s.2.1, .inr (.inr (.inr (.inr (refsOf ad s.2.2)))))
  | 3 => .inl (cA 3, s.2.1, .inr (.inr (.inr (.inr (refsOf ad s.2.2)))))
  | _ => .inr (s.2.1, slotsOf ad f s.2.2)
def wsOf (ad : Nat → Nat) (cA : Nat → ClassId) (S : List Shp) (d : DD) : va_W := S.mapIdx (fun k s => (ad k, ent ad cA (d k) s))
def tysOf (cA : Nat → ClassId) : List (ClassId × FieldType) := [(cA 0, .int), (cA 1, .boolean), (cA 2, .object RX0), (cA 3, .object RX2)]
theorem wsOf_get {ad : Nat → Nat} {cA : Nat → ClassId} {S : List Shp} {d : DD} {k : Nat} {s : Shp} (h : S[k]? = some s) : (wsOf ad cA S d)[k]? = some (ad k, ent ad cA (d k) s) := by
  simp [wsOf, List.getElem?_mapIdx, h]
theorem wsOf_adr {ad : Nat → Nat} {cA : Nat → ClassId} {S : List Shp} {d : DD} {k : Nat} {q : Nat × va_E} (h : (wsOf ad cA S d)[k]? = some q) : k < S.length ∧ q.1 = ad k := by
  simp only [wsOf, List.getElem?_mapIdx] at h
  cases hs : S[k]? with
  | none => rw [hs] at h; cases h
  | some s =>
    rw [hs] at h
    obtain rfl := Option.some.inj h
    exact ⟨(List.getElem?_eq_some_iff.mp hs).1, rfl⟩
theorem wsOf_set {ad : Nat → Nat} {cA : Nat → ClassId} {S : List Shp} {d d' : DD} {b : Nat} {s : Shp} {e : va_E} (h : S[b]? = some s) (hd : ∀ a, a ≠ b → d' a = d a) (he : ent ad cA (d' b) s = e) : (wsOf ad cA S d).set b (ad b, e) = wsOf ad cA S d' := by
  refine List.ext_getElem? fun k => ?_
  by_cases hk : b = k
  · subst hk
    rw [wsOf_get h, List.getElem?_set_self (by simpa [wsOf] using (List.getElem?_eq_some_iff.mp h).1), he]
  · rw [List.getElem?_set_ne hk]
    simp only [wsOf, List.getElem?_mapIdx]
    rw [hd k (fun e => hk e.symm)]
theorem slotsOf_get {ad : Nat → Nat} {f : Nat → Int32} {sl : List (Option Nat)} {j : Nat} (h : sl[j]? = some none) : (slotsOf ad f sl)[j]? = some (.int (f j)) := by
  simp [slotsOf, List.getElem?_mapIdx, h]
theorem slotsOf_ref {ad : Nat → Nat} {f : Nat → Int32} {sl : List (Option Nat)} {j r : Nat} (h : sl[j]? = some (some r)) : (slotsOf ad f sl)[j]? = some (.ref (ad r)) := by
  simp [slotsOf, List.getElem?_mapIdx, h]
theorem slotsOf_set {ad : Nat → Nat} {f : Nat → Int32} {sl : List (Option Nat)} {j : Nat} {x : Int32} (h : sl[j]? = some none) : slotsOf ad (upd f j x) sl = (slotsOf ad f sl).set j (.int x) := by
  refine List.ext_getElem? fun k => ?_
  by_cases hk : j = k
  · subst hk
    rw [slotsOf_get h, List.getElem?_set_self (by simpa [slotsOf] using (List.getElem?_eq_some_iff.mp h).1)]
    simp [upd]
  · rw [List.getElem?_set_ne hk]
    simp only [slotsOf, List.getElem?_mapIdx]
    cases sl[k]? with
    | none => rfl
    | some o =>
      cases o with
      | none => simp [upd, Ne.symm hk]
      | some r => rfl
theorem up_ne {d : DD} {b j : Nat} {x : Int32} (a : Nat) (h : a ≠ b) : up d b j x a = d a := if_neg h
theorem up_at {d : DD} {b j : Nat} {x : Int32} : up d b j x b = upd (d b) j x := if_pos rfl
theorem rowset_ne {d : DD} {b : Nat} {f : Nat → Int32} (a : Nat) (h : a ≠ b) : rowset d b f a = d a := if_neg h
theorem rowset_at {d : DD} {b : Nat} {f : Nat → Int32} : rowset d b f b = f := if_pos rfl
theorem wsOf_D {A : Nat → Prop} {ad : Nat → Nat} {cA : Nat → ClassId} {S : List Shp} {d d' : DD} (h : va_D A (wsOf ad cA S d)) : va_D A (wsOf ad cA S d') := by
  have key : ∀ (k : Nat) (q : Nat × va_E), (wsOf ad cA S d')[k]? = some q → ∃ q', (wsOf ad cA S d)[k]? = some q' ∧ q'.1 = q.1 := by
    intro k q hq
    obtain ⟨h1, h2⟩ := wsOf_adr hq
    exact ⟨_, wsOf_get (List.getElem?_eq_getElem h1), h2.symm⟩
  refine ⟨fun i j p q hp hq e => ?_, fun k q hq => ?_⟩
  · obtain ⟨p', a1, a2⟩ := key i p hp
    obtain ⟨q', b1, b2⟩ := key j q hq
    exact h.1 i j p' q' a1 b1 (by rw [a2, b2, e])
  · obtain ⟨q', a1, a2⟩ := key k q hq
    rw [← a2]
    exact h.2 k q' a1
theorem wsOf_A {ad : Nat → Nat} {cA : Nat → ClassId} {S : List Shp} {d d' : DD} {sz q : Nat} (h : va_A (wsOf ad cA S d) sz q) : va_A (wsOf ad cA S d') sz q := by
  rcases h with ⟨k, e, h⟩ | h
  · obtain ⟨h1, h2⟩ := wsOf_adr h
    have h3 := wsOf_get (ad := ad) (cA := cA) (d := d') (List.getElem?_eq_getElem h1)
    rw [show ad k = q from h2.symm] at h3
    exact Or.inl ⟨k, _, h3⟩
  · exact Or.inr h
/-! what else the methods stand on: links to nest mates, String constants, two statics -/
def nestL : List Cond := [.methodLinkNest "TuneWard$Tape" 129 yX4_within "TuneWard", .methodLinkNest "TuneWard$House" 58 yX4_within "TuneWard", .methodLinkNest "TuneWard$House" 85 yX4_exchange "TuneWard"]
def strIx : List Nat := [54, 64, 66, 68, 70, 75]
def strTx : List String := ["plain", "rondo", "fugue", "lullaby", "player", "bound"]
def strLen : List Nat := [5, 5, 5, 7, 6, 5]
def strByt : List (List Int32) := [[112, 108, 97, 105, 110], [114, 111, 110, 100, 111], [102, 117, 103, 117, 101], [108, 117, 108, 108, 97, 98, 121], [112, 108, 97, 121, 101, 114], [98, 111, 117, 110, 100]]
def Ex (ad : Nat → Nat) (A : Nat → Prop) (U : State) (H : Heap) : Prop :=
  (∀ (i : Nat) (w : Cond), nestL[i]? = some w → va_Nw w U) ∧ (∀ i : Nat, i < 6 → vk_R RX3 (strIx.getD i 0) (strTx.getD i "") (ad (1000 + i)) U) ∧ vk_S 6 strLen strByt (fun i => ad (1000 + i)) (fun i => ad (2000 + i)) A U H ∧ va_Z "java/lang/String" "COMPACT_STRINGS" "Z" (.int 1) A U H ∧
    (va_Z "jdk/internal/util/Preconditions" "SIOOBE_FORMATTER" "Ljava/util/function/BiFunction;" .null A U H ∨ va_Z "jdk/internal/util/Preconditions" "SIOOBE_FORMATTER" "Ljava/util/function/BiFunction;" (.ref (ad 3000)) A U H)
theorem Ex.same {ad : Nat → Nat} {A : Nat → Prop} {u U : State} {H : Heap} (hv : U.vm = u.vm) (h : Ex ad A u H) : Ex ad A U H := by
  obtain ⟨h1, h2, h3, h4, h5⟩ := h
  have ha : u.vm.Alike U.vm := by rw [hv]; exact Vm.Alike.refl _
  refine ⟨fun i w hw => ?_, fun i hi => (h2 i hi).same hv, h3.moved ha, h4.moved ha, h5.imp (fun z => z.moved ha) (fun z => z.moved ha)⟩
  have hw' := hw
  match i, hw with
  | 0, e => cases e; exact va_Nw.same rfl hv.symm (h1 0 _ rfl)
  | 1, e => cases e; exact va_Nw.same rfl hv.symm (h1 1 _ rfl)
  | 2, e => cases e; exact va_Nw.same rfl hv.symm (h1 2 _ rfl)
  | n + 3, e => simp [nestL] at e
theorem Ex.step {ad : Nat → Nat} {A A1 : Nat → Prop} {s U : State} {H : Heap} {locs : List Loc} (h : Ex ad A s s.heap) (hS : va_S A s.heap H locs) (hU : U.heap = H) (hW : s.WarmedH U.vm) (hA : ∀ q, A1 q → A q) : Ex ad A1 U U.heap := by
  obtain ⟨h1, h2, h3, h4, h5⟩ := h
  have ha := hW.alike
  subst hU
  refine ⟨fun i w hw => ?_, fun i hi => (h2 i hi).warm hW, ((h3.moved ha).kept hS.2.1).narrow hA, ((h4.moved ha).kept hS.2.1).narrow hA, h5.imp (fun z => ((z.moved ha).kept hS.2.1).narrow hA) (fun z => ((z.moved ha).kept hS.2.1).narrow hA)⟩
  match i, hw with
  | 0, e => cases e; exact va_Nw.warmM hW (h1 0 _ rfl)
  | 1, e => cases e; exact va_Nw.warmM hW (h1 1 _ rfl)
  | 2, e => cases e; exact va_Nw.warmM hW (h1 2 _ rfl)
  | n + 3, e => simp [nestL] at e
/-! the judgement -/
def QQ (S : List Shp) (k : Nat) (D : va_G) (ad : Nat → Nat) (cA : Nat → ClassId) (A : Nat → Prop) (Q : Value → DD → Prop) : Array Value → State → Outcome → State → Prop := match k with
  | 0 => va_Qv (fun d => Q .null d) (fun (d : DD) t => va_P D vwCl (wsOf ad cA S d) t.heap) A
  | 1 => va_Qi (fun r d => Q (.int r) d) (fun (d : DD) t => va_P D vwCl (wsOf ad cA S d) t.heap) A
  | _ => va_Ql (fun r d => Q (.long r) d) (fun (d : DD) t => va_P D vwCl (wsOf ad cA S d) t.heap) A
def Cx (M : MM) (p : Program) (s : State) (m : MethodId) (args : Array Value) (meth : Method) (c : Code) (D : va_G) (ad : Nat → Nat) (cA : Nat → ClassId) (A : Nat → Prop) : Prop :=
  p.tables.exec = Jvm.exec ∧ c.code = mC M ∧ c.maxLocals = mL M ∧ meth.sig.returnType = mR M ∧ meth.locks = false ∧ s.vm.findClass (mOwn M) = some m.cls ∧ (∀ w ∈ wT, w.before args s = true) ∧ va_K D vwCl (tysOf cA) s ∧ (∀ q, s.heap.size ≤ q → A q) ∧ Ex ad A s s.heap
def isJ (v : Value) : Bool := match v with
  | .retAddr _ => true
  | _ => false
abbrev uJ : Value := .retAddr 0
/-- locals by their places; what is unset or a second half: uJ -/
def LH (la : Array Slot) (n : Nat) (ad : Nat → Nat) (ls : List Value) : Prop := la.size = n ∧ lv_wf la ∧ ∀ (i : Nat) (v : Value), ls[i]? = some v → isJ v = false → la[i]? = some (.val (cv ad v))
def Ev (S : List Shp) (M : MM) (pc : Nat) (ls : List Value) (st : List Value) (d : DD) (Q : Value → DD → Prop) : Prop :=
  ∀ (p : Program) (l : Launch) (e : Env) (s : State) (m : MethodId) (args : Array Value) (below : List Frame) (meth : Method) (c : Code) (D : va_G) (ad : Nat → Nat) (cA : Nat → ClassId) (A : Nat → Prop) (H : Heap) (locs : List Loc) (la : Array Slot),
    Cx M p s m args meth c D ad cA A → va_P D vwCl (wsOf ad cA S d) H → va_D A (wsOf ad cA S d) → va_S A s.heap H locs → LH la (mL M) ad ls →
    W p l e (mRm M) s m args below meth c H locs 0 0 (MQ below (QQ S (mK M) D ad cA A Q) args s 0 0 A) (F0 m pc la (st.map (cv ad)))
def Cn (S : List Shp) (M : MM) (As : List Value) (d : DD) (Q : Value → DD → Prop) : Prop :=
  ∀ (l : Launch) (D : va_G) (ad : Nat → Nat) (cA : Nat → ClassId) (sz : Nat),
    Met l (mY M) (mW M) (mRm M) (va_Pc (As.map (cv ad)) (fun U => U.heap.size = sz ∧ va_P D vwCl (wsOf ad cA S d) U.heap ∧ va_K D vwCl (tysOf cA) U ∧ va_D (fun _ => True) (wsOf ad cA S d) ∧ Ex ad (va_A (wsOf ad cA S d) sz) U U.heap))
      (QQ S (mK M) D ad cA (va_A (wsOf ad cA S d) sz) Q) 0 0 (va_A (wsOf ad cA S d) sz)
/-- a method's answer: an int, a long -/
abbrev rI (q : Int32 → DD → Prop) : Value → DD → Prop := fun v d => match v with
  | .int r => q r d
  | _ => False
abbrev rL (q : Int64 → DD → Prop) : Value → DD → Prop := fun v d => match v with
  | .long r => q r d
  | _ => False
abbrev rV (q : DD → Prop) : Value → DD → Prop := fun _ d => q d
/-- locals at a method's entry -/
def lsArgs : List Value → List Value
  | [] => []
  | v :: vs => if v.category = 2 then v :: uJ :: lsArgs vs else v :: lsArgs vs
theorem lg_sl_cv (ad : Nat → Nat) : ∀ (As : List Value) (i : Nat) (v : Value), (lsArgs As)[i]? = some v → isJ v = false → (lg_sl (As.map (cv ad)))[i]? = some (.val (cv ad v)) := by
  intro As
  induction As with
  | nil => intro i v h; simp [lsArgs] at h
  | cons a As ih =>
    intro i v h hv
    by_cases hc : a.category = 2
    · rw [lsArgs, if_pos hc] at h
      have e : lg_sl ((a :: As).map (cv ad)) = .val (cv ad a) :: .second :: lg_sl (As.map (cv ad)) := by simp [lg_sl, cv_cat, hc]
      rw [e]
      match i, h with
      | 0, h => obtain rfl := Option.some.inj h; rfl
      | 1, h => obtain rfl := Option.some.inj h; cases hv
      | i + 2, h => exact ih i v h hv
    · rw [lsArgs, if_neg hc] at h
      have e : lg_sl ((a :: As).map (cv ad)) = .val (cv ad a) :: lg_sl (As.map (cv ad)) := by simp [lg_sl, cv_cat, hc]
      rw [e]
      match i, h with
      | 0, h => obtain rfl := Option.some.inj h; rfl
      | i + 1, h => exact ih i v h hv
theorem lg_sl_cvlen (ad : Nat → Nat) : ∀ (As : List Value), (lg_sl (As.map (cv ad))).length = (lsArgs As).length := by
  intro As
  induction As with
  | nil => rfl
  | cons a As ih =>
    by_cases hc : a.category = 2
    · have e : lg_sl ((a :: As).map (cv ad)) = .val (cv ad a) :: .second :: lg_sl (As.map (cv ad)) := by simp [lg_sl, cv_cat, hc]
      rw [e, lsArgs, if_pos hc]; simp [ih]
    · have e : lg_sl ((a :: As).map (cv ad)) = .val (cv ad a) :: lg_sl (As.map (cv ad)) := by simp [lg_sl, cv_cat, hc]
      rw [e, lsArgs, if_neg hc]; simp [ih]
/-- a method's contract out of the walk from its entry; ls: the arguments, then uJ up to maxLocals -/
theorem cn_of {S : List Shp} {M : MM} {As ls : List Value} {d : DD} {Q : Value → DD → Prop} (hy : plainName (mY M).cls = true) (hown : (mY M).cls = mOwn M) (hls : ls = lsArgs As ++ List.replicate (mL M - (lsArgs As).length) uJ) (hlen : (lsArgs As).length ≤ mL M) (h : Ev S M 0 ls [] d Q) : Cn S M As d Q := by
  intro l D ad cA sz
  refine Met.ofW (cc := mC M) (maxL := mL M) (ret := mR M) hy rfl ?_
  intro p e s m args below meth c s₁ B hml hv
  obtain ⟨rfl, hsz, hP, hK, hD0, hE⟩ := hv
  have hts := atoms_spec (ws := mW M) B.pre
  have hown' : s.vm.findClass (mOwn M) = some m.cls := by rw [← hown]; exact findClass_of_methodNamed B.named
  subst hsz
  have hD := hD0.self (sz := s.heap.size)
  have hl := lv_entry (As.map (cv ad)) (n := mL M) (by rw [lg_sl_cvlen]; exact hlen)
  rw [lg_entry_eq]
  refine h p l e s m _ below meth c D ad cA _ s.heap [] _ ⟨B.exec, B.bytes, hml, B.returns, B.notSynchronized, hown', fun w hw => hts w (List.mem_cons_of_mem _ hw), hK, fun q hq => Or.inr hq, hE⟩ hP hD va_S.rf ⟨hl.1, hl.2.1, fun i v hi hj => ?_⟩
  subst hls
  have hlt : i < (lsArgs As).length := by
    rcases Nat.lt_or_ge i (lsArgs As).length with q | q
    · exact q
    · rw [List.getElem?_append_right q] at hi
      rw [List.getElem?_replicate] at hi
      split at hi
      · cases hi; cases hj
      · cases hi
  rw [List.getElem?_append_left hlt] at hi
  have h1 := lg_sl_cv ad As i v hi hj
  rw [List.getElem?_toArray, List.getElem?_append_left (by rw [lg_sl_cvlen]; exact hlt)]
  exact h1
/-- a stronger end -/
theorem Ev.imp {S : List Shp} {M : MM} {pc : Nat} {ls st : List Value} {d : DD} {Q Q2 : Value → DD → Prop} (h : Ev S M pc ls st d Q) (hq : ∀ v d', Q v d' → Q2 v d') : Ev S M pc ls st d Q2 := by
  intro p l e s m args below meth c D ad cA A H locs la C hP hD hS hl
  have k := h p l e s m args below meth c D ad cA A H locs la C hP hD hS hl
  intro T hT X
  obtain ⟨t, a1, o, b1, b2, b3, b4⟩ := k T hT X
  refine ⟨t, a1, o, b1, b2, ?_, b4⟩
  unfold QQ at b3 ⊢
  match hk : mK M, b3 with
  | 0, b3 =>
    obtain ⟨⟨u, c1, c2, c3⟩, c4⟩ := b3
    exact ⟨⟨u, c1, hq _ _ c2, c3⟩, c4⟩
  | 1, b3 =>
    obtain ⟨⟨r, u, c1, c2, c3⟩, c4⟩ := b3
    exact ⟨⟨r, u, c1, hq _ _ c2, c3⟩, c4⟩
  | n + 2, b3 =>
    obtain ⟨⟨r, u, c1, c2, c3⟩, c4⟩ := b3
    exact ⟨⟨r, u, c1, hq _ _ c2, c3⟩, c4⟩
end
section
theorem natfw : nativeFrameWords "java/lang/System" "arraycopy" 5 + 11 = 18 := by decide +kernel
variable {S : List Shp} {M : MM} {pc : Nat} {ls st rest : List Value} {d : DD} {Q : Value → DD → Prop}
theorem ev_iconst {n : Int} {v : Int32} (hd : decode (mC M) pc = .ok (.iconst n, 1)) (hv : Int32.ofInt n = v) (k : Ev S M (pc + 1) ls (.int v :: st) d Q) : Ev S M pc ls (st) d Q := by
  intro p l e s m args below meth c D ad cA A H locs la C hP hD hS hl
  obtain ⟨hx, hb, hml, hr, hlk, hown, hts, hK, hA, hE⟩ := id C
  exact lv_iconst hx hb hd hv (k p l e s m args below meth c D ad cA A H locs la C hP hD hS hl)
theorem ev_bipush {n : Int} {v : Int32} (hd : decode (mC M) pc = .ok (.bipush n, 2)) (hv : (Int8.ofInt n).toInt32 = v) (k : Ev S M (pc + 2) ls (.int v :: st) d Q) : Ev S M pc ls (st) d Q := by
  intro p l e s m args below meth c D ad cA A H locs la C hP hD hS hl
  obtain ⟨hx, hb, hml, hr, hlk, hown, hts, hK, hA, hE⟩ := id C
  exact lv_bipush hx hb hd hv (k p l e s m args below meth c D ad cA A H locs la C hP hD hS hl)
theorem ev_sipush {n : Int} {v : Int32} (hd : decode (mC M) pc = .ok (.sipush n, 3)) (hv : (Int16.ofInt n).toInt32 = v) (k : Ev S M (pc + 3) ls (.int v :: st) d Q) : Ev S M pc ls (st) d Q := by
  intro p l e s m args below meth c D ad cA A H locs la C hP hD hS hl
  obtain ⟨hx, hb, hml, hr, hlk, hown, hts, hK, hA, hE⟩ := id C
  exact lv_sipush hx hb hd hv (k p l e s m args below meth c D ad cA A H locs la C hP hD hS hl)
theorem ev_lconst {n : Fin 2} {v : Int64} (hd : decode (mC M) pc = .ok (.lconst n, 1)) (hv : Int64.ofNat (n : Nat) = v) (k : Ev S M (pc + 1) ls (.long v :: st) d Q) : Ev S M pc ls (st) d Q := by
  intro p l e s m args below meth c D ad cA A H locs la C hP hD hS hl
  obtain ⟨hx, hb, hml, hr, hlk, hown, hts, hK, hA, hE⟩ := id C
  exact lv_lconst hx hb hd hv (k p l e s m args below meth c D ad cA A H locs la C hP hD hS hl)
theorem ev_iadd {x y : Int32} (hd : decode (mC M) pc = .ok (.iadd, 1)) (k : Ev S M (pc + 1) ls (.int (x + y) :: st) d Q) : Ev S M pc ls (.int y :: .int x :: st) d Q := by
  intro p l e s m args below meth c D ad cA A H locs la C hP hD hS hl
  obtain ⟨hx, hb, hml, hr, hlk, hown, hts, hK, hA, hE⟩ := id C
  exact lv_iadd hx hb hd (k p l e s m args below meth c D ad cA A H locs la C hP hD hS hl)
theorem ev_isub {x y : Int32} (hd : decode (mC M) pc = .ok (.isub, 1)) (k : Ev S M (pc + 1) ls (.int (x - y) :: st) d Q) : Ev S M pc ls (.int y :: .int x :: st) d Q := by
  intro p l e s m args below meth c D ad cA A H locs la C hP hD hS hl
  obtain ⟨hx, hb, hml, hr, hlk, hown, hts, hK, hA, hE⟩ := id C
  exact lv_isub hx hb hd (k p l e s m args below meth c D ad cA A H locs la C hP hD hS hl)
theorem ev_imul {x y : Int32} (hd : decode (mC M) pc = .ok (.imul, 1)) (k : Ev S M (pc + 1) ls (.int (x * y) :: st) d Q) : Ev S M pc ls (.int y :: .int x :: st) d Q := by
  intro p l e s m args below meth c D ad cA A H locs la C hP hD hS hl
  obtain ⟨hx, hb, hml, hr, hlk, hown, hts, hK, hA, hE⟩ := id C
  exact lv_imul hx hb hd (k p l e s m args below meth c D ad cA A H locs la C hP hD hS hl)
theorem ev_iand {x y : Int32} (hd : decode (mC M) pc = .ok (.iand, 1)) (k : Ev S M (pc + 1) ls (.int (x &&& y) :: st) d Q) : Ev S M pc ls (.int y :: .int x :: st) d Q := by
  intro p l e s m args below meth c D ad cA A H locs la C hP hD hS hl
  obtain ⟨hx, hb, hml, hr, hlk, hown, hts, hK, hA, hE⟩ := id C
  exact lv_iand hx hb hd (k p l e s m args below meth c D ad cA A H locs la C hP hD hS hl)
theorem ev_ior {x y : Int32} (hd : decode (mC M) pc = .ok (.ior, 1)) (k : Ev S M (pc + 1) ls (.int (x ||| y) :: st) d Q) : Ev S M pc ls (.int y :: .int x :: st) d Q := by
  intro p l e s m args below meth c D ad cA A H locs la C hP hD hS hl
  obtain ⟨hx, hb, hml, hr, hlk, hown, hts, hK, hA, hE⟩ := id C
  exact lv_ior hx hb hd (k p l e s m args below meth c D ad cA A H locs la C hP hD hS hl)
theorem ev_ishl {x y : Int32} (hd : decode (mC M) pc = .ok (.ishl, 1)) (k : Ev S M (pc + 1) ls (.int (x <<< (y &&& 31)) :: st) d Q) : Ev S M pc ls (.int y :: .int x :: st) d Q := by
  intro p l e s m args below meth c D ad cA A H locs la C hP hD hS hl
  obtain ⟨hx, hb, hml, hr, hlk, hown, hts, hK, hA, hE⟩ := id C
  exact lv_ishl hx hb hd (k p l e s m args below meth c D ad cA A H locs la C hP hD hS hl)
theorem ev_ishr {x y : Int32} (hd : decode (mC M) pc = .ok (.ishr, 1)) (k : Ev S M (pc + 1) ls (.int (x >>> (y &&& 31)) :: st) d Q) : Ev S M pc ls (.int y :: .int x :: st) d Q := by
  intro p l e s m args below meth c D ad cA A H locs la C hP hD hS hl
  obtain ⟨hx, hb, hml, hr, hlk, hown, hts, hK, hA, hE⟩ := id C
  exact lv_ishr hx hb hd (k p l e s m args below meth c D ad cA A H locs la C hP hD hS hl)
theorem ev_ladd {x y : Int64} (hd : decode (mC M) pc = .ok (.ladd, 1)) (k : Ev S M (pc + 1) ls (.long (x + y) :: st) d Q) : Ev S M pc ls (.long y :: .long x :: st) d Q := by
  intro p l e s m args below meth c D ad cA A H locs la C hP hD hS hl
  obtain ⟨hx, hb, hml, hr, hlk, hown, hts, hK, hA, hE⟩ := id C
  exact lv_ladd hx hb hd (k p l e s m args below meth c D ad cA A H locs la C hP hD hS hl)
theorem ev_lmul {x y : Int64} (hd : decode (mC M) pc = .ok (.lmul, 1)) (k : Ev S M (pc + 1) ls (.long (x * y) :: st) d Q) : Ev S M pc ls (.long y :: .long x :: st) d Q := by
  intro p l e s m args below meth c D ad cA A H locs la C hP hD hS hl
  obtain ⟨hx, hb, hml, hr, hlk, hown, hts, hK, hA, hE⟩ := id C
  exact lv_lmul hx hb hd (k p l e s m args below meth c D ad cA A H locs la C hP hD hS hl)
def jrem (x y : Int32) : Int32 := x - x / y * y
def jreml (x y : Int64) : Int64 := x - x / y * y
theorem ev_idiv {x y : Int32} (hd : decode (mC M) pc = .ok (.idiv, 1)) (hne : ¬ y = 0) (k : Ev S M (pc + 1) ls (.int (x / y) :: st) d Q) : Ev S M pc ls (.int y :: .int x :: st) d Q := by
  intro p l e s m args below meth c D ad cA A H locs la C hP hD hS hl
  obtain ⟨hx, hb, hml, hr, hlk, hown, hts, hK, hA, hE⟩ := id C
  exact lv_idiv hx hb hd hne (k p l e s m args below meth c D ad cA A H locs la C hP hD hS hl)
theorem ev_irem {x y : Int32} (hd : decode (mC M) pc = .ok (.irem, 1)) (hne : ¬ y = 0) (k : Ev S M (pc + 1) ls (.int (jrem x y) :: st) d Q) : Ev S M pc ls (.int y :: .int x :: st) d Q := by
  intro p l e s m args below meth c D ad cA A H locs la C hP hD hS hl
  obtain ⟨hx, hb, hml, hr, hlk, hown, hts, hK, hA, hE⟩ := id C
  exact lv_irem hx hb hd hne (k p l e s m args below meth c D ad cA A H locs la C hP hD hS hl)
theorem ev_ldiv {x y : Int64} (hd : decode (mC M) pc = .ok (.ldiv, 1)) (hne : ¬ y = 0) (k : Ev S M (pc + 1) ls (.long (x / y) :: st) d Q) : Ev S M pc ls (.long y :: .long x :: st) d Q := by
  intro p l e s m args below meth c D ad cA A H locs la C hP hD hS hl
  obtain ⟨hx, hb, hml, hr, hlk, hown, hts, hK, hA, hE⟩ := id C
  exact lv_ldiv hx hb hd hne (k p l e s m args below meth c D ad cA A H locs la C hP hD hS hl)
theorem ev_lrem {x y : Int64} (hd : decode (mC M) pc = .ok (.lrem, 1)) (hne : ¬ y = 0) (k : Ev S M (pc + 1) ls (.long (jreml x y) :: st) d Q) : Ev S M pc ls (.long y :: .long x :: st) d Q := by
  intro p l e s m args below meth c D ad cA A H locs la C hP hD hS hl
  obtain ⟨hx, hb, hml, hr, hlk, hown, hts, hK, hA, hE⟩ := id C
  exact lv_lrem hx hb hd hne (k p l e s m args below meth c D ad cA A H locs la C hP hD hS hl)
theorem ev_i2l {x : Int32} (hd : decode (mC M) pc = .ok (.i2l, 1)) (k : Ev S M (pc + 1) ls (.long x.toInt64 :: st) d Q) : Ev S M pc ls (.int x :: st) d Q := by
  intro p l e s m args below meth c D ad cA A H locs la C hP hD hS hl
  obtain ⟨hx, hb, hml, hr, hlk, hown, hts, hK, hA, hE⟩ := id C
  exact lv_i2l hx hb hd rfl (k p l e s m args below meth c D ad cA A H locs la C hP hD hS hl)
theorem ev_l2i {x : Int64} (hd : decode (mC M) pc = .ok (.l2i, 1)) (k : Ev S M (pc + 1) ls (.int x.toInt32 :: st) d Q) : Ev S M pc ls (.long x :: st) d Q := by
  intro p l e s m args below meth c D ad cA A H locs la C hP hD hS hl
  obtain ⟨hx, hb, hml, hr, hlk, hown, hts, hK, hA, hE⟩ := id C
  exact lv_l2i hx hb hd rfl (k p l e s m args below meth c D ad cA A H locs la C hP hD hS hl)
theorem ev_i2b {x : Int32} (hd : decode (mC M) pc = .ok (.i2b, 1)) (k : Ev S M (pc + 1) ls (.int x.toInt8.toInt32 :: st) d Q) : Ev S M pc ls (.int x :: st) d Q := by
  intro p l e s m args below meth c D ad cA A H locs la C hP hD hS hl
  obtain ⟨hx, hb, hml, hr, hlk, hown, hts, hK, hA, hE⟩ := id C
  exact lv_i2b hx hb hd rfl (k p l e s m args below meth c D ad cA A H locs la C hP hD hS hl)
theorem ev_i2s {x : Int32} (hd : decode (mC M) pc = .ok (.i2s, 1)) (k : Ev S M (pc + 1) ls (.int x.toInt16.toInt32 :: st) d Q) : Ev S M pc ls (.int x :: st) d Q := by
  intro p l e s m args below meth c D ad cA A H locs la C hP hD hS hl
  obtain ⟨hx, hb, hml, hr, hlk, hown, hts, hK, hA, hE⟩ := id C
  exact lv_i2s hx hb hd rfl (k p l e s m args below meth c D ad cA A H locs la C hP hD hS hl)
theorem ev_i2c {x : Int32} (hd : decode (mC M) pc = .ok (.i2c, 1)) (k : Ev S M (pc + 1) ls (.int (x.toUInt32 % 65536).toInt32 :: st) d Q) : Ev S M pc ls (.int x :: st) d Q := by
  intro p l e s m args below meth c D ad cA A H locs la C hP hD hS hl
  obtain ⟨hx, hb, hml, hr, hlk, hown, hts, hK, hA, hE⟩ := id C
  exact lv_i2c hx hb hd rfl (k p l e s m args below meth c D ad cA A H locs la C hP hD hS hl)
theorem ev_iushr {x y : Int32} (hd : decode (mC M) pc = .ok (.iushr, 1)) (k : Ev S M (pc + 1) ls (.int (x.toUInt32 >>> (y.toUInt32 &&& Int32.toUInt32 31)).toInt32 :: st) d Q) : Ev S M pc ls (.int y :: .int x :: st) d Q := by
  intro p l e s m args below meth c D ad cA A H locs la C hP hD hS hl
  obtain ⟨hx, hb, hml, hr, hlk, hown, hts, hK, hA, hE⟩ := id C
  exact lv_iushr hx hb hd rfl (k p l e s m args below meth c D ad cA A H locs la C hP hD hS hl)
theorem ev_lcmp {x y : Int64} (hd : decode (mC M) pc = .ok (.lcmp, 1)) (k : Ev S M (pc + 1) ls (.int (lg_cmp x y) :: st) d Q) : Ev S M pc ls (.long y :: .long x :: st) d Q := by
  intro p l e s m args below meth c D ad cA A H locs la C hP hD hS hl
  obtain ⟨hx, hb, hml, hr, hlk, hown, hts, hK, hA, hE⟩ := id C
  exact W.lcmp hx hb hd (k p l e s m args below meth c D ad cA A H locs la C hP hD hS hl)
theorem ev_dup {va : Value} (hd : decode (mC M) pc = .ok (.dup, 1)) (hva : va.category = 1) (k : Ev S M (pc + 1) ls (va :: va :: st) d Q) : Ev S M pc ls (va :: st) d Q := by
  intro p l e s m args below meth c D ad cA A H locs la C hP hD hS hl
  obtain ⟨hx, hb, hml, hr, hlk, hown, hts, hK, hA, hE⟩ := id C
  exact lv_dup hx hb hd ((cv_cat ad va).trans hva) (k p l e s m args below meth c D ad cA A H locs la C hP hD hS hl)
theorem ev_pop {va : Value} (hd : decode (mC M) pc = .ok (.pop, 1)) (hva : va.category = 1) (k : Ev S M (pc + 1) ls (st) d Q) : Ev S M pc ls (va :: st) d Q := by
  intro p l e s m args below meth c D ad cA A H locs la C hP hD hS hl
  obtain ⟨hx, hb, hml, hr, hlk, hown, hts, hK, hA, hE⟩ := id C
  exact lv_pop hx hb hd ((cv_cat ad va).trans hva) (k p l e s m args below meth c D ad cA A H locs la C hP hD hS hl)
theorem ev_dup2 {va vb : Value} (hd : decode (mC M) pc = .ok (.dup2, 1)) (hva : va.category = 1) (hvb : vb.category = 1) (k : Ev S M (pc + 1) ls (va :: vb :: va :: vb :: st) d Q) : Ev S M pc ls (va :: vb :: st) d Q := by
  intro p l e s m args below meth c D ad cA A H locs la C hP hD hS hl
  obtain ⟨hx, hb, hml, hr, hlk, hown, hts, hK, hA, hE⟩ := id C
  exact lv_dup2_11 hx hb hd ((cv_cat ad va).trans hva) ((cv_cat ad vb).trans hvb) (k p l e s m args below meth c D ad cA A H locs la C hP hD hS hl)
theorem ev_iload_n {k0 : Fin 4} {x : Int32} (hd : decode (mC M) pc = .ok (.iload_n k0, 1)) (h : ls[(k0 : Nat)]? = some (.int x)) (k : Ev S M (pc + 1) ls (.int x :: st) d Q) : Ev S M pc ls (st) d Q := by
  intro p l e s m args below meth c D ad cA A H locs la C hP hD hS hl
  obtain ⟨hx, hb, hml, hr, hlk, hown, hts, hK, hA, hE⟩ := id C
  exact lv_iload_n hx hb hd rfl (hl.2.2 _ _ h rfl) (k p l e s m args below meth c D ad cA A H locs la C hP hD hS hl)
theorem ev_iload {k0 : Nat} {x : Int32} (hd : decode (mC M) pc = .ok (.iload k0, 2)) (h : ls[k0]? = some (.int x)) (k : Ev S M (pc + 2) ls (.int x :: st) d Q) : Ev S M pc ls (st) d Q := by
  intro p l e s m args below meth c D ad cA A H locs la C hP hD hS hl
  obtain ⟨hx, hb, hml, hr, hlk, hown, hts, hK, hA, hE⟩ := id C
  exact lv_iload hx hb hd (hl.2.2 _ _ h rfl) (k p l e s m args below meth c D ad cA A H locs la C hP hD hS hl)
theorem ev_lload_n {k0 : Fin 4} {x : Int64} (hd : decode (mC M) pc = .ok (.lload_n k0, 1)) (h : ls[(k0 : Nat)]? = some (.long x)) (k : Ev S M (pc + 1) ls (.long x :: st) d Q) : Ev S M pc ls (st) d Q := by
  intro p l e s m args below meth c D ad cA A H locs la C hP hD hS hl
  obtain ⟨hx, hb, hml, hr, hlk, hown, hts, hK, hA, hE⟩ := id C
  exact lv_lload_n hx hb hd rfl (hl.2.2 _ _ h rfl) (k p l e s m args below meth c D ad cA A H locs la C hP hD hS hl)
theorem ev_lload {k0 : Nat} {x : Int64} (hd : decode (mC M) pc = .ok (.lload k0, 2)) (h : ls[k0]? = some (.long x)) (k : Ev S M (pc + 2) ls (.long x :: st) d Q) : Ev S M pc ls (st) d Q := by
  intro p l e s m args below meth c D ad cA A H locs la C hP hD hS hl
  obtain ⟨hx, hb, hml, hr, hlk, hown, hts, hK, hA, hE⟩ := id C
  exact lv_lload hx hb hd (hl.2.2 _ _ h rfl) (k p l e s m args below meth c D ad cA A H locs la C hP hD hS hl)
theorem ev_aload_n {k0 : Fin 4} {x : Nat} (hd : decode (mC M) pc = .ok (.aload_n k0, 1)) (h : ls[(k0 : Nat)]? = some (.ref x)) (k : Ev S M (pc + 1) ls (.ref x :: st) d Q) : Ev S M pc ls (st) d Q := by
  intro p l e s m args below meth c D ad cA A H locs la C hP hD hS hl
  obtain ⟨hx, hb, hml, hr, hlk, hown, hts, hK, hA, hE⟩ := id C
  exact lv_aload_n hx hb hd rfl (hl.2.2 _ _ h rfl) (k p l e s m args below meth c D ad cA A H locs la C hP hD hS hl)
theorem ev_aload {k0 : Nat} {x : Nat} (hd : decode (mC M) pc = .ok (.aload k0, 2)) (h : ls[k0]? = some (.ref x)) (k : Ev S M (pc + 2) ls (.ref x :: st) d Q) : Ev S M pc ls (st) d Q := by
  intro p l e s m args below meth c D ad cA A H locs la C hP hD hS hl
  obtain ⟨hx, hb, hml, hr, hlk, hown, hts, hK, hA, hE⟩ := id C
  exact lv_aload hx hb hd (hl.2.2 _ _ h rfl) (k p l e s m args below meth c D ad cA A H locs la C hP hD hS hl)
theorem ev_goto {off : Int} {tgt : Nat} (hd : decode (mC M) pc = .ok (.goto off, 3)) (ht : (pc : Int) + off = (tgt : Int)) (k : Ev S M tgt ls st d Q) : Ev S M pc ls st d Q := by
  intro p l e s m args below meth c D ad cA A H locs la C hP hD hS hl
  obtain ⟨hx, hb, hml, hr, hlk, hown, hts, hK, hA, hE⟩ := id C
  exact lv_goto hx hb hd ht (k p l e s m args below meth c D ad cA A H locs la C hP hD hS hl)
theorem ev_if_eq {x : Int32} {off : Int} {tgt : Nat} (hd : decode (mC M) pc = .ok (.ifCond .eq off, 3)) (ht : (pc : Int) + off = (tgt : Int)) (kt : x = 0 → Ev S M tgt ls st d Q) (kf : ¬ x = 0 → Ev S M (pc + 3) ls st d Q) : Ev S M pc ls (.int x :: st) d Q := by
  intro p l e s m args below meth c D ad cA A H locs la C hP hD hS hl
  obtain ⟨hx, hb, hml, hr, hlk, hown, hts, hK, hA, hE⟩ := id C
  exact lv_if_eq hx hb hd ht (fun z => kt z p l e s m args below meth c D ad cA A H locs la C hP hD hS hl) (fun z => kf z p l e s m args below meth c D ad cA A H locs la C hP hD hS hl)
theorem ev_icmp_eq {x y : Int32} {off : Int} {tgt : Nat} (hd : decode (mC M) pc = .ok (.if_icmp .eq off, 3)) (ht : (pc : Int) + off = (tgt : Int)) (kt : x = y → Ev S M tgt ls st d Q) (kf : ¬ x = y → Ev S M (pc + 3) ls st d Q) : Ev S M pc ls (.int y :: .int x :: st) d Q := by
  intro p l e s m args below meth c D ad cA A H locs la C hP hD hS hl
  obtain ⟨hx, hb, hml, hr, hlk, hown, hts, hK, hA, hE⟩ := id C
  exact lv_icmp_eq hx hb hd ht (fun z => kt z p l e s m args below meth c D ad cA A H locs la C hP hD hS hl) (fun z => kf z p l e s m args below meth c D ad cA A H locs la C hP hD hS hl)
theorem ev_if_ne {x : Int32} {off : Int} {tgt : Nat} (hd : decode (mC M) pc = .ok (.ifCond .ne off, 3)) (ht : (pc : Int) + off = (tgt : Int)) (kt : ¬ x = 0 → Ev S M tgt ls st d Q) (kf : x = 0 → Ev S M (pc + 3) ls st d Q) : Ev S M pc ls (.int x :: st) d Q := by
  intro p l e s m args below meth c D ad cA A H locs la C hP hD hS hl
  obtain ⟨hx, hb, hml, hr, hlk, hown, hts, hK, hA, hE⟩ := id C
  exact lv_if_ne hx hb hd ht (fun z => kt z p l e s m args below meth c D ad cA A H locs la C hP hD hS hl) (fun z => kf z p l e s m args below meth c D ad cA A H locs la C hP hD hS hl)
theorem ev_icmp_ne {x y : Int32} {off : Int} {tgt : Nat} (hd : decode (mC M) pc = .ok (.if_icmp .ne off, 3)) (ht : (pc : Int) + off = (tgt : Int)) (kt : ¬ x = y → Ev S M tgt ls st d Q) (kf : x = y → Ev S M (pc + 3) ls st d Q) : Ev S M pc ls (.int y :: .int x :: st) d Q := by
  intro p l e s m args below meth c D ad cA A H locs la C hP hD hS hl
  obtain ⟨hx, hb, hml, hr, hlk, hown, hts, hK, hA, hE⟩ := id C
  exact lv_icmp_ne hx hb hd ht (fun z => kt z p l e s m args below meth c D ad cA A H locs la C hP hD hS hl) (fun z => kf z p l e s m args below meth c D ad cA A H locs la C hP hD hS hl)
theorem ev_if_lt {x : Int32} {off : Int} {tgt : Nat} (hd : decode (mC M) pc = .ok (.ifCond .lt off, 3)) (ht : (pc : Int) + off = (tgt : Int)) (kt : x < 0 → Ev S M tgt ls st d Q) (kf : ¬ x < 0 → Ev S M (pc + 3) ls st d Q) : Ev S M pc ls (.int x :: st) d Q := by
  intro p l e s m args below meth c D ad cA A H locs la C hP hD hS hl
  obtain ⟨hx, hb, hml, hr, hlk, hown, hts, hK, hA, hE⟩ := id C
  exact lv_if_lt hx hb hd ht (fun z => kt z p l e s m args below meth c D ad cA A H locs la C hP hD hS hl) (fun z => kf z p l e s m args below meth c D ad cA A H locs la C hP hD hS hl)
theorem ev_icmp_lt {x y : Int32} {off : Int} {tgt : Nat} (hd : decode (mC M) pc = .ok (.if_icmp .lt off, 3)) (ht : (pc : Int) + off = (tgt : Int)) (kt : x < y → Ev S M tgt ls st d Q) (kf : ¬ x < y → Ev S M (pc + 3) ls st d Q) : Ev S M pc ls (.int y :: .int x :: st) d Q := by
  intro p l e s m args below meth c D ad cA A H locs la C hP hD hS hl
  obtain ⟨hx, hb, hml, hr, hlk, hown, hts, hK, hA, hE⟩ := id C
  exact lv_icmp_lt hx hb hd ht (fun z => kt z p l e s m args below meth c D ad cA A H locs la C hP hD hS hl) (fun z => kf z p l e s m args below meth c D ad cA A H locs la C hP hD hS hl)
theorem ev_if_ge {x : Int32} {off : Int} {tgt : Nat} (hd : decode (mC M) pc = .ok (.ifCond .ge off, 3)) (ht : (pc : Int) + off = (tgt : Int)) (kt : 0 ≤ x → Ev S M tgt ls st d Q) (kf : ¬ 0 ≤ x → Ev S M (pc + 3) ls st d Q) : Ev S M pc ls (.int x :: st) d Q := by
  intro p l e s m args below meth c D ad cA A H locs la C hP hD hS hl
  obtain ⟨hx, hb, hml, hr, hlk, hown, hts, hK, hA, hE⟩ := id C
  exact lv_if_ge hx hb hd ht (fun z => kt z p l e s m args below meth c D ad cA A H locs la C hP hD hS hl) (fun z => kf z p l e s m args below meth c D ad cA A H locs la C hP hD hS hl)
theorem ev_icmp_ge {x y : Int32} {off : Int} {tgt : Nat} (hd : decode (mC M) pc = .ok (.if_icmp .ge off, 3)) (ht : (pc : Int) + off = (tgt : Int)) (kt : y ≤ x → Ev S M tgt ls st d Q) (kf : ¬ y ≤ x → Ev S M (pc + 3) ls st d Q) : Ev S M pc ls (.int y :: .int x :: st) d Q := by
  intro p l e s m args below meth c D ad cA A H locs la C hP hD hS hl
  obtain ⟨hx, hb, hml, hr, hlk, hown, hts, hK, hA, hE⟩ := id C
  exact lv_icmp_ge hx hb hd ht (fun z => kt z p l e s m args below meth c D ad cA A H locs la C hP hD hS hl) (fun z => kf z p l e s m args below meth c D ad cA A H locs la C hP hD hS hl)
theorem ev_if_gt {x : Int32} {off : Int} {tgt : Nat} (hd : decode (mC M) pc = .ok (.ifCond .gt off, 3)) (ht : (pc : Int) + off = (tgt : Int)) (kt : 0 < x → Ev S M tgt ls st d Q) (kf : ¬ 0 < x → Ev S M (pc + 3) ls st d Q) : Ev S M pc ls (.int x :: st) d Q := by
  intro p l e s m args below meth c D ad cA A H locs la C hP hD hS hl
  obtain ⟨hx, hb, hml, hr, hlk, hown, hts, hK, hA, hE⟩ := id C
  exact lv_if_gt hx hb hd ht (fun z => kt z p l e s m args below meth c D ad cA A H locs la C hP hD hS hl) (fun z => kf z p l e s m args below meth c D ad cA A H locs la C hP hD hS hl)
theorem ev_icmp_gt {x y : Int32} {off : Int} {tgt : Nat} (hd : decode (mC M) pc = .ok (.if_icmp .gt off, 3)) (ht : (pc : Int) + off = (tgt : Int)) (kt : y < x → Ev S M tgt ls st d Q) (kf : ¬ y < x → Ev S M (pc + 3) ls st d Q) : Ev S M pc ls (.int y :: .int x :: st) d Q := by
  intro p l e s m args below meth c D ad cA A H locs la C hP hD hS hl
  obtain ⟨hx, hb, hml, hr, hlk, hown, hts, hK, hA, hE⟩ := id C
  exact lv_icmp_gt hx hb hd ht (fun z => kt z p l e s m args below meth c D ad cA A H locs la C hP hD hS hl) (fun z => kf z p l e s m args below meth c D ad cA A H locs la C hP hD hS hl)
theorem ev_if_le {x : Int32} {off : Int} {tgt : Nat} (hd : decode (mC M) pc = .ok (.ifCond .le off, 3)) (ht : (pc : Int) + off = (tgt : Int)) (kt : x ≤ 0 → Ev S M tgt ls st d Q) (kf : ¬ x ≤ 0 → Ev S M (pc + 3) ls st d Q) : Ev S M pc ls (.int x :: st) d Q := by
  intro p l e s m args below meth c D ad cA A H locs la C hP hD hS hl
  obtain ⟨hx, hb, hml, hr, hlk, hown, hts, hK, hA, hE⟩ := id C
  exact lv_if_le hx hb hd ht (fun z => kt z p l e s m args below meth c D ad cA A H locs la C hP hD hS hl) (fun z => kf z p l e s m args below meth c D ad cA A H locs la C hP hD hS hl)
theorem ev_icmp_le {x y : Int32} {off : Int} {tgt : Nat} (hd : decode (mC M) pc = .ok (.if_icmp .le off, 3)) (ht : (pc : Int) + off = (tgt : Int)) (kt : x ≤ y → Ev S M tgt ls st d Q) (kf : ¬ x ≤ y → Ev S M (pc + 3) ls st d Q) : Ev S M pc ls (.int y :: .int x :: st) d Q := by
  intro p l e s m args below meth c D ad cA A H locs la C hP hD hS hl
  obtain ⟨hx, hb, hml, hr, hlk, hown, hts, hK, hA, hE⟩ := id C
  exact lv_icmp_le hx hb hd ht (fun z => kt z p l e s m args below meth c D ad cA A H locs la C hP hD hS hl) (fun z => kf z p l e s m args below meth c D ad cA A H locs la C hP hD hS hl)
theorem ev_tsw {dflt lo hi off : Int} {offs : Array Int} {len tgt : Nat} {x : Int32} (hd : decode (mC M) pc = .ok (.tableswitch dflt lo hi offs, len)) (n : Int) (hx0 : x.toInt = n) (h1 : ¬ n < lo) (h2 : ¬ hi < n) (ho : offs[(n - lo).toNat]? = some off) (ht : (pc : Int) + off = (tgt : Int)) (k : Ev S M tgt ls st d Q) : Ev S M pc ls (.int x :: st) d Q := by
  subst hx0
  intro p l e s m args below meth c D ad cA A H locs la C hP hD hS hl
  obtain ⟨hx, hb, hml, hr, hlk, hown, hts, hK, hA, hE⟩ := id C
  exact lv_tableIn hx hb hd h1 h2 ho ht (k p l e s m args below meth c D ad cA A H locs la C hP hD hS hl)
theorem ev_tswD {dflt lo hi : Int} {offs : Array Int} {len tgt : Nat} {x : Int32} (hd : decode (mC M) pc = .ok (.tableswitch dflt lo hi offs, len)) (h : x.toInt < lo ∨ hi < x.toInt) (ht : (pc : Int) + dflt = (tgt : Int)) (k : Ev S M tgt ls st d Q) : Ev S M pc ls (.int x :: st) d Q := by
  intro p l e s m args below meth c D ad cA A H locs la C hP hD hS hl
  obtain ⟨hx, hb, hml, hr, hlk, hown, hts, hK, hA, hE⟩ := id C
  exact lv_tableOut hx hb hd h ht (k p l e s m args below meth c D ad cA A H locs la C hP hD hS hl)
theorem ev_lsw {dflt off : Int} {ps : Array (Int × Int)} {len tgt : Nat} {x : Int32} (hd : decode (mC M) pc = .ok (.lookupswitch dflt ps, len)) (hp : (ps.toList.zip (ps.toList.drop 1)).all (fun (a, next) => a.1 < next.1) = true) (ho : Op.lookupswitch.offset ps.toList dflt x.toInt = off) (ht : (pc : Int) + off = (tgt : Int)) (k : Ev S M tgt ls st d Q) : Ev S M pc ls (.int x :: st) d Q := by
  intro p l e s m args below meth c D ad cA A H locs la C hP hD hS hl
  obtain ⟨hx, hb, hml, hr, hlk, hown, hts, hK, hA, hE⟩ := id C
  exact lv_lookup hx hb hd hp ho ht (k p l e s m args below meth c D ad cA A H locs la C hP hD hS hl)
theorem sw_eq {x c : Int32} (n : Int) (h : x = c) (hc : c.toInt = n) : x.toInt = n := by rw [h]; exact hc
theorem sw_ne {x c : Int32} (n : Int) (h : ¬ x = c) (hc : c.toInt = n) : ¬ x.toInt = n := fun e => h (Int32.toInt_inj.mp (e.trans hc.symm))
def st1 (i : Nat) (v : Value) (ls : List Value) : List Value := match i with
  | 0 => ls.set 0 v
  | i + 1 => match ls[i]? with
    | some (.long _) => (ls.set i uJ).set (i + 1) v
    | some (.double _) => (ls.set i uJ).set (i + 1) v
    | _ => ls.set (i + 1) v
def st2 (i : Nat) (v : Value) (ls : List Value) : List Value := (st1 i v ls).set (i + 1) uJ
theorem st1_spec {i : Nat} {v : Value} {ls : List Value} {j : Nat} {w : Value} (h : (st1 i v ls)[j]? = some w) (hw : isJ w = false) : (j = i ∧ w = v) ∨ (j ≠ i ∧ ls[j]? = some w ∧ ¬ (j + 1 = i ∧ w.category = 2)) := by
  have base : ∀ {l : List Value} {i : Nat}, (l.set i v)[j]? = some w → (j = i ∧ w = v) ∨ (j ≠ i ∧ l[j]? = some w) := by
    intro l i h
    by_cases hj : i = j
    · subst hj
      rw [List.getElem?_set] at h
      simp only [if_true] at h
      split at h
      · exact Or.inl ⟨rfl, (Option.some.inj h).symm⟩
      · cases h
    · rw [List.getElem?_set_ne hj] at h
      exact Or.inr ⟨fun e => hj e.symm, h⟩
  cases i with
  | zero =>
    rcases base (l := ls) (i := 0) h with h | h
    · exact Or.inl h
    · exact Or.inr ⟨h.1, h.2, fun q => by omega⟩
  | succ i =>
    have two : (((ls.set i uJ).set (i + 1) v)[j]? = some w → (j = i + 1 ∧ w = v) ∨ (j ≠ i + 1 ∧ ls[j]? = some w ∧ ¬ (j + 1 = i + 1 ∧ w.category = 2))) := by
      intro h
      rcases base (l := ls.set i uJ) (i := i + 1) h with h | ⟨h1, h2⟩
      · exact Or.inl h
      · refine Or.inr ⟨h1, ?_⟩
        by_cases hj : i = j
        · subst hj
          rw [List.getElem?_set] at h2
          simp only [if_true] at h2
          split at h2
          · obtain rfl := Option.some.inj h2; cases hw
          · cases h2
        · rw [List.getElem?_set_ne hj] at h2
          exact ⟨h2, fun q => hj (by omega)⟩
    have one : (∀ x, ls[i]? = some x → x.category ≠ 2) → ((ls.set (i + 1) v)[j]? = some w → (j = i + 1 ∧ w = v) ∨ (j ≠ i + 1 ∧ ls[j]? = some w ∧ ¬ (j + 1 = i + 1 ∧ w.category = 2))) := by
      intro hc h
      rcases base (l := ls) (i := i + 1) h with h | ⟨h1, h2⟩
      · exact Or.inl h
      · exact Or.inr ⟨h1, h2, fun q => hc w (by rw [show i = j by omega]; exact h2) q.2⟩
    simp only [st1] at h
    split at h
    · exact two h
    · exact two h
    · rename_i hn1 hn2
      refine one (fun x hx hc => ?_) h
      cases x with
      | long y => exact hn1 y hx
      | double y => exact hn2 y hx
      | int y => cases hc
      | float y => cases hc
      | ref y => cases hc
      | null => cases hc
      | retAddr y => cases hc
def lhl (ad : Nat → Nat) (ls : List Value) : List (Nat × Value) := (ls.zipIdx.filter (fun q => !isJ q.1)).map (fun q => (q.2, cv ad q.1))
theorem lhl_mem {ad : Nat → Nat} {ls : List Value} {i : Nat} {v : Value} (h : ls[i]? = some v) (hj : isJ v = false) : (i, cv ad v) ∈ lhl ad ls := by
  refine List.mem_map.mpr ⟨(v, i), List.mem_filter.mpr ⟨?_, by simp [hj]⟩, rfl⟩
  exact List.mem_iff_getElem?.mpr ⟨i, by simp [List.getElem?_zipIdx, h]⟩
theorem lhl_has {la : Array Slot} {n : Nat} {ad : Nat → Nat} {ls : List Value} (h : LH la n ad ls) : lv_has la n (lhl ad ls) := by
  refine ⟨h.1, h.2.1, fun q hq => ?_⟩
  obtain ⟨⟨v, i⟩, hm, rfl⟩ := List.mem_map.mp hq
  obtain ⟨h1, h2⟩ := List.mem_filter.mp hm
  obtain ⟨k, hk⟩ := List.mem_iff_getElem?.mp h1
  simp only [List.getElem?_zipIdx] at hk
  cases hv : ls[k]? with
  | none => rw [hv] at hk; cases hk
  | some v' =>
    rw [hv] at hk
    simp only [Option.map_some, Option.some.injEq, Prod.mk.injEq, Nat.zero_add] at hk
    obtain ⟨rfl, rfl⟩ := hk
    exact h.2.2 _ _ hv (by simpa using h2)
theorem lh_st1 {la : Array Slot} {n : Nat} {ad : Nat → Nat} {ls ls' : List Value} {i : Nat} {v : Value} (h : lv_has la n ((i, cv ad v) :: (lhl ad ls).filter (fun q => !(q.1 == i) && !(q.1 + 1 == i && q.2.category == 2)))) (e : st1 i v ls = ls') : LH la n ad ls' := by
  subst e
  refine ⟨h.1, h.2.1, fun j w hj hw => ?_⟩
  rcases st1_spec hj hw with ⟨rfl, rfl⟩ | ⟨h1, h2, h3⟩
  · exact h.2.2 _ List.mem_cons_self
  · refine h.2.2 (j, cv ad w) (List.mem_cons_of_mem _ (List.mem_filter.mpr ⟨lhl_mem h2 hw, ?_⟩))
    simp only [cv_cat]
    by_cases a : j + 1 = i
    · have : ¬ w.category = 2 := fun z => h3 ⟨a, z⟩
      simp [h1, this]
    · simp [h1, a]
theorem lh_st2 {la : Array Slot} {n : Nat} {ad : Nat → Nat} {ls ls' : List Value} {i : Nat} {v : Value} (h : lv_has la n ((i, cv ad v) :: (lhl ad ls).filter (fun q => !(q.1 == i) && (!(q.1 == i + 1) && !(q.1 + 1 == i && q.2.category == 2))))) (e : st2 i v ls = ls') : LH la n ad ls' := by
  subst e
  refine ⟨h.1, h.2.1, fun j w hj hw => ?_⟩
  have hne : j ≠ i + 1 := fun q => by
    subst q
    unfold st2 at hj
    rw [List.getElem?_set] at hj
    simp only [if_true] at hj
    split at hj
    · obtain rfl := Option.some.inj hj; cases hw
    · cases hj
  unfold st2 at hj
  rw [List.getElem?_set_ne (fun q => hne q.symm)] at hj
  rcases st1_spec hj hw with ⟨rfl, rfl⟩ | ⟨h1, h2, h3⟩
  · exact h.2.2 _ List.mem_cons_self
  · refine h.2.2 (j, cv ad w) (List.mem_cons_of_mem _ (List.mem_filter.mpr ⟨lhl_mem h2 hw, ?_⟩))
    simp only [cv_cat]
    by_cases a : j + 1 = i
    · have : ¬ w.category = 2 := fun z => h3 ⟨a, z⟩
      simp [h1, hne, this]
    · simp [h1, hne, a]
theorem ev_istore_n {k0 : Fin 4} {x : Int32} {ls2 : List Value} (i : Nat) (hd : decode (mC M) pc = .ok (.istore_n k0, 1)) (hi : (k0 : Nat) = i) (hn : i < mL M) (h : st1 i (.int x) ls = ls2) (k : Ev S M (pc + 1) ls2 st d Q) : Ev S M pc ls (.int x :: st) d Q := by
  intro p l e s m args below meth c D ad cA A H locs la C hP hD hS hl
  obtain ⟨hx, hb, hml, hr, hlk, hown, hts, hK, hA, hE⟩ := id C
  exact lv_istore_n hx hb hd hi (lhl_has hl) hn rfl (fun la2 h2 => k p l e s m args below meth c D ad cA A H locs la2 C hP hD hS (lh_st1 (v := (.int x)) h2 h))
theorem ev_istore {x : Int32} {ls2 : List Value} {i : Nat} (hd : decode (mC M) pc = .ok (.istore i, 2)) (hn : i < mL M) (h : st1 i (.int x) ls = ls2) (k : Ev S M (pc + 2) ls2 st d Q) : Ev S M pc ls (.int x :: st) d Q := by
  intro p l e s m args below meth c D ad cA A H locs la C hP hD hS hl
  obtain ⟨hx, hb, hml, hr, hlk, hown, hts, hK, hA, hE⟩ := id C
  exact lv_istore hx hb hd (lhl_has hl) hn rfl (fun la2 h2 => k p l e s m args below meth c D ad cA A H locs la2 C hP hD hS (lh_st1 (v := (.int x)) h2 h))
theorem ev_lstore_n {k0 : Fin 4} {x : Int64} {ls2 : List Value} (i : Nat) (hd : decode (mC M) pc = .ok (.lstore_n k0, 1)) (hi : (k0 : Nat) = i) (hn : i + 1 < mL M) (h : st2 i (.long x) ls = ls2) (k : Ev S M (pc + 1) ls2 st d Q) : Ev S M pc ls (.long x :: st) d Q := by
  intro p l e s m args below meth c D ad cA A H locs la C hP hD hS hl
  obtain ⟨hx, hb, hml, hr, hlk, hown, hts, hK, hA, hE⟩ := id C
  exact lv_lstore_n hx hb hd hi (lhl_has hl) hn rfl (fun la2 h2 => k p l e s m args below meth c D ad cA A H locs la2 C hP hD hS (lh_st2 (v := (.long x)) h2 h))
theorem ev_lstore {x : Int64} {ls2 : List Value} {i : Nat} (hd : decode (mC M) pc = .ok (.lstore i, 2)) (hn : i + 1 < mL M) (h : st2 i (.long x) ls = ls2) (k : Ev S M (pc + 2) ls2 st d Q) : Ev S M pc ls (.long x :: st) d Q := by
  intro p l e s m args below meth c D ad cA A H locs la C hP hD hS hl
  obtain ⟨hx, hb, hml, hr, hlk, hown, hts, hK, hA, hE⟩ := id C
  exact lv_lstore hx hb hd (lhl_has hl) hn rfl (fun la2 h2 => k p l e s m args below meth c D ad cA A H locs la2 C hP hD hS (lh_st2 (v := (.long x)) h2 h))
theorem ev_astore_n {k0 : Fin 4} {x : Nat} {ls2 : List Value} (i : Nat) (hd : decode (mC M) pc = .ok (.astore_n k0, 1)) (hi : (k0 : Nat) = i) (hn : i < mL M) (h : st1 i (.ref x) ls = ls2) (k : Ev S M (pc + 1) ls2 st d Q) : Ev S M pc ls (.ref x :: st) d Q := by
  intro p l e s m args below meth c D ad cA A H locs la C hP hD hS hl
  obtain ⟨hx, hb, hml, hr, hlk, hown, hts, hK, hA, hE⟩ := id C
  exact lv_astore_n hx hb hd hi (lhl_has hl) hn rfl (fun la2 h2 => k p l e s m args below meth c D ad cA A H locs la2 C hP hD hS (lh_st1 (v := (.ref x)) h2 h))
theorem ev_astore {x : Nat} {ls2 : List Value} {i : Nat} (hd : decode (mC M) pc = .ok (.astore i, 2)) (hn : i < mL M) (h : st1 i (.ref x) ls = ls2) (k : Ev S M (pc + 2) ls2 st d Q) : Ev S M pc ls (.ref x :: st) d Q := by
  intro p l e s m args below meth c D ad cA A H locs la C hP hD hS hl
  obtain ⟨hx, hb, hml, hr, hlk, hown, hts, hK, hA, hE⟩ := id C
  exact lv_astore hx hb hd (lhl_has hl) hn rfl (fun la2 h2 => k p l e s m args below meth c D ad cA A H locs la2 C hP hD hS (lh_st1 (v := (.ref x)) h2 h))
theorem ev_iinc {x v : Int32} {n : Int} {ls2 : List Value} {i : Nat} (hd : decode (mC M) pc = .ok (.iinc i n, 3)) (h0 : ls[i]? = some (.int x)) (hv : x + Int32.ofInt n = v) (hn : i < mL M) (h : st1 i (.int v) ls = ls2) (k : Ev S M (pc + 3) ls2 st d Q) : Ev S M pc ls st d Q := by
  intro p l e s m args below meth c D ad cA A H locs la C hP hD hS hl
  obtain ⟨hx, hb, hml, hr, hlk, hown, hts, hK, hA, hE⟩ := id C
  obtain ⟨k9, hk9⟩ := List.mem_iff_getElem?.mp (lhl_mem (ad := ad) h0 rfl)
  exact lv_iinc hx hb hd (lhl_has hl) hk9 hv hn rfl (fun la2 h2 => k p l e s m args below meth c D ad cA A H locs la2 C hP hD hS (lh_st1 (v := .int v) h2 h))
def ClsOk (ci : Nat) (C : String) (T : u_T) (N : Nat) (ty0 : Nat → FieldType) : Prop := vwCl[ci]? = some (C, T, N) ∧ (∀ w ∈ u_ws C T N, w ∈ wT) ∧ (∀ k, k < N → parseFieldDescriptor (T k).2.2.1 = some (ty0 k)) ∧ (∀ a, a < N → ∀ b, b < N → a ≠ b → (T a).2.1 ≠ (T b).2.1)
theorem u_wsIn {C : String} {T : u_T} {N : Nat} {L : List Cond} (h : ∀ k, k < N → u_lay C T k ∈ L) : ∀ w ∈ u_ws C T N, w ∈ L := by
  intro w hw
  obtain ⟨k, hk, rfl⟩ := List.mem_map.mp hw
  exact h k (List.mem_range.mp hk)
theorem ev_get {b ci N idx : Nat} {C : String} {T : u_T} {ty0 : Nat → FieldType} {sl : List (Option Nat)} (j : Nat) (hd : decode (mC M) pc = .ok (.getfield idx, 3)) (hs : S[b]? = some (4, ci, sl)) (hc : ClsOk ci C T N ty0) (hj : j < N) (hv : sl[j]? = some none) (hw : Cond.fieldLink (mOwn M) idx (T j).1 (T j).2.1 (T j).2.2.1 ∈ wT) (k : Ev S M (pc + 3) ls (.int (d b j) :: st) d Q) : Ev S M pc ls (.ref b :: st) d Q := by
  intro p l e s m args below meth c D ad cA A H locs la C hP hD hS hl
  obtain ⟨hx, hb, hml, hr, hlk, hown, hts, hK, hA, hE⟩ := id C
  exact va_get hx hb hts hc.2.1 hown hK hP b (wsOf_get hs) hc.1 j hj (hts _ hw) (fun _ z => z) (slotsOf_get hv) hd (k p l e s m args below meth c D ad cA A H locs la C hP hD hS hl)
theorem ev_getr {b ci N idx r : Nat} {C : String} {T : u_T} {ty0 : Nat → FieldType} {sl : List (Option Nat)} (j : Nat) (hd : decode (mC M) pc = .ok (.getfield idx, 3)) (hs : S[b]? = some (4, ci, sl)) (hc : ClsOk ci C T N ty0) (hj : j < N) (hv : sl[j]? = some (some r)) (hw : Cond.fieldLink (mOwn M) idx (T j).1 (T j).2.1 (T j).2.2.1 ∈ wT) (k : Ev S M (pc + 3) ls (.ref r :: st) d Q) : Ev S M pc ls (.ref b :: st) d Q := by
  intro p l e s m args below meth c D ad cA A H locs la C hP hD hS hl
  obtain ⟨hx, hb, hml, hr, hlk, hown, hts, hK, hA, hE⟩ := id C
  exact va_get hx hb hts hc.2.1 hown hK hP b (wsOf_get hs) hc.1 j hj (hts _ hw) (fun _ z => z) (slotsOf_ref hv) hd (k p l e s m args below meth c D ad cA A H locs la C hP hD hS hl)
theorem ev_put {b ci N idx : Nat} {x : Int32} {C : String} {T : u_T} {ty0 : Nat → FieldType} {sl : List (Option Nat)} (j : Nat) (hd : decode (mC M) pc = .ok (.putfield idx, 3)) (hs : S[b]? = some (4, ci, sl)) (hc : ClsOk ci C T N ty0) (hj : j < N) (hv : sl[j]? = some none) (hw : Cond.fieldLink (mOwn M) idx (T j).1 (T j).2.1 (T j).2.2.1 ∈ wT) (hfin : (T j).2.2.2 = false) (hn : narrow (ty0 j) (.int x) = .int x) (hfit : fits (ty0 j) (.int x) = true) (k : Ev S M (pc + 3) ls st (up d b j x) Q) : Ev S M pc ls (.int x :: .ref b :: st) d Q := by
  intro p l e s m args below meth c D ad cA A H locs la C hP hD hS hl
  obtain ⟨hx, hb, hml, hr, hlk, hown, hts, hK, hA, hE⟩ := id C
  refine va_put hx hb hts hc.2.1 ty0 hc.2.2.1 hc.2.2.2 hown hK hP hD hS b (wsOf_get hs) hc.1 j hj (hts _ hw) (fun _ z => z) hfin (hc.2.2.1 j hj) hn hfit (by rw [slotsOf, List.length_mapIdx]; exact (List.getElem?_eq_some_iff.mp hv).1) hd (fun H locs hP hD hS => ?_)
  have eW : (wsOf ad cA S d).set b (ad b, .inr (ci, (slotsOf ad (d b) sl).set j (.int x))) = wsOf ad cA S (up d b j x) := wsOf_set hs (fun a h => up_ne a h) (by rw [up_at]; show Sum.inr (ci, slotsOf ad (upd (d b) j x) sl) = _; rw [slotsOf_set hv])
  have hP2 : va_P D vwCl (wsOf ad cA S (up d b j x)) H := by rw [← eW]; exact hP
  have hD2 : va_D A (wsOf ad cA S (up d b j x)) := by rw [← eW]; exact hD
  exact k p l e s m args below meth c D ad cA A H locs la C hP2 hD2 hS hl
theorem ev_iald {b n : Nat} {i : Int32} {sl : List (Option Nat)} (hd : decode (mC M) pc = .ok (.iaload, 1)) (hs : S[b]? = some (0, n, sl)) (hin : vp_in i n) (k : Ev S M (pc + 1) ls (.int (d b i.toNatClampNeg) :: st) d Q) : Ev S M pc ls (.int i :: .ref b :: st) d Q := by
  intro p l e s m args below meth c D ad cA A H locs la C hP hD hS hl
  obtain ⟨hx, hb, hml, hr, hlk, hown, hts, hK, hA, hE⟩ := id C
  exact va_iald hx hb hK hP b 0 (wsOf_get hs) rfl hin hd (k p l e s m args below meth c D ad cA A H locs la C hP hD hS hl)
theorem ev_iast {b n : Nat} {i x : Int32} {sl : List (Option Nat)} (hd : decode (mC M) pc = .ok (.iastore, 1)) (hs : S[b]? = some (0, n, sl)) (hin : vp_in i n) (k : Ev S M (pc + 1) ls st (up d b i.toNatClampNeg x) Q) : Ev S M pc ls (.int x :: .int i :: .ref b :: st) d Q := by
  intro p l e s m args below meth c D ad cA A H locs la C hP hD hS hl
  obtain ⟨hx, hb, hml, hr, hlk, hown, hts, hK, hA, hE⟩ := id C
  refine va_iast hx hb hK hP hD hS b 0 (wsOf_get hs) rfl hin hd (fun H locs hP hD hS => ?_)
  have eW : (wsOf ad cA S d).set b (ad b, .inl (cA 0, n, .inl (upd (d b) i.toNatClampNeg x))) = wsOf ad cA S (up d b i.toNatClampNeg x) := wsOf_set hs (fun a h => up_ne a h) (by rw [up_at]; rfl)
  have hP2 : va_P D vwCl (wsOf ad cA S (up d b i.toNatClampNeg x)) H := by rw [← eW]; exact hP
  have hD2 : va_D A (wsOf ad cA S (up d b i.toNatClampNeg x)) := by rw [← eW]; exact hD
  exact k p l e s m args below meth c D ad cA A H locs la C hP2 hD2 hS hl
theorem ev_zald {b n : Nat} {i : Int32} {sl : List (Option Nat)} (hd : decode (mC M) pc = .ok (.baload, 1)) (hs : S[b]? = some (1, n, sl)) (hin : vp_in i n) (k : Ev S M (pc + 1) ls (.int (d b i.toNatClampNeg) :: st) d Q) : Ev S M pc ls (.int i :: .ref b :: st) d Q := by
  intro p l e s m args below meth c D ad cA A H locs la C hP hD hS hl
  obtain ⟨hx, hb, hml, hr, hlk, hown, hts, hK, hA, hE⟩ := id C
  exact va_zald hx hb hK hP b 1 (wsOf_get hs) rfl hin hd (k p l e s m args below meth c D ad cA A H locs la C hP hD hS hl)
theorem ev_zast {b n : Nat} {i x y : Int32} {sl : List (Option Nat)} (hd : decode (mC M) pc = .ok (.bastore, 1)) (hs : S[b]? = some (1, n, sl)) (hin : vp_in i n) (hy : vp_nar .boolean x = y) (k : Ev S M (pc + 1) ls st (up d b i.toNatClampNeg y) Q) : Ev S M pc ls (.int x :: .int i :: .ref b :: st) d Q := by
  subst hy
  intro p l e s m args below meth c D ad cA A H locs la C hP hD hS hl
  obtain ⟨hx, hb, hml, hr, hlk, hown, hts, hK, hA, hE⟩ := id C
  refine va_zast hx hb hK hP hD hS b 1 (wsOf_get hs) rfl hin hd (fun H locs hP hD hS => ?_)
  have eW : (wsOf ad cA S d).set b (ad b, .inl (cA 1, n, .inl (upd (d b) i.toNatClampNeg (vp_nar .boolean x)))) = wsOf ad cA S (up d b i.toNatClampNeg (vp_nar .boolean x)) := wsOf_set hs (fun a h => up_ne a h) (by rw [up_at]; rfl)
  have hP2 : va_P D vwCl (wsOf ad cA S (up d b i.toNatClampNeg (vp_nar .boolean x))) H := by rw [← eW]; exact hP
  have hD2 : va_D A (wsOf ad cA S (up d b i.toNatClampNeg (vp_nar .boolean x))) := by rw [← eW]; exact hD
  exact k p l e s m args below meth c D ad cA A H locs la C hP2 hD2 hS hl
theorem ev_aald {b n r q0 : Nat} {i : Int32} {sl : List (Option Nat)} (hd : decode (mC M) pc = .ok (.aaload, 1)) (hs : S[b]? = some (q0, n, sl)) (hq : q0 = 2 ∨ q0 = 3) (hin : vp_in i n) (hr0 : sl[i.toNatClampNeg]? = some (some r)) (k : Ev S M (pc + 1) ls (.ref r :: st) d Q) : Ev S M pc ls (.int i :: .ref b :: st) d Q := by
  intro p l e s m args below meth c D ad cA A H locs la C hP hD hS hl
  obtain ⟨hx, hb, hml, hr, hlk, hown, hts, hK, hA, hE⟩ := id C
  have hrf : va_rf (refsOf ad sl i.toNatClampNeg) = .ref (ad r) := by simp [refsOf, List.getD_eq_getElem?_getD, hr0, va_rf]
  rcases hq with rfl | rfl
  · refine va_aldq hx hb hK hP b 2 (wsOf_get hs) rfl hin hd ?_
    rw [hrf]
    exact k p l e s m args below meth c D ad cA A H locs la C hP hD hS hl
  · refine va_aldq hx hb hK hP b 3 (wsOf_get hs) rfl hin hd ?_
    rw [hrf]
    exact k p l e s m args below meth c D ad cA A H locs la C hP hD hS hl
theorem ev_mmax {idx : Nat} {x y : Int32} (hd : decode (mC M) pc = .ok (.invokestatic idx, 3)) (hw : Cond.methodLink (mOwn M) idx Lib.Math.max.name ∈ wT) (hw2 : Cond.static Lib.Math.max.name ∈ wT) (hw3 : Cond.initialized "java/lang/Math" ∈ wT) (hw4 : Cond.code Lib.Math.max.name Lib.Math.max.code 2 (some .int) ∈ wT) (hF : 1 ≤ mF M) (hO : (st.map fun v => v.category).sum + 13 ≤ mO M) (k : Ev S M (pc + 3) ls (.int (if x < y then y else x) :: st) d Q) : Ev S M pc ls (.int y :: .int x :: st) d Q := by
  intro p l e s m args below meth c D ad cA A H locs la C hP hD hS hl
  obtain ⟨hx, hb, hml, hr, hlk, hown, hts, hK, hA, hE⟩ := id C
  refine va_mmax hx hb (by rw [hml]; exact hl.1.symm) hown (hts _ hw) (hts _ hw2) (hts _ hw3) (hts _ hw4) hF ?_ (Nat.zero_le _) (Nat.zero_le _) hd (k p l e s m args below meth c D ad cA A H locs la C hP hD hS hl)
  have e0 : ((st.map (cv ad)).map fun v => v.category) = st.map fun v => v.category := by rw [List.map_map]; exact List.map_congr_left fun v _ => cv_cat ad v
  rw [e0]
  exact hO
theorem ev_copy {idx b0 b1 n0 n1 : Nat} {s0 s1 : List (Option Nat)} {sp dp n : Int32} (hd : decode (mC M) pc = .ok (.invokestatic idx, 3)) (hw : Cond.methodLink (mOwn M) idx arraycopyName ∈ wT) (hw2 : Cond.native arraycopyName ∈ wT) (hw3 : Cond.static arraycopyName ∈ wT) (hw4 : Cond.initialized "java/lang/System" ∈ wT) (hs0 : S[b0]? = some (0, n0, s0)) (hs1 : S[b1]? = some (0, n1, s1)) (h1 : ¬ sp < 0) (h2 : ¬ dp < 0) (h3 : ¬ n < 0) (h4 : sp.toNatClampNeg + n.toNatClampNeg ≤ n0) (h5 : dp.toNatClampNeg + n.toNatClampNeg ≤ n1) (hF : 1 ≤ mF M) (hO : (st.map fun v => v.category).sum + 18 ≤ mO M)
    (k : Ev S M (pc + 3) ls st (rowset d b1 (va_cpy (d b0) (d b1) sp.toNatClampNeg dp.toNatClampNeg n.toNatClampNeg)) Q) : Ev S M pc ls (.int n :: .int dp :: .ref b1 :: .int sp :: .ref b0 :: st) d Q := by
  intro p l e s m args below meth c D ad cA A H locs la C hP hD hS hl
  obtain ⟨hx, hb, hml, hr, hlk, hown, hts, hK, hA, hE⟩ := id C
  have e0 : ((st.map (cv ad)).map fun v => v.category) = st.map fun v => v.category := by rw [List.map_map]; exact List.map_congr_left fun v _ => cv_cat ad v
  refine va_copyi hx hb (by rw [hml]; exact hl.1.symm) hown (hts _ hw) (hts _ hw2) (hts _ hw3) (hts _ hw4) hK hP hD hS b0 b1 0 0 (wsOf_get hs0) (wsOf_get hs1) rfl rfl rfl h1 h2 h3 h4 h5 (fun i _ => rfl) hF (by rw [e0, natfw]; exact hO) hd (fun H locs hP hD hS => ?_)
  have eW : (wsOf ad cA S d).set b1 (ad b1, .inl (cA 0, n1, .inl (va_cpy (d b0) (d b1) sp.toNatClampNeg dp.toNatClampNeg n.toNatClampNeg))) = wsOf ad cA S (rowset d b1 (va_cpy (d b0) (d b1) sp.toNatClampNeg dp.toNatClampNeg n.toNatClampNeg)) := wsOf_set hs1 (fun a h => rowset_ne a h) (by rw [rowset_at]; rfl)
  have hP2 : va_P D vwCl (wsOf ad cA S (rowset d b1 (va_cpy (d b0) (d b1) sp.toNatClampNeg dp.toNatClampNeg n.toNatClampNeg))) H := by rw [← eW]; exact hP
  have hD2 : va_D A (wsOf ad cA S (rowset d b1 (va_cpy (d b0) (d b1) sp.toNatClampNeg dp.toNatClampNeg n.toNatClampNeg))) := by rw [← eW]; exact hD
  exact k p l e s m args below meth c D ad cA A H locs la C hP2 hD2 hS hl
theorem ev_ldc {idx : Nat} {v : Int32} (hd : decode (mC M) pc = .ok (.ldc idx, 2)) (hw : Cond.constant (mOwn M) idx v ∈ wT) (k : Ev S M (pc + 2) ls (.int v :: st) d Q) : Ev S M pc ls st d Q := by
  intro p l e s m args below meth c D ad cA A H locs la C hP hD hS hl
  obtain ⟨hx, hb, hml, hr, hlk, hown, hts, hK, hA, hE⟩ := id C
  exact lv_ldc hx hb hown (hts _ hw) hd (k p l e s m args below meth c D ad cA A H locs la C hP hD hS hl)
theorem ev_ldcw {idx : Nat} {v : Int32} (hd : decode (mC M) pc = .ok (.ldc_w idx, 3)) (hw : Cond.constant (mOwn M) idx v ∈ wT) (k : Ev S M (pc + 3) ls (.int v :: st) d Q) : Ev S M pc ls st d Q := by
  intro p l e s m args below meth c D ad cA A H locs la C hP hD hS hl
  obtain ⟨hx, hb, hml, hr, hlk, hown, hts, hK, hA, hE⟩ := id C
  exact lv_ldcw hx hb hown (hts _ hw) hd (k p l e s m args below meth c D ad cA A H locs la C hP hD hS hl)
theorem ev_ldc2 {idx : Nat} {v : Int64} (hd : decode (mC M) pc = .ok (.ldc2_w idx, 3)) (hw : Cond.constantLong (mOwn M) idx v ∈ wT) (k : Ev S M (pc + 3) ls (.long v :: st) d Q) : Ev S M pc ls st d Q := by
  intro p l e s m args below meth c D ad cA A H locs la C hP hD hS hl
  obtain ⟨hx, hb, hml, hr, hlk, hown, hts, hK, hA, hE⟩ := id C
  exact lv_ldc2 hx hb hown (hts _ hw) hd (k p l e s m args below meth c D ad cA A H locs la C hP hD hS hl)
theorem ev_ldcS {idx i : Nat} (hd : decode (mC M) pc = .ok (.ldc idx, 2)) (hM : mOwn M = RX3) (hi : i < 6) (hx0 : strIx.getD i 0 = idx) (k : Ev S M (pc + 2) ls (.ref (1000 + i) :: st) d Q) : Ev S M pc ls st d Q := by
  intro p l e s m args below meth c D ad cA A H locs la C hP hD hS hl
  obtain ⟨hx, hb, hml, hr, hlk, hown, hts, hK, hA, hE⟩ := id C
  subst hx0
  rw [hM] at hown
  exact va_ldcS hx hb hown (hE.2.1 i hi) hd (k p l e s m args below meth c D ad cA A H locs la C hP hD hS hl)
theorem ev_ireti (hd : decode (mC M) pc = .ok (.ireturn, 1)) (hK1 : mK M = 1) {ty : FieldType} (hty : mR M = some ty) {x : Int32} (hn : narrow ty (.int x) = .int x) (h : Q (.int x) d) : Ev S M pc ls [.int x] d Q := by
  intro p l e s m args below meth c D ad cA A H locs la C hP hD hS hl
  obtain ⟨hx, hb, hml, hr, hlk, hown, hts, hK, hA, hE⟩ := id C
  have eQ : QQ S (mK M) D ad cA A Q = va_Qi (fun r d => Q (.int r) d) (fun (d : DD) t => va_P D vwCl (wsOf ad cA S d) t.heap) A := by rw [hK1]; rfl
  rw [eQ]
  exact W.zret hx hb (hr.trans hty) hn (fun t ht hW => ⟨⟨x, d, rfl, h, by show va_P D vwCl (wsOf ad cA S d) t.heap; rw [ht]; exact hP⟩, hS.F ht⟩) hS.2.2 hd
theorem ev_lreti (hd : decode (mC M) pc = .ok (.lreturn, 1)) (hK1 : mK M = 2) (hty : mR M = some .long) {x : Int64} (h : Q (.long x) d) : Ev S M pc ls [.long x] d Q := by
  intro p l e s m args below meth c D ad cA A H locs la C hP hD hS hl
  obtain ⟨hx, hb, hml, hr, hlk, hown, hts, hK, hA, hE⟩ := id C
  have eQ : QQ S (mK M) D ad cA A Q = va_Ql (fun r d => Q (.long r) d) (fun (d : DD) t => va_P D vwCl (wsOf ad cA S d) t.heap) A := by rw [hK1]; rfl
  rw [eQ]
  exact W.lret hx hb (hr.trans hty) (fun t ht hW => ⟨⟨x, d, rfl, h, by show va_P D vwCl (wsOf ad cA S d) t.heap; rw [ht]; exact hP⟩, hS.F ht⟩) hS.2.2 hd
theorem ev_ret (hd : decode (mC M) pc = .ok (.return_, 1)) (hK1 : mK M = 0) (hty : mR M = none) (h : Q .null d) : Ev S M pc ls [] d Q := by
  intro p l e s m args below meth c D ad cA A H locs la C hP hD hS hl
  obtain ⟨hx, hb, hml, hr, hlk, hown, hts, hK, hA, hE⟩ := id C
  have eQ : QQ S (mK M) D ad cA A Q = va_Qv (fun d => Q .null d) (fun (d : DD) t => va_P D vwCl (wsOf ad cA S d) t.heap) A := by rw [hK1]; rfl
  rw [eQ]
  exact W.vret hx hb (hr.trans hty) (fun t ht hW => ⟨⟨d, rfl, h, by show va_P D vwCl (wsOf ad cA S d) t.heap; rw [ht]; exact hP⟩, hS.F ht⟩) hS.2.2 hd
/-- what a call of M2 needs of the tables, beside the link -/
def MvOk (M2 : MM) (n : Nat) : Prop := Cond.instanceMethod (mY M2) ∈ wT ∧ Cond.selects (mY M2).cls (mY M2) (mY M2) ∈ wT ∧ Cond.initialized (mY M2).cls ∈ wT ∧ Cond.code (mY M2) (mC M2) (mL M2) (mR M2) ∈ wT ∧ ((mY M2).cls ≠ "java/lang/invoke/MethodHandle" ∧ (mY M2).cls ≠ "java/lang/invoke/VarHandle" ∧ (parseMethodDescriptor (mY M2).desc).map (fun d => d.parameters.length) = some n)
def MsOk (M2 : MM) (n : Nat) : Prop := Cond.static (mY M2) ∈ wT ∧ Cond.initialized (mY M2).cls ∈ wT ∧ Cond.code (mY M2) (mC M2) (mL M2) (mR M2) ∈ wT ∧ ((mY M2).cls ≠ "java/lang/invoke/MethodHandle" ∧ (mY M2).cls ≠ "java/lang/invoke/VarHandle" ∧ (parseMethodDescriptor (mY M2).desc).map (fun d => d.parameters.length) = some n)
def RmOk (M M2 : MM) : Prop := mF M2 + 1 ≤ mF M ∧ 8 + (mL M2 + 11) + mO M2 ≤ mO M
theorem good1 {w : Cond} (h : w ∈ wT) : w ∈ wT ∧ ((w.onTables && w.keeps) = true ∨ ∃ ty, w = .arrayClass ty) := wT_good w h
theorem mW_good {M2 : MM} (h : Cond.code (mY M2) (mC M2) (mL M2) (mR M2) ∈ wT) : GoodIn wT (mW M2) := fun w hw => (List.mem_cons.mp hw).elim (fun e => by rw [e]; exact good1 h) (fun h => good1 h)
/-- the premise of a contract at a call -/
theorem cn_pre {As : List Value} {p : Program} {s : State} {m : MethodId} {args : Array Value} {meth : Method} {c : Code} {D : va_G} {ad : Nat → Nat} {cA : Nat → ClassId} {A : Nat → Prop} {H : Heap} {locs : List Loc} {M : MM} (C : Cx M p s m args meth c D ad cA A) (hP : va_P D vwCl (wsOf ad cA S d) H) (hD : va_D A (wsOf ad cA S d)) (hS : va_S A s.heap H locs) :
    PreS s H (va_Pc (As.map (cv ad)) (fun U => U.heap.size = H.size ∧ va_P D vwCl (wsOf ad cA S d) U.heap ∧ va_K D vwCl (tysOf cA) U ∧ va_D (fun _ => True) (wsOf ad cA S d) ∧ Ex ad (va_A (wsOf ad cA S d) H.size) U U.heap)) (As.map (cv ad)) ∧ ∀ q, va_A (wsOf ad cA S d) H.size q → A q := by
  obtain ⟨hx, hb, hml, hr, hlk, hown, hts, hK, hA, hE⟩ := C
  have hF : ∀ q, va_A (wsOf ad cA S d) H.size q → A q := by
    intro q h
    rcases h with ⟨k, e, h⟩ | h
    · exact hD.2 k (q, e) h
    · exact hA q (Nat.le_trans hS.1 h)
  refine ⟨⟨fun a U g mk h => ?_, fun U hU hW => ⟨rfl, by rw [hU], by rw [hU]; exact hP, va_K.moved hW.alike hK, hD.weaken (fun _ _ _ _ => trivial), hE.step hS hU hW hF⟩⟩, hF⟩
  obtain ⟨h1, h2, h3, h4, h5, h6⟩ := h
  exact ⟨h1, h2, h3, va_K.moved (u := U) (U := U.calling g mk a) (Vm.Alike.refl U.vm) h4, h5, Ex.same (u := U) (U := U.calling g mk a) rfl h6⟩
theorem ev_callVi {M2 : MM} {As : List Value} {Q2 : Value → DD → Prop} {idx n : Nat} {b ci : Nat} {N : Nat} {C0 : String} {T : u_T} {ty0 : Nat → FieldType} {sl : List (Option Nat)} (hd : decode (mC M) pc = .ok (.invokevirtual idx, 3)) (hs : S[b]? = some (4, ci, sl)) (hc : ClsOk ci C0 T N ty0) (hC : (mY M2).cls = C0) (hw : Cond.methodLink (mOwn M) idx (mY M2) ∈ wT) (mo : MvOk M2 n) (hk2 : mK M2 = 1) (hR : RmOk M M2) (hn : As.length = n) (hst : st = As.reverse ++ .ref b :: rest) (hcat : (rest.map fun v => v.category).sum ≤ 8) (hcn : Cn S M2 (.ref b :: As) d Q2) (k : ∀ (r : Int32) d2, Q2 (.int r) d2 → Ev S M (pc + 3) ls (.int r :: rest) d2 Q) : Ev S M pc ls st d Q := by
  intro p l e s m args below meth c D ad cA A H locs la C hP hD hS hl
  obtain ⟨hx, hb, hml, hr, hlk, hown, hts, hK, hA, hE⟩ := id C
  subst hst
  obtain ⟨hpre, hF⟩ := cn_pre (As := (.ref b :: As)) C hP hD hS
  have hM := hcn l D ad cA H.size
  rw [show QQ S (mK M2) D ad cA (va_A (wsOf ad cA S d) H.size) Q2 = va_Qi (fun r d => Q2 (.int r) d) (fun (d : DD) t => va_P D vwCl (wsOf ad cA S d) t.heap) (va_A (wsOf ad cA S d) H.size) by rw [hk2]; rfl] at hM
  have e0 : ((rest.map (cv ad)).map fun v => v.category) = rest.map fun v => v.category := by rw [List.map_map]; exact List.map_congr_left fun v _ => cv_cat ad v
  have es : (As.reverse ++ .ref b :: rest).map (cv ad) = (As.map (cv ad)).reverse ++ .ref (ad b) :: rest.map (cv ad) := by simp [cv]
  rw [es]
  obtain ⟨m1, m2, m3, m4, m5⟩ := mo
  have hG : GoodIn wT (wsV (mOwn M) idx C0 (mY M2) (mW M2)) := by
    subst hC
    intro w hw2
    rcases List.mem_append.mp hw2 with h | h
    · simp only [List.mem_cons, List.not_mem_nil, or_false] at h
      rcases h with rfl | rfl | rfl | rfl
      · exact good1 hw
      · exact good1 m1
      · exact good1 m2
      · exact good1 m3
    · exact mW_good m4 w h
  refine va_calli (va_runV (As := As.map (cv ad)) (rest := rest.map (cv ad)) (C := C0) ⟨hx, hb, hml, hown, hts⟩ hM (cwV n hts hG rfl rfl rfl ⟨hC, m5⟩ hR) ⟨hpre.1, va_recv hK hP hc.1 (wsOf_get hs), hpre.2⟩ rfl (by rw [List.length_map]; exact hn) hl.1 rfl (lv_room (by rw [e0]; exact hcat)) hd ⟨Nat.zero_le _, Nat.zero_le _⟩) hS (fun q _ h => hF q h) hF (fun r d2 t H1 locs1 ht hvm hq hB hz hk hS1 => ?_)
  rw [ht] at hB
  exact k r d2 hq p l e s m args below meth c D ad cA A H1 locs1 la C hB (wsOf_D hD) hS1 hl
theorem ev_callVl {M2 : MM} {As : List Value} {Q2 : Value → DD → Prop} {idx n : Nat} {b ci : Nat} {N : Nat} {C0 : String} {T : u_T} {ty0 : Nat → FieldType} {sl : List (Option Nat)} (hd : decode (mC M) pc = .ok (.invokevirtual idx, 3)) (hs : S[b]? = some (4, ci, sl)) (hc : ClsOk ci C0 T N ty0) (hC : (mY M2).cls = C0) (hw : Cond.methodLink (mOwn M) idx (mY M2) ∈ wT) (mo : MvOk M2 n) (hk2 : mK M2 = 2) (hR : RmOk M M2) (hn : As.length = n) (hst : st = As.reverse ++ .ref b :: rest) (hcat : (rest.map fun v => v.category).sum ≤ 8) (hcn : Cn S M2 (.ref b :: As) d Q2) (k : ∀ (r : Int64) d2, Q2 (.long r) d2 → Ev S M (pc + 3) ls (.long r :: rest) d2 Q) : Ev S M pc ls st d Q := by
  intro p l e s m args below meth c D ad cA A H locs la C hP hD hS hl
  obtain ⟨hx, hb, hml, hr, hlk, hown, hts, hK, hA, hE⟩ := id C
  subst hst
  obtain ⟨hpre, hF⟩ := cn_pre (As := (.ref b :: As)) C hP hD hS
  have hM := hcn l D ad cA H.size
  rw [show QQ S (mK M2) D ad cA (va_A (wsOf ad cA S d) H.size) Q2 = va_Ql (fun r d => Q2 (.long r) d) (fun (d : DD) t => va_P D vwCl (wsOf ad cA S d) t.heap) (va_A (wsOf ad cA S d) H.size) by rw [hk2]; rfl] at hM
  have e0 : ((rest.map (cv ad)).map fun v => v.category) = rest.map fun v => v.category := by rw [List.map_map]; exact List.map_congr_left fun v _ => cv_cat ad v
  have es : (As.reverse ++ .ref b :: rest).map (cv ad) = (As.map (cv ad)).reverse ++ .ref (ad b) :: rest.map (cv ad) := by simp [cv]
  rw [es]
  obtain ⟨m1, m2, m3, m4, m5⟩ := mo
  have hG : GoodIn wT (wsV (mOwn M) idx C0 (mY M2) (mW M2)) := by
    subst hC
    intro w hw2
    rcases List.mem_append.mp hw2 with h | h
    · simp only [List.mem_cons, List.not_mem_nil, or_false] at h
      rcases h with rfl | rfl | rfl | rfl
      · exact good1 hw
      · exact good1 m1
      · exact good1 m2
      · exact good1 m3
    · exact mW_good m4 w h
  refine va_calll (va_runV (As := As.map (cv ad)) (rest := rest.map (cv ad)) (C := C0) ⟨hx, hb, hml, hown, hts⟩ hM (cwV n hts hG rfl rfl rfl ⟨hC, m5⟩ hR) ⟨hpre.1, va_recv hK hP hc.1 (wsOf_get hs), hpre.2⟩ rfl (by rw [List.length_map]; exact hn) hl.1 rfl (lv_room (by rw [e0]; exact hcat)) hd ⟨Nat.zero_le _, Nat.zero_le _⟩) hS (fun q _ h => hF q h) hF (fun r d2 t H1 locs1 ht hvm hq hB hz hk hS1 => ?_)
  rw [ht] at hB
  exact k r d2 hq p l e s m args below meth c D ad cA A H1 locs1 la C hB (wsOf_D hD) hS1 hl
theorem ev_callVv {M2 : MM} {As : List Value} {Q2 : Value → DD → Prop} {idx n : Nat} {b ci : Nat} {N : Nat} {C0 : String} {T : u_T} {ty0 : Nat → FieldType} {sl : List (Option Nat)} (hd : decode (mC M) pc = .ok (.invokevirtual idx, 3)) (hs : S[b]? = some (4, ci, sl)) (hc : ClsOk ci C0 T N ty0) (hC : (mY M2).cls = C0) (hw : Cond.methodLink (mOwn M) idx (mY M2) ∈ wT) (mo : MvOk M2 n) (hk2 : mK M2 = 0) (hR : RmOk M M2) (hn : As.length = n) (hst : st = As.reverse ++ .ref b :: rest) (hcat : (rest.map fun v => v.category).sum ≤ 8) (hcn : Cn S M2 (.ref b :: As) d Q2) (k : ∀ d2, Q2 .null d2 → Ev S M (pc + 3) ls rest d2 Q) : Ev S M pc ls st d Q := by
  intro p l e s m args below meth c D ad cA A H locs la C hP hD hS hl
  obtain ⟨hx, hb, hml, hr, hlk, hown, hts, hK, hA, hE⟩ := id C
  subst hst
  obtain ⟨hpre, hF⟩ := cn_pre (As := (.ref b :: As)) C hP hD hS
  have hM := hcn l D ad cA H.size
  rw [show QQ S (mK M2) D ad cA (va_A (wsOf ad cA S d) H.size) Q2 = va_Qv (fun d => Q2 .null d) (fun (d : DD) t => va_P D vwCl (wsOf ad cA S d) t.heap) (va_A (wsOf ad cA S d) H.size) by rw [hk2]; rfl] at hM
  have e0 : ((rest.map (cv ad)).map fun v => v.category) = rest.map fun v => v.category := by rw [List.map_map]; exact List.map_congr_left fun v _ => cv_cat ad v
  have es : (As.reverse ++ .ref b :: rest).map (cv ad) = (As.map (cv ad)).reverse ++ .ref (ad b) :: rest.map (cv ad) := by simp [cv]
  rw [es]
  obtain ⟨m1, m2, m3, m4, m5⟩ := mo
  have hG : GoodIn wT (wsV (mOwn M) idx C0 (mY M2) (mW M2)) := by
    subst hC
    intro w hw2
    rcases List.mem_append.mp hw2 with h | h
    · simp only [List.mem_cons, List.not_mem_nil, or_false] at h
      rcases h with rfl | rfl | rfl | rfl
      · exact good1 hw
      · exact good1 m1
      · exact good1 m2
      · exact good1 m3
    · exact mW_good m4 w h
  refine va_callv (va_runV (As := As.map (cv ad)) (rest := rest.map (cv ad)) (C := C0) ⟨hx, hb, hml, hown, hts⟩ hM (cwV n hts hG rfl rfl rfl ⟨hC, m5⟩ hR) ⟨hpre.1, va_recv hK hP hc.1 (wsOf_get hs), hpre.2⟩ rfl (by rw [List.length_map]; exact hn) hl.1 rfl (lv_room (by rw [e0]; exact hcat)) hd ⟨Nat.zero_le _, Nat.zero_le _⟩) hS (fun q _ h => hF q h) hF (fun d2 t H1 locs1 ht hvm hq hB hz hk hS1 => ?_)
  rw [ht] at hB
  exact k d2 hq p l e s m args below meth c D ad cA A H1 locs1 la C hB (wsOf_D hD) hS1 hl
theorem ev_callSi {M2 : MM} {As : List Value} {Q2 : Value → DD → Prop} {idx n : Nat} (hd : decode (mC M) pc = .ok (.invokestatic idx, 3)) (hw : Cond.methodLink (mOwn M) idx (mY M2) ∈ wT) (mo : MsOk M2 n) (hk2 : mK M2 = 1) (hR : RmOk M M2) (hn : As.length = n) (hst : st = As.reverse ++ rest) (hcat : (rest.map fun v => v.category).sum ≤ 8) (hcn : Cn S M2 As d Q2) (k : ∀ (r : Int32) d2, Q2 (.int r) d2 → Ev S M (pc + 3) ls (.int r :: rest) d2 Q) : Ev S M pc ls st d Q := by
  intro p l e s m args below meth c D ad cA A H locs la C hP hD hS hl
  obtain ⟨hx, hb, hml, hr, hlk, hown, hts, hK, hA, hE⟩ := id C
  subst hst
  obtain ⟨hpre, hF⟩ := cn_pre (As := As) C hP hD hS
  have hM := hcn l D ad cA H.size
  rw [show QQ S (mK M2) D ad cA (va_A (wsOf ad cA S d) H.size) Q2 = va_Qi (fun r d => Q2 (.int r) d) (fun (d : DD) t => va_P D vwCl (wsOf ad cA S d) t.heap) (va_A (wsOf ad cA S d) H.size) by rw [hk2]; rfl] at hM
  have e0 : ((rest.map (cv ad)).map fun v => v.category) = rest.map fun v => v.category := by rw [List.map_map]; exact List.map_congr_left fun v _ => cv_cat ad v
  have es : (As.reverse ++ rest).map (cv ad) = (As.map (cv ad)).reverse ++ rest.map (cv ad) := by simp
  rw [es]
  obtain ⟨m1, m3, m4, m5⟩ := mo
  have hG : GoodIn wT (va_wsS (mOwn M) idx (mY M2) (mW M2)) := by
    intro w hw2
    rcases List.mem_append.mp hw2 with h | h
    · simp only [List.mem_cons, List.not_mem_nil, or_false] at h
      rcases h with rfl | rfl | rfl
      · exact good1 hw
      · exact good1 m1
      · exact good1 m3
    · exact mW_good m4 w h
  refine va_calli (va_runS (As := As.map (cv ad)) (rest := rest.map (cv ad)) ⟨hx, hb, hml, hown, hts⟩ hM (va_cwS n hts hG rfl rfl rfl m5 hR) hpre rfl (by rw [List.length_map]; exact hn) hl.1 rfl (lv_room (by rw [e0]; exact hcat)) hd ⟨Nat.zero_le _, Nat.zero_le _⟩) hS (fun q _ h => hF q h) hF (fun r d2 t H1 locs1 ht hvm hq hB hz hk hS1 => ?_)
  rw [ht] at hB
  exact k r d2 hq p l e s m args below meth c D ad cA A H1 locs1 la C hB (wsOf_D hD) hS1 hl
theorem ev_callSl {M2 : MM} {As : List Value} {Q2 : Value → DD → Prop} {idx n : Nat} (hd : decode (mC M) pc = .ok (.invokestatic idx, 3)) (hw : Cond.methodLink (mOwn M) idx (mY M2) ∈ wT) (mo : MsOk M2 n) (hk2 : mK M2 = 2) (hR : RmOk M M2) (hn : As.length = n) (hst : st = As.reverse ++ rest) (hcat : (rest.map fun v => v.category).sum ≤ 8) (hcn : Cn S M2 As d Q2) (k : ∀ (r : Int64) d2, Q2 (.long r) d2 → Ev S M (pc + 3) ls (.long r :: rest) d2 Q) : Ev S M pc ls st d Q := by
  intro p l e s m args below meth c D ad cA A H locs la C hP hD hS hl
  obtain ⟨hx, hb, hml, hr, hlk, hown, hts, hK, hA, hE⟩ := id C
  subst hst
  obtain ⟨hpre, hF⟩ := cn_pre (As := As) C hP hD hS
  have hM := hcn l D ad cA H.size
  rw [show QQ S (mK M2) D ad cA (va_A (wsOf ad cA S d) H.size) Q2 = va_Ql (fun r d => Q2 (.long r) d) (fun (d : DD) t => va_P D vwCl (wsOf ad cA S d) t.heap) (va_A (wsOf ad cA S d) H.size) by rw [hk2]; rfl] at hM
  have e0 : ((rest.map (cv ad)).map fun v => v.category) = rest.map fun v => v.category := by rw [List.map_map]; exact List.map_congr_left fun v _ => cv_cat ad v
  have es : (As.reverse ++ rest).map (cv ad) = (As.map (cv ad)).reverse ++ rest.map (cv ad) := by simp
  rw [es]
  obtain ⟨m1, m3, m4, m5⟩ := mo
  have hG : GoodIn wT (va_wsS (mOwn M) idx (mY M2) (mW M2)) := by
    intro w hw2
    rcases List.mem_append.mp hw2 with h | h
    · simp only [List.mem_cons, List.not_mem_nil, or_false] at h
      rcases h with rfl | rfl | rfl
      · exact good1 hw
      · exact good1 m1
      · exact good1 m3
    · exact mW_good m4 w h
  refine va_calll (va_runS (As := As.map (cv ad)) (rest := rest.map (cv ad)) ⟨hx, hb, hml, hown, hts⟩ hM (va_cwS n hts hG rfl rfl rfl m5 hR) hpre rfl (by rw [List.length_map]; exact hn) hl.1 rfl (lv_room (by rw [e0]; exact hcat)) hd ⟨Nat.zero_le _, Nat.zero_le _⟩) hS (fun q _ h => hF q h) hF (fun r d2 t H1 locs1 ht hvm hq hB hz hk hS1 => ?_)
  rw [ht] at hB
  exact k r d2 hq p l e s m args below meth c D ad cA A H1 locs1 la C hB (wsOf_D hD) hS1 hl
theorem ev_callSv {M2 : MM} {As : List Value} {Q2 : Value → DD → Prop} {idx n : Nat} (hd : decode (mC M) pc = .ok (.invokestatic idx, 3)) (hw : Cond.methodLink (mOwn M) idx (mY M2) ∈ wT) (mo : MsOk M2 n) (hk2 : mK M2 = 0) (hR : RmOk M M2) (hn : As.length = n) (hst : st = As.reverse ++ rest) (hcat : (rest.map fun v => v.category).sum ≤ 8) (hcn : Cn S M2 As d Q2) (k : ∀ d2, Q2 .null d2 → Ev S M (pc + 3) ls rest d2 Q) : Ev S M pc ls st d Q := by
  intro p l e s m args below meth c D ad cA A H locs la C hP hD hS hl
  obtain ⟨hx, hb, hml, hr, hlk, hown, hts, hK, hA, hE⟩ := id C
  subst hst
  obtain ⟨hpre, hF⟩ := cn_pre (As := As) C hP hD hS
  have hM := hcn l D ad cA H.size
  rw [show QQ S (mK M2) D ad cA (va_A (wsOf ad cA S d) H.size) Q2 = va_Qv (fun d => Q2 .null d) (fun (d : DD) t => va_P D vwCl (wsOf ad cA S d) t.heap) (va_A (wsOf ad cA S d) H.size) by rw [hk2]; rfl] at hM
  have e0 : ((rest.map (cv ad)).map fun v => v.category) = rest.map fun v => v.category := by rw [List.map_map]; exact List.map_congr_left fun v _ => cv_cat ad v
  have es : (As.reverse ++ rest).map (cv ad) = (As.map (cv ad)).reverse ++ rest.map (cv ad) := by simp
  rw [es]
  obtain ⟨m1, m3, m4, m5⟩ := mo
  have hG : GoodIn wT (va_wsS (mOwn M) idx (mY M2) (mW M2)) := by
    intro w hw2
    rcases List.mem_append.mp hw2 with h | h
    · simp only [List.mem_cons, List.not_mem_nil, or_false] at h
      rcases h with rfl | rfl | rfl
      · exact good1 hw
      · exact good1 m1
      · exact good1 m3
    · exact mW_good m4 w h
  refine va_callv (va_runS (As := As.map (cv ad)) (rest := rest.map (cv ad)) ⟨hx, hb, hml, hown, hts⟩ hM (va_cwS n hts hG rfl rfl rfl m5 hR) hpre rfl (by rw [List.length_map]; exact hn) hl.1 rfl (lv_room (by rw [e0]; exact hcat)) hd ⟨Nat.zero_le _, Nat.zero_le _⟩) hS (fun q _ h => hF q h) hF (fun d2 t H1 locs1 ht hvm hq hB hz hk hS1 => ?_)
  rw [ht] at hB
  exact k d2 hq p l e s m args below meth c D ad cA A H1 locs1 la C hB (wsOf_D hD) hS1 hl
theorem ev_callNi {M2 : MM} {As : List Value} {Q2 : Value → DD → Prop} {idx n : Nat} (hd : decode (mC M) pc = .ok (.invokestatic idx, 3)) {host : String} (j0 : Nat) (hw : nestL[j0]? = some (Cond.methodLinkNest (mOwn M) idx (mY M2) host)) (mo : MsOk M2 n) (hk2 : mK M2 = 1) (hR : RmOk M M2) (hn : As.length = n) (hst : st = As.reverse ++ rest) (hcat : (rest.map fun v => v.category).sum ≤ 8) (hcn : Cn S M2 As d Q2) (k : ∀ (r : Int32) d2, Q2 (.int r) d2 → Ev S M (pc + 3) ls (.int r :: rest) d2 Q) : Ev S M pc ls st d Q := by
  intro p l e s m args below meth c D ad cA A H locs la C hP hD hS hl
  obtain ⟨hx, hb, hml, hr, hlk, hown, hts, hK, hA, hE⟩ := id C
  subst hst
  obtain ⟨hpre, hF⟩ := cn_pre (As := As) C hP hD hS
  have hM := hcn l D ad cA H.size
  rw [show QQ S (mK M2) D ad cA (va_A (wsOf ad cA S d) H.size) Q2 = va_Qi (fun r d => Q2 (.int r) d) (fun (d : DD) t => va_P D vwCl (wsOf ad cA S d) t.heap) (va_A (wsOf ad cA S d) H.size) by rw [hk2]; rfl] at hM
  have e0 : ((rest.map (cv ad)).map fun v => v.category) = rest.map fun v => v.category := by rw [List.map_map]; exact List.map_congr_left fun v _ => cv_cat ad v
  have es : (As.reverse ++ rest).map (cv ad) = (As.map (cv ad)).reverse ++ rest.map (cv ad) := by simp
  rw [es]
  obtain ⟨m1, m3, m4, m5⟩ := mo
  refine va_calli (va_runSN (As := As.map (cv ad)) (rest := rest.map (cv ad)) ⟨hx, hb, hml, hown, hts⟩ hM ⟨va_cnB n hts (mW_good m4) rfl rfl rfl (hE.1 j0 _ hw) (hts _ m3) m5 hR, hts _ m1, trivial⟩ hpre rfl (by rw [List.length_map]; exact hn) hl.1 rfl (lv_room (by rw [e0]; exact hcat)) hd ⟨Nat.zero_le _, Nat.zero_le _⟩) hS (fun q _ h => hF q h) hF (fun r d2 t H1 locs1 ht hvm hq hB hz hk hS1 => ?_)
  rw [ht] at hB
  exact k r d2 hq p l e s m args below meth c D ad cA A H1 locs1 la C hB (wsOf_D hD) hS1 hl
theorem ev_callNl {M2 : MM} {As : List Value} {Q2 : Value → DD → Prop} {idx n : Nat} (hd : decode (mC M) pc = .ok (.invokestatic idx, 3)) {host : String} (j0 : Nat) (hw : nestL[j0]? = some (Cond.methodLinkNest (mOwn M) idx (mY M2) host)) (mo : MsOk M2 n) (hk2 : mK M2 = 2) (hR : RmOk M M2) (hn : As.length = n) (hst : st = As.reverse ++ rest) (hcat : (rest.map fun v => v.category).sum ≤ 8) (hcn : Cn S M2 As d Q2) (k : ∀ (r : Int64) d2, Q2 (.long r) d2 → Ev S M (pc + 3) ls (.long r :: rest) d2 Q) : Ev S M pc ls st d Q := by
  intro p l e s m args below meth c D ad cA A H locs la C hP hD hS hl
  obtain ⟨hx, hb, hml, hr, hlk, hown, hts, hK, hA, hE⟩ := id C
  subst hst
  obtain ⟨hpre, hF⟩ := cn_pre (As := As) C hP hD hS
  have hM := hcn l D ad cA H.size
  rw [show QQ S (mK M2) D ad cA (va_A (wsOf ad cA S d) H.size) Q2 = va_Ql (fun r d => Q2 (.long r) d) (fun (d : DD) t => va_P D vwCl (wsOf ad cA S d) t.heap) (va_A (wsOf ad cA S d) H.size) by rw [hk2]; rfl] at hM
  have e0 : ((rest.map (cv ad)).map fun v => v.category) = rest.map fun v => v.category := by rw [List.map_map]; exact List.map_congr_left fun v _ => cv_cat ad v
  have es : (As.reverse ++ rest).map (cv ad) = (As.map (cv ad)).reverse ++ rest.map (cv ad) := by simp
  rw [es]
  obtain ⟨m1, m3, m4, m5⟩ := mo
  refine va_calll (va_runSN (As := As.map (cv ad)) (rest := rest.map (cv ad)) ⟨hx, hb, hml, hown, hts⟩ hM ⟨va_cnB n hts (mW_good m4) rfl rfl rfl (hE.1 j0 _ hw) (hts _ m3) m5 hR, hts _ m1, trivial⟩ hpre rfl (by rw [List.length_map]; exact hn) hl.1 rfl (lv_room (by rw [e0]; exact hcat)) hd ⟨Nat.zero_le _, Nat.zero_le _⟩) hS (fun q _ h => hF q h) hF (fun r d2 t H1 locs1 ht hvm hq hB hz hk hS1 => ?_)
  rw [ht] at hB
  exact k r d2 hq p l e s m args below meth c D ad cA A H1 locs1 la C hB (wsOf_D hD) hS1 hl
theorem ev_callNv {M2 : MM} {As : List Value} {Q2 : Value → DD → Prop} {idx n : Nat} (hd : decode (mC M) pc = .ok (.invokestatic idx, 3)) {host : String} (j0 : Nat) (hw : nestL[j0]? = some (Cond.methodLinkNest (mOwn M) idx (mY M2) host)) (mo : MsOk M2 n) (hk2 : mK M2 = 0) (hR : RmOk M M2) (hn : As.length = n) (hst : st = As.reverse ++ rest) (hcat : (rest.map fun v => v.category).sum ≤ 8) (hcn : Cn S M2 As d Q2) (k : ∀ d2, Q2 .null d2 → Ev S M (pc + 3) ls rest d2 Q) : Ev S M pc ls st d Q := by
  intro p l e s m args below meth c D ad cA A H locs la C hP hD hS hl
  obtain ⟨hx, hb, hml, hr, hlk, hown, hts, hK, hA, hE⟩ := id C
  subst hst
  obtain ⟨hpre, hF⟩ := cn_pre (As := As) C hP hD hS
  have hM := hcn l D ad cA H.size
  rw [show QQ S (mK M2) D ad cA (va_A (wsOf ad cA S d) H.size) Q2 = va_Qv (fun d => Q2 .null d) (fun (d : DD) t => va_P D vwCl (wsOf ad cA S d) t.heap) (va_A (wsOf ad cA S d) H.size) by rw [hk2]; rfl] at hM
  have e0 : ((rest.map (cv ad)).map fun v => v.category) = rest.map fun v => v.category := by rw [List.map_map]; exact List.map_congr_left fun v _ => cv_cat ad v
  have es : (As.reverse ++ rest).map (cv ad) = (As.map (cv ad)).reverse ++ rest.map (cv ad) := by simp
  rw [es]
  obtain ⟨m1, m3, m4, m5⟩ := mo
  refine va_callv (va_runSN (As := As.map (cv ad)) (rest := rest.map (cv ad)) ⟨hx, hb, hml, hown, hts⟩ hM ⟨va_cnB n hts (mW_good m4) rfl rfl rfl (hE.1 j0 _ hw) (hts _ m3) m5 hR, hts _ m1, trivial⟩ hpre rfl (by rw [List.length_map]; exact hn) hl.1 rfl (lv_room (by rw [e0]; exact hcat)) hd ⟨Nat.zero_le _, Nat.zero_le _⟩) hS (fun q _ h => hF q h) hF (fun d2 t H1 locs1 ht hvm hq hB hz hk hS1 => ?_)
  rw [ht] at hB
  exact k d2 hq p l e s m args below meth c D ad cA A H1 locs1 la C hB (wsOf_D hD) hS1 hl
end
section
variable {S : List Shp} {M : MM} {pc : Nat} {ls st rest : List Value} {d : DD} {Q : Value → DD → Prop}
theorem ev_topi {x : Int32} (k : ∀ y : Int32, y = x → Ev S M pc ls (.int y :: st) d Q) : Ev S M pc ls (.int x :: st) d Q := k x rfl
theorem ev_topl {x : Int64} (k : ∀ y : Int64, y = x → Ev S M pc ls (.long y :: st) d Q) : Ev S M pc ls (.long x :: st) d Q := k x rfl
theorem ev_topd {d1 : DD} (k : ∀ d2 : DD, d2 = d1 → Ev S M pc ls st d2 Q) : Ev S M pc ls st d1 Q := k d1 rfl
theorem rI_dn {q : Int32 → DD → Prop} {r : Int32} (h : rI q (.int r) d) : q r d := h
theorem rL_dn {q : Int64 → DD → Prop} {r : Int64} (h : rL q (.long r) d) : q r d := h
theorem rV_dn {q : DD → Prop} {v : Value} (h : rV q v d) : q d := h
theorem iin {x m : Int32} {n : Int} (h : Int32.ofInt n = m) : x + Int32.ofInt n = x + m := by rw [h]
theorem Ev.forget {ls2 : List Value} (k : Ev S M pc ls2 st d Q) (h : ∀ (i : Nat) (v : Value), ls2[i]? = some v → isJ v = false → ls[i]? = some v) : Ev S M pc ls st d Q := by
  intro p l e s m args below meth c D ad cA A H locs la C hP hD hS hl
  exact k p l e s m args below meth c D ad cA A H locs la C hP hD hS ⟨hl.1, hl.2.1, fun i v hi hj => hl.2.2 i v (h i v hi hj) hj⟩
/-- places that may be forgotten -/
def junks : List Bool → List Value → List Value
  | true :: bs, _ :: vs => uJ :: junks bs vs
  | false :: bs, v :: vs => v :: junks bs vs
  | _, vs => vs
theorem junks_of {i : Nat} {v : Value} : ∀ {bs : List Bool} {ls : List Value} {i : Nat}, (junks bs ls)[i]? = some v → isJ v = false → ls[i]? = some v := by
  intro bs
  induction bs with
  | nil => intro ls i h _; exact h
  | cons b bs ih =>
    intro ls i h hj
    cases ls with
    | nil => cases b <;> exact h
    | cons w ws =>
      cases i with
      | zero =>
        cases b
        · exact h
        · obtain rfl := Option.some.inj h; cases hj
      | succ i =>
        cases b
        · exact ih (ls := ws) h hj
        · exact ih (ls := ws) h hj
theorem lsub_of {ls2 : List Value} {bs : List Bool} (e : junks bs ls = ls2) (i : Nat) (v : Value) (h : ls2[i]? = some v) (hj : isJ v = false) : ls[i]? = some v := junks_of (i := i) (bs := bs) (by rw [e]; exact h) hj
theorem lsw_d2 {a b oa ob dflt n : Int} (h1 : n ≠ a) (h2 : n ≠ b) : Op.lookupswitch.offset #[(a, oa), (b, ob)].toList dflt n = dflt := by
  show (if a = n then oa else if b = n then ob else dflt) = dflt
  rw [if_neg (Ne.symm h1), if_neg (Ne.symm h2)]
/-! String constants -/
theorem ev_sval {idx i : Nat} (hi : i < 6) (hd : decode (mC M) pc = .ok (.getfield idx, 3)) (hw : Cond.fieldLink (mOwn M) idx "java/lang/String" "value" "[B" ∈ wT) (k : Ev S M (pc + 3) ls (.ref (2000 + i) :: st) d Q) : Ev S M pc ls (.ref (1000 + i) :: st) d Q := by
  intro p l e s m args below meth c D ad cA A H locs la C hP hD hS hl
  obtain ⟨hx, hb, hml, hr, hlk, hown, hts, hK, hA, hE⟩ := id C
  exact vk_getf hx hb (hE.2.2.1.1 i hi).2.2.1 hS hown (hts _ hw) (fun _ z => z) hd (k p l e s m args below meth c D ad cA A H locs la C hP hD hS hl)
theorem ev_scod {idx i : Nat} (hi : i < 6) (hd : decode (mC M) pc = .ok (.getfield idx, 3)) (hw : Cond.fieldLink (mOwn M) idx "java/lang/String" "coder" "B" ∈ wT) (k : Ev S M (pc + 3) ls (.int 0 :: st) d Q) : Ev S M pc ls (.ref (1000 + i) :: st) d Q := by
  intro p l e s m args below meth c D ad cA A H locs la C hP hD hS hl
  obtain ⟨hx, hb, hml, hr, hlk, hown, hts, hK, hA, hE⟩ := id C
  exact vk_getf hx hb (hE.2.2.1.1 i hi).2.1 hS hown (hts _ hw) (fun _ z => z) hd (k p l e s m args below meth c D ad cA A H locs la C hP hD hS hl)
theorem ev_gcomp {idx : Nat} (hd : decode (mC M) pc = .ok (.getstatic idx, 3)) (hw : Cond.fieldLink (mOwn M) idx "java/lang/String" "COMPACT_STRINGS" "Z" ∈ wT) (k : Ev S M (pc + 3) ls (.int 1 :: st) d Q) : Ev S M pc ls st d Q := by
  intro p l e s m args below meth c D ad cA A H locs la C hP hD hS hl
  obtain ⟨hx, hb, hml, hr, hlk, hown, hts, hK, hA, hE⟩ := id C
  exact va_gets hx hb hE.2.2.2.1 hS hown (hts _ hw) (fun _ z => z) hd (k p l e s m args below meth c D ad cA A H locs la C hP hD hS hl)
theorem ev_gfmt {idx : Nat} (hd : decode (mC M) pc = .ok (.getstatic idx, 3)) (hw : Cond.fieldLink (mOwn M) idx "jdk/internal/util/Preconditions" "SIOOBE_FORMATTER" "Ljava/util/function/BiFunction;" ∈ wT) (k : ∀ v : Value, v.category = 1 → Ev S M (pc + 3) ls (v :: st) d Q) : Ev S M pc ls st d Q := by
  intro p l e s m args below meth c D ad cA A H locs la C hP hD hS hl
  obtain ⟨hx, hb, hml, hr, hlk, hown, hts, hK, hA, hE⟩ := id C
  rcases hE.2.2.2.2 with h | h
  · exact va_gets hx hb h hS hown (hts _ hw) (fun _ z => z) hd (k .null rfl p l e s m args below meth c D ad cA A H locs la C hP hD hS hl)
  · exact va_gets hx hb h hS hown (hts _ hw) (fun _ z => z) hd (k (.ref 3000) rfl p l e s m args below meth c D ad cA A H locs la C hP hD hS hl)
theorem ev_slen {i : Nat} (hi : i < 6) (hd : decode (mC M) pc = .ok (.arraylength, 1)) (k : Ev S M (pc + 1) ls (.int (nI (strLen.getD i 0)) :: st) d Q) : Ev S M pc ls (.ref (2000 + i) :: st) d Q := by
  intro p l e s m args below meth c D ad cA A H locs la C hP hD hS hl
  obtain ⟨hx, hb, hml, hr, hlk, hown, hts, hK, hA, hE⟩ := id C
  exact va_tlen hx hb (hE.2.2.1.1 i hi).2.2.2 hS rfl hd (k p l e s m args below meth c D ad cA A H locs la C hP hD hS hl)
theorem ev_sbald {i : Nat} {j : Int32} (hi : i < 6) (hd : decode (mC M) pc = .ok (.baload, 1)) (hin : vp_in j (strLen.getD i 0)) (k : Ev S M (pc + 1) ls (.int ((strByt.getD i []).getD j.toNatClampNeg 0) :: st) d Q) : Ev S M pc ls (.int j :: .ref (2000 + i) :: st) d Q := by
  intro p l e s m args below meth c D ad cA A H locs la C hP hD hS hl
  obtain ⟨hx, hb, hml, hr, hlk, hown, hts, hK, hA, hE⟩ := id C
  exact va_tb hx hb (hE.2.2.1.1 i hi).2.2.2 hS hin rfl hd (k p l e s m args below meth c D ad cA A H locs la C hP hD hS hl)
theorem ev_callTi {M2 : MM} {As : List Value} {Q2 : Value → DD → Prop} {idx n i : Nat} (hd : decode (mC M) pc = .ok (.invokevirtual idx, 3)) (hi : i < 6) (hw : Cond.methodLink (mOwn M) idx (mY M2) ∈ wT) (mo : MvOk M2 n) (hk2 : mK M2 = 1) (hR : RmOk M M2) (hn : As.length = n) (hst : st = As.reverse ++ .ref (1000 + i) :: rest) (hcat : (rest.map fun v => v.category).sum ≤ 8) (hcn : Cn S M2 (.ref (1000 + i) :: As) d Q2) (k : ∀ (r : Int32) d2, Q2 (.int r) d2 → Ev S M (pc + 3) ls (.int r :: rest) d2 Q) (hC : (mY M2).cls = "java/lang/String" := by rfl) : Ev S M pc ls st d Q := by
  intro p l e s m args below meth c D ad cA A H locs la C hP hD hS hl
  obtain ⟨hx, hb, hml, hr, hlk, hown, hts, hK, hA, hE⟩ := id C
  subst hst
  obtain ⟨hpre, hF⟩ := cn_pre (As := .ref (1000 + i) :: As) C hP hD hS
  have hM := hcn l D ad cA H.size
  rw [show QQ S (mK M2) D ad cA (va_A (wsOf ad cA S d) H.size) Q2 = va_Qi (fun r d => Q2 (.int r) d) (fun (d : DD) t => va_P D vwCl (wsOf ad cA S d) t.heap) (va_A (wsOf ad cA S d) H.size) by rw [hk2]; rfl] at hM
  have e0 : ((rest.map (cv ad)).map fun v => v.category) = rest.map fun v => v.category := by rw [List.map_map]; exact List.map_congr_left fun v _ => cv_cat ad v
  have es : (As.reverse ++ .ref (1000 + i) :: rest).map (cv ad) = (As.map (cv ad)).reverse ++ .ref (ad (1000 + i)) :: rest.map (cv ad) := by simp [cv]
  rw [es]
  obtain ⟨m1, m2, m3, m4, m5⟩ := mo
  have hG : GoodIn wT (wsV (mOwn M) idx "java/lang/String" (mY M2) (mW M2)) := by
    rw [← hC]
    intro w hw2
    rcases List.mem_append.mp hw2 with h | h
    · simp only [List.mem_cons, List.not_mem_nil, or_false] at h
      rcases h with rfl | rfl | rfl | rfl
      · exact good1 hw
      · exact good1 m1
      · exact good1 m2
      · exact good1 m3
    · exact mW_good m4 w h
  refine va_calli (va_runV (As := As.map (cv ad)) (rest := rest.map (cv ad)) (C := "java/lang/String") ⟨hx, hb, hml, hown, hts⟩ hM (cwV n hts hG rfl rfl rfl ⟨hC, m5⟩ hR) ⟨hpre.1, vk_recv hE.2.2.1 hi hS, hpre.2⟩ rfl (by rw [List.length_map]; exact hn) hl.1 rfl (lv_room (by rw [e0]; exact hcat)) hd ⟨Nat.zero_le _, Nat.zero_le _⟩) hS (fun q _ h => hF q h) hF (fun r d2 t H1 locs1 ht hvm hq hB hz hk hS1 => ?_)
  rw [ht] at hB
  exact k r d2 hq p l e s m args below meth c D ad cA A H1 locs1 la C hB (wsOf_D hD) hS1 hl
/-! the two systems' shapes -/
def SX : List Shp := [(4, 4, [some 1, some 12, some 23, some 34, some 35, some 36, some 38, some 48, some 49, some 50, some 51, none, none]), (4, 0, [none, none, none, some 2, some 3, some 4, some 5, some 6, some 7, some 8, some 9, some 10, some 11]), (0, 4, []), (0, 4, []), (0, 4, []), (0, 4, []), (0, 32, []), (0, 4, []), (0, 4, []), (0, 4, []), (0, 4, []), (0, 6, []), (4, 0, [none, none, none, some 13, some 14, some 15, some 16, some 17, some 18, some 19, some 20, some 21, some 22]), (0, 4, []), (0, 4, []), (0, 4, []), (0, 4, []), (0, 32, []), (0, 4, []), (0, 4, []), (0, 4, []), (0, 4, []), (0, 6, []), (4, 0, [none, none, none, some 24, some 25, some 26, some 27, some 28, some 29, some 30, some 31, some 32, some 33]), (0, 4, []), (0, 4, []), (0, 4, []), (0, 4, []), (0, 32, []), (0, 4, []), (0, 4, []), (0, 4, []), (0, 4, []), (0, 6, []), (2, 2, [some 52, some 63]), (1, 2, []), (4, 3, [some 37, none, none, none, none, none, none]), (0, 160, []), (4, 1, [some 39, some 40, some 41, some 42, some 43, some 44, some 45, some 46, some 47, none]), (0, 4, []), (0, 4, []), (0, 4, []), (0, 4, []), (0, 4, []), (0, 4, []), (0, 4, []), (0, 4, []), (0, 64, []), (3, 4, [some 74, some 76, some 78, some 80]), (0, 6, []), (0, 6, []), (0, 6, []), (4, 0, [none, none, none, some 53, some 54, some 55, some 56, some 57, some 58, some 59, some 60, some 61, some 62]), (0, 4, []), (0, 4, []), (0, 4, []), (0, 4, []), (0, 32, []), (0, 4, []), (0, 4, []), (0, 4, []), (0, 4, []), (0, 6, []), (4, 0, [none, none, none, some 64, some 65, some 66, some 67, some 68, some 69, some 70, some 71, some 72, some 73]), (0, 4, []), (0, 4, []), (0, 4, []), (0, 4, []), (0, 32, []), (0, 4, []), (0, 4, []), (0, 4, []), (0, 4, []), (0, 6, []), (4, 2, [none, none, none, some 75]), (0, 40, []), (4, 2, [none, none, none, some 77]), (0, 40, []), (4, 2, [none, none, none, some 79]), (0, 40, []), (4, 2, [none, none, none, some 81]), (0, 40, [])]
theorem sX_0 : SX[0]? = some (4, 4, [some 1, some 12, some 23, some 34, some 35, some 36, some 38, some 48, some 49, some 50, some 51, none, none]) := rfl
theorem sX_1 : SX[1]? = some (4, 0, [none, none, none, some 2, some 3, some 4, some 5, some 6, some 7, some 8, some 9, some 10, some 11]) := rfl
theorem sX_2 : SX[2]? = some (0, 4, []) := rfl
theorem sX_3 : SX[3]? = some (0, 4, []) := rfl
theorem sX_4 : SX[4]? = some (0, 4, []) := rfl
theorem sX_5 : SX[5]? = some (0, 4, []) := rfl
theorem sX_6 : SX[6]? = some (0, 32, []) := rfl
theorem sX_7 : SX[7]? = some (0, 4, []) := rfl
theorem sX_8 : SX[8]? = some (0, 4, []) := rfl
theorem sX_9 : SX[9]? = some (0, 4, []) := rfl
theorem sX_10 : SX[10]? = some (0, 4, []) := rfl
theorem sX_11 : SX[11]? = some (0, 6, []) := rfl
theorem sX_12 : SX[12]? = some (4, 0, [none, none, none, some 13, some 14, some 15, some 16, some 17, some 18, some 19, some 20, some 21, some 22]) := rfl
theorem sX_13 : SX[13]? = some (0, 4, []) := rfl
theorem sX_14 : SX[14]? = some (0, 4, []) := rfl
theorem sX_15 : SX[15]? = some (0, 4, []) := rfl
theorem sX_16 : SX[16]? = some (0, 4, []) := rfl
theorem sX_17 : SX[17]? = some (0, 32, []) := rfl
theorem sX_18 : SX[18]? = some (0, 4, []) := rfl
theorem sX_19 : SX[19]? = some (0, 4, []) := rfl
theorem sX_20 : SX[20]? = some (0, 4, []) := rfl
theorem sX_21 : SX[21]? = some (0, 4, []) := rfl
theorem sX_22 : SX[22]? = some (0, 6, []) := rfl
theorem sX_23 : SX[23]? = some (4, 0, [none, none, none, some 24, some 25, some 26, some 27, some 28, some 29, some 30, some 31, some 32, some 33]) := rfl
theorem sX_24 : SX[24]? = some (0, 4, []) := rfl
theorem sX_25 : SX[25]? = some (0, 4, []) := rfl
theorem sX_26 : SX[26]? = some (0, 4, []) := rfl
theorem sX_27 : SX[27]? = some (0, 4, []) := rfl
theorem sX_28 : SX[28]? = some (0, 32, []) := rfl
theorem sX_29 : SX[29]? = some (0, 4, []) := rfl
theorem sX_30 : SX[30]? = some (0, 4, []) := rfl
theorem sX_31 : SX[31]? = some (0, 4, []) := rfl
theorem sX_32 : SX[32]? = some (0, 4, []) := rfl
theorem sX_33 : SX[33]? = some (0, 6, []) := rfl
theorem sX_34 : SX[34]? = some (2, 2, [some 52, some 63]) := rfl
theorem sX_35 : SX[35]? = some (1, 2, []) := rfl
theorem sX_36 : SX[36]? = some (4, 3, [some 37, none, none, none, none, none, none]) := rfl
theorem sX_37 : SX[37]? = some (0, 160, []) := rfl
theorem sX_38 : SX[38]? = some (4, 1, [some 39, some 40, some 41, some 42, some 43, some 44, some 45, some 46, some 47, none]) := rfl
theorem sX_39 : SX[39]? = some (0, 4, []) := rfl
theorem sX_40 : SX[40]? = some (0, 4, []) := rfl
theorem sX_41 : SX[41]? = some (0, 4, []) := rfl
theorem sX_42 : SX[42]? = some (0, 4, []) := rfl
theorem sX_43 : SX[43]? = some (0, 4, []) := rfl
theorem sX_44 : SX[44]? = some (0, 4, []) := rfl
theorem sX_45 : SX[45]? = some (0, 4, []) := rfl
theorem sX_46 : SX[46]? = some (0, 4, []) := rfl
theorem sX_47 : SX[47]? = some (0, 64, []) := rfl
theorem sX_48 : SX[48]? = some (3, 4, [some 74, some 76, some 78, some 80]) := rfl
theorem sX_49 : SX[49]? = some (0, 6, []) := rfl
theorem sX_50 : SX[50]? = some (0, 6, []) := rfl
theorem sX_51 : SX[51]? = some (0, 6, []) := rfl
theorem sX_52 : SX[52]? = some (4, 0, [none, none, none, some 53, some 54, some 55, some 56, some 57, some 58, some 59, some 60, some 61, some 62]) := rfl
theorem sX_53 : SX[53]? = some (0, 4, []) := rfl
theorem sX_54 : SX[54]? = some (0, 4, []) := rfl
theorem sX_55 : SX[55]? = some (0, 4, []) := rfl
theorem sX_56 : SX[56]? = some (0, 4, []) := rfl
theorem sX_57 : SX[57]? = some (0, 32, []) := rfl
theorem sX_58 : SX[58]? = some (0, 4, []) := rfl
theorem sX_59 : SX[59]? = some (0, 4, []) := rfl
theorem sX_60 : SX[60]? = some (0, 4, []) := rfl
theorem sX_61 : SX[61]? = some (0, 4, []) := rfl
theorem sX_62 : SX[62]? = some (0, 6, []) := rfl
theorem sX_63 : SX[63]? = some (4, 0, [none, none, none, some 64, some 65, some 66, some 67, some 68, some 69, some 70, some 71, some 72, some 73]) := rfl
theorem sX_64 : SX[64]? = some (0, 4, []) := rfl
theorem sX_65 : SX[65]? = some (0, 4, []) := rfl
theorem sX_66 : SX[66]? = some (0, 4, []) := rfl
theorem sX_67 : SX[67]? = some (0, 4, []) := rfl
theorem sX_68 : SX[68]? = some (0, 32, []) := rfl
theorem sX_69 : SX[69]? = some (0, 4, []) := rfl
theorem sX_70 : SX[70]? = some (0, 4, []) := rfl
theorem sX_71 : SX[71]? = some (0, 4, []) := rfl
theorem sX_72 : SX[72]? = some (0, 4, []) := rfl
theorem sX_73 : SX[73]? = some (0, 6, []) := rfl
theorem sX_74 : SX[74]? = some (4, 2, [none, none, none, some 75]) := rfl
theorem sX_75 : SX[75]? = some (0, 40, []) := rfl
theorem sX_76 : SX[76]? = some (4, 2, [none, none, none, some 77]) := rfl
theorem sX_77 : SX[77]? = some (0, 40, []) := rfl
theorem sX_78 : SX[78]? = some (4, 2, [none, none, none, some 79]) := rfl
theorem sX_79 : SX[79]? = some (0, 40, []) := rfl
theorem sX_80 : SX[80]? = some (4, 2, [none, none, none, some 81]) := rfl
theorem sX_81 : SX[81]? = some (0, 40, []) := rfl
def SM : List Shp := [(4, 5, [some 1, none, none, none, some 2, none, none, none, none, some 3, none, none, none, none, none, none, none, none, some 4, some 5, some 6, some 7, some 8, some 9, some 10, some 11, none, some 12, none, none, some 13, some 14, some 15, some 16, none]), (0, 350, []), (0, 70, []), (0, 160, []), (0, 7, []), (0, 33, []), (0, 4, []), (0, 4, []), (0, 4, []), (0, 4, []), (0, 4, []), (0, 160, []), (0, 18, []), (1, 2, []), (0, 4, []), (0, 4, []), (0, 160, [])]
theorem sM_0 : SM[0]? = some (4, 5, [some 1, none, none, none, some 2, none, none, none, none, some 3, none, none, none, none, none, none, none, none, some 4, some 5, some 6, some 7, some 8, some 9, some 10, some 11, none, some 12, none, none, some 13, some 14, some 15, some 16, none]) := rfl
theorem sM_1 : SM[1]? = some (0, 350, []) := rfl
theorem sM_2 : SM[2]? = some (0, 70, []) := rfl
theorem sM_3 : SM[3]? = some (0, 160, []) := rfl
theorem sM_4 : SM[4]? = some (0, 7, []) := rfl
theorem sM_5 : SM[5]? = some (0, 33, []) := rfl
theorem sM_6 : SM[6]? = some (0, 4, []) := rfl
theorem sM_7 : SM[7]? = some (0, 4, []) := rfl
theorem sM_8 : SM[8]? = some (0, 4, []) := rfl
theorem sM_9 : SM[9]? = some (0, 4, []) := rfl
theorem sM_10 : SM[10]? = some (0, 4, []) := rfl
theorem sM_11 : SM[11]? = some (0, 160, []) := rfl
theorem sM_12 : SM[12]? = some (0, 18, []) := rfl
theorem sM_13 : SM[13]? = some (1, 2, []) := rfl
theorem sM_14 : SM[14]? = some (0, 4, []) := rfl
theorem sM_15 : SM[15]? = some (0, 4, []) := rfl
theorem sM_16 : SM[16]? = some (0, 160, []) := rfl
def isH (b : Nat) : Prop := b = 1 ∨ b = 12 ∨ b = 23 ∨ b = 52 ∨ b = 63
def isSh (b : Nat) : Prop := b = 74 ∨ b = 76 ∨ b = 78 ∨ b = 80
theorem hH_0 {b : Nat} (h : isH b) : SX[b]? = some (4, 0, [none, none, none, some (b + 1), some (b + 2), some (b + 3), some (b + 4), some (b + 5), some (b + 6), some (b + 7), some (b + 8), some (b + 9), some (b + 10)]) := by
  rcases h with rfl | rfl | rfl | rfl | rfl <;> rfl
theorem hH_1 {b : Nat} (h : isH b) : SX[b + 1]? = some (0, 4, []) := by
  rcases h with rfl | rfl | rfl | rfl | rfl <;> rfl
theorem hH_2 {b : Nat} (h : isH b) : SX[b + 2]? = some (0, 4, []) := by
  rcases h with rfl | rfl | rfl | rfl | rfl <;> rfl
theorem hH_3 {b : Nat} (h : isH b) : SX[b + 3]? = some (0, 4, []) := by
  rcases h with rfl | rfl | rfl | rfl | rfl <;> rfl
theorem hH_4 {b : Nat} (h : isH b) : SX[b + 4]? = some (0, 4, []) := by
  rcases h with rfl | rfl | rfl | rfl | rfl <;> rfl
theorem hH_5 {b : Nat} (h : isH b) : SX[b + 5]? = some (0, 32, []) := by
  rcases h with rfl | rfl | rfl | rfl | rfl <;> rfl
theorem hH_6 {b : Nat} (h : isH b) : SX[b + 6]? = some (0, 4, []) := by
  rcases h with rfl | rfl | rfl | rfl | rfl <;> rfl
theorem hH_7 {b : Nat} (h : isH b) : SX[b + 7]? = some (0, 4, []) := by
  rcases h with rfl | rfl | rfl | rfl | rfl <;> rfl
theorem hH_8 {b : Nat} (h : isH b) : SX[b + 8]? = some (0, 4, []) := by
  rcases h with rfl | rfl | rfl | rfl | rfl <;> rfl
theorem hH_9 {b : Nat} (h : isH b) : SX[b + 9]? = some (0, 4, []) := by
  rcases h with rfl | rfl | rfl | rfl | rfl <;> rfl
theorem hH_10 {b : Nat} (h : isH b) : SX[b + 10]? = some (0, 6, []) := by
  rcases h with rfl | rfl | rfl | rfl | rfl <;> rfl
theorem hS_0 {b : Nat} (h : isSh b) : SX[b]? = some (4, 2, [none, none, none, some (b + 1)]) := by
  rcases h with rfl | rfl | rfl | rfl <;> rfl
theorem hS_1 {b : Nat} (h : isSh b) : SX[b + 1]? = some (0, 40, []) := by
  rcases h with rfl | rfl | rfl | rfl <;> rfl
def shB (k : Int32) : Nat := 74 + 2 * k.toNatClampNeg
def imB (k : Int32) : Nat := 52 + 11 * k.toNatClampNeg
theorem inb_of {i : Int32} {n : Nat} (h : (decide (¬ i < 0) && decide (i.toNatClampNeg < n)) = true) : vp_in i n := by
  simp only [Bool.and_eq_true, decide_eq_true_eq] at h
  exact fun q => q.elim h.1 (fun z => by omega)
theorem vp_lt {k : Int32} {n : Nat} (h : vp_in k n) : k.toNatClampNeg < n := Nat.not_le.mp fun q => h (Or.inr q)
theorem ev_aalds {i : Int32} (hd : decode (mC M) pc = .ok (.aaload, 1)) (hs : SX[48]? = some (3, 4, [some 74, some 76, some 78, some 80])) (hin : vp_in i 4) (k : ∀ b : Nat, isSh b → b = shB i → Ev SX M (pc + 1) ls (.ref b :: st) d Q) : Ev SX M pc ls (.int i :: .ref 48 :: st) d Q := by
  refine ev_aald (r := shB i) hd hs (Or.inr rfl) hin ?_ (k _ ?_ rfl)
  · have h := vp_lt hin
    unfold shB
    generalize i.toNatClampNeg = j at h
    match j, h with
    | 0, _ => rfl
    | 1, _ => rfl
    | 2, _ => rfl
    | 3, _ => rfl
  · have h := vp_lt hin
    unfold shB isSh
    omega
theorem ev_aaldh {i : Int32} (hd : decode (mC M) pc = .ok (.aaload, 1)) (hs : SX[34]? = some (2, 2, [some 52, some 63])) (hin : vp_in i 2) (k : ∀ b : Nat, isH b → b = imB i → Ev SX M (pc + 1) ls (.ref b :: st) d Q) : Ev SX M pc ls (.int i :: .ref 34 :: st) d Q := by
  refine ev_aald (r := imB i) hd hs (Or.inl rfl) hin ?_ (k _ ?_ rfl)
  · have h := vp_lt hin
    unfold imB
    generalize i.toNatClampNeg = j at h
    match j, h with
    | 0, _ => rfl
    | 1, _ => rfl
  · have h := vp_lt hin
    unfold imB isH
    omega
theorem nest_0 : nestL[0]? = some (Cond.methodLinkNest RX3 129 yX4_within "TuneWard") := rfl
theorem nest_1 : nestL[1]? = some (Cond.methodLinkNest RX0 58 yX4_within "TuneWard") := rfl
theorem nest_2 : nestL[2]? = some (Cond.methodLinkNest RX0 85 yX4_exchange "TuneWard") := rfl
theorem cb_m20 : (Int8.ofInt (-20)).toInt32 = -20 := by decide +kernel
theorem cb_m14 : (Int8.ofInt (-14)).toInt32 = -14 := by decide +kernel
theorem cb_m12 : (Int8.ofInt (-12)).toInt32 = -12 := by decide +kernel
theorem cb_m11 : (Int8.ofInt (-11)).toInt32 = -11 := by decide +kernel
theorem cb_m10 : (Int8.ofInt (-10)).toInt32 = -10 := by decide +kernel
theorem cb_m4 : (Int8.ofInt (-4)).toInt32 = -4 := by decide +kernel
theorem cb_m3 : (Int8.ofInt (-3)).toInt32 = -3 := by decide +kernel
theorem cb_m2 : (Int8.ofInt (-2)).toInt32 = -2 := by decide +kernel
theorem cb_6 : (Int8.ofInt (6)).toInt32 = 6 := by decide +kernel
theorem cb_8 : (Int8.ofInt (8)).toInt32 = 8 := by decide +kernel
theorem cb_9 : (Int8.ofInt (9)).toInt32 = 9 := by decide +kernel
theorem cb_10 : (Int8.ofInt (10)).toInt32 = 10 := by decide +kernel
theorem cb_12 : (Int8.ofInt (12)).toInt32 = 12 := by decide +kernel
theorem cb_16 : (Int8.ofInt (16)).toInt32 = 16 := by decide +kernel
theorem cb_20 : (Int8.ofInt (20)).toInt32 = 20 := by decide +kernel
theorem cb_24 : (Int8.ofInt (24)).toInt32 = 24 := by decide +kernel
theorem cb_32 : (Int8.ofInt (32)).toInt32 = 32 := by decide +kernel
theorem cb_40 : (Int8.ofInt (40)).toInt32 = 40 := by decide +kernel
theorem cb_48 : (Int8.ofInt (48)).toInt32 = 48 := by decide +kernel
theorem cb_52 : (Int8.ofInt (52)).toInt32 = 52 := by decide +kernel
theorem cb_56 : (Int8.ofInt (56)).toInt32 = 56 := by decide +kernel
theorem cb_57 : (Int8.ofInt (57)).toInt32 = 57 := by decide +kernel
theorem cb_59 : (Int8.ofInt (59)).toInt32 = 59 := by decide +kernel
theorem cb_60 : (Int8.ofInt (60)).toInt32 = 60 := by decide +kernel
theorem cb_63 : (Int8.ofInt (63)).toInt32 = 63 := by decide +kernel
theorem cb_64 : (Int8.ofInt (64)).toInt32 = 64 := by decide +kernel
theorem cb_70 : (Int8.ofInt (70)).toInt32 = 70 := by decide +kernel
theorem cb_97 : (Int8.ofInt (97)).toInt32 = 97 := by decide +kernel
theorem cb_99 : (Int8.ofInt (99)).toInt32 = 99 := by decide +kernel
theorem cb_100 : (Int8.ofInt (100)).toInt32 = 100 := by decide +kernel
theorem cb_122 : (Int8.ofInt (122)).toInt32 = 122 := by decide +kernel
theorem cb_127 : (Int8.ofInt (127)).toInt32 = 127 := by decide +kernel
theorem ci_m1 : Int32.ofInt (-1) = -1 := by decide +kernel
theorem ci_0 : Int32.ofInt (0) = 0 := by decide +kernel
theorem ci_1 : Int32.ofInt (1) = 1 := by decide +kernel
theorem ci_2 : Int32.ofInt (2) = 2 := by decide +kernel
theorem ci_3 : Int32.ofInt (3) = 3 := by decide +kernel
theorem ci_4 : Int32.ofInt (4) = 4 := by decide +kernel
theorem ci_5 : Int32.ofInt (5) = 5 := by decide +kernel
theorem cs_144 : (Int16.ofInt (144)).toInt32 = 144 := by decide +kernel
theorem cs_159 : (Int16.ofInt (159)).toInt32 = 159 := by decide +kernel
theorem cs_160 : (Int16.ofInt (160)).toInt32 = 160 := by decide +kernel
theorem cs_210 : (Int16.ofInt (210)).toInt32 = 210 := by decide +kernel
theorem cs_255 : (Int16.ofInt (255)).toInt32 = 255 := by decide +kernel
theorem cs_280 : (Int16.ofInt (280)).toInt32 = 280 := by decide +kernel
theorem cs_12345 : (Int16.ofInt (12345)).toInt32 = 12345 := by decide +kernel
theorem cs_32767 : (Int16.ofInt (32767)).toInt32 = 32767 := by decide +kernel
theorem ck0 : ClsOk 0 RX0 TX0 13 tyX0 := by
  refine ⟨rfl, u_wsIn (fun k hk => ?_), tyX0_ok, nmX0⟩
  match k, hk with
  | 0, _ => exact w131
  | 1, _ => exact w133
  | 2, _ => exact w135
  | 3, _ => exact w137
  | 4, _ => exact w139
  | 5, _ => exact w141
  | 6, _ => exact w143
  | 7, _ => exact w145
  | 8, _ => exact w147
  | 9, _ => exact w149
  | 10, _ => exact w151
  | 11, _ => exact w153
  | 12, _ => exact w155
  | k + 13, h => exact absurd h (by omega)
theorem ck1 : ClsOk 1 RX1 TX1 10 tyX1 := by
  refine ⟨rfl, u_wsIn (fun k hk => ?_), tyX1_ok, nmX1⟩
  match k, hk with
  | 0, _ => exact w211
  | 1, _ => exact w213
  | 2, _ => exact w215
  | 3, _ => exact w217
  | 4, _ => exact w219
  | 5, _ => exact w221
  | 6, _ => exact w223
  | 7, _ => exact w225
  | 8, _ => exact w227
  | 9, _ => exact w229
  | k + 10, h => exact absurd h (by omega)
theorem ck2 : ClsOk 2 RX2 TX2 4 tyX2 := by
  refine ⟨rfl, u_wsIn (fun k hk => ?_), tyX2_ok, nmX2⟩
  match k, hk with
  | 0, _ => exact w247
  | 1, _ => exact w249
  | 2, _ => exact w251
  | 3, _ => exact w253
  | k + 4, h => exact absurd h (by omega)
theorem ck3 : ClsOk 3 RX3 TX3 7 tyX3 := by
  refine ⟨rfl, u_wsIn (fun k hk => ?_), tyX3_ok, nmX3⟩
  match k, hk with
  | 0, _ => exact w175
  | 1, _ => exact w177
  | 2, _ => exact w179
  | 3, _ => exact w181
  | 4, _ => exact w183
  | 5, _ => exact w185
  | 6, _ => exact w187
  | k + 7, h => exact absurd h (by omega)
theorem ck4 : ClsOk 4 RX4 TX4 13 tyX4 := by
  refine ⟨rfl, u_wsIn (fun k hk => ?_), tyX4_ok, nmX4⟩
  match k, hk with
  | 0, _ => exact w269
  | 1, _ => exact w271
  | 2, _ => exact w273
  | 3, _ => exact w275
  | 4, _ => exact w277
  | 5, _ => exact w279
  | 6, _ => exact w281
  | 7, _ => exact w283
  | 8, _ => exact w285
  | 9, _ => exact w287
  | 10, _ => exact w289
  | 11, _ => exact w291
  | 12, _ => exact w293
  | k + 13, h => exact absurd h (by omega)
theorem ck5 : ClsOk 5 RX5 TX5 35 tyX5 := by
  refine ⟨rfl, u_wsIn (fun k hk => ?_), tyX5_ok, nmX5⟩
  match k, hk with
  | 0, _ => exact w801
  | 1, _ => exact w803
  | 2, _ => exact w805
  | 3, _ => exact w807
  | 4, _ => exact w809
  | 5, _ => exact w811
  | 6, _ => exact w813
  | 7, _ => exact w815
  | 8, _ => exact w817
  | 9, _ => exact w819
  | 10, _ => exact w821
  | 11, _ => exact w823
  | 12, _ => exact w825
  | 13, _ => exact w827
  | 14, _ => exact w829
  | 15, _ => exact w831
  | 16, _ => exact w833
  | 17, _ => exact w835
  | 18, _ => exact w837
  | 19, _ => exact w839
  | 20, _ => exact w841
  | 21, _ => exact w843
  | 22, _ => exact w845
  | 23, _ => exact w847
  | 24, _ => exact w849
  | 25, _ => exact w851
  | 26, _ => exact w853
  | 27, _ => exact w855
  | 28, _ => exact w857
  | 29, _ => exact w859
  | 30, _ => exact w861
  | 31, _ => exact w863
  | 32, _ => exact w865
  | 33, _ => exact w867
  | 34, _ => exact w869
  | k + 35, h => exact absurd h (by omega)
abbrev MJ0_length_8abf5 : MM := (RJ0, yJ0_length_8abf5, cJ0_length_8abf5, 1, (some .int), 1, 1, 20)
theorem moJ0_length_8abf5 : MvOk MJ0_length_8abf5 0 := ⟨w346, w347, w60, w348, by decide +kernel, by decide +kernel, by decide +kernel⟩
abbrev MJ0_charAt_5068e : MM := (RJ0, yJ0_charAt_5068e, cJ0_charAt_5068e, 2, (some .char), 1, 3, 64)
theorem moJ0_charAt_5068e : MvOk MJ0_charAt_5068e 1 := ⟨w356, w357, w60, w358, by decide +kernel, by decide +kernel, by decide +kernel⟩
abbrev MJ0_coder_7d493 : MM := (RJ0, yJ0_coder_7d493, cJ0_coder_7d493, 1, (some .byte), 1, 0, 0)
theorem moJ0_coder_7d493 : MvOk MJ0_coder_7d493 0 := ⟨w350, w351, w60, w352, by decide +kernel, by decide +kernel, by decide +kernel⟩
abbrev MJ0_isLatin1_aae02 : MM := (RJ0, yJ0_isLatin1_aae02, cJ0_isLatin1_aae02, 1, (some .boolean), 1, 0, 0)
theorem moJ0_isLatin1_aae02 : MvOk MJ0_isLatin1_aae02 0 := ⟨w360, w361, w60, w362, by decide +kernel, by decide +kernel, by decide +kernel⟩
abbrev MJ0_checkIndex_df160 : MM := (RJ0, yJ0_checkIndex_df160, cJ0_checkIndex_df160, 2, none, 0, 1, 22)
theorem moJ0_checkIndex_df160 : MsOk MJ0_checkIndex_df160 2 := ⟨w367, w60, w368, by decide +kernel, by decide +kernel, by decide +kernel⟩
abbrev MJ1_charAt_3b067 : MM := (RJ1, yJ1_charAt_3b067, cJ1_charAt_3b067, 2, (some .char), 1, 2, 43)
theorem moJ1_charAt_3b067 : MsOk MJ1_charAt_3b067 2 := ⟨w364, w61, w365, by decide +kernel, by decide +kernel, by decide +kernel⟩
abbrev MJ3_checkIndex_8e157 : MM := (RJ3, yJ3_checkIndex_8e157, cJ3_checkIndex_8e157, 3, (some .int), 1, 0, 0)
theorem moJ3_checkIndex_8e157 : MsOk MJ3_checkIndex_8e157 3 := ⟨w372, w62, w373, by decide +kernel, by decide +kernel, by decide +kernel⟩
abbrev MX0_clear : MM := (RX0, yX0_clear, cX0_clear, 1, none, 0, 0, 0)
theorem moX0_clear : MvOk MX0_clear 0 := ⟨w320, w321, w55, w322, by decide +kernel, by decide +kernel, by decide +kernel⟩
abbrev MX0_become : MM := (RX0, yX0_become, cX0_become, 2, none, 0, 1, 26)
theorem moX0_become : MvOk MX0_become 1 := ⟨w432, w433, w55, w434, by decide +kernel, by decide +kernel, by decide +kernel⟩
abbrev MX0_hasTune : MM := (RX0, yX0_hasTune, cX0_hasTune, 2, (some .boolean), 1, 1, 22)
theorem moX0_hasTune : MvOk MX0_hasTune 1 := ⟨w427, w428, w55, w429, by decide +kernel, by decide +kernel, by decide +kernel⟩
abbrev MX0_hasNote : MM := (RX0, yX0_hasNote, cX0_hasNote, 3, (some .boolean), 1, 2, 43)
theorem moX0_hasNote : MvOk MX0_hasNote 2 := ⟨w468, w469, w55, w470, by decide +kernel, by decide +kernel, by decide +kernel⟩
abbrev MX0_hasPlayer : MM := (RX0, yX0_hasPlayer, cX0_hasPlayer, 2, (some .boolean), 1, 1, 22)
theorem moX0_hasPlayer : MvOk MX0_hasPlayer 1 := ⟨w491, w492, w55, w493, by decide +kernel, by decide +kernel, by decide +kernel⟩
abbrev MX0_hasPrisoner : MM := (RX0, yX0_hasPrisoner, cX0_hasPrisoner, 2, (some .boolean), 1, 1, 22)
theorem moX0_hasPrisoner : MvOk MX0_hasPrisoner 1 := ⟨w499, w500, w55, w501, by decide +kernel, by decide +kernel, by decide +kernel⟩
abbrev MX0_rowLength : MM := (RX0, yX0_rowLength, cX0_rowLength, 2, (some .int), 1, 0, 0)
theorem moX0_rowLength : MsOk MX0_rowLength 2 := ⟨w457, w55, w458, by decide +kernel, by decide +kernel, by decide +kernel⟩
abbrev MX0_lengthAs : MM := (RX0, yX0_lengthAs, cX0_lengthAs, 3, (some .int), 1, 1, 21)
theorem moX0_lengthAs : MvOk MX0_lengthAs 2 := ⟨w453, w454, w55, w455, by decide +kernel, by decide +kernel, by decide +kernel⟩
abbrev MX0_rowNote : MM := (RX0, yX0_rowNote, cX0_rowNote, 7, (some .int), 1, 1, 21)
theorem moX0_rowNote : MvOk MX0_rowNote 3 := ⟨w480, w481, w55, w482, by decide +kernel, by decide +kernel, by decide +kernel⟩
abbrev MX0_noteAs : MM := (RX0, yX0_noteAs, cX0_noteAs, 6, (some .int), 1, 2, 47)
theorem moX0_noteAs : MvOk MX0_noteAs 3 := ⟨w476, w477, w55, w478, by decide +kernel, by decide +kernel, by decide +kernel⟩
abbrev MX0_boundTo : MM := (RX0, yX0_boundTo, cX0_boundTo, 4, (some .int), 1, 0, 0)
theorem moX0_boundTo : MvOk MX0_boundTo 1 := ⟨w460, w461, w55, w462, by decide +kernel, by decide +kernel, by decide +kernel⟩
abbrev MX0_allNotes : MM := (RX0, yX0_allNotes, cX0_allNotes, 3, (some .int), 1, 0, 0)
theorem moX0_allNotes : MvOk MX0_allNotes 0 := ⟨w717, w718, w55, w719, by decide +kernel, by decide +kernel, by decide +kernel⟩
abbrev MX0_allLengths : MM := (RX0, yX0_allLengths, cX0_allLengths, 3, (some .int), 1, 2, 43)
theorem moX0_allLengths : MvOk MX0_allLengths 0 := ⟨w756, w757, w55, w758, by decide +kernel, by decide +kernel, by decide +kernel⟩
abbrev MX0_rebind : MM := (RX0, yX0_rebind, cX0_rebind, 3, (some .int), 1, 2, 43)
theorem moX0_rebind : MvOk MX0_rebind 2 := ⟨w526, w527, w55, w528, by decide +kernel, by decide +kernel, by decide +kernel⟩
abbrev MX0_spoil : MM := (RX0, yX0_spoil, cX0_spoil, 4, none, 0, 0, 0)
theorem moX0_spoil : MvOk MX0_spoil 2 := ⟨w705, w706, w55, w707, by decide +kernel, by decide +kernel, by decide +kernel⟩
abbrev MX0_allTunesAreThere : MM := (RX0, yX0_allTunesAreThere, cX0_allTunesAreThere, 2, (some .boolean), 1, 2, 43)
theorem moX0_allTunesAreThere : MvOk MX0_allTunesAreThere 0 := ⟨w423, w424, w55, w425, by decide +kernel, by decide +kernel, by decide +kernel⟩
abbrev MX1_run : MM := (RX1, yX1_run, cX1_run, 6, none, 0, 3, 72)
theorem moX1_run : MvOk MX1_run 2 := ⟨w540, w541, w57, w542, by decide +kernel, by decide +kernel, by decide +kernel⟩
abbrev MX1_prepareTune : MM := (RX1, yX1_prepareTune, cX1_prepareTune, 5, none, 0, 2, 47)
theorem moX1_prepareTune : MvOk MX1_prepareTune 2 := ⟨w545, w11, w57, w546, by decide +kernel, by decide +kernel, by decide +kernel⟩
abbrev MX1_finish : MM := (RX1, yX1_finish, cX1_finish, 4, none, 0, 0, 0)
theorem moX1_finish : MvOk MX1_finish 3 := ⟨w556, w13, w57, w557, by decide +kernel, by decide +kernel, by decide +kernel⟩
abbrev MX1_noteHeard : MM := (RX1, yX1_noteHeard, cX1_noteHeard, 6, (some .int), 1, 1, 23)
theorem moX1_noteHeard : MvOk MX1_noteHeard 3 := ⟨w552, w12, w57, w553, by decide +kernel, by decide +kernel, by decide +kernel⟩
abbrev MX1_playerOf : MM := (RX1, yX1_playerOf, cX1_playerOf, 4, (some .int), 1, 0, 0)
theorem moX1_playerOf : MvOk MX1_playerOf 2 := ⟨w560, w14, w57, w561, by decide +kernel, by decide +kernel, by decide +kernel⟩
abbrev MX1_crossAll : MM := (RX1, yX1_crossAll, cX1_crossAll, 5, none, 0, 2, 48)
theorem moX1_crossAll : MvOk MX1_crossAll 2 := ⟨w564, w15, w57, w565, by decide +kernel, by decide +kernel, by decide +kernel⟩
abbrev MX1_crossThird : MM := (RX1, yX1_crossThird, cX1_crossThird, 6, none, 0, 1, 23)
theorem moX1_crossThird : MvOk MX1_crossThird 4 := ⟨w568, w16, w57, w569, by decide +kernel, by decide +kernel, by decide +kernel⟩
abbrev MX1_outAt : MM := (RX1, yX1_outAt, cX1_outAt, 3, (some .int), 1, 0, 0)
theorem moX1_outAt : MvOk MX1_outAt 2 := ⟨w610, w611, w57, w612, by decide +kernel, by decide +kernel, by decide +kernel⟩
abbrev MX1_getsAway : MM := (RX1, yX1_getsAway, cX1_getsAway, 3, (some .boolean), 1, 0, 0)
theorem moX1_getsAway : MvOk MX1_getsAway 2 := ⟨w588, w589, w57, w590, by decide +kernel, by decide +kernel, by decide +kernel⟩
abbrev MX1_away : MM := (RX1, yX1_away, cX1_away, 4, (some .int), 1, 1, 22)
theorem moX1_away : MvOk MX1_away 1 := ⟨w584, w585, w57, w586, by decide +kernel, by decide +kernel, by decide +kernel⟩
abbrev MX1_allOut : MM := (RX1, yX1_allOut, cX1_allOut, 5, (some .boolean), 1, 1, 22)
theorem moX1_allOut : MvOk MX1_allOut 3 := ⟨w644, w645, w57, w646, by decide +kernel, by decide +kernel, by decide +kernel⟩
abbrev MX1_cost : MM := (RX1, yX1_cost, cX1_cost, 4, (some .int), 1, 0, 0)
theorem moX1_cost : MvOk MX1_cost 1 := ⟨w592, w593, w57, w594, by decide +kernel, by decide +kernel, by decide +kernel⟩
abbrev MX1_lastOver : MM := (RX1, yX1_lastOver, cX1_lastOver, 4, (some .int), 1, 1, 21)
theorem moX1_lastOver : MvOk MX1_lastOver 1 := ⟨w596, w597, w57, w598, by decide +kernel, by decide +kernel, by decide +kernel⟩
abbrev MX1_crossedTunes : MM := (RX1, yX1_crossedTunes, cX1_crossedTunes, 4, (some .int), 1, 0, 0)
theorem moX1_crossedTunes : MvOk MX1_crossedTunes 1 := ⟨w601, w602, w57, w603, by decide +kernel, by decide +kernel, by decide +kernel⟩
abbrev MX2_renew : MM := (RX2, yX2_renew, cX2_renew, 4, none, 0, 0, 0)
theorem moX2_renew : MvOk MX2_renew 2 := ⟨w725, w726, w58, w727, by decide +kernel, by decide +kernel, by decide +kernel⟩
abbrev MX2_hasCell : MM := (RX2, yX2_hasCell, cX2_hasCell, 3, (some .boolean), 1, 0, 0)
theorem moX2_hasCell : MvOk MX2_hasCell 1 := ⟨w733, w734, w58, w735, by decide +kernel, by decide +kernel, by decide +kernel⟩
abbrev MX2_faultAs : MM := (RX2, yX2_faultAs, cX2_faultAs, 2, (some .int), 1, 0, 0)
theorem moX2_faultAs : MvOk MX2_faultAs 1 := ⟨w744, w745, w58, w746, by decide +kernel, by decide +kernel, by decide +kernel⟩
abbrev MX2_narrowed : MM := (RX2, yX2_narrowed, cX2_narrowed, 2, (some .int), 1, 0, 0)
theorem moX2_narrowed : MsOk MX2_narrowed 2 := ⟨w737, w58, w738, by decide +kernel, by decide +kernel, by decide +kernel⟩
abbrev MX3_append : MM := (RX3, yX3_append, cX3_append, 2, (some .int), 1, 0, 0)
theorem moX3_append : MvOk MX3_append 1 := ⟨w304, w305, w56, w306, by decide +kernel, by decide +kernel, by decide +kernel⟩
abbrev MX3_tellAll : MM := (RX3, yX3_tellAll, cX3_tellAll, 3, (some .int), 1, 6, 132)
theorem moX3_tellAll : MvOk MX3_tellAll 1 := ⟨w316, w317, w56, w318, by decide +kernel, by decide +kernel, by decide +kernel⟩
abbrev MX3_tellLine : MM := (RX3, yX3_tellLine, cX3_tellLine, 2, none, 0, 5, 111)
theorem moX3_tellLine : MvOk MX3_tellLine 1 := ⟨w334, w2, w56, w335, by decide +kernel, by decide +kernel, by decide +kernel⟩
abbrev MX3_tellTune : MM := (RX3, yX3_tellTune, cX3_tellTune, 6, none, 0, 4, 86)
theorem moX3_tellTune : MvOk MX3_tellTune 2 := ⟨w395, w5, w56, w396, by decide +kernel, by decide +kernel, by decide +kernel⟩
abbrev MX3_tellPlayer : MM := (RX3, yX3_tellPlayer, cX3_tellPlayer, 3, none, 0, 4, 86)
theorem moX3_tellPlayer : MvOk MX3_tellPlayer 1 := ⟨w415, w9, w56, w416, by decide +kernel, by decide +kernel, by decide +kernel⟩
abbrev MX3_tellBound : MM := (RX3, yX3_tellBound, cX3_tellBound, 3, none, 0, 4, 86)
theorem moX3_tellBound : MvOk MX3_tellBound 1 := ⟨w420, w10, w56, w421, by decide +kernel, by decide +kernel, by decide +kernel⟩
abbrev MX3_nextNumber : MM := (RX3, yX3_nextNumber, cX3_nextNumber, 3, (some .int), 1, 3, 64)
theorem moX3_nextNumber : MvOk MX3_nextNumber 2 := ⟨w399, w6, w56, w400, by decide +kernel, by decide +kernel, by decide +kernel⟩
abbrev MX3_number : MM := (RX3, yX3_number, cX3_number, 5, (some .int), 1, 1, 22)
theorem moX3_number : MvOk MX3_number 2 := ⟨w403, w7, w56, w404, by decide +kernel, by decide +kernel, by decide +kernel⟩
abbrev MX3_sign : MM := (RX3, yX3_sign, cX3_sign, 1, none, 0, 1, 22)
theorem moX3_sign : MvOk MX3_sign 0 := ⟨w407, w8, w56, w408, by decide +kernel, by decide +kernel, by decide +kernel⟩
abbrev MX3_fail : MM := (RX3, yX3_fail, cX3_fail, 3, none, 0, 0, 0)
theorem moX3_fail : MvOk MX3_fail 2 := ⟨w338, w3, w56, w339, by decide +kernel, by decide +kernel, by decide +kernel⟩
abbrev MX3_advance : MM := (RX3, yX3_advance, cX3_advance, 1, none, 0, 2, 44)
theorem moX3_advance : MvOk MX3_advance 0 := ⟨w325, w0, w56, w326, by decide +kernel, by decide +kernel, by decide +kernel⟩
abbrev MX3_pass : MM := (RX3, yX3_pass, cX3_pass, 3, none, 0, 1, 22)
theorem moX3_pass : MvOk MX3_pass 2 := ⟨w330, w1, w56, w331, by decide +kernel, by decide +kernel, by decide +kernel⟩
abbrev MX3_isName : MM := (RX3, yX3_isName, cX3_isName, 3, (some .boolean), 1, 4, 85)
theorem moX3_isName : MvOk MX3_isName 1 := ⟨w343, w4, w56, w344, by decide +kernel, by decide +kernel, by decide +kernel⟩
abbrev MX4_feed : MM := (RX4, yX4_feed, cX4_feed, 2, (some .int), 1, 1, 22)
theorem moX4_feed : MvOk MX4_feed 1 := ⟨w297, w298, w54, w299, by decide +kernel, by decide +kernel, by decide +kernel⟩
abbrev MX4_end : MM := (RX4, yX4_end, cX4_end, 3, (some .int), 1, 1, 22)
theorem moX4_end : MvOk MX4_end 1 := ⟨w308, w309, w54, w310, by decide +kernel, by decide +kernel, by decide +kernel⟩
abbrev MX4_text : MM := (RX4, yX4_text, cX4_text, 3, (some .int), 1, 7, 154)
theorem moX4_text : MvOk MX4_text 0 := ⟨w312, w313, w54, w314, by decide +kernel, by decide +kernel, by decide +kernel⟩
abbrev MX4_fault : MM := (RX4, yX4_fault, cX4_fault, 1, (some .int), 1, 0, 0)
theorem moX4_fault : MvOk MX4_fault 0 := ⟨w440, w441, w54, w442, by decide +kernel, by decide +kernel, by decide +kernel⟩
abbrev MX4_rule : MM := (RX4, yX4_rule, cX4_rule, 2, (some .int), 1, 0, 0)
theorem moX4_rule : MvOk MX4_rule 1 := ⟨w444, w445, w54, w446, by decide +kernel, by decide +kernel, by decide +kernel⟩
abbrev MX4_tune : MM := (RX4, yX4_tune, cX4_tune, 3, (some .int), 1, 2, 43)
theorem moX4_tune : MvOk MX4_tune 2 := ⟨w448, w449, w54, w450, by decide +kernel, by decide +kernel, by decide +kernel⟩
abbrev MX4_note : MM := (RX4, yX4_note, cX4_note, 3, (some .int), 1, 3, 65)
theorem moX4_note : MvOk MX4_note 2 := ⟨w464, w465, w54, w466, by decide +kernel, by decide +kernel, by decide +kernel⟩
abbrev MX4_has : MM := (RX4, yX4_has, cX4_has, 3, (some .int), 1, 3, 72)
theorem moX4_has : MvOk MX4_has 2 := ⟨w472, w473, w54, w474, by decide +kernel, by decide +kernel, by decide +kernel⟩
abbrev MX4_player : MM := (RX4, yX4_player, cX4_player, 3, (some .int), 1, 2, 43)
theorem moX4_player : MvOk MX4_player 2 := ⟨w487, w488, w54, w489, by decide +kernel, by decide +kernel, by decide +kernel⟩
abbrev MX4_bound : MM := (RX4, yX4_bound, cX4_bound, 2, (some .int), 1, 2, 43)
theorem moX4_bound : MvOk MX4_bound 1 := ⟨w495, w496, w54, w497, by decide +kernel, by decide +kernel, by decide +kernel⟩
abbrev MX4_write : MM := (RX4, yX4_write, cX4_write, 4, (some .int), 1, 3, 65)
theorem moX4_write : MvOk MX4_write 3 := ⟨w503, w504, w54, w505, by decide +kernel, by decide +kernel, by decide +kernel⟩
abbrev MX4_add : MM := (RX4, yX4_add, cX4_add, 4, (some .int), 1, 2, 43)
theorem moX4_add : MvOk MX4_add 2 := ⟨w510, w511, w54, w512, by decide +kernel, by decide +kernel, by decide +kernel⟩
abbrev MX4_set : MM := (RX4, yX4_set, cX4_set, 4, (some .int), 1, 2, 43)
theorem moX4_set : MvOk MX4_set 3 := ⟨w514, w515, w54, w516, by decide +kernel, by decide +kernel, by decide +kernel⟩
abbrev MX4_hire : MM := (RX4, yX4_hire, cX4_hire, 4, (some .int), 1, 2, 43)
theorem moX4_hire : MvOk MX4_hire 3 := ⟨w518, w519, w54, w520, by decide +kernel, by decide +kernel, by decide +kernel⟩
abbrev MX4_bind : MM := (RX4, yX4_bind, cX4_bind, 3, (some .int), 1, 3, 65)
theorem moX4_bind : MvOk MX4_bind 2 := ⟨w522, w523, w54, w524, by decide +kernel, by decide +kernel, by decide +kernel⟩
abbrev MX4_out : MM := (RX4, yX4_out, cX4_out, 3, (some .int), 1, 5, 119)
theorem moX4_out : MvOk MX4_out 2 := ⟨w532, w533, w54, w534, by decide +kernel, by decide +kernel, by decide +kernel⟩
abbrev MX4_over : MM := (RX4, yX4_over, cX4_over, 3, (some .int), 1, 4, 97)
theorem moX4_over : MvOk MX4_over 2 := ⟨w536, w537, w54, w538, by decide +kernel, by decide +kernel, by decide +kernel⟩
abbrev MX4_plays : MM := (RX4, yX4_plays, cX4_plays, 2, (some .int), 1, 4, 97)
theorem moX4_plays : MvOk MX4_plays 1 := ⟨w572, w573, w54, w574, by decide +kernel, by decide +kernel, by decide +kernel⟩
abbrev MX4_sounds : MM := (RX4, yX4_sounds, cX4_sounds, 4, (some .int), 1, 4, 97)
theorem moX4_sounds : MvOk MX4_sounds 1 := ⟨w576, w577, w54, w578, by decide +kernel, by decide +kernel, by decide +kernel⟩
abbrev MX4_sum : MM := (RX4, yX4_sum, cX4_sum, 2, (some .int), 1, 4, 97)
theorem moX4_sum : MvOk MX4_sum 1 := ⟨w580, w581, w54, w582, by decide +kernel, by decide +kernel, by decide +kernel⟩
abbrev MX4_first : MM := (RX4, yX4_first, cX4_first, 4, (some .int), 1, 4, 97)
theorem moX4_first : MvOk MX4_first 1 := ⟨w605, w606, w54, w607, by decide +kernel, by decide +kernel, by decide +kernel⟩
abbrev MX4_best : MM := (RX4, yX4_best, cX4_best, 10, (some .int), 1, 4, 97)
theorem moX4_best : MvOk MX4_best 1 := ⟨w614, w615, w54, w616, by decide +kernel, by decide +kernel, by decide +kernel⟩
abbrev MX4_apart : MM := (RX4, yX4_apart, cX4_apart, 8, (some .int), 1, 4, 97)
theorem moX4_apart : MvOk MX4_apart 1 := ⟨w625, w626, w54, w627, by decide +kernel, by decide +kernel, by decide +kernel⟩
abbrev MX4_compose : MM := (RX4, yX4_compose, cX4_compose, 6, (some .int), 1, 1, 22)
theorem moX4_compose : MvOk MX4_compose 2 := ⟨w629, w630, w54, w631, by decide +kernel, by decide +kernel, by decide +kernel⟩
abbrev MX4_bribe : MM := (RX4, yX4_bribe, cX4_bribe, 7, (some .int), 1, 4, 97)
theorem moX4_bribe : MvOk MX4_bribe 3 := ⟨w634, w635, w54, w636, by decide +kernel, by decide +kernel, by decide +kernel⟩
abbrev MX4_teach : MM := (RX4, yX4_teach, cX4_teach, 6, (some .int), 1, 4, 97)
theorem moX4_teach : MvOk MX4_teach 1 := ⟨w649, w650, w54, w651, by decide +kernel, by decide +kernel, by decide +kernel⟩
abbrev MX4_mean : MM := (RX4, yX4_mean, cX4_mean, 6, (some .long), 2, 4, 97)
theorem moX4_mean : MvOk MX4_mean 2 := ⟨w653, w654, w54, w655, by decide +kernel, by decide +kernel, by decide +kernel⟩
abbrev MX4_luck : MM := (RX4, yX4_luck, cX4_luck, 7, (some .long), 2, 4, 97)
theorem moX4_luck : MvOk MX4_luck 3 := ⟨w665, w666, w54, w667, by decide +kernel, by decide +kernel, by decide +kernel⟩
abbrev MX4_see : MM := (RX4, yX4_see, cX4_see, 5, (some .int), 1, 2, 43)
theorem moX4_see : MvOk MX4_see 3 := ⟨w669, w670, w54, w671, by decide +kernel, by decide +kernel, by decide +kernel⟩
abbrev MX4_forget : MM := (RX4, yX4_forget, cX4_forget, 3, (some .int), 1, 1, 22)
theorem moX4_forget : MvOk MX4_forget 1 := ⟨w673, w674, w54, w675, by decide +kernel, by decide +kernel, by decide +kernel⟩
abbrev MX4_fits : MM := (RX4, yX4_fits, cX4_fits, 2, (some .int), 1, 4, 97)
theorem moX4_fits : MvOk MX4_fits 1 := ⟨w677, w678, w54, w679, by decide +kernel, by decide +kernel, by decide +kernel⟩
abbrev MX4_listen : MM := (RX4, yX4_listen, cX4_listen, 8, (some .int), 1, 4, 100)
theorem moX4_listen : MvOk MX4_listen 2 := ⟨w685, w686, w54, w687, by decide +kernel, by decide +kernel, by decide +kernel⟩
abbrev MX4_drift : MM := (RX4, yX4_drift, cX4_drift, 9, (some .int), 1, 4, 97)
theorem moX4_drift : MvOk MX4_drift 3 := ⟨w694, w695, w54, w696, by decide +kernel, by decide +kernel, by decide +kernel⟩
abbrev MX4_keep : MM := (RX4, yX4_keep, cX4_keep, 3, (some .int), 1, 2, 47)
theorem moX4_keep : MvOk MX4_keep 1 := ⟨w709, w710, w54, w711, by decide +kernel, by decide +kernel, by decide +kernel⟩
abbrev MX4_back : MM := (RX4, yX4_back, cX4_back, 2, (some .int), 1, 2, 47)
theorem moX4_back : MvOk MX4_back 1 := ⟨w713, w714, w54, w715, by decide +kernel, by decide +kernel, by decide +kernel⟩
abbrev MX4_sheet : MM := (RX4, yX4_sheet, cX4_sheet, 4, (some .int), 1, 1, 23)
theorem moX4_sheet : MvOk MX4_sheet 3 := ⟨w721, w722, w54, w723, by decide +kernel, by decide +kernel, by decide +kernel⟩
abbrev MX4_lay : MM := (RX4, yX4_lay, cX4_lay, 5, (some .int), 1, 1, 22)
theorem moX4_lay : MvOk MX4_lay 3 := ⟨w729, w730, w54, w731, by decide +kernel, by decide +kernel, by decide +kernel⟩
abbrev MX4_read : MM := (RX4, yX4_read, cX4_read, 11, (some .int), 1, 3, 65)
theorem moX4_read : MvOk MX4_read 4 := ⟨w740, w741, w54, w742, by decide +kernel, by decide +kernel, by decide +kernel⟩
abbrev MX4_torn : MM := (RX4, yX4_torn, cX4_torn, 1, (some .int), 1, 0, 0)
theorem moX4_torn : MvOk MX4_torn 0 := ⟨w748, w749, w54, w750, by decide +kernel, by decide +kernel, by decide +kernel⟩
abbrev MX4_count : MM := (RX4, yX4_count, cX4_count, 2, (some .int), 1, 3, 65)
theorem moX4_count : MvOk MX4_count 1 := ⟨w752, w753, w54, w754, by decide +kernel, by decide +kernel, by decide +kernel⟩
abbrev MX4_within : MM := (RX4, yX4_within, cX4_within, 3, (some .boolean), 1, 0, 0)
theorem moX4_within : MsOk MX4_within 3 := ⟨w301, w54, w302, by decide +kernel, by decide +kernel, by decide +kernel⟩
abbrev MX4_exchange : MM := (RX4, yX4_exchange, cX4_exchange, 4, (some .int), 1, 0, 0)
theorem moX4_exchange : MsOk MX4_exchange 3 := ⟨w507, w54, w508, by decide +kernel, by decide +kernel, by decide +kernel⟩
abbrev MX4_power : MM := (RX4, yX4_power, cX4_power, 4, (some .int), 1, 0, 0)
theorem moX4_power : MsOk MX4_power 2 := ⟨w618, w54, w619, by decide +kernel, by decide +kernel, by decide +kernel⟩
abbrev MX4_spread : MM := (RX4, yX4_spread, cX4_spread, 6, none, 0, 0, 0)
theorem moX4_spread : MsOk MX4_spread 4 := ⟨w622, w54, w623, by decide +kernel, by decide +kernel, by decide +kernel⟩
abbrev MX4_weight : MM := (RX4, yX4_weight, cX4_weight, 6, (some .long), 2, 0, 0)
theorem moX4_weight : MvOk MX4_weight 2 := ⟨w659, w17, w54, w660, by decide +kernel, by decide +kernel, by decide +kernel⟩
abbrev MX4_inLowestTerms : MM := (RX4, yX4_inLowestTerms, cX4_inLowestTerms, 12, (some .long), 2, 0, 0)
theorem moX4_inLowestTerms : MsOk MX4_inLowestTerms 3 := ⟨w662, w54, w663, by decide +kernel, by decide +kernel, by decide +kernel⟩
abbrev MX4_fittingKinds : MM := (RX4, yX4_fittingKinds, cX4_fittingKinds, 6, (some .int), 1, 3, 72)
theorem moX4_fittingKinds : MvOk MX4_fittingKinds 1 := ⟨w682, w18, w54, w683, by decide +kernel, by decide +kernel, by decide +kernel⟩
abbrev MX4_leftAtWorst : MM := (RX4, yX4_leftAtWorst, cX4_leftAtWorst, 9, (some .int), 1, 3, 72)
theorem moX4_leftAtWorst : MvOk MX4_leftAtWorst 3 := ⟨w690, w19, w54, w691, by decide +kernel, by decide +kernel, by decide +kernel⟩
abbrev MX4_nextSeed : MM := (RX4, yX4_nextSeed, cX4_nextSeed, 1, (some .int), 1, 0, 0)
theorem moX4_nextSeed : MsOk MX4_nextSeed 1 := ⟨w698, w54, w699, by decide +kernel, by decide +kernel, by decide +kernel⟩
abbrev MX4_middleBits : MM := (RX4, yX4_middleBits, cX4_middleBits, 1, (some .int), 1, 0, 0)
theorem moX4_middleBits : MsOk MX4_middleBits 1 := ⟨w702, w54, w703, by decide +kernel, by decide +kernel, by decide +kernel⟩
abbrev MJ6_bitCount_0f7a4 : MM := (RJ6, yJ6_bitCount_0f7a4, cJ6_bitCount_0f7a4, 1, (some .int), 1, 0, 0)
theorem moJ6_bitCount_0f7a4 : MsOk MJ6_bitCount_0f7a4 1 := ⟨w638, w66, w639, by decide +kernel, by decide +kernel, by decide +kernel⟩
abbrev MX5_in : MM := (RX5, yX5_in, cX5_in, 6, (some .boolean), 1, 0, 0)
theorem moX5_in : MsOk MX5_in 3 := ⟨w878, w59, w879, by decide +kernel, by decide +kernel, by decide +kernel⟩
abbrev MX5_feed : MM := (RX5, yX5_feed, cX5_feed, 2, (some .int), 1, 1, 25)
theorem moX5_feed : MvOk MX5_feed 1 := ⟨w873, w874, w59, w875, by decide +kernel, by decide +kernel, by decide +kernel⟩
abbrev MX5_end : MM := (RX5, yX5_end, cX5_end, 3, (some .int), 1, 1, 25)
theorem moX5_end : MvOk MX5_end 1 := ⟨w881, w882, w59, w883, by decide +kernel, by decide +kernel, by decide +kernel⟩
abbrev MX5_byteAt : MM := (RX5, yX5_byteAt, cX5_byteAt, 2, (some .int), 1, 0, 0)
theorem moX5_byteAt : MvOk MX5_byteAt 1 := ⟨w894, w21, w59, w895, by decide +kernel, by decide +kernel, by decide +kernel⟩
abbrev MX5_fails : MM := (RX5, yX5_fails, cX5_fails, 2, none, 0, 0, 0)
theorem moX5_fails : MvOk MX5_fails 1 := ⟨w902, w22, w59, w903, by decide +kernel, by decide +kernel, by decide +kernel⟩
abbrev MX5_nameHere : MM := (RX5, yX5_nameHere, cX5_nameHere, 4, (some .int), 1, 1, 21)
theorem moX5_nameHere : MvOk MX5_nameHere 0 := ⟨w910, w24, w59, w911, by decide +kernel, by decide +kernel, by decide +kernel⟩
abbrev MX5_step : MM := (RX5, yX5_step, cX5_step, 2, none, 0, 1, 25)
theorem moX5_step : MvOk MX5_step 0 := ⟨w890, w20, w59, w891, by decide +kernel, by decide +kernel, by decide +kernel⟩
abbrev MX5_number : MM := (RX5, yX5_number, cX5_number, 4, (some .int), 1, 2, 46)
theorem moX5_number : MvOk MX5_number 2 := ⟨w923, w27, w59, w924, by decide +kernel, by decide +kernel, by decide +kernel⟩
abbrev MX5_tuneHere : MM := (RX5, yX5_tuneHere, cX5_tuneHere, 2, (some .int), 1, 3, 69)
theorem moX5_tuneHere : MvOk MX5_tuneHere 0 := ⟨w927, w28, w59, w928, by decide +kernel, by decide +kernel, by decide +kernel⟩
abbrev MX5_readTune : MM := (RX5, yX5_readTune, cX5_readTune, 4, none, 0, 3, 69)
theorem moX5_readTune : MvOk MX5_readTune 1 := ⟨w919, w26, w59, w920, by decide +kernel, by decide +kernel, by decide +kernel⟩
abbrev MX5_readMore : MM := (RX5, yX5_readMore, cX5_readMore, 2, none, 0, 4, 92)
theorem moX5_readMore : MvOk MX5_readMore 1 := ⟨w915, w25, w59, w916, by decide +kernel, by decide +kernel, by decide +kernel⟩
abbrev MX5_readLine : MM := (RX5, yX5_readLine, cX5_readLine, 2, none, 0, 5, 113)
theorem moX5_readLine : MvOk MX5_readLine 0 := ⟨w906, w23, w59, w907, by decide +kernel, by decide +kernel, by decide +kernel⟩
abbrev MX5_text : MM := (RX5, yX5_text, cX5_text, 3, (some .int), 1, 6, 134)
theorem moX5_text : MvOk MX5_text 0 := ⟨w885, w886, w59, w887, by decide +kernel, by decide +kernel, by decide +kernel⟩
abbrev MX5_fault : MM := (RX5, yX5_fault, cX5_fault, 1, (some .int), 1, 0, 0)
theorem moX5_fault : MvOk MX5_fault 0 := ⟨w930, w931, w59, w932, by decide +kernel, by decide +kernel, by decide +kernel⟩
abbrev MX5_isTune : MM := (RX5, yX5_isTune, cX5_isTune, 2, (some .boolean), 1, 1, 25)
theorem moX5_isTune : MvOk MX5_isTune 1 := ⟨w943, w29, w59, w944, by decide +kernel, by decide +kernel, by decide +kernel⟩
abbrev MX5_isPlayer : MM := (RX5, yX5_isPlayer, cX5_isPlayer, 2, (some .boolean), 1, 1, 25)
theorem moX5_isPlayer : MvOk MX5_isPlayer 1 := ⟨w986, w35, w59, w987, by decide +kernel, by decide +kernel, by decide +kernel⟩
abbrev MX5_isBound : MM := (RX5, yX5_isBound, cX5_isBound, 2, (some .boolean), 1, 1, 25)
theorem moX5_isBound : MvOk MX5_isBound 1 := ⟨w995, w36, w59, w996, by decide +kernel, by decide +kernel, by decide +kernel⟩
abbrev MX5_rule : MM := (RX5, yX5_rule, cX5_rule, 2, (some .int), 1, 0, 0)
theorem moX5_rule : MvOk MX5_rule 1 := ⟨w934, w935, w59, w936, by decide +kernel, by decide +kernel, by decide +kernel⟩
abbrev MX5_rowOf : MM := (RX5, yX5_rowOf, cX5_rowOf, 2, (some .int), 1, 0, 0)
theorem moX5_rowOf : MsOk MX5_rowOf 2 := ⟨w954, w59, w955, by decide +kernel, by decide +kernel, by decide +kernel⟩
abbrev MX5_lengthBy : MM := (RX5, yX5_lengthBy, cX5_lengthBy, 3, (some .int), 1, 1, 21)
theorem moX5_lengthBy : MvOk MX5_lengthBy 2 := ⟨w951, w31, w59, w952, by decide +kernel, by decide +kernel, by decide +kernel⟩
abbrev MX5_lengthOf : MM := (RX5, yX5_lengthOf, cX5_lengthOf, 2, (some .int), 1, 2, 43)
theorem moX5_lengthOf : MvOk MX5_lengthOf 1 := ⟨w947, w30, w59, w948, by decide +kernel, by decide +kernel, by decide +kernel⟩
abbrev MX5_noteBy : MM := (RX5, yX5_noteBy, cX5_noteBy, 8, (some .int), 1, 2, 43)
theorem moX5_noteBy : MvOk MX5_noteBy 3 := ⟨w978, w34, w59, w979, by decide +kernel, by decide +kernel, by decide +kernel⟩
abbrev MX5_boundTo : MM := (RX5, yX5_boundTo, cX5_boundTo, 4, (some .int), 1, 0, 0)
theorem moX5_boundTo : MvOk MX5_boundTo 1 := ⟨w958, w32, w59, w959, by decide +kernel, by decide +kernel, by decide +kernel⟩
abbrev MX5_tune : MM := (RX5, yX5_tune, cX5_tune, 3, (some .int), 1, 3, 64)
theorem moX5_tune : MvOk MX5_tune 2 := ⟨w938, w939, w59, w940, by decide +kernel, by decide +kernel, by decide +kernel⟩
abbrev MX5_isNote : MM := (RX5, yX5_isNote, cX5_isNote, 3, (some .boolean), 1, 2, 46)
theorem moX5_isNote : MvOk MX5_isNote 2 := ⟨w966, w33, w59, w967, by decide +kernel, by decide +kernel, by decide +kernel⟩
abbrev MX5_note : MM := (RX5, yX5_note, cX5_note, 3, (some .int), 1, 3, 68)
theorem moX5_note : MvOk MX5_note 2 := ⟨w961, w962, w59, w963, by decide +kernel, by decide +kernel, by decide +kernel⟩
abbrev MX5_isMinute : MM := (RX5, yX5_isMinute, cX5_isMinute, 1, (some .boolean), 1, 1, 25)
theorem moX5_isMinute : MsOk MX5_isMinute 1 := ⟨w973, w59, w974, by decide +kernel, by decide +kernel, by decide +kernel⟩
abbrev MX5_has : MM := (RX5, yX5_has, cX5_has, 3, (some .int), 1, 3, 70)
theorem moX5_has : MvOk MX5_has 2 := ⟨w969, w970, w59, w971, by decide +kernel, by decide +kernel, by decide +kernel⟩
abbrev MX5_player : MM := (RX5, yX5_player, cX5_player, 3, (some .int), 1, 2, 46)
theorem moX5_player : MvOk MX5_player 2 := ⟨w981, w982, w59, w983, by decide +kernel, by decide +kernel, by decide +kernel⟩
abbrev MX5_bound : MM := (RX5, yX5_bound, cX5_bound, 2, (some .int), 1, 2, 46)
theorem moX5_bound : MvOk MX5_bound 1 := ⟨w990, w991, w59, w992, by decide +kernel, by decide +kernel, by decide +kernel⟩
abbrev MX5_puts : MM := (RX5, yX5_puts, cX5_puts, 5, (some .int), 1, 0, 0)
theorem moX5_puts : MvOk MX5_puts 3 := ⟨w1004, w37, w59, w1005, by decide +kernel, by decide +kernel, by decide +kernel⟩
abbrev MX5_write : MM := (RX5, yX5_write, cX5_write, 4, (some .int), 1, 3, 68)
theorem moX5_write : MvOk MX5_write 3 := ⟨w998, w999, w59, w1000, by decide +kernel, by decide +kernel, by decide +kernel⟩
abbrev MX5_add : MM := (RX5, yX5_add, cX5_add, 3, (some .int), 1, 2, 46)
theorem moX5_add : MvOk MX5_add 2 := ⟨w1007, w1008, w59, w1009, by decide +kernel, by decide +kernel, by decide +kernel⟩
abbrev MX5_set : MM := (RX5, yX5_set, cX5_set, 5, (some .int), 1, 2, 46)
theorem moX5_set : MvOk MX5_set 3 := ⟨w1011, w1012, w59, w1013, by decide +kernel, by decide +kernel, by decide +kernel⟩
abbrev MX5_hire : MM := (RX5, yX5_hire, cX5_hire, 5, (some .int), 1, 2, 46)
theorem moX5_hire : MvOk MX5_hire 3 := ⟨w1015, w1016, w59, w1017, by decide +kernel, by decide +kernel, by decide +kernel⟩
abbrev MX5_binds : MM := (RX5, yX5_binds, cX5_binds, 3, (some .int), 1, 2, 46)
theorem moX5_binds : MvOk MX5_binds 2 := ⟨w1025, w38, w59, w1026, by decide +kernel, by decide +kernel, by decide +kernel⟩
abbrev MX5_bind : MM := (RX5, yX5_bind, cX5_bind, 3, (some .int), 1, 3, 68)
theorem moX5_bind : MvOk MX5_bind 2 := ⟨w1020, w1021, w59, w1022, by decide +kernel, by decide +kernel, by decide +kernel⟩
abbrev MX5_playerAt : MM := (RX5, yX5_playerAt, cX5_playerAt, 3, (some .int), 1, 0, 0)
theorem moX5_playerAt : MvOk MX5_playerAt 1 := ⟨w1045, w42, w59, w1046, by decide +kernel, by decide +kernel, by decide +kernel⟩
abbrev MX5_ends : MM := (RX5, yX5_ends, cX5_ends, 4, none, 0, 0, 0)
theorem moX5_ends : MvOk MX5_ends 3 := ⟨w1041, w41, w59, w1042, by decide +kernel, by decide +kernel, by decide +kernel⟩
abbrev MX5_doesSound : MM := (RX5, yX5_doesSound, cX5_doesSound, 4, (some .boolean), 1, 3, 70)
theorem moX5_doesSound : MvOk MX5_doesSound 2 := ⟨w1037, w40, w59, w1038, by decide +kernel, by decide +kernel, by decide +kernel⟩
abbrev MX5_crosses : MM := (RX5, yX5_crosses, cX5_crosses, 6, none, 0, 3, 70)
theorem moX5_crosses : MvOk MX5_crosses 1 := ⟨w1049, w43, w59, w1050, by decide +kernel, by decide +kernel, by decide +kernel⟩
abbrev MX5_playing : MM := (RX5, yX5_playing, cX5_playing, 3, none, 0, 4, 95)
theorem moX5_playing : MvOk MX5_playing 0 := ⟨w1033, w39, w59, w1034, by decide +kernel, by decide +kernel, by decide +kernel⟩
abbrev MX5_away : MM := (RX5, yX5_away, cX5_away, 3, (some .int), 1, 0, 0)
theorem moX5_away : MvOk MX5_away 0 := ⟨w1070, w44, w59, w1071, by decide +kernel, by decide +kernel, by decide +kernel⟩
abbrev MX5_bitsOf : MM := (RX5, yX5_bitsOf, cX5_bitsOf, 3, (some .int), 1, 0, 0)
theorem moX5_bitsOf : MsOk MX5_bitsOf 1 := ⟨w1073, w59, w1074, by decide +kernel, by decide +kernel, by decide +kernel⟩
abbrev MX5_awayMany : MM := (RX5, yX5_awayMany, cX5_awayMany, 1, (some .int), 1, 5, 117)
theorem moX5_awayMany : MvOk MX5_awayMany 0 := ⟨w1102, w48, w59, w1103, by decide +kernel, by decide +kernel, by decide +kernel⟩
abbrev MX5_cost : MM := (RX5, yX5_cost, cX5_cost, 3, (some .int), 1, 0, 0)
theorem moX5_cost : MvOk MX5_cost 0 := ⟨w1077, w45, w59, w1078, by decide +kernel, by decide +kernel, by decide +kernel⟩
abbrev MX5_out : MM := (RX5, yX5_out, cX5_out, 4, (some .int), 1, 5, 117)
theorem moX5_out : MvOk MX5_out 2 := ⟨w1028, w1029, w59, w1030, by decide +kernel, by decide +kernel, by decide +kernel⟩
abbrev MX5_over : MM := (RX5, yX5_over, cX5_over, 3, (some .int), 1, 5, 117)
theorem moX5_over : MvOk MX5_over 2 := ⟨w1052, w1053, w59, w1054, by decide +kernel, by decide +kernel, by decide +kernel⟩
abbrev MX5_plays : MM := (RX5, yX5_plays, cX5_plays, 2, (some .int), 1, 5, 117)
theorem moX5_plays : MvOk MX5_plays 1 := ⟨w1057, w1058, w59, w1059, by decide +kernel, by decide +kernel, by decide +kernel⟩
abbrev MX5_sounds : MM := (RX5, yX5_sounds, cX5_sounds, 2, (some .int), 1, 5, 117)
theorem moX5_sounds : MvOk MX5_sounds 1 := ⟨w1061, w1062, w59, w1063, by decide +kernel, by decide +kernel, by decide +kernel⟩
abbrev MX5_sum : MM := (RX5, yX5_sum, cX5_sum, 5, (some .int), 1, 5, 117)
theorem moX5_sum : MvOk MX5_sum 1 := ⟨w1065, w1066, w59, w1067, by decide +kernel, by decide +kernel, by decide +kernel⟩
abbrev MX5_first : MM := (RX5, yX5_first, cX5_first, 7, (some .int), 1, 5, 117)
theorem moX5_first : MvOk MX5_first 1 := ⟨w1080, w1081, w59, w1082, by decide +kernel, by decide +kernel, by decide +kernel⟩
abbrev MX5_copies : MM := (RX5, yX5_copies, cX5_copies, 4, none, 0, 0, 0)
theorem moX5_copies : MvOk MX5_copies 2 := ⟨w1091, w46, w59, w1092, by decide +kernel, by decide +kernel, by decide +kernel⟩
abbrev MX5_laysFigures : MM := (RX5, yX5_laysFigures, cX5_laysFigures, 7, none, 0, 0, 0)
theorem moX5_laysFigures : MvOk MX5_laysFigures 4 := ⟨w1098, w47, w59, w1099, by decide +kernel, by decide +kernel, by decide +kernel⟩
abbrev MX5_powerOf : MM := (RX5, yX5_powerOf, cX5_powerOf, 4, (some .int), 1, 0, 0)
theorem moX5_powerOf : MsOk MX5_powerOf 2 := ⟨w1094, w59, w1095, by decide +kernel, by decide +kernel, by decide +kernel⟩
abbrev MX5_best : MM := (RX5, yX5_best, cX5_best, 8, (some .int), 1, 6, 137)
theorem moX5_best : MvOk MX5_best 1 := ⟨w1085, w1086, w59, w1087, by decide +kernel, by decide +kernel, by decide +kernel⟩
abbrev MX5_apart : MM := (RX5, yX5_apart, cX5_apart, 6, (some .int), 1, 6, 137)
theorem moX5_apart : MvOk MX5_apart 1 := ⟨w1105, w1106, w59, w1107, by decide +kernel, by decide +kernel, by decide +kernel⟩
abbrev MX5_compose : MM := (RX5, yX5_compose, cX5_compose, 6, (some .int), 1, 1, 25)
theorem moX5_compose : MvOk MX5_compose 2 := ⟨w1109, w1110, w59, w1111, by decide +kernel, by decide +kernel, by decide +kernel⟩
abbrev MX5_bribe : MM := (RX5, yX5_bribe, cX5_bribe, 8, (some .int), 1, 5, 117)
theorem moX5_bribe : MvOk MX5_bribe 3 := ⟨w1114, w1115, w59, w1116, by decide +kernel, by decide +kernel, by decide +kernel⟩
abbrev MX5_teach : MM := (RX5, yX5_teach, cX5_teach, 7, (some .int), 1, 6, 137)
theorem moX5_teach : MvOk MX5_teach 1 := ⟨w1118, w1119, w59, w1120, by decide +kernel, by decide +kernel, by decide +kernel⟩
abbrev MX5_lowest : MM := (RX5, yX5_lowest, cX5_lowest, 11, (some .long), 2, 0, 0)
theorem moX5_lowest : MsOk MX5_lowest 3 := ⟨w1130, w59, w1131, by decide +kernel, by decide +kernel, by decide +kernel⟩
abbrev MX5_byStrings : MM := (RX5, yX5_byStrings, cX5_byStrings, 12, (some .long), 2, 6, 137)
theorem moX5_byStrings : MvOk MX5_byStrings 3 := ⟨w1127, w49, w59, w1128, by decide +kernel, by decide +kernel, by decide +kernel⟩
abbrev MX5_mean : MM := (RX5, yX5_mean, cX5_mean, 3, (some .long), 2, 7, 168)
theorem moX5_mean : MvOk MX5_mean 2 := ⟨w1122, w1123, w59, w1124, by decide +kernel, by decide +kernel, by decide +kernel⟩
abbrev MX5_luck : MM := (RX5, yX5_luck, cX5_luck, 4, (some .long), 2, 7, 168)
theorem moX5_luck : MvOk MX5_luck 3 := ⟨w1134, w1135, w59, w1136, by decide +kernel, by decide +kernel, by decide +kernel⟩
abbrev MX5_see : MM := (RX5, yX5_see, cX5_see, 4, (some .int), 1, 2, 46)
theorem moX5_see : MvOk MX5_see 3 := ⟨w1138, w1139, w59, w1140, by decide +kernel, by decide +kernel, by decide +kernel⟩
abbrev MX5_forget : MM := (RX5, yX5_forget, cX5_forget, 3, (some .int), 1, 1, 25)
theorem moX5_forget : MvOk MX5_forget 1 := ⟨w1142, w1143, w59, w1144, by decide +kernel, by decide +kernel, by decide +kernel⟩
abbrev MX5_kindsOf : MM := (RX5, yX5_kindsOf, cX5_kindsOf, 6, (some .int), 1, 3, 70)
theorem moX5_kindsOf : MvOk MX5_kindsOf 1 := ⟨w1151, w50, w59, w1152, by decide +kernel, by decide +kernel, by decide +kernel⟩
abbrev MX5_fits : MM := (RX5, yX5_fits, cX5_fits, 2, (some .int), 1, 4, 95)
theorem moX5_fits : MvOk MX5_fits 1 := ⟨w1146, w1147, w59, w1148, by decide +kernel, by decide +kernel, by decide +kernel⟩
abbrev MX5_listen : MM := (RX5, yX5_listen, cX5_listen, 11, (some .int), 1, 4, 95)
theorem moX5_listen : MvOk MX5_listen 2 := ⟨w1154, w1155, w59, w1156, by decide +kernel, by decide +kernel, by decide +kernel⟩
abbrev MX5_draws : MM := (RX5, yX5_draws, cX5_draws, 1, (some .int), 1, 0, 0)
theorem moX5_draws : MvOk MX5_draws 0 := ⟨w1164, w51, w59, w1165, by decide +kernel, by decide +kernel, by decide +kernel⟩
abbrev MX5_drift : MM := (RX5, yX5_drift, cX5_drift, 10, (some .int), 1, 6, 137)
theorem moX5_drift : MvOk MX5_drift 3 := ⟨w1158, w1159, w59, w1160, by decide +kernel, by decide +kernel, by decide +kernel⟩
abbrev MX5_noteMany : MM := (RX5, yX5_noteMany, cX5_noteMany, 3, (some .int), 1, 0, 0)
theorem moX5_noteMany : MvOk MX5_noteMany 0 := ⟨w1177, w52, w59, w1178, by decide +kernel, by decide +kernel, by decide +kernel⟩
abbrev MX5_keep : MM := (RX5, yX5_keep, cX5_keep, 3, (some .int), 1, 1, 25)
theorem moX5_keep : MvOk MX5_keep 1 := ⟨w1168, w1169, w59, w1170, by decide +kernel, by decide +kernel, by decide +kernel⟩
abbrev MX5_back : MM := (RX5, yX5_back, cX5_back, 2, (some .int), 1, 1, 25)
theorem moX5_back : MvOk MX5_back 1 := ⟨w1172, w1173, w59, w1174, by decide +kernel, by decide +kernel, by decide +kernel⟩
abbrev MX5_sheet : MM := (RX5, yX5_sheet, cX5_sheet, 5, (some .int), 1, 1, 25)
theorem moX5_sheet : MvOk MX5_sheet 3 := ⟨w1180, w1181, w59, w1182, by decide +kernel, by decide +kernel, by decide +kernel⟩
abbrev MX5_lay : MM := (RX5, yX5_lay, cX5_lay, 4, (some .int), 1, 1, 25)
theorem moX5_lay : MvOk MX5_lay 3 := ⟨w1184, w1185, w59, w1186, by decide +kernel, by decide +kernel, by decide +kernel⟩
abbrev MX5_read : MM := (RX5, yX5_read, cX5_read, 9, (some .int), 1, 3, 68)
theorem moX5_read : MvOk MX5_read 4 := ⟨w1188, w1189, w59, w1190, by decide +kernel, by decide +kernel, by decide +kernel⟩
abbrev MX5_torn : MM := (RX5, yX5_torn, cX5_torn, 1, (some .int), 1, 0, 0)
theorem moX5_torn : MvOk MX5_torn 0 := ⟨w1192, w1193, w59, w1194, by decide +kernel, by decide +kernel, by decide +kernel⟩
abbrev MX5_count : MM := (RX5, yX5_count, cX5_count, 4, (some .int), 1, 3, 64)
theorem moX5_count : MvOk MX5_count 1 := ⟨w1196, w1197, w59, w1198, by decide +kernel, by decide +kernel, by decide +kernel⟩
end
