theorem natfw : nativeFrameWords "java/lang/System" "arraycopy" 5 + 11 = 18 := by decide +kernel
variable {S : List Shp} {M : MM} {pc : Nat} {ls st rest : List Value} {d : DD} {Q : Value → DD → Prop}
theorem ev_iconst {n : Int} {v : Int32} (hd : decode (mC M) pc = .ok (.iconst n, 1)) (hv : Int32.ofInt n = v) (k : Ev S M (pc + 1) ls (.int v :: st) d Q) : Ev S M pc ls (st) d Q := by
  intro p l e s m args below meth c D ad cA A H locs la C hP hD hS hl
  obtain ⟨hx, hb, hml, hr, hlk, hown, hts, hK, hA, hE⟩ := id C
  exact lv_iconst hx hb hd hv (k p l e s m args below meth c D ad cA A H locs la C hP hD hS hl)
theorem ev_bipush {n : Int} {v : Int32} (hd : decode (mC M) pc = .ok (.bipush n, 2)) (hv : (Int8.ofInt n).toInt32 = v) (k : Ev S M (pc + 2) ls (.int v :: st) d Q) : Ev S M pc ls (st) d Q := by
  intro p l e s m args below meth c D ad cA A H locs la C hP hD hS hl
  obtain ⟨hx, hb, hml, hr, hlk, hown, hts, hK, hA, hE⟩ := id C
  exact lv_bipush hx hb hd hv (k p l e s m args below meth c D ad cA A H locs la C hP hD hS hl)
theorem ev_sipush {n : Int} {v : Int32} (hd : decode (mC M) pc = .ok (.sipush n, 3)) (hv : (Int16.ofInt n).toInt32 = v) (k : Ev S M (pc + 3) ls (.int v :: st) d Q) : Ev S M pc ls (st) d Q := by
  intro p l e s m args below meth c D ad cA A H locs la C hP hD hS hl
  obtain ⟨hx, hb, hml, hr, hlk, hown, hts, hK, hA, hE⟩ := id C
  exact lv_sipush hx hb hd hv (k p l e s m args below meth c D ad cA A H locs la C hP hD hS hl)
theorem ev_lconst {n : Fin 2} {v : Int64} (hd : decode (mC M) pc = .ok (.lconst n, 1)) (hv : Int64.ofNat (n : Nat) = v) (k : Ev S M (pc + 1) ls (.long v :: st) d Q) : Ev S M pc ls (st) d Q := by
  intro p l e s m args below meth c D ad cA A H locs la C hP hD hS hl
  obtain ⟨hx, hb, hml, hr, hlk, hown, hts, hK, hA, hE⟩ := id C
  exact lv_lconst hx hb hd hv (k p l e s m args below meth c D ad cA A H locs la C hP hD hS hl)
theorem ev_iadd {x y : Int32} (hd : decode (mC M) pc = .ok (.iadd, 1)) (k : Ev S M (pc + 1) ls (.int (x + y) :: st) d Q) : Ev S M pc ls (.int y :: .int x :: st) d Q := by
  intro p l e s m args below meth c D ad cA A H locs la C hP hD hS hl
  obtain ⟨hx, hb, hml, hr, hlk, hown, hts, hK, hA, hE⟩ := id C
  exact lv_iadd hx hb hd (k p l e s m args below meth c D ad cA A H locs la C hP hD hS hl)
theorem ev_isub {x y : Int32} (hd : decode (mC M) pc = .ok (.isub, 1)) (k : Ev S M (pc + 1) ls (.int (x - y) :: st) d Q) : Ev S M pc ls (.int y :: .int x :: st) d Q := by
  intro p l e s m args below meth c D ad cA A H locs la C hP hD hS hl
  obtain ⟨hx, hb, hml, hr, hlk, hown, hts, hK, hA, hE⟩ := id C
  exact lv_isub hx hb hd (k p l e s m args below meth c D ad cA A H locs la C hP hD hS hl)
theorem ev_imul {x y : Int32} (hd : decode (mC M) pc = .ok (.imul, 1)) (k : Ev S M (pc + 1) ls (.int (x * y) :: st) d Q) : Ev S M pc ls (.int y :: .int x :: st) d Q := by
  intro p l e s m args below meth c D ad cA A H locs la C hP hD hS hl
  obtain ⟨hx, hb, hml, hr, hlk, hown, hts, hK, hA, hE⟩ := id C
  exact lv_imul hx hb hd (k p l e s m args below meth c D ad cA A H locs la C hP hD hS hl)
theorem ev_iand {x y : Int32} (hd : decode (mC M) pc = .ok (.iand, 1)) (k : Ev S M (pc + 1) ls (.int (x &&& y) :: st) d Q) : Ev S M pc ls (.int y :: .int x :: st) d Q := by
  intro p l e s m args below meth c D ad cA A H locs la C hP hD hS hl
  obtain ⟨hx, hb, hml, hr, hlk, hown, hts, hK, hA, hE⟩ := id C
  exact lv_iand hx hb hd (k p l e s m args below meth c D ad cA A H locs la C hP hD hS hl)
theorem ev_ior {x y : Int32} (hd : decode (mC M) pc = .ok (.ior, 1)) (k : Ev S M (pc + 1) ls (.int (x ||| y) :: st) d Q) : Ev S M pc ls (.int y :: .int x :: st) d Q := by
  intro p l e s m args below meth c D ad cA A H locs la C hP hD hS hl
  obtain ⟨hx, hb, hml, hr, hlk, hown, hts, hK, hA, hE⟩ := id C
  exact lv_ior hx hb hd (k p l e s m args below meth c D ad cA A H locs la C hP hD hS hl)
theorem ev_ishl {x y : Int32} (hd : decode (mC M) pc = .ok (.ishl, 1)) (k : Ev S M (pc + 1) ls (.int (x <<< (y &&& 31)) :: st) d Q) : Ev S M pc ls (.int y :: .int x :: st) d Q := by
  intro p l e s m args below meth c D ad cA A H locs la C hP hD hS hl
  obtain ⟨hx, hb, hml, hr, hlk, hown, hts, hK, hA, hE⟩ := id C
  exact lv_ishl hx hb hd (k p l e s m args below meth c D ad cA A H locs la C hP hD hS hl)
theorem ev_ishr {x y : Int32} (hd : decode (mC M) pc = .ok (.ishr, 1)) (k : Ev S M (pc + 1) ls (.int (x >>> (y &&& 31)) :: st) d Q) : Ev S M pc ls (.int y :: .int x :: st) d Q := by
  intro p l e s m args below meth c D ad cA A H locs la C hP hD hS hl
  obtain ⟨hx, hb, hml, hr, hlk, hown, hts, hK, hA, hE⟩ := id C
  exact lv_ishr hx hb hd (k p l e s m args below meth c D ad cA A H locs la C hP hD hS hl)
theorem ev_ladd {x y : Int64} (hd : decode (mC M) pc = .ok (.ladd, 1)) (k : Ev S M (pc + 1) ls (.long (x + y) :: st) d Q) : Ev S M pc ls (.long y :: .long x :: st) d Q := by
  intro p l e s m args below meth c D ad cA A H locs la C hP hD hS hl
  obtain ⟨hx, hb, hml, hr, hlk, hown, hts, hK, hA, hE⟩ := id C
  exact lv_ladd hx hb hd (k p l e s m args below meth c D ad cA A H locs la C hP hD hS hl)
theorem ev_lmul {x y : Int64} (hd : decode (mC M) pc = .ok (.lmul, 1)) (k : Ev S M (pc + 1) ls (.long (x * y) :: st) d Q) : Ev S M pc ls (.long y :: .long x :: st) d Q := by
  intro p l e s m args below meth c D ad cA A H locs la C hP hD hS hl
  obtain ⟨hx, hb, hml, hr, hlk, hown, hts, hK, hA, hE⟩ := id C
  exact lv_lmul hx hb hd (k p l e s m args below meth c D ad cA A H locs la C hP hD hS hl)
def jrem (x y : Int32) : Int32 := x - x / y * y
def jreml (x y : Int64) : Int64 := x - x / y * y
theorem ev_idiv {x y : Int32} (hd : decode (mC M) pc = .ok (.idiv, 1)) (hne : ¬ y = 0) (k : Ev S M (pc + 1) ls (.int (x / y) :: st) d Q) : Ev S M pc ls (.int y :: .int x :: st) d Q := by
  intro p l e s m args below meth c D ad cA A H locs la C hP hD hS hl
  obtain ⟨hx, hb, hml, hr, hlk, hown, hts, hK, hA, hE⟩ := id C
  exact lv_idiv hx hb hd hne (k p l e s m args below meth c D ad cA A H locs la C hP hD hS hl)
theorem ev_irem {x y : Int32} (hd : decode (mC M) pc = .ok (.irem, 1)) (hne : ¬ y = 0) (k : Ev S M (pc + 1) ls (.int (jrem x y) :: st) d Q) : Ev S M pc ls (.int y :: .int x :: st) d Q := by
  intro p l e s m args below meth c D ad cA A H locs la C hP hD hS hl
  obtain ⟨hx, hb, hml, hr, hlk, hown, hts, hK, hA, hE⟩ := id C
  exact lv_irem hx hb hd hne (k p l e s m args below meth c D ad cA A H locs la C hP hD hS hl)
theorem ev_ldiv {x y : Int64} (hd : decode (mC M) pc = .ok (.ldiv, 1)) (hne : ¬ y = 0) (k : Ev S M (pc + 1) ls (.long (x / y) :: st) d Q) : Ev S M pc ls (.long y :: .long x :: st) d Q := by
  intro p l e s m args below meth c D ad cA A H locs la C hP hD hS hl
  obtain ⟨hx, hb, hml, hr, hlk, hown, hts, hK, hA, hE⟩ := id C
  exact lv_ldiv hx hb hd hne (k p l e s m args below meth c D ad cA A H locs la C hP hD hS hl)
theorem ev_lrem {x y : Int64} (hd : decode (mC M) pc = .ok (.lrem, 1)) (hne : ¬ y = 0) (k : Ev S M (pc + 1) ls (.long (jreml x y) :: st) d Q) : Ev S M pc ls (.long y :: .long x :: st) d Q := by
  intro p l e s m args below meth c D ad cA A H locs la C hP hD hS hl
  obtain ⟨hx, hb, hml, hr, hlk, hown, hts, hK, hA, hE⟩ := id C
  exact lv_lrem hx hb hd hne (k p l e s m args below meth c D ad cA A H locs la C hP hD hS hl)
theorem ev_i2l {x : Int32} (hd : decode (mC M) pc = .ok (.i2l, 1)) (k : Ev S M (pc + 1) ls (.long x.toInt64 :: st) d Q) : Ev S M pc ls (.int x :: st) d Q := by
  intro p l e s m args below meth c D ad cA A H locs la C hP hD hS hl
  obtain ⟨hx, hb, hml, hr, hlk, hown, hts, hK, hA, hE⟩ := id C
  exact lv_i2l hx hb hd rfl (k p l e s m args below meth c D ad cA A H locs la C hP hD hS hl)
theorem ev_l2i {x : Int64} (hd : decode (mC M) pc = .ok (.l2i, 1)) (k : Ev S M (pc + 1) ls (.int x.toInt32 :: st) d Q) : Ev S M pc ls (.long x :: st) d Q := by
  intro p l e s m args below meth c D ad cA A H locs la C hP hD hS hl
  obtain ⟨hx, hb, hml, hr, hlk, hown, hts, hK, hA, hE⟩ := id C
  exact lv_l2i hx hb hd rfl (k p l e s m args below meth c D ad cA A H locs la C hP hD hS hl)
theorem ev_i2b {x : Int32} (hd : decode (mC M) pc = .ok (.i2b, 1)) (k : Ev S M (pc + 1) ls (.int x.toInt8.toInt32 :: st) d Q) : Ev S M pc ls (.int x :: st) d Q := by
  intro p l e s m args below meth c D ad cA A H locs la C hP hD hS hl
  obtain ⟨hx, hb, hml, hr, hlk, hown, hts, hK, hA, hE⟩ := id C
  exact lv_i2b hx hb hd rfl (k p l e s m args below meth c D ad cA A H locs la C hP hD hS hl)
theorem ev_i2s {x : Int32} (hd : decode (mC M) pc = .ok (.i2s, 1)) (k : Ev S M (pc + 1) ls (.int x.toInt16.toInt32 :: st) d Q) : Ev S M pc ls (.int x :: st) d Q := by
  intro p l e s m args below meth c D ad cA A H locs la C hP hD hS hl
  obtain ⟨hx, hb, hml, hr, hlk, hown, hts, hK, hA, hE⟩ := id C
  exact lv_i2s hx hb hd rfl (k p l e s m args below meth c D ad cA A H locs la C hP hD hS hl)
theorem ev_i2c {x : Int32} (hd : decode (mC M) pc = .ok (.i2c, 1)) (k : Ev S M (pc + 1) ls (.int (x.toUInt32 % 65536).toInt32 :: st) d Q) : Ev S M pc ls (.int x :: st) d Q := by
  intro p l e s m args below meth c D ad cA A H locs la C hP hD hS hl
  obtain ⟨hx, hb, hml, hr, hlk, hown, hts, hK, hA, hE⟩ := id C
  exact lv_i2c hx hb hd rfl (k p l e s m args below meth c D ad cA A H locs la C hP hD hS hl)
theorem ev_iushr {x y : Int32} (hd : decode (mC M) pc = .ok (.iushr, 1)) (k : Ev S M (pc + 1) ls (.int (x.toUInt32 >>> (y.toUInt32 &&& Int32.toUInt32 31)).toInt32 :: st) d Q) : Ev S M pc ls (.int y :: .int x :: st) d Q := by
  intro p l e s m args below meth c D ad cA A H locs la C hP hD hS hl
  obtain ⟨hx, hb, hml, hr, hlk, hown, hts, hK, hA, hE⟩ := id C
  exact lv_iushr hx hb hd rfl (k p l e s m args below meth c D ad cA A H locs la C hP hD hS hl)
theorem ev_lcmp {x y : Int64} (hd : decode (mC M) pc = .ok (.lcmp, 1)) (k : Ev S M (pc + 1) ls (.int (lg_cmp x y) :: st) d Q) : Ev S M pc ls (.long y :: .long x :: st) d Q := by
  intro p l e s m args below meth c D ad cA A H locs la C hP hD hS hl
  obtain ⟨hx, hb, hml, hr, hlk, hown, hts, hK, hA, hE⟩ := id C
  exact W.lcmp hx hb hd (k p l e s m args below meth c D ad cA A H locs la C hP hD hS hl)
theorem ev_dup {va : Value} (hd : decode (mC M) pc = .ok (.dup, 1)) (hva : va.category = 1) (k : Ev S M (pc + 1) ls (va :: va :: st) d Q) : Ev S M pc ls (va :: st) d Q := by
  intro p l e s m args below meth c D ad cA A H locs la C hP hD hS hl
  obtain ⟨hx, hb, hml, hr, hlk, hown, hts, hK, hA, hE⟩ := id C
  exact lv_dup hx hb hd ((cv_cat ad va).trans hva) (k p l e s m args below meth c D ad cA A H locs la C hP hD hS hl)
theorem ev_pop {va : Value} (hd : decode (mC M) pc = .ok (.pop, 1)) (hva : va.category = 1) (k : Ev S M (pc + 1) ls (st) d Q) : Ev S M pc ls (va :: st) d Q := by
  intro p l e s m args below meth c D ad cA A H locs la C hP hD hS hl
  obtain ⟨hx, hb, hml, hr, hlk, hown, hts, hK, hA, hE⟩ := id C
  exact lv_pop hx hb hd ((cv_cat ad va).trans hva) (k p l e s m args below meth c D ad cA A H locs la C hP hD hS hl)
theorem ev_dup2 {va vb : Value} (hd : decode (mC M) pc = .ok (.dup2, 1)) (hva : va.category = 1) (hvb : vb.category = 1) (k : Ev S M (pc + 1) ls (va :: vb :: va :: vb :: st) d Q) : Ev S M pc ls (va :: vb :: st) d Q := by
  intro p l e s m args below meth c D ad cA A H locs la C hP hD hS hl
  obtain ⟨hx, hb, hml, hr, hlk, hown, hts, hK, hA, hE⟩ := id C
  exact lv_dup2_11 hx hb hd ((cv_cat ad va).trans hva) ((cv_cat ad vb).trans hvb) (k p l e s m args below meth c D ad cA A H locs la C hP hD hS hl)
theorem ev_iload_n {k0 : Fin 4} {x : Int32} (hd : decode (mC M) pc = .ok (.iload_n k0, 1)) (h : ls[(k0 : Nat)]? = some (.int x)) (k : Ev S M (pc + 1) ls (.int x :: st) d Q) : Ev S M pc ls (st) d Q := by
  intro p l e s m args below meth c D ad cA A H locs la C hP hD hS hl
  obtain ⟨hx, hb, hml, hr, hlk, hown, hts, hK, hA, hE⟩ := id C
  exact lv_iload_n hx hb hd rfl (hl.2.2 _ _ h rfl) (k p l e s m args below meth c D ad cA A H locs la C hP hD hS hl)
theorem ev_iload {k0 : Nat} {x : Int32} (hd : decode (mC M) pc = .ok (.iload k0, 2)) (h : ls[k0]? = some (.int x)) (k : Ev S M (pc + 2) ls (.int x :: st) d Q) : Ev S M pc ls (st) d Q := by
  intro p l e s m args below meth c D ad cA A H locs la C hP hD hS hl
  obtain ⟨hx, hb, hml, hr, hlk, hown, hts, hK, hA, hE⟩ := id C
  exact lv_iload hx hb hd (hl.2.2 _ _ h rfl) (k p l e s m args below meth c D ad cA A H locs la C hP hD hS hl)
theorem ev_lload_n {k0 : Fin 4} {x : Int64} (hd : decode (mC M) pc = .ok (.lload_n k0, 1)) (h : ls[(k0 : Nat)]? = some (.long x)) (k : Ev S M (pc + 1) ls (.long x :: st) d Q) : Ev S M pc ls (st) d Q := by
  intro p l e s m args below meth c D ad cA A H locs la C hP hD hS hl
  obtain ⟨hx, hb, hml, hr, hlk, hown, hts, hK, hA, hE⟩ := id C
  exact lv_lload_n hx hb hd rfl (hl.2.2 _ _ h rfl) (k p l e s m args below meth c D ad cA A H locs la C hP hD hS hl)
theorem ev_lload {k0 : Nat} {x : Int64} (hd : decode (mC M) pc = .ok (.lload k0, 2)) (h : ls[k0]? = some (.long x)) (k : Ev S M (pc + 2) ls (.long x :: st) d Q) : Ev S M pc ls (st) d Q := by
  intro p l e s m args below meth c D ad cA A H locs la C hP hD hS hl
  obtain ⟨hx, hb, hml, hr, hlk, hown, hts, hK, hA, hE⟩ := id C
  exact lv_lload hx hb hd (hl.2.2 _ _ h rfl) (k p l e s m args below meth c D ad cA A H locs la C hP hD hS hl)
theorem ev_aload_n {k0 : Fin 4} {x : Nat} (hd : decode (mC M) pc = .ok (.aload_n k0, 1)) (h : ls[(k0 : Nat)]? = some (.ref x)) (k : Ev S M (pc + 1) ls (.ref x :: st) d Q) : Ev S M pc ls (st) d Q := by
  intro p l e s m args below meth c D ad cA A H locs la C hP hD hS hl
  obtain ⟨hx, hb, hml, hr, hlk, hown, hts, hK, hA, hE⟩ := id C
  exact lv_aload_n hx hb hd rfl (hl.2.2 _ _ h rfl) (k p l e s m args below meth c D ad cA A H locs la C hP hD hS hl)
theorem ev_aload {k0 : Nat} {x : Nat} (hd : decode (mC M) pc = .ok (.aload k0, 2)) (h : ls[k0]? = some (.ref x)) (k : Ev S M (pc + 2) ls (.ref x :: st) d Q) : Ev S M pc ls (st) d Q := by
  intro p l e s m args below meth c D ad cA A H locs la C hP hD hS hl
  obtain ⟨hx, hb, hml, hr, hlk, hown, hts, hK, hA, hE⟩ := id C
  exact lv_aload hx hb hd (hl.2.2 _ _ h rfl) (k p l e s m args below meth c D ad cA A H locs la C hP hD hS hl)
theorem ev_goto {off : Int} {tgt : Nat} (hd : decode (mC M) pc = .ok (.goto off, 3)) (ht : (pc : Int) + off = (tgt : Int)) (k : Ev S M tgt ls st d Q) : Ev S M pc ls st d Q := by
  intro p l e s m args below meth c D ad cA A H locs la C hP hD hS hl
  obtain ⟨hx, hb, hml, hr, hlk, hown, hts, hK, hA, hE⟩ := id C
  exact lv_goto hx hb hd ht (k p l e s m args below meth c D ad cA A H locs la C hP hD hS hl)
theorem ev_if_eq {x : Int32} {off : Int} {tgt : Nat} (hd : decode (mC M) pc = .ok (.ifCond .eq off, 3)) (ht : (pc : Int) + off = (tgt : Int)) (kt : x = 0 → Ev S M tgt ls st d Q) (kf : ¬ x = 0 → Ev S M (pc + 3) ls st d Q) : Ev S M pc ls (.int x :: st) d Q := by
  intro p l e s m args below meth c D ad cA A H locs la C hP hD hS hl
  obtain ⟨hx, hb, hml, hr, hlk, hown, hts, hK, hA, hE⟩ := id C
  exact lv_if_eq hx hb hd ht (fun z => kt z p l e s m args below meth c D ad cA A H locs la C hP hD hS hl) (fun z => kf z p l e s m args below meth c D ad cA A H locs la C hP hD hS hl)
theorem ev_icmp_eq {x y : Int32} {off : Int} {tgt : Nat} (hd : decode (mC M) pc = .ok (.if_icmp .eq off, 3)) (ht : (pc : Int) + off = (tgt : Int)) (kt : x = y → Ev S M tgt ls st d Q) (kf : ¬ x = y → Ev S M (pc + 3) ls st d Q) : Ev S M pc ls (.int y :: .int x :: st) d Q := by
  intro p l e s m args below meth c D ad cA A H locs la C hP hD hS hl
  obtain ⟨hx, hb, hml, hr, hlk, hown, hts, hK, hA, hE⟩ := id C
  exact lv_icmp_eq hx hb hd ht (fun z => kt z p l e s m args below meth c D ad cA A H locs la C hP hD hS hl) (fun z => kf z p l e s m args below meth c D ad cA A H locs la C hP hD hS hl)
theorem ev_if_ne {x : Int32} {off : Int} {tgt : Nat} (hd : decode (mC M) pc = .ok (.ifCond .ne off, 3)) (ht : (pc : Int) + off = (tgt : Int)) (kt : ¬ x = 0 → Ev S M tgt ls st d Q) (kf : x = 0 → Ev S M (pc + 3) ls st d Q) : Ev S M pc ls (.int x :: st) d Q := by
  intro p l e s m args below meth c D ad cA A H locs la C hP hD hS hl
  obtain ⟨hx, hb, hml, hr, hlk, hown, hts, hK, hA, hE⟩ := id C
  exact lv_if_ne hx hb hd ht (fun z => kt z p l e s m args below meth c D ad cA A H locs la C hP hD hS hl) (fun z => kf z p l e s m args below meth c D ad cA A H locs la C hP hD hS hl)
theorem ev_icmp_ne {x y : Int32} {off : Int} {tgt : Nat} (hd : decode (mC M) pc = .ok (.if_icmp .ne off, 3)) (ht : (pc : Int) + off = (tgt : Int)) (kt : ¬ x = y → Ev S M tgt ls st d Q) (kf : x = y → Ev S M (pc + 3) ls st d Q) : Ev S M pc ls (.int y :: .int x :: st) d Q := by
  intro p l e s m args below meth c D ad cA A H locs la C hP hD hS hl
  obtain ⟨hx, hb, hml, hr, hlk, hown, hts, hK, hA, hE⟩ := id C
  exact lv_icmp_ne hx hb hd ht (fun z => kt z p l e s m args below meth c D ad cA A H locs la C hP hD hS hl) (fun z => kf z p l e s m args below meth c D ad cA A H locs la C hP hD hS hl)
theorem ev_if_lt {x : Int32} {off : Int} {tgt : Nat} (hd : decode (mC M) pc = .ok (.ifCond .lt off, 3)) (ht : (pc : Int) + off = (tgt : Int)) (kt : x < 0 → Ev S M tgt ls st d Q) (kf : ¬ x < 0 → Ev S M (pc + 3) ls st d Q) : Ev S M pc ls (.int x :: st) d Q := by
  intro p l e s m args below meth c D ad cA A H locs la C hP hD hS hl
  obtain ⟨hx, hb, hml, hr, hlk, hown, hts, hK, hA, hE⟩ := id C
  exact lv_if_lt hx hb hd ht (fun z => kt z p l e s m args below meth c D ad cA A H locs la C hP hD hS hl) (fun z => kf z p l e s m args below meth c D ad cA A H locs la C hP hD hS hl)
theorem ev_icmp_lt {x y : Int32} {off : Int} {tgt : Nat} (hd : decode (mC M) pc = .ok (.if_icmp .lt off, 3)) (ht : (pc : Int) + off = (tgt : Int)) (kt : x < y → Ev S M tgt ls st d Q) (kf : ¬ x < y → Ev S M (pc + 3) ls st d Q) : Ev S M pc ls (.int y :: .int x :: st) d Q := by
  intro p l e s m args below meth c D ad cA A H locs la C hP hD hS hl
  obtain ⟨hx, hb, hml, hr, hlk, hown, hts, hK, hA, hE⟩ := id C
  exact lv_icmp_lt hx hb hd ht (fun z => kt z p l e s m args below meth c D ad cA A H locs la C hP hD hS hl) (fun z => kf z p l e s m args below meth c D ad cA A H locs la C hP hD hS hl)
theorem ev_if_ge {x : Int32} {off : Int} {tgt : Nat} (hd : decode (mC M) pc = .ok (.ifCond .ge off, 3)) (ht : (pc : Int) + off = (tgt : Int)) (kt : 0 ≤ x → Ev S M tgt ls st d Q) (kf : ¬ 0 ≤ x → Ev S M (pc + 3) ls st d Q) : Ev S M pc ls (.int x :: st) d Q := by
  intro p l e s m args below meth c D ad cA A H locs la C hP hD hS hl
  obtain ⟨hx, hb, hml, hr, hlk, hown, hts, hK, hA, hE⟩ := id C
  exact lv_if_ge hx hb hd ht (fun z => kt z p l e s m args below meth c D ad cA A H locs la C hP hD hS hl) (fun z => kf z p l e s m args below meth c D ad cA A H locs la C hP hD hS hl)
theorem ev_icmp_ge {x y : Int32} {off : Int} {tgt : Nat} (hd : decode (mC M) pc = .ok (.if_icmp .ge off, 3)) (ht : (pc : Int) + off = (tgt : Int)) (kt : y ≤ x → Ev S M tgt ls st d Q) (kf : ¬ y ≤ x → Ev S M (pc + 3) ls st d Q) : Ev S M pc ls (.int y :: .int x :: st) d Q := by
  intro p l e s m args below meth c D ad cA A H locs la C hP hD hS hl
  obtain ⟨hx, hb, hml, hr, hlk, hown, hts, hK, hA, hE⟩ := id C
  exact lv_icmp_ge hx hb hd ht (fun z => kt z p l e s m args below meth c D ad cA A H locs la C hP hD hS hl) (fun z => kf z p l e s m args below meth c D ad cA A H locs la C hP hD hS hl)
theorem ev_if_gt {x : Int32} {off : Int} {tgt : Nat} (hd : decode (mC M) pc = .ok (.ifCond .gt off, 3)) (ht : (pc : Int) + off = (tgt : Int)) (kt : 0 < x → Ev S M tgt ls st d Q) (kf : ¬ 0 < x → Ev S M (pc + 3) ls st d Q) : Ev S M pc ls (.int x :: st) d Q := by
  intro p l e s m args below meth c D ad cA A H locs la C hP hD hS hl
  obtain ⟨hx, hb, hml, hr, hlk, hown, hts, hK, hA, hE⟩ := id C
  exact lv_if_gt hx hb hd ht (fun z => kt z p l e s m args below meth c D ad cA A H locs la C hP hD hS hl) (fun z => kf z p l e s m args below meth c D ad cA A H locs la C hP hD hS hl)
theorem ev_icmp_gt {x y : Int32} {off : Int} {tgt : Nat} (hd : decode (mC M) pc = .ok (.if_icmp .gt off, 3)) (ht : (pc : Int) + off = (tgt : Int)) (kt : y < x → Ev S M tgt ls st d Q) (kf : ¬ y < x → Ev S M (pc + 3) ls st d Q) : Ev S M pc ls (.int y :: .int x :: st) d Q := by
  intro p l e s m args below meth c D ad cA A H locs la C hP hD hS hl
  obtain ⟨hx, hb, hml, hr, hlk, hown, hts, hK, hA, hE⟩ := id C
  exact lv_icmp_gt hx hb hd ht (fun z => kt z p l e s m args below meth c D ad cA A H locs la C hP hD hS hl) (fun z => kf z p l e s m args below meth c D ad cA A H locs la C hP hD hS hl)
theorem ev_if_le {x : Int32} {off : Int} {tgt : Nat} (hd : decode (mC M) pc = .ok (.ifCond .le off, 3)) (ht : (pc : Int) + off = (tgt : Int)) (kt : x ≤ 0 → Ev S M tgt ls st d Q) (kf : ¬ x ≤ 0 → Ev S M (pc + 3) ls st d Q) : Ev S M pc ls (.int x :: st) d Q := by
  intro p l e s m args below meth c D ad cA A H locs la C hP hD hS hl
  obtain ⟨hx, hb, hml, hr, hlk, hown, hts, hK, hA, hE⟩ := id C
  exact lv_if_le hx hb hd ht (fun z => kt z p l e s m args below meth c D ad cA A H locs la C hP hD hS hl) (fun z => kf z p l e s m args below meth c D ad cA A H locs la C hP hD hS hl)
theorem ev_icmp_le {x y : Int32} {off : Int} {tgt : Nat} (hd : decode (mC M) pc = .ok (.if_icmp .le off, 3)) (ht : (pc : Int) + off = (tgt : Int)) (kt : x ≤ y → Ev S M tgt ls st d Q) (kf : ¬ x ≤ y → Ev S M (pc + 3) ls st d Q) : Ev S M pc ls (.int y :: .int x :: st) d Q := by
  intro p l e s m args below meth c D ad cA A H locs la C hP hD hS hl
  obtain ⟨hx, hb, hml, hr, hlk, hown, hts, hK, hA, hE⟩ := id C
  exact lv_icmp_le hx hb hd ht (fun z => kt z p l e s m args below meth c D ad cA A H locs la C hP hD hS hl) (fun z => kf z p l e s m args below meth c D ad cA A H locs la C hP hD hS hl)
theorem ev_tsw {dflt lo hi off : Int} {offs : Array Int} {len tgt : Nat} {x : Int32} (hd : decode (mC M) pc = .ok (.tableswitch dflt lo hi offs, len)) (n : Int) (hx0 : x.toInt = n) (h1 : ¬ n < lo) (h2 : ¬ hi < n) (ho : offs[(n - lo).toNat]? = some off) (ht : (pc : Int) + off = (tgt : Int)) (k : Ev S M tgt ls st d Q) : Ev S M pc ls (.int x :: st) d Q := by
  subst hx0
  intro p l e s m args below meth c D ad cA A H locs la C hP hD hS hl
  obtain ⟨hx, hb, hml, hr, hlk, hown, hts, hK, hA, hE⟩ := id C
  exact lv_tableIn hx hb hd h1 h2 ho ht (k p l e s m args below meth c D ad cA A H locs la C hP hD hS hl)
theorem ev_tswD {dflt lo hi : Int} {offs : Array Int} {len tgt : Nat} {x : Int32} (hd : decode (mC M) pc = .ok (.tableswitch dflt lo hi offs, len)) (h : x.toInt < lo ∨ hi < x.toInt) (ht : (pc : Int) + dflt = (tgt : Int)) (k : Ev S M tgt ls st d Q) : Ev S M pc ls (.int x :: st) d Q := by
  intro p l e s m args below meth c D ad cA A H locs la C hP hD hS hl
  obtain ⟨hx, hb, hml, hr, hlk, hown, hts, hK, hA, hE⟩ := id C
  exact lv_tableOut hx hb hd h ht (k p l e s m args below meth c D ad cA A H locs la C hP hD hS hl)
theorem ev_lsw {dflt off : Int} {ps : Array (Int × Int)} {len tgt : Nat} {x : Int32} (hd : decode (mC M) pc = .ok (.lookupswitch dflt ps, len)) (hp : (ps.toList.zip (ps.toList.drop 1)).all (fun (a, next) => a.1 < next.1) = true) (ho : Op.lookupswitch.offset ps.toList dflt x.toInt = off) (ht : (pc : Int) + off = (tgt : Int)) (k : Ev S M tgt ls st d Q) : Ev S M pc ls (.int x :: st) d Q := by
  intro p l e s m args below meth c D ad cA A H locs la C hP hD hS hl
  obtain ⟨hx, hb, hml, hr, hlk, hown, hts, hK, hA, hE⟩ := id C
  exact lv_lookup hx hb hd hp ho ht (k p l e s m args below meth c D ad cA A H locs la C hP hD hS hl)
theorem sw_eq {x c : Int32} (n : Int) (h : x = c) (hc : c.toInt = n) : x.toInt = n := by rw [h]; exact hc
theorem sw_ne {x c : Int32} (n : Int) (h : ¬ x = c) (hc : c.toInt = n) : ¬ x.toInt = n := fun e => h (Int32.toInt_inj.mp (e.trans hc.symm))
def st1 (i : Nat) (v : Value) (ls : List Value) : List Value := match i with
  | 0 => ls.set 0 v
  | i + 1 => match ls[i]? with
    | some (.long _) => (ls.set i uJ).set (i + 1) v
    | some (.double _) => (ls.set i uJ).set (i + 1) v
    | _ => ls.set (i + 1) v
def st2 (i : Nat) (v : Value) (ls : List Value) : List Value := (st1 i v ls).set (i + 1) uJ
theorem st1_spec {i : Nat} {v : Value} {ls : List Value} {j : Nat} {w : Value} (h : (st1 i v ls)[j]? = some w) (hw : isJ w = false) : (j = i ∧ w = v) ∨ (j ≠ i ∧ ls[j]? = some w ∧ ¬ (j + 1 = i ∧ w.category = 2)) := by
  have base : ∀ {l : List Value} {i : Nat}, (l.set i v)[j]? = some w → (j = i ∧ w = v) ∨ (j ≠ i ∧ l[j]? = some w) := by
    intro l i h
    by_cases hj : i = j
    · subst hj
      rw [List.getElem?_set] at h
      simp only [if_true] at h
      split at h
      · exact Or.inl ⟨rfl, (Option.some.inj h).symm⟩
      · cases h
    · rw [List.getElem?_set_ne hj] at h
      exact Or.inr ⟨fun e => hj e.symm, h⟩
  cases i with
  | zero =>
    rcases base (l := ls) (i := 0) h with h | h
    · exact Or.inl h
    · exact Or.inr ⟨h.1, h.2, fun q => by omega⟩
  | succ i =>
    have two : (((ls.set i uJ).set (i + 1) v)[j]? = some w → (j = i + 1 ∧ w = v) ∨ (j ≠ i + 1 ∧ ls[j]? = some w ∧ ¬ (j + 1 = i + 1 ∧ w.category = 2))) := by
      intro h
      rcases base (l := ls.set i uJ) (i := i + 1) h with h | ⟨h1, h2⟩
      · exact Or.inl h
      · refine Or.inr ⟨h1, ?_⟩
        by_cases hj : i = j
        · subst hj
          rw [List.getElem?_set] at h2
          simp only [if_true] at h2
          split at h2
          · obtain rfl := Option.some.inj h2; cases hw
          · cases h2
        · rw [List.getElem?_set_ne hj] at h2
          exact ⟨h2, fun q => hj (by omega)⟩
    have one : (∀ x, ls[i]? = some x → x.category ≠ 2) → ((ls.set (i + 1) v)[j]? = some w → (j = i + 1 ∧ w = v) ∨ (j ≠ i + 1 ∧ ls[j]? = some w ∧ ¬ (j + 1 = i + 1 ∧ w.category = 2))) := by
      intro hc h
      rcases base (l := ls) (i := i + 1) h with h | ⟨h1, h2⟩
      · exact Or.inl h
      · exact Or.inr ⟨h1, h2, fun q => hc w (by rw [show i = j by omega]; exact h2) q.2⟩
    simp only [st1] at h
    split at h
    · exact two h
    · exact two h
    · rename_i hn1 hn2
      refine one (fun x hx hc => ?_) h
      cases x with
      | long y => exact hn1 y hx
      | double y => exact hn2 y hx
      | int y => cases hc
      | float y => cases hc
      | ref y => cases hc
      | null => cases hc
      | retAddr y => cases hc
def lhl (ad : Nat → Nat) (ls : List Value) : List (Nat × Value) := (ls.zipIdx.filter (fun q => !isJ q.1)).map (fun q => (q.2, cv ad q.1))
theorem lhl_mem {ad : Nat → Nat} {ls : List Value} {i : Nat} {v : Value} (h : ls[i]? = some v) (hj : isJ v = false) : (i, cv ad v) ∈ lhl ad ls := by
  refine List.mem_map.mpr ⟨(v, i), List.mem_filter.mpr ⟨?_, by simp [hj]⟩, rfl⟩
  exact List.mem_iff_getElem?.mpr ⟨i, by simp [List.getElem?_zipIdx, h]⟩
theorem lhl_has {la : Array Slot} {n : Nat} {ad : Nat → Nat} {ls : List Value} (h : LH la n ad ls) : lv_has la n (lhl ad ls) := by
  refine ⟨h.1, h.2.1, fun q hq => ?_⟩
  obtain ⟨⟨v, i⟩, hm, rfl⟩ := List.mem_map.mp hq
  obtain ⟨h1, h2⟩ := List.mem_filter.mp hm
  obtain ⟨k, hk⟩ := List.mem_iff_getElem?.mp h1
  simp only [List.getElem?_zipIdx] at hk
  cases hv : ls[k]? with
  | none => rw [hv] at hk; cases hk
  | some v' =>
    rw [hv] at hk
    simp only [Option.map_some, Option.some.injEq, Prod.mk.injEq, Nat.zero_add] at hk
    obtain ⟨rfl, rfl⟩ := hk
    exact h.2.2 _ _ hv (by simpa using h2)
theorem lh_st1 {la : Array Slot} {n : Nat} {ad : Nat → Nat} {ls ls' : List Value} {i : Nat} {v : Value} (h : lv_has la n ((i, cv ad v) :: (lhl ad ls).filter (fun q => !(q.1 == i) && !(q.1 + 1 == i && q.2.category == 2)))) (e : st1 i v ls = ls') : LH la n ad ls' := by
  subst e
  refine ⟨h.1, h.2.1, fun j w hj hw => ?_⟩
  rcases st1_spec hj hw with ⟨rfl, rfl⟩ | ⟨h1, h2, h3⟩
  · exact h.2.2 _ List.mem_cons_self
  · refine h.2.2 (j, cv ad w) (List.mem_cons_of_mem _ (List.mem_filter.mpr ⟨lhl_mem h2 hw, ?_⟩))
    simp only [cv_cat]
    by_cases a : j + 1 = i
    · have : ¬ w.category = 2 := fun z => h3 ⟨a, z⟩
      simp [h1, this]
    · simp [h1, a]
theorem lh_st2 {la : Array Slot} {n : Nat} {ad : Nat → Nat} {ls ls' : List Value} {i : Nat} {v : Value} (h : lv_has la n ((i, cv ad v) :: (lhl ad ls).filter (fun q => !(q.1 == i) && (!(q.1 == i + 1) && !(q.1 + 1 == i && q.2.category == 2))))) (e : st2 i v ls = ls') : LH la n ad ls' := by
  subst e
  refine ⟨h.1, h.2.1, fun j w hj hw => ?_⟩
  have hne : j ≠ i + 1 := fun q => by
    subst q
    unfold st2 at hj
    rw [List.getElem?_set] at hj
    simp only [if_true] at hj
    split at hj
    · obtain rfl := Option.some.inj hj; cases hw
    · cases hj
  unfold st2 at hj
  rw [List.getElem?_set_ne (fun q => hne q.symm)] at hj
  rcases st1_spec hj hw with ⟨rfl, rfl⟩ | ⟨h1, h2, h3⟩
  · exact h.2.2 _ List.mem_cons_self
  · refine h.2.2 (j, cv ad w) (List.mem_cons_of_mem _ (List.mem_filter.mpr ⟨lhl_mem h2 hw, ?_⟩))
    simp only [cv_cat]
    by_cases a : j + 1 = i
    · have : ¬ w.category = 2 := fun z => h3 ⟨a, z⟩
      simp [h1, hne, this]
    · simp [h1, hne, a]
theorem ev_istore_n {k0 : Fin 4} {x : Int32} {ls2 : List Value} (i : Nat) (hd : decode (mC M) pc = .ok (.istore_n k0, 1)) (hi : (k0 : Nat) = i) (hn : i < mL M) (h : st1 i (.int x) ls = ls2) (k : Ev S M (pc + 1) ls2 st d Q) : Ev S M pc ls (.int x :: st) d Q := by
  intro p l e s m args below meth c D ad cA A H locs la C hP hD hS hl
  obtain ⟨hx, hb, hml, hr, hlk, hown, hts, hK, hA, hE⟩ := id C
  exact lv_istore_n hx hb hd hi (lhl_has hl) hn rfl (fun la2 h2 => k p l e s m args below meth c D ad cA A H locs la2 C hP hD hS (lh_st1 (v := (.int x)) h2 h))
theorem ev_istore {x : Int32} {ls2 : List Value} {i : Nat} (hd : decode (mC M) pc = .ok (.istore i, 2)) (hn : i < mL M) (h : st1 i (.int x) ls = ls2) (k : Ev S M (pc + 2) ls2 st d Q) : Ev S M pc ls (.int x :: st) d Q := by
  intro p l e s m args below meth c D ad cA A H locs la C hP hD hS hl
  obtain ⟨hx, hb, hml, hr, hlk, hown, hts, hK, hA, hE⟩ := id C
  exact lv_istore hx hb hd (lhl_has hl) hn rfl (fun la2 h2 => k p l e s m args below meth c D ad cA A H locs la2 C hP hD hS (lh_st1 (v := (.int x)) h2 h))
theorem ev_lstore_n {k0 : Fin 4} {x : Int64} {ls2 : List Value} (i : Nat) (hd : decode (mC M) pc = .ok (.lstore_n k0, 1)) (hi : (k0 : Nat) = i) (hn : i + 1 < mL M) (h : st2 i (.long x) ls = ls2) (k : Ev S M (pc + 1) ls2 st d Q) : Ev S M pc ls (.long x :: st) d Q := by
  intro p l e s m args below meth c D ad cA A H locs la C hP hD hS hl
  obtain ⟨hx, hb, hml, hr, hlk, hown, hts, hK, hA, hE⟩ := id C
  exact lv_lstore_n hx hb hd hi (lhl_has hl) hn rfl (fun la2 h2 => k p l e s m args below meth c D ad cA A H locs la2 C hP hD hS (lh_st2 (v := (.long x)) h2 h))
theorem ev_lstore {x : Int64} {ls2 : List Value} {i : Nat} (hd : decode (mC M) pc = .ok (.lstore i, 2)) (hn : i + 1 < mL M) (h : st2 i (.long x) ls = ls2) (k : Ev S M (pc + 2) ls2 st d Q) : Ev S M pc ls (.long x :: st) d Q := by
  intro p l e s m args below meth c D ad cA A H locs la C hP hD hS hl
  obtain ⟨hx, hb, hml, hr, hlk, hown, hts, hK, hA, hE⟩ := id C
  exact lv_lstore hx hb hd (lhl_has hl) hn rfl (fun la2 h2 => k p l e s m args below meth c D ad cA A H locs la2 C hP hD hS (lh_st2 (v := (.long x)) h2 h))
theorem ev_astore_n {k0 : Fin 4} {x : Nat} {ls2 : List Value} (i : Nat) (hd : decode (mC M) pc = .ok (.astore_n k0, 1)) (hi : (k0 : Nat) = i) (hn : i < mL M) (h : st1 i (.ref x) ls = ls2) (k : Ev S M (pc + 1) ls2 st d Q) : Ev S M pc ls (.ref x :: st) d Q := by
  intro p l e s m args below meth c D ad cA A H locs la C hP hD hS hl
  obtain ⟨hx, hb, hml, hr, hlk, hown, hts, hK, hA, hE⟩ := id C
  exact lv_astore_n hx hb hd hi (lhl_has hl) hn rfl (fun la2 h2 => k p l e s m args below meth c D ad cA A H locs la2 C hP hD hS (lh_st1 (v := (.ref x)) h2 h))
theorem ev_astore {x : Nat} {ls2 : List Value} {i : Nat} (hd : decode (mC M) pc = .ok (.astore i, 2)) (hn : i < mL M) (h : st1 i (.ref x) ls = ls2) (k : Ev S M (pc + 2) ls2 st d Q) : Ev S M pc ls (.ref x :: st) d Q := by
  intro p l e s m args below meth c D ad cA A H locs la C hP hD hS hl
  obtain ⟨hx, hb, hml, hr, hlk, hown, hts, hK, hA, hE⟩ := id C
  exact lv_astore hx hb hd (lhl_has hl) hn rfl (fun la2 h2 => k p l e s m args below meth c D ad cA A H locs la2 C hP hD hS (lh_st1 (v := (.ref x)) h2 h))
theorem ev_iinc {x v : Int32} {n : Int} {ls2 : List Value} {i : Nat} (hd : decode (mC M) pc = .ok (.iinc i n, 3)) (h0 : ls[i]? = some (.int x)) (hv : x + Int32.ofInt n = v) (hn : i < mL M) (h : st1 i (.int v) ls = ls2) (k : Ev S M (pc + 3) ls2 st d Q) : Ev S M pc ls st d Q := by
  intro p l e s m args below meth c D ad cA A H locs la C hP hD hS hl
  obtain ⟨hx, hb, hml, hr, hlk, hown, hts, hK, hA, hE⟩ := id C
  obtain ⟨k9, hk9⟩ := List.mem_iff_getElem?.mp (lhl_mem (ad := ad) h0 rfl)
  exact lv_iinc hx hb hd (lhl_has hl) hk9 hv hn rfl (fun la2 h2 => k p l e s m args below meth c D ad cA A H locs la2 C hP hD hS (lh_st1 (v := .int v) h2 h))
def ClsOk (ci : Nat) (C : String) (T : u_T) (N : Nat) (ty0 : Nat → FieldType) : Prop := vwCl[ci]? = some (C, T, N) ∧ (∀ w ∈ u_ws C T N, w ∈ wT) ∧ (∀ k, k < N → parseFieldDescriptor (T k).2.2.1 = some (ty0 k)) ∧ (∀ a, a < N → ∀ b, b < N → a ≠ b → (T a).2.1 ≠ (T b).2.1)
theorem u_wsIn {C : String} {T : u_T} {N : Nat} {L : List Cond} (h : ∀ k, k < N → u_lay C T k ∈ L) : ∀ w ∈ u_ws C T N, w ∈ L := by
  intro w hw
  obtain ⟨k, hk, rfl⟩ := List.mem_map.mp hw
  exact h k (List.mem_range.mp hk)
theorem ev_get {b ci N idx : Nat} {C : String} {T : u_T} {ty0 : Nat → FieldType} {sl : List (Option Nat)} (j : Nat) (hd : decode (mC M) pc = .ok (.getfield idx, 3)) (hs : S[b]? = some (4, ci, sl)) (hc : ClsOk ci C T N ty0) (hj : j < N) (hv : sl[j]? = some none) (hw : Cond.fieldLink (mOwn M) idx (T j).1 (T j).2.1 (T j).2.2.1 ∈ wT) (k : Ev S M (pc + 3) ls (.int (d b j) :: st) d Q) : Ev S M pc ls (.ref b :: st) d Q := by
  intro p l e s m args below meth c D ad cA A H locs la C hP hD hS hl
  obtain ⟨hx, hb, hml, hr, hlk, hown, hts, hK, hA, hE⟩ := id C
  exact va_get hx hb hts hc.2.1 hown hK hP b (wsOf_get hs) hc.1 j hj (hts _ hw) (fun _ z => z) (slotsOf_get hv) hd (k p l e s m args below meth c D ad cA A H locs la C hP hD hS hl)
theorem ev_getr {b ci N idx r : Nat} {C : String} {T : u_T} {ty0 : Nat → FieldType} {sl : List (Option Nat)} (j : Nat) (hd : decode (mC M) pc = .ok (.getfield idx, 3)) (hs : S[b]? = some (4, ci, sl)) (hc : ClsOk ci C T N ty0) (hj : j < N) (hv : sl[j]? = some (some r)) (hw : Cond.fieldLink (mOwn M) idx (T j).1 (T j).2.1 (T j).2.2.1 ∈ wT) (k : Ev S M (pc + 3) ls (.ref r :: st) d Q) : Ev S M pc ls (.ref b :: st) d Q := by
  intro p l e s m args below meth c D ad cA A H locs la C hP hD hS hl
  obtain ⟨hx, hb, hml, hr, hlk, hown, hts, hK, hA, hE⟩ := id C
  exact va_get hx hb hts hc.2.1 hown hK hP b (wsOf_get hs) hc.1 j hj (hts _ hw) (fun _ z => z) (slotsOf_ref hv) hd (k p l e s m args below meth c D ad cA A H locs la C hP hD hS hl)
theorem ev_put {b ci N idx : Nat} {x : Int32} {C : String} {T : u_T} {ty0 : Nat → FieldType} {sl : List (Option Nat)} (j : Nat) (hd : decode (mC M) pc = .ok (.putfield idx, 3)) (hs : S[b]? = some (4, ci, sl)) (hc : ClsOk ci C T N ty0) (hj : j < N) (hv : sl[j]? = some none) (hw : Cond.fieldLink (mOwn M) idx (T j).1 (T j).2.1 (T j).2.2.1 ∈ wT) (hfin : (T j).2.2.2 = false) (hn : narrow (ty0 j) (.int x) = .int x) (hfit : fits (ty0 j) (.int x) = true) (k : Ev S M (pc + 3) ls st (up d b j x) Q) : Ev S M pc ls (.int x :: .ref b :: st) d Q := by
  intro p l e s m args below meth c D ad cA A H locs la C hP hD hS hl
  obtain ⟨hx, hb, hml, hr, hlk, hown, hts, hK, hA, hE⟩ := id C
  refine va_put hx hb hts hc.2.1 ty0 hc.2.2.1 hc.2.2.2 hown hK hP hD hS b (wsOf_get hs) hc.1 j hj (hts _ hw) (fun _ z => z) hfin (hc.2.2.1 j hj) hn hfit (by rw [slotsOf, List.length_mapIdx]; exact (List.getElem?_eq_some_iff.mp hv).1) hd (fun H locs hP hD hS => ?_)
  have eW : (wsOf ad cA S d).set b (ad b, .inr (ci, (slotsOf ad (d b) sl).set j (.int x))) = wsOf ad cA S (up d b j x) := wsOf_set hs (fun a h => up_ne a h) (by rw [up_at]; show Sum.inr (ci, slotsOf ad (upd (d b) j x) sl) = _; rw [slotsOf_set hv])
  have hP2 : va_P D vwCl (wsOf ad cA S (up d b j x)) H := by rw [← eW]; exact hP
  have hD2 : va_D A (wsOf ad cA S (up d b j x)) := by rw [← eW]; exact hD
  exact k p l e s m args below meth c D ad cA A H locs la C hP2 hD2 hS hl
theorem ev_iald {b n : Nat} {i : Int32} {sl : List (Option Nat)} (hd : decode (mC M) pc = .ok (.iaload, 1)) (hs : S[b]? = some (0, n, sl)) (hin : vp_in i n) (k : Ev S M (pc + 1) ls (.int (d b i.toNatClampNeg) :: st) d Q) : Ev S M pc ls (.int i :: .ref b :: st) d Q := by
  intro p l e s m args below meth c D ad cA A H locs la C hP hD hS hl
  obtain ⟨hx, hb, hml, hr, hlk, hown, hts, hK, hA, hE⟩ := id C
  exact va_iald hx hb hK hP b 0 (wsOf_get hs) rfl hin hd (k p l e s m args below meth c D ad cA A H locs la C hP hD hS hl)
theorem ev_iast {b n : Nat} {i x : Int32} {sl : List (Option Nat)} (hd : decode (mC M) pc = .ok (.iastore, 1)) (hs : S[b]? = some (0, n, sl)) (hin : vp_in i n) (k : Ev S M (pc + 1) ls st (up d b i.toNatClampNeg x) Q) : Ev S M pc ls (.int x :: .int i :: .ref b :: st) d Q := by
  intro p l e s m args below meth c D ad cA A H locs la C hP hD hS hl
  obtain ⟨hx, hb, hml, hr, hlk, hown, hts, hK, hA, hE⟩ := id C
  refine va_iast hx hb hK hP hD hS b 0 (wsOf_get hs) rfl hin hd (fun H locs hP hD hS => ?_)
  have eW : (wsOf ad cA S d).set b (ad b, .inl (cA 0, n, .inl (upd (d b) i.toNatClampNeg x))) = wsOf ad cA S (up d b i.toNatClampNeg x) := wsOf_set hs (fun a h => up_ne a h) (by rw [up_at]; rfl)
  have hP2 : va_P D vwCl (wsOf ad cA S (up d b i.toNatClampNeg x)) H := by rw [← eW]; exact hP
  have hD2 : va_D A (wsOf ad cA S (up d b i.toNatClampNeg x)) := by rw [← eW]; exact hD
  exact k p l e s m args below meth c D ad cA A H locs la C hP2 hD2 hS hl
theorem ev_zald {b n : Nat} {i : Int32} {sl : List (Option Nat)} (hd : decode (mC M) pc = .ok (.baload, 1)) (hs : S[b]? = some (1, n, sl)) (hin : vp_in i n) (k : Ev S M (pc + 1) ls (.int (d b i.toNatClampNeg) :: st) d Q) : Ev S M pc ls (.int i :: .ref b :: st) d Q := by
  intro p l e s m args below meth c D ad cA A H locs la C hP hD hS hl
  obtain ⟨hx, hb, hml, hr, hlk, hown, hts, hK, hA, hE⟩ := id C
  exact va_zald hx hb hK hP b 1 (wsOf_get hs) rfl hin hd (k p l e s m args below meth c D ad cA A H locs la C hP hD hS hl)
theorem ev_zast {b n : Nat} {i x y : Int32} {sl : List (Option Nat)} (hd : decode (mC M) pc = .ok (.bastore, 1)) (hs : S[b]? = some (1, n, sl)) (hin : vp_in i n) (hy : vp_nar .boolean x = y) (k : Ev S M (pc + 1) ls st (up d b i.toNatClampNeg y) Q) : Ev S M pc ls (.int x :: .int i :: .ref b :: st) d Q := by
  subst hy
  intro p l e s m args below meth c D ad cA A H locs la C hP hD hS hl
  obtain ⟨hx, hb, hml, hr, hlk, hown, hts, hK, hA, hE⟩ := id C
  refine va_zast hx hb hK hP hD hS b 1 (wsOf_get hs) rfl hin hd (fun H locs hP hD hS => ?_)
  have eW : (wsOf ad cA S d).set b (ad b, .inl (cA 1, n, .inl (upd (d b) i.toNatClampNeg (vp_nar .boolean x)))) = wsOf ad cA S (up d b i.toNatClampNeg (vp_nar .boolean x)) := wsOf_set hs (fun a h => up_ne a h) (by rw [up_at]; rfl)
  have hP2 : va_P D vwCl (wsOf ad cA S (up d b i.toNatClampNeg (vp_nar .boolean x))) H := by rw [← eW]; exact hP
  have hD2 : va_D A (wsOf ad cA S (up d b i.toNatClampNeg (vp_nar .boolean x))) := by rw [← eW]; exact hD
  exact k p l e s m args below meth c D ad cA A H locs la C hP2 hD2 hS hl
theorem ev_aald {b n r q0 : Nat} {i : Int32} {sl : List (Option Nat)} (hd : decode (mC M) pc = .ok (.aaload, 1)) (hs : S[b]? = some (q0, n, sl)) (hq : q0 = 2 ∨ q0 = 3) (hin : vp_in i n) (hr0 : sl[i.toNatClampNeg]? = some (some r)) (k : Ev S M (pc + 1) ls (.ref r :: st) d Q) : Ev S M pc ls (.int i :: .ref b :: st) d Q := by
  intro p l e s m args below meth c D ad cA A H locs la C hP hD hS hl
  obtain ⟨hx, hb, hml, hr, hlk, hown, hts, hK, hA, hE⟩ := id C
  have hrf : va_rf (refsOf ad sl i.toNatClampNeg) = .ref (ad r) := by simp [refsOf, List.getD_eq_getElem?_getD, hr0, va_rf]
  rcases hq with rfl | rfl
  · refine va_aldq hx hb hK hP b 2 (wsOf_get hs) rfl hin hd ?_
    rw [hrf]
    exact k p l e s m args below meth c D ad cA A H locs la C hP hD hS hl
  · refine va_aldq hx hb hK hP b 3 (wsOf_get hs) rfl hin hd ?_
    rw [hrf]
    exact k p l e s m args below meth c D ad cA A H locs la C hP hD hS hl
theorem ev_mmax {idx : Nat} {x y : Int32} (hd : decode (mC M) pc = .ok (.invokestatic idx, 3)) (hw : Cond.methodLink (mOwn M) idx Lib.Math.max.name ∈ wT) (hw2 : Cond.static Lib.Math.max.name ∈ wT) (hw3 : Cond.initialized "java/lang/Math" ∈ wT) (hw4 : Cond.code Lib.Math.max.name Lib.Math.max.code 2 (some .int) ∈ wT) (hF : 1 ≤ mF M) (hO : (st.map fun v => v.category).sum + 13 ≤ mO M) (k : Ev S M (pc + 3) ls (.int (if x < y then y else x) :: st) d Q) : Ev S M pc ls (.int y :: .int x :: st) d Q := by
  intro p l e s m args below meth c D ad cA A H locs la C hP hD hS hl
  obtain ⟨hx, hb, hml, hr, hlk, hown, hts, hK, hA, hE⟩ := id C
  refine va_mmax hx hb (by rw [hml]; exact hl.1.symm) hown (hts _ hw) (hts _ hw2) (hts _ hw3) (hts _ hw4) hF ?_ (Nat.zero_le _) (Nat.zero_le _) hd (k p l e s m args below meth c D ad cA A H locs la C hP hD hS hl)
  have e0 : ((st.map (cv ad)).map fun v => v.category) = st.map fun v => v.category := by rw [List.map_map]; exact List.map_congr_left fun v _ => cv_cat ad v
  rw [e0]
  exact hO
theorem ev_copy {idx b0 b1 n0 n1 : Nat} {s0 s1 : List (Option Nat)} {sp dp n : Int32} (hd : decode (mC M) pc = .ok (.invokestatic idx, 3)) (hw : Cond.methodLink (mOwn M) idx arraycopyName ∈ wT) (hw2 : Cond.native arraycopyName ∈ wT) (hw3 : Cond.static arraycopyName ∈ wT) (hw4 : Cond.initialized "java/lang/System" ∈ wT) (hs0 : S[b0]? = some (0, n0, s0)) (hs1 : S[b1]? = some (0, n1, s1)) (h1 : ¬ sp < 0) (h2 : ¬ dp < 0) (h3 : ¬ n < 0) (h4 : sp.toNatClampNeg + n.toNatClampNeg ≤ n0) (h5 : dp.toNatClampNeg + n.toNatClampNeg ≤ n1) (hF : 1 ≤ mF M) (hO : (st.map fun v => v.category).sum + 18 ≤ mO M)
    (k : Ev S M (pc + 3) ls st (rowset d b1 (va_cpy (d b0) (d b1) sp.toNatClampNeg dp.toNatClampNeg n.toNatClampNeg)) Q) : Ev S M pc ls (.int n :: .int dp :: .ref b1 :: .int sp :: .ref b0 :: st) d Q := by
  intro p l e s m args below meth c D ad cA A H locs la C hP hD hS hl
  obtain ⟨hx, hb, hml, hr, hlk, hown, hts, hK, hA, hE⟩ := id C
  have e0 : ((st.map (cv ad)).map fun v => v.category) = st.map fun v => v.category := by rw [List.map_map]; exact List.map_congr_left fun v _ => cv_cat ad v
  refine va_copyi hx hb (by rw [hml]; exact hl.1.symm) hown (hts _ hw) (hts _ hw2) (hts _ hw3) (hts _ hw4) hK hP hD hS b0 b1 0 0 (wsOf_get hs0) (wsOf_get hs1) rfl rfl rfl h1 h2 h3 h4 h5 (fun i _ => rfl) hF (by rw [e0, natfw]; exact hO) hd (fun H locs hP hD hS => ?_)
  have eW : (wsOf ad cA S d).set b1 (ad b1, .inl (cA 0, n1, .inl (va_cpy (d b0) (d b1) sp.toNatClampNeg dp.toNatClampNeg n.toNatClampNeg))) = wsOf ad cA S (rowset d b1 (va_cpy (d b0) (d b1) sp.toNatClampNeg dp.toNatClampNeg n.toNatClampNeg)) := wsOf_set hs1 (fun a h => rowset_ne a h) (by rw [rowset_at]; rfl)
  have hP2 : va_P D vwCl (wsOf ad cA S (rowset d b1 (va_cpy (d b0) (d b1) sp.toNatClampNeg dp.toNatClampNeg n.toNatClampNeg))) H := by rw [← eW]; exact hP
  have hD2 : va_D A (wsOf ad cA S (rowset d b1 (va_cpy (d b0) (d b1) sp.toNatClampNeg dp.toNatClampNeg n.toNatClampNeg))) := by rw [← eW]; exact hD
  exact k p l e s m args below meth c D ad cA A H locs la C hP2 hD2 hS hl
theorem ev_ldc {idx : Nat} {v : Int32} (hd : decode (mC M) pc = .ok (.ldc idx, 2)) (hw : Cond.constant (mOwn M) idx v ∈ wT) (k : Ev S M (pc + 2) ls (.int v :: st) d Q) : Ev S M pc ls st d Q := by
  intro p l e s m args below meth c D ad cA A H locs la C hP hD hS hl
  obtain ⟨hx, hb, hml, hr, hlk, hown, hts, hK, hA, hE⟩ := id C
  exact lv_ldc hx hb hown (hts _ hw) hd (k p l e s m args below meth c D ad cA A H locs la C hP hD hS hl)
theorem ev_ldcw {idx : Nat} {v : Int32} (hd : decode (mC M) pc = .ok (.ldc_w idx, 3)) (hw : Cond.constant (mOwn M) idx v ∈ wT) (k : Ev S M (pc + 3) ls (.int v :: st) d Q) : Ev S M pc ls st d Q := by
  intro p l e s m args below meth c D ad cA A H locs la C hP hD hS hl
  obtain ⟨hx, hb, hml, hr, hlk, hown, hts, hK, hA, hE⟩ := id C
  exact lv_ldcw hx hb hown (hts _ hw) hd (k p l e s m args below meth c D ad cA A H locs la C hP hD hS hl)
theorem ev_ldc2 {idx : Nat} {v : Int64} (hd : decode (mC M) pc = .ok (.ldc2_w idx, 3)) (hw : Cond.constantLong (mOwn M) idx v ∈ wT) (k : Ev S M (pc + 3) ls (.long v :: st) d Q) : Ev S M pc ls st d Q := by
  intro p l e s m args below meth c D ad cA A H locs la C hP hD hS hl
  obtain ⟨hx, hb, hml, hr, hlk, hown, hts, hK, hA, hE⟩ := id C
  exact lv_ldc2 hx hb hown (hts _ hw) hd (k p l e s m args below meth c D ad cA A H locs la C hP hD hS hl)
theorem ev_ldcS {idx i : Nat} (hd : decode (mC M) pc = .ok (.ldc idx, 2)) (hM : mOwn M = RX3) (hi : i < 6) (hx0 : strIx.getD i 0 = idx) (k : Ev S M (pc + 2) ls (.ref (1000 + i) :: st) d Q) : Ev S M pc ls st d Q := by
  intro p l e s m args below meth c D ad cA A H locs la C hP hD hS hl
  obtain ⟨hx, hb, hml, hr, hlk, hown, hts, hK, hA, hE⟩ := id C
  subst hx0
  rw [hM] at hown
  exact va_ldcS hx hb hown (hE.2.1 i hi) hd (k p l e s m args below meth c D ad cA A H locs la C hP hD hS hl)
theorem ev_ireti (hd : decode (mC M) pc = .ok (.ireturn, 1)) (hK1 : mK M = 1) {ty : FieldType} (hty : mR M = some ty) {x : Int32} (hn : narrow ty (.int x) = .int x) (h : Q (.int x) d) : Ev S M pc ls [.int x] d Q := by
  intro p l e s m args below meth c D ad cA A H locs la C hP hD hS hl
  obtain ⟨hx, hb, hml, hr, hlk, hown, hts, hK, hA, hE⟩ := id C
  have eQ : QQ S (mK M) D ad cA A Q = va_Qi (fun r d => Q (.int r) d) (fun (d : DD) t => va_P D vwCl (wsOf ad cA S d) t.heap) A := by rw [hK1]; rfl
  rw [eQ]
  exact W.zret hx hb (hr.trans hty) hn (fun t ht hW => ⟨⟨x, d, rfl, h, by show va_P D vwCl (wsOf ad cA S d) t.heap; rw [ht]; exact hP⟩, hS.F ht⟩) hS.2.2 hd
theorem ev_lreti (hd : decode (mC M) pc = .ok (.lreturn, 1)) (hK1 : mK M = 2) (hty : mR M = some .long) {x : Int64} (h : Q (.long x) d) : Ev S M pc ls [.long x] d Q := by
  intro p l e s m args below meth c D ad cA A H locs la C hP hD hS hl
  obtain ⟨hx, hb, hml, hr, hlk, hown, hts, hK, hA, hE⟩ := id C
  have eQ : QQ S (mK M) D ad cA A Q = va_Ql (fun r d => Q (.long r) d) (fun (d : DD) t => va_P D vwCl (wsOf ad cA S d) t.heap) A := by rw [hK1]; rfl
  rw [eQ]
  exact W.lret hx hb (hr.trans hty) (fun t ht hW => ⟨⟨x, d, rfl, h, by show va_P D vwCl (wsOf ad cA S d) t.heap; rw [ht]; exact hP⟩, hS.F ht⟩) hS.2.2 hd
theorem ev_ret (hd : decode (mC M) pc = .ok (.return_, 1)) (hK1 : mK M = 0) (hty : mR M = none) (h : Q .null d) : Ev S M pc ls [] d Q := by
  intro p l e s m args below meth c D ad cA A H locs la C hP hD hS hl
  obtain ⟨hx, hb, hml, hr, hlk, hown, hts, hK, hA, hE⟩ := id C
  have eQ : QQ S (mK M) D ad cA A Q = va_Qv (fun d => Q .null d) (fun (d : DD) t => va_P D vwCl (wsOf ad cA S d) t.heap) A := by rw [hK1]; rfl
  rw [eQ]
  exact W.vret hx hb (hr.trans hty) (fun t ht hW => ⟨⟨d, rfl, h, by show va_P D vwCl (wsOf ad cA S d) t.heap; rw [ht]; exact hP⟩, hS.F ht⟩) hS.2.2 hd
/-- what a call of M2 needs of the tables, beside the link -/
def MvOk (M2 : MM) (n : Nat) : Prop := Cond.instanceMethod (mY M2) ∈ wT ∧ Cond.selects (mY M2).cls (mY M2) (mY M2) ∈ wT ∧ Cond.initialized (mY M2).cls ∈ wT ∧ Cond.code (mY M2) (mC M2) (mL M2) (mR M2) ∈ wT ∧ ((mY M2).cls ≠ "java/lang/invoke/MethodHandle" ∧ (mY M2).cls ≠ "java/lang/invoke/VarHandle" ∧ (parseMethodDescriptor (mY M2).desc).map (fun d => d.parameters.length) = some n)
def MsOk (M2 : MM) (n : Nat) : Prop := Cond.static (mY M2) ∈ wT ∧ Cond.initialized (mY M2).cls ∈ wT ∧ Cond.code (mY M2) (mC M2) (mL M2) (mR M2) ∈ wT ∧ ((mY M2).cls ≠ "java/lang/invoke/MethodHandle" ∧ (mY M2).cls ≠ "java/lang/invoke/VarHandle" ∧ (parseMethodDescriptor (mY M2).desc).map (fun d => d.parameters.length) = some n)
def RmOk (M M2 : MM) : Prop := mF M2 + 1 ≤ mF M ∧ 8 + (mL M2 + 11) + mO M2 ≤ mO M
theorem good1 {w : Cond} (h : w ∈ wT) : w ∈ wT ∧ ((w.onTables && w.keeps) = true ∨ ∃ ty, w = .arrayClass ty) := wT_good w h
theorem mW_good {M2 : MM} (h : Cond.code (mY M2) (mC M2) (mL M2) (mR M2) ∈ wT) : GoodIn wT (mW M2) := fun w hw => (List.mem_cons.mp hw).elim (fun e => by rw [e]; exact good1 h) (fun h => good1 h)
/-- the premise of a contract at a call -/
theorem cn_pre {As : List Value} {p : Program} {s : State} {m : MethodId} {args : Array Value} {meth : Method} {c : Code} {D : va_G} {ad : Nat → Nat} {cA : Nat → ClassId} {A : Nat → Prop} {H : Heap} {locs : List Loc} {M : MM} (C : Cx M p s m args meth c D ad cA A) (hP : va_P D vwCl (wsOf ad cA S d) H) (hD : va_D A (wsOf ad cA S d)) (hS : va_S A s.heap H locs) :
    PreS s H (va_Pc (As.map (cv ad)) (fun U => U.heap.size = H.size ∧ va_P D vwCl (wsOf ad cA S d) U.heap ∧ va_K D vwCl (tysOf cA) U ∧ va_D (fun _ => True) (wsOf ad cA S d) ∧ Ex ad (va_A (wsOf ad cA S d) H.size) U U.heap)) (As.map (cv ad)) ∧ ∀ q, va_A (wsOf ad cA S d) H.size q → A q := by
  obtain ⟨hx, hb, hml, hr, hlk, hown, hts, hK, hA, hE⟩ := C
  have hF : ∀ q, va_A (wsOf ad cA S d) H.size q → A q := by
    intro q h
    rcases h with ⟨k, e, h⟩ | h
    · exact hD.2 k (q, e) h
    · exact hA q (Nat.le_trans hS.1 h)
  refine ⟨⟨fun a U g mk h => ?_, fun U hU hW => ⟨rfl, by rw [hU], by rw [hU]; exact hP, va_K.moved hW.alike hK, hD.weaken (fun _ _ _ _ => trivial), hE.step hS hU hW hF⟩⟩, hF⟩
  obtain ⟨h1, h2, h3, h4, h5, h6⟩ := h
  exact ⟨h1, h2, h3, va_K.moved (u := U) (U := U.calling g mk a) (Vm.Alike.refl U.vm) h4, h5, Ex.same (u := U) (U := U.calling g mk a) rfl h6⟩
theorem ev_callVi {M2 : MM} {As : List Value} {Q2 : Value → DD → Prop} {idx n : Nat} {b ci : Nat} {N : Nat} {C0 : String} {T : u_T} {ty0 : Nat → FieldType} {sl : List (Option Nat)} (hd : decode (mC M) pc = .ok (.invokevirtual idx, 3)) (hs : S[b]? = some (4, ci, sl)) (hc : ClsOk ci C0 T N ty0) (hC : (mY M2).cls = C0) (hw : Cond.methodLink (mOwn M) idx (mY M2) ∈ wT) (mo : MvOk M2 n) (hk2 : mK M2 = 1) (hR : RmOk M M2) (hn : As.length = n) (hst : st = As.reverse ++ .ref b :: rest) (hcat : (rest.map fun v => v.category).sum ≤ 8) (hcn : Cn S M2 (.ref b :: As) d Q2) (k : ∀ (r : Int32) d2, Q2 (.int r) d2 → Ev S M (pc + 3) ls (.int r :: rest) d2 Q) : Ev S M pc ls st d Q := by
  intro p l e s m args below meth c D ad cA A H locs la C hP hD hS hl
  obtain ⟨hx, hb, hml, hr, hlk, hown, hts, hK, hA, hE⟩ := id C
  subst hst
  obtain ⟨hpre, hF⟩ := cn_pre (As := (.ref b :: As)) C hP hD hS
  have hM := hcn l D ad cA H.size
  rw [show QQ S (mK M2) D ad cA (va_A (wsOf ad cA S d) H.size) Q2 = va_Qi (fun r d => Q2 (.int r) d) (fun (d : DD) t => va_P D vwCl (wsOf ad cA S d) t.heap) (va_A (wsOf ad cA S d) H.size) by rw [hk2]; rfl] at hM
  have e0 : ((rest.map (cv ad)).map fun v => v.category) = rest.map fun v => v.category := by rw [List.map_map]; exact List.map_congr_left fun v _ => cv_cat ad v
  have es : (As.reverse ++ .ref b :: rest).map (cv ad) = (As.map (cv ad)).reverse ++ .ref (ad b) :: rest.map (cv ad) := by simp [cv]
  rw [es]
  obtain ⟨m1, m2, m3, m4, m5⟩ := mo
  have hG : GoodIn wT (wsV (mOwn M) idx C0 (mY M2) (mW M2)) := by
    subst hC
    intro w hw2
    rcases List.mem_append.mp hw2 with h | h
    · simp only [List.mem_cons, List.not_mem_nil, or_false] at h
      rcases h with rfl | rfl | rfl | rfl
      · exact good1 hw
      · exact good1 m1
      · exact good1 m2
      · exact good1 m3
    · exact mW_good m4 w h
  refine va_calli (va_runV (As := As.map (cv ad)) (rest := rest.map (cv ad)) (C := C0) ⟨hx, hb, hml, hown, hts⟩ hM (cwV n hts hG rfl rfl rfl ⟨hC, m5⟩ hR) ⟨hpre.1, va_recv hK hP hc.1 (wsOf_get hs), hpre.2⟩ rfl (by rw [List.length_map]; exact hn) hl.1 rfl (lv_room (by rw [e0]; exact hcat)) hd ⟨Nat.zero_le _, Nat.zero_le _⟩) hS (fun q _ h => hF q h) hF (fun r d2 t H1 locs1 ht hvm hq hB hz hk hS1 => ?_)
  rw [ht] at hB
  exact k r d2 hq p l e s m args below meth c D ad cA A H1 locs1 la C hB (wsOf_D hD) hS1 hl
theorem ev_callVl {M2 : MM} {As : List Value} {Q2 : Value → DD → Prop} {idx n : Nat} {b ci : Nat} {N : Nat} {C0 : String} {T : u_T} {ty0 : Nat → FieldType} {sl : List (Option Nat)} (hd : decode (mC M) pc = .ok (.invokevirtual idx, 3)) (hs : S[b]? = some (4, ci, sl)) (hc : ClsOk ci C0 T N ty0) (hC : (mY M2).cls = C0) (hw : Cond.methodLink (mOwn M) idx (mY M2) ∈ wT) (mo : MvOk M2 n) (hk2 : mK M2 = 2) (hR : RmOk M M2) (hn : As.length = n) (hst : st = As.reverse ++ .ref b :: rest) (hcat : (rest.map fun v => v.category).sum ≤ 8) (hcn : Cn S M2 (.ref b :: As) d Q2) (k : ∀ (r : Int64) d2, Q2 (.long r) d2 → Ev S M (pc + 3) ls (.long r :: rest) d2 Q) : Ev S M pc ls st d Q := by
  intro p l e s m args below meth c D ad cA A H locs la C hP hD hS hl
  obtain ⟨hx, hb, hml, hr, hlk, hown, hts, hK, hA, hE⟩ := id C
  subst hst
  obtain ⟨hpre, hF⟩ := cn_pre (As := (.ref b :: As)) C hP hD hS
  have hM := hcn l D ad cA H.size
  rw [show QQ S (mK M2) D ad cA (va_A (wsOf ad cA S d) H.size) Q2 = va_Ql (fun r d => Q2 (.long r) d) (fun (d : DD) t => va_P D vwCl (wsOf ad cA S d) t.heap) (va_A (wsOf ad cA S d) H.size) by rw [hk2]; rfl] at hM
  have e0 : ((rest.map (cv ad)).map fun v => v.category) = rest.map fun v => v.category := by rw [List.map_map]; exact List.map_congr_left fun v _ => cv_cat ad v
  have es : (As.reverse ++ .ref b :: rest).map (cv ad) = (As.map (cv ad)).reverse ++ .ref (ad b) :: rest.map (cv ad) := by simp [cv]
  rw [es]
  obtain ⟨m1, m2, m3, m4, m5⟩ := mo
  have hG : GoodIn wT (wsV (mOwn M) idx C0 (mY M2) (mW M2)) := by
    subst hC
    intro w hw2
    rcases List.mem_append.mp hw2 with h | h
    · simp only [List.mem_cons, List.not_mem_nil, or_false] at h
      rcases h with rfl | rfl | rfl | rfl
      · exact good1 hw
      · exact good1 m1
      · exact good1 m2
      · exact good1 m3
    · exact mW_good m4 w h
  refine va_calll (va_runV (As := As.map (cv ad)) (rest := rest.map (cv ad)) (C := C0) ⟨hx, hb, hml, hown, hts⟩ hM (cwV n hts hG rfl rfl rfl ⟨hC, m5⟩ hR) ⟨hpre.1, va_recv hK hP hc.1 (wsOf_get hs), hpre.2⟩ rfl (by rw [List.length_map]; exact hn) hl.1 rfl (lv_room (by rw [e0]; exact hcat)) hd ⟨Nat.zero_le _, Nat.zero_le _⟩) hS (fun q _ h => hF q h) hF (fun r d2 t H1 locs1 ht hvm hq hB hz hk hS1 => ?_)
  rw [ht] at hB
  exact k r d2 hq p l e s m args below meth c D ad cA A H1 locs1 la C hB (wsOf_D hD) hS1 hl
theorem ev_callVv {M2 : MM} {As : List Value} {Q2 : Value → DD → Prop} {idx n : Nat} {b ci : Nat} {N : Nat} {C0 : String} {T : u_T} {ty0 : Nat → FieldType} {sl : List (Option Nat)} (hd : decode (mC M) pc = .ok (.invokevirtual idx, 3)) (hs : S[b]? = some (4, ci, sl)) (hc : ClsOk ci C0 T N ty0) (hC : (mY M2).cls = C0) (hw : Cond.methodLink (mOwn M) idx (mY M2) ∈ wT) (mo : MvOk M2 n) (hk2 : mK M2 = 0) (hR : RmOk M M2) (hn : As.length = n) (hst : st = As.reverse ++ .ref b :: rest) (hcat : (rest.map fun v => v.category).sum ≤ 8) (hcn : Cn S M2 (.ref b :: As) d Q2) (k : ∀ d2, Q2 .null d2 → Ev S M (pc + 3) ls rest d2 Q) : Ev S M pc ls st d Q := by
  intro p l e s m args below meth c D ad cA A H locs la C hP hD hS hl
  obtain ⟨hx, hb, hml, hr, hlk, hown, hts, hK, hA, hE⟩ := id C
  subst hst
  obtain ⟨hpre, hF⟩ := cn_pre (As := (.ref b :: As)) C hP hD hS
  have hM := hcn l D ad cA H.size
  rw [show QQ S (mK M2) D ad cA (va_A (wsOf ad cA S d) H.size) Q2 = va_Qv (fun d => Q2 .null d) (fun (d : DD) t => va_P D vwCl (wsOf ad cA S d) t.heap) (va_A (wsOf ad cA S d) H.size) by rw [hk2]; rfl] at hM
  have e0 : ((rest.map (cv ad)).map fun v => v.category) = rest.map fun v => v.category := by rw [List.map_map]; exact List.map_congr_left fun v _ => cv_cat ad v
  have es : (As.reverse ++ .ref b :: rest).map (cv ad) = (As.map (cv ad)).reverse ++ .ref (ad b) :: rest.map (cv ad) := by simp [cv]
  rw [es]
  obtain ⟨m1, m2, m3, m4, m5⟩ := mo
  have hG : GoodIn wT (wsV (mOwn M) idx C0 (mY M2) (mW M2)) := by
    subst hC
    intro w hw2
    rcases List.mem_append.mp hw2 with h | h
    · simp only [List.mem_cons, List.not_mem_nil, or_false] at h
      rcases h with rfl | rfl | rfl | rfl
      · exact good1 hw
      · exact good1 m1
      · exact good1 m2
      · exact good1 m3
    · exact mW_good m4 w h
  refine va_callv (va_runV (As := As.map (cv ad)) (rest := rest.map (cv ad)) (C := C0) ⟨hx, hb, hml, hown, hts⟩ hM (cwV n hts hG rfl rfl rfl ⟨hC, m5⟩ hR) ⟨hpre.1, va_recv hK hP hc.1 (wsOf_get hs), hpre.2⟩ rfl (by rw [List.length_map]; exact hn) hl.1 rfl (lv_room (by rw [e0]; exact hcat)) hd ⟨Nat.zero_le _, Nat.zero_le _⟩) hS (fun q _ h => hF q h) hF (fun d2 t H1 locs1 ht hvm hq hB hz hk hS1 => ?_)
  rw [ht] at hB
  exact k d2 hq p l e s m args below meth c D ad cA A H1 locs1 la C hB (wsOf_D hD) hS1 hl
theorem ev_callSi {M2 : MM} {As : List Value} {Q2 : Value → DD → Prop} {idx n : Nat} (hd : decode (mC M) pc = .ok (.invokestatic idx, 3)) (hw : Cond.methodLink (mOwn M) idx (mY M2) ∈ wT) (mo : MsOk M2 n) (hk2 : mK M2 = 1) (hR : RmOk M M2) (hn : As.length = n) (hst : st = As.reverse ++ rest) (hcat : (rest.map fun v => v.category).sum ≤ 8) (hcn : Cn S M2 As d Q2) (k : ∀ (r : Int32) d2, Q2 (.int r) d2 → Ev S M (pc + 3) ls (.int r :: rest) d2 Q) : Ev S M pc ls st d Q := by
  intro p l e s m args below meth c D ad cA A H locs la C hP hD hS hl
  obtain ⟨hx, hb, hml, hr, hlk, hown, hts, hK, hA, hE⟩ := id C
  subst hst
  obtain ⟨hpre, hF⟩ := cn_pre (As := As) C hP hD hS
  have hM := hcn l D ad cA H.size
  rw [show QQ S (mK M2) D ad cA (va_A (wsOf ad cA S d) H.size) Q2 = va_Qi (fun r d => Q2 (.int r) d) (fun (d : DD) t => va_P D vwCl (wsOf ad cA S d) t.heap) (va_A (wsOf ad cA S d) H.size) by rw [hk2]; rfl] at hM
  have e0 : ((rest.map (cv ad)).map fun v => v.category) = rest.map fun v => v.category := by rw [List.map_map]; exact List.map_congr_left fun v _ => cv_cat ad v
  have es : (As.reverse ++ rest).map (cv ad) = (As.map (cv ad)).reverse ++ rest.map (cv ad) := by simp
  rw [es]
  obtain ⟨m1, m3, m4, m5⟩ := mo
  have hG : GoodIn wT (va_wsS (mOwn M) idx (mY M2) (mW M2)) := by
    intro w hw2
    rcases List.mem_append.mp hw2 with h | h
    · simp only [List.mem_cons, List.not_mem_nil, or_false] at h
      rcases h with rfl | rfl | rfl
      · exact good1 hw
      · exact good1 m1
      · exact good1 m3
    · exact mW_good m4 w h
  refine va_calli (va_runS (As := As.map (cv ad)) (rest := rest.map (cv ad)) ⟨hx, hb, hml, hown, hts⟩ hM (va_cwS n hts hG rfl rfl rfl m5 hR) hpre rfl (by rw [List.length_map]; exact hn) hl.1 rfl (lv_room (by rw [e0]; exact hcat)) hd ⟨Nat.zero_le _, Nat.zero_le _⟩) hS (fun q _ h => hF q h) hF (fun r d2 t H1 locs1 ht hvm hq hB hz hk hS1 => ?_)
  rw [ht] at hB
  exact k r d2 hq p l e s m args below meth c D ad cA A H1 locs1 la C hB (wsOf_D hD) hS1 hl
theorem ev_callSl {M2 : MM} {As : List Value} {Q2 : Value → DD → Prop} {idx n : Nat} (hd : decode (mC M) pc = .ok (.invokestatic idx, 3)) (hw : Cond.methodLink (mOwn M) idx (mY M2) ∈ wT) (mo : MsOk M2 n) (hk2 : mK M2 = 2) (hR : RmOk M M2) (hn : As.length = n) (hst : st = As.reverse ++ rest) (hcat : (rest.map fun v => v.category).sum ≤ 8) (hcn : Cn S M2 As d Q2) (k : ∀ (r : Int64) d2, Q2 (.long r) d2 → Ev S M (pc + 3) ls (.long r :: rest) d2 Q) : Ev S M pc ls st d Q := by
  intro p l e s m args below meth c D ad cA A H locs la C hP hD hS hl
  obtain ⟨hx, hb, hml, hr, hlk, hown, hts, hK, hA, hE⟩ := id C
  subst hst
  obtain ⟨hpre, hF⟩ := cn_pre (As := As) C hP hD hS
  have hM := hcn l D ad cA H.size
  rw [show QQ S (mK M2) D ad cA (va_A (wsOf ad cA S d) H.size) Q2 = va_Ql (fun r d => Q2 (.long r) d) (fun (d : DD) t => va_P D vwCl (wsOf ad cA S d) t.heap) (va_A (wsOf ad cA S d) H.size) by rw [hk2]; rfl] at hM
  have e0 : ((rest.map (cv ad)).map fun v => v.category) = rest.map fun v => v.category := by rw [List.map_map]; exact List.map_congr_left fun v _ => cv_cat ad v
  have es : (As.reverse ++ rest).map (cv ad) = (As.map (cv ad)).reverse ++ rest.map (cv ad) := by simp
  rw [es]
  obtain ⟨m1, m3, m4, m5⟩ := mo
  have hG : GoodIn wT (va_wsS (mOwn M) idx (mY M2) (mW M2)) := by
    intro w hw2
    rcases List.mem_append.mp hw2 with h | h
    · simp only [List.mem_cons, List.not_mem_nil, or_false] at h
      rcases h with rfl | rfl | rfl
      · exact good1 hw
      · exact good1 m1
      · exact good1 m3
    · exact mW_good m4 w h
  refine va_calll (va_runS (As := As.map (cv ad)) (rest := rest.map (cv ad)) ⟨hx, hb, hml, hown, hts⟩ hM (va_cwS n hts hG rfl rfl rfl m5 hR) hpre rfl (by rw [List.length_map]; exact hn) hl.1 rfl (lv_room (by rw [e0]; exact hcat)) hd ⟨Nat.zero_le _, Nat.zero_le _⟩) hS (fun q _ h => hF q h) hF (fun r d2 t H1 locs1 ht hvm hq hB hz hk hS1 => ?_)
  rw [ht] at hB
  exact k r d2 hq p l e s m args below meth c D ad cA A H1 locs1 la C hB (wsOf_D hD) hS1 hl
theorem ev_callSv {M2 : MM} {As : List Value} {Q2 : Value → DD → Prop} {idx n : Nat} (hd : decode (mC M) pc = .ok (.invokestatic idx, 3)) (hw : Cond.methodLink (mOwn M) idx (mY M2) ∈ wT) (mo : MsOk M2 n) (hk2 : mK M2 = 0) (hR : RmOk M M2) (hn : As.length = n) (hst : st = As.reverse ++ rest) (hcat : (rest.map fun v => v.category).sum ≤ 8) (hcn : Cn S M2 As d Q2) (k : ∀ d2, Q2 .null d2 → Ev S M (pc + 3) ls rest d2 Q) : Ev S M pc ls st d Q := by
  intro p l e s m args below meth c D ad cA A H locs la C hP hD hS hl
  obtain ⟨hx, hb, hml, hr, hlk, hown, hts, hK, hA, hE⟩ := id C
  subst hst
  obtain ⟨hpre, hF⟩ := cn_pre (As := As) C hP hD hS
  have hM := hcn l D ad cA H.size
  rw [show QQ S (mK M2) D ad cA (va_A (wsOf ad cA S d) H.size) Q2 = va_Qv (fun d => Q2 .null d) (fun (d : DD) t => va_P D vwCl (wsOf ad cA S d) t.heap) (va_A (wsOf ad cA S d) H.size) by rw [hk2]; rfl] at hM
  have e0 : ((rest.map (cv ad)).map fun v => v.category) = rest.map fun v => v.category := by rw [List.map_map]; exact List.map_congr_left fun v _ => cv_cat ad v
  have es : (As.reverse ++ rest).map (cv ad) = (As.map (cv ad)).reverse ++ rest.map (cv ad) := by simp
  rw [es]
  obtain ⟨m1, m3, m4, m5⟩ := mo
  have hG : GoodIn wT (va_wsS (mOwn M) idx (mY M2) (mW M2)) := by
    intro w hw2
    rcases List.mem_append.mp hw2 with h | h
    · simp only [List.mem_cons, List.not_mem_nil, or_false] at h
      rcases h with rfl | rfl | rfl
      · exact good1 hw
      · exact good1 m1
      · exact good1 m3
    · exact mW_good m4 w h
  refine va_callv (va_runS (As := As.map (cv ad)) (rest := rest.map (cv ad)) ⟨hx, hb, hml, hown, hts⟩ hM (va_cwS n hts hG rfl rfl rfl m5 hR) hpre rfl (by rw [List.length_map]; exact hn) hl.1 rfl (lv_room (by rw [e0]; exact hcat)) hd ⟨Nat.zero_le _, Nat.zero_le _⟩) hS (fun q _ h => hF q h) hF (fun d2 t H1 locs1 ht hvm hq hB hz hk hS1 => ?_)
  rw [ht] at hB
  exact k d2 hq p l e s m args below meth c D ad cA A H1 locs1 la C hB (wsOf_D hD) hS1 hl
theorem ev_callNi {M2 : MM} {As : List Value} {Q2 : Value → DD → Prop} {idx n : Nat} (hd : decode (mC M) pc = .ok (.invokestatic idx, 3)) {host : String} (j0 : Nat) (hw : nestL[j0]? = some (Cond.methodLinkNest (mOwn M) idx (mY M2) host)) (mo : MsOk M2 n) (hk2 : mK M2 = 1) (hR : RmOk M M2) (hn : As.length = n) (hst : st = As.reverse ++ rest) (hcat : (rest.map fun v => v.category).sum ≤ 8) (hcn : Cn S M2 As d Q2) (k : ∀ (r : Int32) d2, Q2 (.int r) d2 → Ev S M (pc + 3) ls (.int r :: rest) d2 Q) : Ev S M pc ls st d Q := by
  intro p l e s m args below meth c D ad cA A H locs la C hP hD hS hl
  obtain ⟨hx, hb, hml, hr, hlk, hown, hts, hK, hA, hE⟩ := id C
  subst hst
  obtain ⟨hpre, hF⟩ := cn_pre (As := As) C hP hD hS
  have hM := hcn l D ad cA H.size
  rw [show QQ S (mK M2) D ad cA (va_A (wsOf ad cA S d) H.size) Q2 = va_Qi (fun r d => Q2 (.int r) d) (fun (d : DD) t => va_P D vwCl (wsOf ad cA S d) t.heap) (va_A (wsOf ad cA S d) H.size) by rw [hk2]; rfl] at hM
  have e0 : ((rest.map (cv ad)).map fun v => v.category) = rest.map fun v => v.category := by rw [List.map_map]; exact List.map_congr_left fun v _ => cv_cat ad v
  have es : (As.reverse ++ rest).map (cv ad) = (As.map (cv ad)).reverse ++ rest.map (cv ad) := by simp
  rw [es]
  obtain ⟨m1, m3, m4, m5⟩ := mo
  refine va_calli (va_runSN (As := As.map (cv ad)) (rest := rest.map (cv ad)) ⟨hx, hb, hml, hown, hts⟩ hM ⟨va_cnB n hts (mW_good m4) rfl rfl rfl (hE.1 j0 _ hw) (hts _ m3) m5 hR, hts _ m1, trivial⟩ hpre rfl (by rw [List.length_map]; exact hn) hl.1 rfl (lv_room (by rw [e0]; exact hcat)) hd ⟨Nat.zero_le _, Nat.zero_le _⟩) hS (fun q _ h => hF q h) hF (fun r d2 t H1 locs1 ht hvm hq hB hz hk hS1 => ?_)
  rw [ht] at hB
  exact k r d2 hq p l e s m args below meth c D ad cA A H1 locs1 la C hB (wsOf_D hD) hS1 hl
theorem ev_callNl {M2 : MM} {As : List Value} {Q2 : Value → DD → Prop} {idx n : Nat} (hd : decode (mC M) pc = .ok (.invokestatic idx, 3)) {host : String} (j0 : Nat) (hw : nestL[j0]? = some (Cond.methodLinkNest (mOwn M) idx (mY M2) host)) (mo : MsOk M2 n) (hk2 : mK M2 = 2) (hR : RmOk M M2) (hn : As.length = n) (hst : st = As.reverse ++ rest) (hcat : (rest.map fun v => v.category).sum ≤ 8) (hcn : Cn S M2 As d Q2) (k : ∀ (r : Int64) d2, Q2 (.long r) d2 → Ev S M (pc + 3) ls (.long r :: rest) d2 Q) : Ev S M pc ls st d Q := by
  intro p l e s m args below meth c D ad cA A H locs la C hP hD hS hl
  obtain ⟨hx, hb, hml, hr, hlk, hown, hts, hK, hA, hE⟩ := id C
  subst hst
  obtain ⟨hpre, hF⟩ := cn_pre (As := As) C hP hD hS
  have hM := hcn l D ad cA H.size
  rw [show QQ S (mK M2) D ad cA (va_A (wsOf ad cA S d) H.size) Q2 = va_Ql (fun r d => Q2 (.long r) d) (fun (d : DD) t => va_P D vwCl (wsOf ad cA S d) t.heap) (va_A (wsOf ad cA S d) H.size) by rw [hk2]; rfl] at hM
  have e0 : ((rest.map (cv ad)).map fun v => v.category) = rest.map fun v => v.category := by rw [List.map_map]; exact List.map_congr_left fun v _ => cv_cat ad v
  have es : (As.reverse ++ rest).map (cv ad) = (As.map (cv ad)).reverse ++ rest.map (cv ad) := by simp
  rw [es]
  obtain ⟨m1, m3, m4, m5⟩ := mo
  refine va_calll (va_runSN (As := As.map (cv ad)) (rest := rest.map (cv ad)) ⟨hx, hb, hml, hown, hts⟩ hM ⟨va_cnB n hts (mW_good m4) rfl rfl rfl (hE.1 j0 _ hw) (hts _ m3) m5 hR, hts _ m1, trivial⟩ hpre rfl (by rw [List.length_map]; exact hn) hl.1 rfl (lv_room (by rw [e0]; exact hcat)) hd ⟨Nat.zero_le _, Nat.zero_le _⟩) hS (fun q _ h => hF q h) hF (fun r d2 t H1 locs1 ht hvm hq hB hz hk hS1 => ?_)
  rw [ht] at hB
  exact k r d2 hq p l e s m args below meth c D ad cA A H1 locs1 la C hB (wsOf_D hD) hS1 hl
theorem ev_callNv {M2 : MM} {As : List Value} {Q2 : Value → DD → Prop} {idx n : Nat} (hd : decode (mC M) pc = .ok (.invokestatic idx, 3)) {host : String} (j0 : Nat) (hw : nestL[j0]? = some (Cond.methodLinkNest (mOwn M) idx (mY M2) host)) (mo : MsOk M2 n) (hk2 : mK M2 = 0) (hR : RmOk M M2) (hn : As.length = n) (hst : st = As.reverse ++ rest) (hcat : (rest.map fun v => v.category).sum ≤ 8) (hcn : Cn S M2 As d Q2) (k : ∀ d2, Q2 .null d2 → Ev S M (pc + 3) ls rest d2 Q) : Ev S M pc ls st d Q := by
  intro p l e s m args below meth c D ad cA A H locs la C hP hD hS hl
  obtain ⟨hx, hb, hml, hr, hlk, hown, hts, hK, hA, hE⟩ := id C
  subst hst
  obtain ⟨hpre, hF⟩ := cn_pre (As := As) C hP hD hS
  have hM := hcn l D ad cA H.size
  rw [show QQ S (mK M2) D ad cA (va_A (wsOf ad cA S d) H.size) Q2 = va_Qv (fun d => Q2 .null d) (fun (d : DD) t => va_P D vwCl (wsOf ad cA S d) t.heap) (va_A (wsOf ad cA S d) H.size) by rw [hk2]; rfl] at hM
  have e0 : ((rest.map (cv ad)).map fun v => v.category) = rest.map fun v => v.category := by rw [List.map_map]; exact List.map_congr_left fun v _ => cv_cat ad v
  have es : (As.reverse ++ rest).map (cv ad) = (As.map (cv ad)).reverse ++ rest.map (cv ad) := by simp
  rw [es]
  obtain ⟨m1, m3, m4, m5⟩ := mo
  refine va_callv (va_runSN (As := As.map (cv ad)) (rest := rest.map (cv ad)) ⟨hx, hb, hml, hown, hts⟩ hM ⟨va_cnB n hts (mW_good m4) rfl rfl rfl (hE.1 j0 _ hw) (hts _ m3) m5 hR, hts _ m1, trivial⟩ hpre rfl (by rw [List.length_map]; exact hn) hl.1 rfl (lv_room (by rw [e0]; exact hcat)) hd ⟨Nat.zero_le _, Nat.zero_le _⟩) hS (fun q _ h => hF q h) hF (fun d2 t H1 locs1 ht hvm hq hB hz hk hS1 => ?_)
  rw [ht] at hB
  exact k d2 hq p l e s m args below meth c D ad cA A H1 locs1 la C hB (wsOf_D hD) hS1 hl
