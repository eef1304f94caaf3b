theorem va_D_nd {A : Nat → Prop} {ws : va_W} : va_D A ws ↔ (ws.map (fun q => q.1)).Nodup ∧ ∀ q ∈ ws, A q.1 := by
  constructor
  · intro h
    refine ⟨List.pairwise_iff_getElem.mpr fun i j hi hj hij e => ?_, fun q hq => ?_⟩
    · rw [List.length_map] at hi hj
      rw [List.getElem_map, List.getElem_map] at e
      have := h.1 i j _ _ (List.getElem?_eq_getElem hi) (List.getElem?_eq_getElem hj) e
      omega
    · obtain ⟨k, hk⟩ := List.mem_iff_getElem?.mp hq
      exact h.2 k q hk
  · rintro ⟨h1, h2⟩
    refine ⟨fun i j p q hp hq e => ?_, fun k q hk => h2 q (List.mem_of_getElem? hk)⟩
    have hi := (List.getElem?_eq_some_iff.mp hp).1
    have a1 : (ws.map (fun q => q.1))[i]? = some p.1 := by rw [List.getElem?_map, hp]; rfl
    have a2 : (ws.map (fun q => q.1))[j]? = some q.1 := by rw [List.getElem?_map, hq]; rfl
    exact (List.getElem?_inj (by rw [List.length_map]; exact hi) h1).mp (by rw [a1, a2, e])
theorem va_P_mem {D : va_G} {cl : List vw_C} {ws : va_W} {H : Heap} : va_P D cl ws H ↔ ∀ q ∈ ws, va_at D cl q H := by
  constructor
  · intro h q hq
    obtain ⟨k, hk⟩ := List.mem_iff_getElem?.mp hq
    exact h k q hk
  · intro h k q hk
    exact h q (List.mem_of_getElem? hk)
theorem va_D.perm {A : Nat → Prop} {w1 w2 : va_W} (h : va_D A w1) (hp : w1.Perm w2) : va_D A w2 := by
  rw [va_D_nd] at h ⊢
  exact ⟨(hp.map _).nodup_iff.mp h.1, fun q hq => h.2 q (hp.mem_iff.mpr hq)⟩
theorem va_P.perm {D : va_G} {cl : List vw_C} {w1 w2 : va_W} {H : Heap} (h : va_P D cl w1 H) (hp : w1.Perm w2) : va_P D cl w2 H := by
  rw [va_P_mem] at h ⊢
  exact fun q hq => h q (hp.mem_iff.mpr hq)
theorem Gv.perm {M : MM} {cA : Nat → ClassId} {mc ms : Nat} {Qf : va_W → Prop} {pc : Nat} {ls st : List Value} {w1 w2 : va_W} {ce sl : Nat} (hp : w1.Perm w2) (k : Gv M cA mc ms Qf pc ls st w2 ce sl) : Gv M cA mc ms Qf pc ls st w1 ce sl := by
  intro p l e s m args below meth c D A H locs la C hP hD hS hl
  exact k p l e s m args below meth c D A H locs la C (hP.perm hp) (hD.perm hp) hS hl
section GK
variable {M : MM} {cA : Nat → ClassId} {mc ms : Nat} {Qf : va_W → Prop} {pc : Nat} {ls st : List Value} {x0 y0 z0 : Nat × va_E} {tl : va_W} {ce sl : Nat}
theorem gk_newi {n : Int32} {N : Nat} (hd : decode (mC M) pc = .ok (.newarray .int, 2)) (hn : n = nI N) (hN : N ≤ 1000) (h1 : ce + 1 ≤ mc) (h2 : sl + N ≤ ms) (k : ∀ q, Gv M cA mc ms Qf (pc + 2) ls (.ref q :: st) (x0 :: y0 :: z0 :: (tl ++ [(q, .inl (cA 0, N, .inl (fun _ => 0)))])) (ce + 1) (sl + N)) : Gv M cA mc ms Qf pc ls (.int n :: st) (x0 :: y0 :: z0 :: tl) ce sl := g_newi hd hn hN h1 h2 k
theorem gk_new {ci N idx : Nat} {C0 : String} {T : u_T} {ty0 : Nat → FieldType} {fs : List Value} (hd : decode (mC M) pc = .ok (.new idx, 3)) (hc : ClsOk ci C0 T N ty0) (hw : Cond.classLink (mOwn M) idx C0 ∈ wT) (hi : Cond.instantiable C0 N ∈ wT) (hz : Cond.initialized C0 ∈ wT) (hfs : ∀ j, j < N → defaultValue (ty0 j) = vp_V fs j) (h1 : ce + 1 ≤ mc) (h2 : sl + N ≤ ms) (k : ∀ q, Gv M cA mc ms Qf (pc + 3) ls (.ref q :: st) (x0 :: y0 :: z0 :: (tl ++ [(q, .inr (ci, fs))])) (ce + 1) (sl + N)) : Gv M cA mc ms Qf pc ls st (x0 :: y0 :: z0 :: tl) ce sl := g_new hd hc hw hi hz hfs h1 h2 k
theorem gk_ninit {M2 : MM} {mc2 ms2 ci idx j0 q : Nat} {fs : List Value} {Q2 : Nat → va_W → Prop} {host : String} (hd : decode (mC M) pc = .ok (.invokespecial idx, 3)) (hci : Ci M2 cA mc2 ms2 ci fs Q2) (hw : nestC[j0]? = some (.methodLinkNest (mOwn M) idx (mY M2) host)) (hnm : (mY M2).name = "<init>") (hr2 : mR M2 = none) (hin2 : Cond.instanceMethod (mY M2) ∈ wT) (hz : Cond.initialized (mY M2).cls ∈ wT) (hcd : Cond.code (mY M2) (mC M2) (mL M2) (mR M2) ∈ wT) (hpl : (mY M2).cls ≠ "java/lang/invoke/MethodHandle" ∧ (mY M2).cls ≠ "java/lang/invoke/VarHandle" ∧ (parseMethodDescriptor (mY M2).desc).map (fun d => d.parameters.length) = some 0) (hR : mF M2 + 1 ≤ mF M ∧ 8 + (mL M2 + 11) + mO M2 ≤ mO M) (hcat : (st.map fun v => v.category).sum ≤ 8) (h1 : ce + mc2 ≤ mc) (h2 : sl + ms2 ≤ ms) (k : ∀ w, Q2 q w → Gv M cA mc ms Qf (pc + 3) ls st (x0 :: y0 :: z0 :: (tl ++ w)) (ce + mc2) (sl + ms2)) : Gv M cA mc ms Qf pc ls (.ref q :: st) (x0 :: y0 :: z0 :: (tl ++ [(q, .inr (ci, fs))])) ce sl := g_ninit (ws := x0 :: y0 :: z0 :: tl) hd hci hw hnm hr2 hin2 hz hcd hpl hR hcat h1 h2 k
theorem gk_aast1 {a b n ci : Nat} {i : Int32} {vs : List Value} {w : va_W} {f : Nat → Option Nat} {C0 : String} {T : u_T} {N : Nat} {ty0 : Nat → FieldType} (j : Nat) (hd : decode (mC M) pc = .ok (.aastore, 1)) (hc : ClsOk ci C0 T N ty0) (h0 : C0 = RX0) (hv : (b, (.inr (ci, vs) : va_E)) ∈ w) (hi : i = nI j) (hj : j < n) (hn : n ≤ 1000) (k : Gv M cA mc ms Qf (pc + 1) ls st (x0 :: (a, .inl (cA 2, n, .inr (.inr (.inr (.inr (va_up f j (some b))))))) :: z0 :: (tl ++ w)) ce sl) : Gv M cA mc ms Qf pc ls (.ref b :: .int i :: .ref a :: st) (x0 :: (a, .inl (cA 2, n, .inr (.inr (.inr (.inr f))))) :: z0 :: (tl ++ w)) ce sl := by
  obtain ⟨q9, h9⟩ := List.mem_iff_getElem?.mp hv
  exact g_aastN (t := 2) 1 (3 + (tl.length + q9)) j hd rfl hc (Or.inl ⟨h0, rfl⟩) (by rw [show 3 + (tl.length + q9) = (tl.length + q9) + 1 + 1 + 1 by omega, List.getElem?_cons_succ, List.getElem?_cons_succ, List.getElem?_cons_succ, List.getElem?_append_right (Nat.le_add_right _ _), Nat.add_sub_cancel_left]; exact h9) hi hj hn rfl k
theorem gk_aast2 {a b n ci : Nat} {i : Int32} {vs : List Value} {w : va_W} {f : Nat → Option Nat} {C0 : String} {T : u_T} {N : Nat} {ty0 : Nat → FieldType} (j : Nat) (hd : decode (mC M) pc = .ok (.aastore, 1)) (hc : ClsOk ci C0 T N ty0) (h0 : C0 = RX2) (hv : (b, (.inr (ci, vs) : va_E)) ∈ w) (hi : i = nI j) (hj : j < n) (hn : n ≤ 1000) (k : Gv M cA mc ms Qf (pc + 1) ls st (x0 :: y0 :: (a, .inl (cA 3, n, .inr (.inr (.inr (.inr (va_up f j (some b))))))) :: (tl ++ w)) ce sl) : Gv M cA mc ms Qf pc ls (.ref b :: .int i :: .ref a :: st) (x0 :: y0 :: (a, .inl (cA 3, n, .inr (.inr (.inr (.inr f))))) :: (tl ++ w)) ce sl := by
  obtain ⟨q9, h9⟩ := List.mem_iff_getElem?.mp hv
  exact g_aastN (t := 3) 2 (3 + (tl.length + q9)) j hd rfl hc (Or.inr ⟨h0, rfl⟩) (by rw [show 3 + (tl.length + q9) = (tl.length + q9) + 1 + 1 + 1 by omega, List.getElem?_cons_succ, List.getElem?_cons_succ, List.getElem?_cons_succ, List.getElem?_append_right (Nat.le_add_right _ _), Nat.add_sub_cancel_left]; exact h9) hi hj hn rfl k
end GK
theorem pm_in {x y z : Nat × va_E} {P Q : va_W} : (x :: (P ++ [y] ++ Q ++ [z])).Perm (x :: y :: z :: (P ++ Q)) := by
  refine List.Perm.cons x ?_
  have h1 : (P ++ [y] ++ Q ++ [z]) = P ++ y :: (Q ++ z :: []) := by simp
  rw [h1]
  refine List.perm_middle.trans (List.Perm.cons y ?_)
  rw [show P ++ (Q ++ z :: []) = (P ++ Q) ++ z :: [] by simp]
  refine List.perm_middle.trans (List.Perm.cons z ?_)
  rw [List.append_nil]
theorem pm_out {x y z : Nat × va_E} {P Q R : va_W} : (x :: y :: z :: (P ++ Q ++ R)).Perm (x :: (P ++ (y :: (Q ++ (z :: R))))) := by
  refine List.Perm.cons x ?_
  refine List.Perm.trans (List.Perm.cons y ?_) List.perm_middle.symm
  rw [show P ++ (Q ++ z :: R) = (P ++ Q) ++ z :: R by simp]
  exact List.perm_middle.symm
/-- shapes from place n on -/
def wsF (ad : Nat → Nat) (cA : Nat → ClassId) (n : Nat) (S : List Shp) (d : DD) : va_W := S.mapIdx (fun k s => (ad (n + k), ent ad cA (d (n + k)) s))
theorem wsF_0 {ad : Nat → Nat} {cA : Nat → ClassId} {S : List Shp} {d : DD} : wsOf ad cA S d = wsF ad cA 0 S d := by
  unfold wsOf wsF
  congr 1
  funext k s
  rw [Nat.zero_add]
theorem wsF_app {ad : Nat → Nat} {cA : Nat → ClassId} {S T : List Shp} {d : DD} {n : Nat} : wsF ad cA n (S ++ T) d = wsF ad cA n S d ++ wsF ad cA (n + S.length) T d := by
  unfold wsF
  rw [List.mapIdx_append]
  congr 1
  congr 1
  funext k s
  rw [show n + (k + S.length) = n + S.length + k by omega]
theorem gl_iast {M : MM} {cA : Nat → ClassId} {mc ms : Nat} {Qf : va_W → Prop} {pc : Nat} {ls st : List Value} {x0 : Nat × va_E} {tl : va_W} {ce sl : Nat} {a n : Nat} {i x : Int32} {f : Nat → Int32} (j : Nat) (hd : decode (mC M) pc = .ok (.iastore, 1)) (hi : i = nI j) (hj : j < n) (hn : n ≤ 1000) (k : Gv M cA mc ms Qf (pc + 1) ls st (x0 :: (tl ++ [(a, .inl (cA 0, n, .inl (upd f j x)))])) ce sl) : Gv M cA mc ms Qf pc ls (.int x :: .int i :: .ref a :: st) (x0 :: (tl ++ [(a, .inl (cA 0, n, .inl f))])) ce sl := by
  refine g_iastN (f := f) (tl.length + 1) j hd ?_ hi hj hn ?_ k
  · rw [List.getElem?_cons_succ, List.getElem?_append_right (Nat.le_refl _), Nat.sub_self]; rfl
  · rw [List.set_cons_succ, List.set_append_right _ _ (Nat.le_refl _), Nat.sub_self]; rfl
