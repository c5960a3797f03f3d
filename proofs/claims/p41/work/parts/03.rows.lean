/-! PART 03 (written by wip/p41/gen03.py): a world of fixed shape. Objects are numbered (Oid), the memory is numbers alone (Mem); VV is W at such a world; a row an instruction. -/
abbrev Oid : Type := Nat × Nat × Nat
abbrev Mem : Type := Oid → Nat → Int32
abbrev Cel : Type := Oid → (Nat → Int32) → va_E
def mup (σ : Mem) (o : Oid) (k : Nat) (x : Int32) : Mem := fun q => if q = o then upd (σ o) k x else σ q
theorem mup_self (σ : Mem) (o : Oid) (k : Nat) (x : Int32) : mup σ o k x o = upd (σ o) k x := if_pos rfl
theorem mup_ne (σ : Mem) {o q : Oid} (k : Nat) (x : Int32) (h : q ≠ o) : mup σ o k x q = σ q := if_neg h
def wl (ids : List Oid) (ad : Oid → Nat) (ce : Cel) (σ : Mem) : va_W := ids.map (fun o => (ad o, ce o (σ o)))
theorem wl_at {ids : List Oid} {ad : Oid → Nat} {ce : Cel} {σ : Mem} {o : Oid} (h : o ∈ ids) : ∃ k : Nat, ids[k]? = some o ∧ (wl ids ad ce σ)[k]? = some (ad o, ce o (σ o)) := by
  obtain ⟨k, hk⟩ := List.getElem?_of_mem h
  exact ⟨k, hk, by simp [wl, hk]⟩
theorem wl_set {ids : List Oid} {ad : Oid → Nat} {ce : Cel} {σ σ' : Mem} {A : Nat → Prop} (hD : va_D A (wl ids ad ce σ)) {o : Oid} {k : Nat} (hk : ids[k]? = some o) (hs : ∀ q, q ≠ o → σ' q = σ q) : (wl ids ad ce σ).set k (ad o, ce o (σ' o)) = wl ids ad ce σ' := by
  apply List.ext_getElem?
  intro j
  by_cases hj : j = k
  · subst hj
    have hlt : j < (wl ids ad ce σ).length := by
      have := (List.getElem?_eq_some_iff.mp hk).1
      simpa [wl] using this
    rw [List.getElem?_set_self hlt]
    simp [wl, hk]
  · rw [List.getElem?_set_ne (Ne.symm hj)]
    simp only [wl, List.getElem?_map]
    cases hq : ids[j]? with
    | none => rfl
    | some q =>
      have hne : q ≠ o := by
        intro e
        subst e
        exact hj (hD.1 j k (ad q, ce q (σ q)) (ad q, ce q (σ q)) (by simp [wl, hq]) (by simp [wl, hk]) rfl)
      simp only [Option.map_some]
      rw [hs q hne]
theorem vp_lt {i : Int32} {n : Nat} (h : vp_in i n) : i.toNatClampNeg < n := Nat.not_le.mp fun q => h (Or.inr q)
def isB (x : Int32) : Prop := x = 0 ∨ x = 1
theorem isB_narrow {x : Int32} (h : isB x) : narrow .boolean (.int x) = .int x := by rcases h with rfl | rfl <;> rfl
theorem isB_fits {x : Int32} (h : isB x) : fits .boolean (.int x) = true := by rcases h with rfl | rfl <;> rfl
def NX (_ : State) : Prop := True
theorem NX.warm {s U : State} (_ : s.WarmedH U.vm) (_ : NX s) : NX U := trivial
def WdI (D : va_G) (cl : List vw_C) (tys : List (ClassId × FieldType)) (ids : List Oid) (ad : Oid → Nat) (ce : Cel) (A : Nat → Prop) (σ : Mem) (U : State) : Prop := va_P D cl (wl ids ad ce σ) U.heap ∧ va_K D cl tys U ∧ va_D A (wl ids ad ce σ) ∧ NX U
def WdO (D : va_G) (cl : List vw_C) (ids : List Oid) (ad : Oid → Nat) (ce : Cel) (A : Nat → Prop) (σ : Mem) (U : State) : Prop := va_P D cl (wl ids ad ce σ) U.heap ∧ va_D A (wl ids ad ce σ)
theorem WdI.blind {D : va_G} {cl : List vw_C} {tys : List (ClassId × FieldType)} {ids : List Oid} {ad : Oid → Nat} {ce : Cel} {A : Nat → Prop} {σ : Mem} {av : List Value} : FrameBlind (va_Pc av (WdI D cl tys ids ad ce A σ)) := fun a U g mk q => by
  obtain ⟨q0, q1, q2, q3, q4⟩ := q
  exact ⟨q0, q1, va_K.moved (u := U) (U := U.calling g mk a) (Vm.Alike.refl U.vm) q2, q3, q4⟩
def WdS (b L : Nat) (xs : Nat → Int32) (D : va_G) (cl : List vw_C) (tys : List (ClassId × FieldType)) (ids : List Oid) (ad : Oid → Nat) (ce : Cel) (A : Nat → Prop) (σ : Mem) (U : State) : Prop := WdI D cl tys ids ad ce A σ U ∧ va_X b L xs U U.heap ∧ b < U.heap.size ∧ ¬ A b
theorem WdS.blind {b L : Nat} {xs : Nat → Int32} {D : va_G} {cl : List vw_C} {tys : List (ClassId × FieldType)} {ids : List Oid} {ad : Oid → Nat} {ce : Cel} {A : Nat → Prop} {σ : Mem} {av : List Value} : FrameBlind (va_Pc av (WdS b L xs D cl tys ids ad ce A σ)) := fun a U g mk q => by
  obtain ⟨q0, ⟨q1, q2, q3, q4⟩, q5, q6, q7⟩ := q
  exact ⟨q0, ⟨q1, va_K.moved (u := U) (U := U.calling g mk a) (Vm.Alike.refl U.vm) q2, q3, q4⟩, va_X.moved (u := U) (U := U.calling g mk a) (Vm.Alike.refl U.vm) q5, q6, q7⟩
abbrev CX (p : Program) (s : State) (m : MethodId) (args : Array Value) (c : Code) (D : va_G) (cl : List vw_C) (tys : List (ClassId × FieldType)) (NX : State → Prop) (cc : ByteArray) (nL : Nat) (own : String) (Ts : List Cond) : Prop := (p.tables.exec = Jvm.exec ∧ c.code = cc ∧ c.maxLocals = nL ∧ s.vm.findClass own = some m.cls ∧ (∀ w ∈ Ts, w.before args s = true)) ∧ va_K D cl tys s ∧ NX s
def VV (p : Program) (l : Launch) (e : Env) (R : Room) (s : State) (m : MethodId) (args : Array Value) (below : List Frame) (meth : Method) (c : Code) (D : va_G) (cl : List vw_C) (ids : List Oid) (ad : Oid → Nat) (ce : Cel) (A : Nat → Prop) (Q : State → Prop) (nL : Nat) (kn : Nat × Nat) (pc : Nat) (lv : List (Nat × Value)) (st : List Value) (σ : Mem) : Prop := ∀ (H : Heap) (locs : List Loc) (ls : Array Slot), va_P D cl (wl ids ad ce σ) H → va_D A (wl ids ad ce σ) → va_S A s.heap H locs → lv_has ls nL lv → W p l e R s m args below meth c H locs kn.1 kn.2 Q (F0 m pc ls st)
section VL
variable {p : Program} {l : Launch} {e : Env} {R : Room} {s : State} {m : MethodId} {args : Array Value} {below : List Frame} {meth : Method} {c : Code} {D : va_G} {cl : List vw_C} {tys : List (ClassId × FieldType)} {ids : List Oid} {ad : Oid → Nat} {ce : Cel} {A : Nat → Prop} {Q : State → Prop} {nL : Nat} {kn : Nat × Nat} {cc : ByteArray} {own : String} {Ts : List Cond} {pc : Nat} {lv lv' : List (Nat × Value)} {st : List Value} {σ : Mem}

theorem V_iconst (C : CX p s m args c D cl tys NX cc nL own Ts) {n : Int} {v : Int32} (hdg : decode cc pc = .ok (.iconst n, 1)) (hv : Int32.ofInt n = v) (k : VV p l e R s m args below meth c D cl ids ad ce A Q nL kn (pc + 1) lv (.int v :: st) σ) : VV p l e R s m args below meth c D cl ids ad ce A Q nL kn pc lv (st) σ := by
  intro H locs ls hP hD hS hl
  exact lv_iconst C.1.1 C.1.2.1 hdg hv (k H locs ls hP hD hS hl)
theorem V_bipush (C : CX p s m args c D cl tys NX cc nL own Ts) {n : Int} {v : Int32} (hdg : decode cc pc = .ok (.bipush n, 2)) (hv : (Int8.ofInt n).toInt32 = v) (k : VV p l e R s m args below meth c D cl ids ad ce A Q nL kn (pc + 2) lv (.int v :: st) σ) : VV p l e R s m args below meth c D cl ids ad ce A Q nL kn pc lv (st) σ := by
  intro H locs ls hP hD hS hl
  exact lv_bipush C.1.1 C.1.2.1 hdg hv (k H locs ls hP hD hS hl)
theorem V_sipush (C : CX p s m args c D cl tys NX cc nL own Ts) {n : Int} {v : Int32} (hdg : decode cc pc = .ok (.sipush n, 3)) (hv : (Int16.ofInt n).toInt32 = v) (k : VV p l e R s m args below meth c D cl ids ad ce A Q nL kn (pc + 3) lv (.int v :: st) σ) : VV p l e R s m args below meth c D cl ids ad ce A Q nL kn pc lv (st) σ := by
  intro H locs ls hP hD hS hl
  exact lv_sipush C.1.1 C.1.2.1 hdg hv (k H locs ls hP hD hS hl)
theorem V_iload_n (C : CX p s m args c D cl tys NX cc nL own Ts) {k0 : Fin 4} {x : Int32} (hdg : decode cc pc = .ok (.iload_n k0, 1)) (i : Nat) (hi : lv[i]? = some ((k0 : Nat), .int x)) (k : VV p l e R s m args below meth c D cl ids ad ce A Q nL kn (pc + 1) lv (.int x :: st) σ) : VV p l e R s m args below meth c D cl ids ad ce A Q nL kn pc lv (st) σ := by
  intro H locs ls hP hD hS hl
  exact lv_iload_n C.1.1 C.1.2.1 hdg rfl (lv_at hl i hi) (k H locs ls hP hD hS hl)
theorem V_iload (C : CX p s m args c D cl tys NX cc nL own Ts) {k0 : Nat} {x : Int32} (hdg : decode cc pc = .ok (.iload k0, 2)) (i : Nat) (hi : lv[i]? = some (k0, .int x)) (k : VV p l e R s m args below meth c D cl ids ad ce A Q nL kn (pc + 2) lv (.int x :: st) σ) : VV p l e R s m args below meth c D cl ids ad ce A Q nL kn pc lv (st) σ := by
  intro H locs ls hP hD hS hl
  exact lv_iload C.1.1 C.1.2.1 hdg (lv_at hl i hi) (k H locs ls hP hD hS hl)
theorem V_lload_n (C : CX p s m args c D cl tys NX cc nL own Ts) {k0 : Fin 4} {x : Int64} (hdg : decode cc pc = .ok (.lload_n k0, 1)) (i : Nat) (hi : lv[i]? = some ((k0 : Nat), .long x)) (k : VV p l e R s m args below meth c D cl ids ad ce A Q nL kn (pc + 1) lv (.long x :: st) σ) : VV p l e R s m args below meth c D cl ids ad ce A Q nL kn pc lv (st) σ := by
  intro H locs ls hP hD hS hl
  exact lv_lload_n C.1.1 C.1.2.1 hdg rfl (lv_at hl i hi) (k H locs ls hP hD hS hl)
theorem V_lload (C : CX p s m args c D cl tys NX cc nL own Ts) {k0 : Nat} {x : Int64} (hdg : decode cc pc = .ok (.lload k0, 2)) (i : Nat) (hi : lv[i]? = some (k0, .long x)) (k : VV p l e R s m args below meth c D cl ids ad ce A Q nL kn (pc + 2) lv (.long x :: st) σ) : VV p l e R s m args below meth c D cl ids ad ce A Q nL kn pc lv (st) σ := by
  intro H locs ls hP hD hS hl
  exact lv_lload C.1.1 C.1.2.1 hdg (lv_at hl i hi) (k H locs ls hP hD hS hl)
theorem V_aload_n (C : CX p s m args c D cl tys NX cc nL own Ts) {k0 : Fin 4} {x : Nat} (hdg : decode cc pc = .ok (.aload_n k0, 1)) (i : Nat) (hi : lv[i]? = some ((k0 : Nat), .ref x)) (k : VV p l e R s m args below meth c D cl ids ad ce A Q nL kn (pc + 1) lv (.ref x :: st) σ) : VV p l e R s m args below meth c D cl ids ad ce A Q nL kn pc lv (st) σ := by
  intro H locs ls hP hD hS hl
  exact lv_aload_n C.1.1 C.1.2.1 hdg rfl (lv_at hl i hi) (k H locs ls hP hD hS hl)
theorem V_aload (C : CX p s m args c D cl tys NX cc nL own Ts) {k0 : Nat} {x : Nat} (hdg : decode cc pc = .ok (.aload k0, 2)) (i : Nat) (hi : lv[i]? = some (k0, .ref x)) (k : VV p l e R s m args below meth c D cl ids ad ce A Q nL kn (pc + 2) lv (.ref x :: st) σ) : VV p l e R s m args below meth c D cl ids ad ce A Q nL kn pc lv (st) σ := by
  intro H locs ls hP hD hS hl
  exact lv_aload C.1.1 C.1.2.1 hdg (lv_at hl i hi) (k H locs ls hP hD hS hl)
theorem V_istore_n (C : CX p s m args c D cl tys NX cc nL own Ts) {k0 : Fin 4} {x : Int32} (hdg : decode cc pc = .ok (.istore_n k0, 1)) (hn : (k0 : Nat) < nL) (hlv : ((k0 : Nat), Value.int x) :: lv.filter (fun q => !(q.1 == (k0 : Nat)) && !(q.1 + 1 == (k0 : Nat) && q.2.category == 2)) = lv') (k : VV p l e R s m args below meth c D cl ids ad ce A Q nL kn (pc + 1) lv' st σ) : VV p l e R s m args below meth c D cl ids ad ce A Q nL kn pc lv (Value.int x :: st) σ := by
  intro H locs ls hP hD hS hl
  exact lv_istore_n C.1.1 C.1.2.1 hdg rfl hl hn hlv (fun ls' hl' => k H locs ls' hP hD hS hl')
theorem V_istore (C : CX p s m args c D cl tys NX cc nL own Ts) {k0 : Nat} {x : Int32} (hdg : decode cc pc = .ok (.istore k0, 2)) (hn : k0 < nL) (hlv : (k0, Value.int x) :: lv.filter (fun q => !(q.1 == k0) && !(q.1 + 1 == k0 && q.2.category == 2)) = lv') (k : VV p l e R s m args below meth c D cl ids ad ce A Q nL kn (pc + 2) lv' st σ) : VV p l e R s m args below meth c D cl ids ad ce A Q nL kn pc lv (Value.int x :: st) σ := by
  intro H locs ls hP hD hS hl
  exact lv_istore C.1.1 C.1.2.1 hdg hl hn hlv (fun ls' hl' => k H locs ls' hP hD hS hl')
theorem V_astore_n (C : CX p s m args c D cl tys NX cc nL own Ts) {k0 : Fin 4} {x : Nat} (hdg : decode cc pc = .ok (.astore_n k0, 1)) (hn : (k0 : Nat) < nL) (hlv : ((k0 : Nat), Value.ref x) :: lv.filter (fun q => !(q.1 == (k0 : Nat)) && !(q.1 + 1 == (k0 : Nat) && q.2.category == 2)) = lv') (k : VV p l e R s m args below meth c D cl ids ad ce A Q nL kn (pc + 1) lv' st σ) : VV p l e R s m args below meth c D cl ids ad ce A Q nL kn pc lv (Value.ref x :: st) σ := by
  intro H locs ls hP hD hS hl
  exact lv_astore_n C.1.1 C.1.2.1 hdg rfl hl hn hlv (fun ls' hl' => k H locs ls' hP hD hS hl')
theorem V_astore (C : CX p s m args c D cl tys NX cc nL own Ts) {k0 : Nat} {x : Nat} (hdg : decode cc pc = .ok (.astore k0, 2)) (hn : k0 < nL) (hlv : (k0, Value.ref x) :: lv.filter (fun q => !(q.1 == k0) && !(q.1 + 1 == k0 && q.2.category == 2)) = lv') (k : VV p l e R s m args below meth c D cl ids ad ce A Q nL kn (pc + 2) lv' st σ) : VV p l e R s m args below meth c D cl ids ad ce A Q nL kn pc lv (Value.ref x :: st) σ := by
  intro H locs ls hP hD hS hl
  exact lv_astore C.1.1 C.1.2.1 hdg hl hn hlv (fun ls' hl' => k H locs ls' hP hD hS hl')
theorem V_lstore_n (C : CX p s m args c D cl tys NX cc nL own Ts) {k0 : Fin 4} {x : Int64} (hdg : decode cc pc = .ok (.lstore_n k0, 1)) (hn : (k0 : Nat) + 1 < nL) (hlv : ((k0 : Nat), Value.long x) :: lv.filter (fun q => !(q.1 == (k0 : Nat)) && (!(q.1 == (k0 : Nat) + 1) && !(q.1 + 1 == (k0 : Nat) && q.2.category == 2))) = lv') (k : VV p l e R s m args below meth c D cl ids ad ce A Q nL kn (pc + 1) lv' st σ) : VV p l e R s m args below meth c D cl ids ad ce A Q nL kn pc lv (Value.long x :: st) σ := by
  intro H locs ls hP hD hS hl
  exact lv_lstore_n C.1.1 C.1.2.1 hdg rfl hl hn hlv (fun ls' hl' => k H locs ls' hP hD hS hl')
theorem V_lstore (C : CX p s m args c D cl tys NX cc nL own Ts) {k0 : Nat} {x : Int64} (hdg : decode cc pc = .ok (.lstore k0, 2)) (hn : k0 + 1 < nL) (hlv : (k0, Value.long x) :: lv.filter (fun q => !(q.1 == k0) && (!(q.1 == k0 + 1) && !(q.1 + 1 == k0 && q.2.category == 2))) = lv') (k : VV p l e R s m args below meth c D cl ids ad ce A Q nL kn (pc + 2) lv' st σ) : VV p l e R s m args below meth c D cl ids ad ce A Q nL kn pc lv (Value.long x :: st) σ := by
  intro H locs ls hP hD hS hl
  exact lv_lstore C.1.1 C.1.2.1 hdg hl hn hlv (fun ls' hl' => k H locs ls' hP hD hS hl')
theorem V_iinc (C : CX p s m args c D cl tys NX cc nL own Ts) {k0 : Nat} {n : Int} {x v : Int32} (hdg : decode cc pc = .ok (.iinc k0 n, 3)) (i : Nat) (hi : lv[i]? = some (k0, .int x)) (hv : x + Int32.ofInt n = v) (hn : k0 < nL) (hlv : (k0, Value.int v) :: lv.filter (fun q => !(q.1 == k0) && !(q.1 + 1 == k0 && q.2.category == 2)) = lv') (k : VV p l e R s m args below meth c D cl ids ad ce A Q nL kn (pc + 3) lv' st σ) : VV p l e R s m args below meth c D cl ids ad ce A Q nL kn pc lv st σ := by
  intro H locs ls hP hD hS hl
  exact lv_iinc C.1.1 C.1.2.1 hdg hl hi hv hn hlv (fun ls' hl' => k H locs ls' hP hD hS hl')
theorem V_iadd (C : CX p s m args c D cl tys NX cc nL own Ts) {x y : Int32} (hdg : decode cc pc = .ok (.iadd, 1)) (k : VV p l e R s m args below meth c D cl ids ad ce A Q nL kn (pc + 1) lv (.int (x + y) :: st) σ) : VV p l e R s m args below meth c D cl ids ad ce A Q nL kn pc lv (.int y :: .int x :: st) σ := by
  intro H locs ls hP hD hS hl
  exact lv_iadd C.1.1 C.1.2.1 hdg  (k H locs ls hP hD hS hl)
theorem V_isub (C : CX p s m args c D cl tys NX cc nL own Ts) {x y : Int32} (hdg : decode cc pc = .ok (.isub, 1)) (k : VV p l e R s m args below meth c D cl ids ad ce A Q nL kn (pc + 1) lv (.int (x - y) :: st) σ) : VV p l e R s m args below meth c D cl ids ad ce A Q nL kn pc lv (.int y :: .int x :: st) σ := by
  intro H locs ls hP hD hS hl
  exact lv_isub C.1.1 C.1.2.1 hdg  (k H locs ls hP hD hS hl)
theorem V_imul (C : CX p s m args c D cl tys NX cc nL own Ts) {x y : Int32} (hdg : decode cc pc = .ok (.imul, 1)) (k : VV p l e R s m args below meth c D cl ids ad ce A Q nL kn (pc + 1) lv (.int (x * y) :: st) σ) : VV p l e R s m args below meth c D cl ids ad ce A Q nL kn pc lv (.int y :: .int x :: st) σ := by
  intro H locs ls hP hD hS hl
  exact lv_imul C.1.1 C.1.2.1 hdg  (k H locs ls hP hD hS hl)
theorem V_iand (C : CX p s m args c D cl tys NX cc nL own Ts) {x y : Int32} (hdg : decode cc pc = .ok (.iand, 1)) (k : VV p l e R s m args below meth c D cl ids ad ce A Q nL kn (pc + 1) lv (.int (x &&& y) :: st) σ) : VV p l e R s m args below meth c D cl ids ad ce A Q nL kn pc lv (.int y :: .int x :: st) σ := by
  intro H locs ls hP hD hS hl
  exact lv_iand C.1.1 C.1.2.1 hdg  (k H locs ls hP hD hS hl)
theorem V_idiv (C : CX p s m args c D cl tys NX cc nL own Ts) {x y : Int32} (hdg : decode cc pc = .ok (.idiv, 1)) (hne : ¬ y = 0) (k : VV p l e R s m args below meth c D cl ids ad ce A Q nL kn (pc + 1) lv (.int (x / y) :: st) σ) : VV p l e R s m args below meth c D cl ids ad ce A Q nL kn pc lv (.int y :: .int x :: st) σ := by
  intro H locs ls hP hD hS hl
  exact lv_idiv C.1.1 C.1.2.1 hdg hne (k H locs ls hP hD hS hl)
theorem V_irem (C : CX p s m args c D cl tys NX cc nL own Ts) {x y : Int32} (hdg : decode cc pc = .ok (.irem, 1)) (hne : ¬ y = 0) (k : VV p l e R s m args below meth c D cl ids ad ce A Q nL kn (pc + 1) lv (.int (x - x / y * y) :: st) σ) : VV p l e R s m args below meth c D cl ids ad ce A Q nL kn pc lv (.int y :: .int x :: st) σ := by
  intro H locs ls hP hD hS hl
  exact lv_irem C.1.1 C.1.2.1 hdg hne (k H locs ls hP hD hS hl)
theorem V_ladd (C : CX p s m args c D cl tys NX cc nL own Ts) {x y : Int64} (hdg : decode cc pc = .ok (.ladd, 1)) (k : VV p l e R s m args below meth c D cl ids ad ce A Q nL kn (pc + 1) lv (.long (x + y) :: st) σ) : VV p l e R s m args below meth c D cl ids ad ce A Q nL kn pc lv (.long y :: .long x :: st) σ := by
  intro H locs ls hP hD hS hl
  exact lv_ladd C.1.1 C.1.2.1 hdg  (k H locs ls hP hD hS hl)
theorem V_lmul (C : CX p s m args c D cl tys NX cc nL own Ts) {x y : Int64} (hdg : decode cc pc = .ok (.lmul, 1)) (k : VV p l e R s m args below meth c D cl ids ad ce A Q nL kn (pc + 1) lv (.long (x * y) :: st) σ) : VV p l e R s m args below meth c D cl ids ad ce A Q nL kn pc lv (.long y :: .long x :: st) σ := by
  intro H locs ls hP hD hS hl
  exact lv_lmul C.1.1 C.1.2.1 hdg  (k H locs ls hP hD hS hl)
theorem V_ishr (C : CX p s m args c D cl tys NX cc nL own Ts) {x y : Int32} (hdg : decode cc pc = .ok (.ishr, 1)) (k : VV p l e R s m args below meth c D cl ids ad ce A Q nL kn (pc + 1) lv (.int (x >>> (y &&& 31)) :: st) σ) : VV p l e R s m args below meth c D cl ids ad ce A Q nL kn pc lv (.int y :: .int x :: st) σ := by
  intro H locs ls hP hD hS hl
  exact lv_ishr C.1.1 C.1.2.1 hdg  (k H locs ls hP hD hS hl)
theorem V_ixor (C : CX p s m args c D cl tys NX cc nL own Ts) {x y : Int32} (hdg : decode cc pc = .ok (.ixor, 1)) (k : VV p l e R s m args below meth c D cl ids ad ce A Q nL kn (pc + 1) lv (.int (x ^^^ y) :: st) σ) : VV p l e R s m args below meth c D cl ids ad ce A Q nL kn pc lv (.int y :: .int x :: st) σ := by
  intro H locs ls hP hD hS hl
  exact lv_ixor C.1.1 C.1.2.1 hdg  (k H locs ls hP hD hS hl)
theorem V_i2l (C : CX p s m args c D cl tys NX cc nL own Ts) {x : Int32} (hdg : decode cc pc = .ok (.i2l, 1)) (k : VV p l e R s m args below meth c D cl ids ad ce A Q nL kn (pc + 1) lv (.long x.toInt64 :: st) σ) : VV p l e R s m args below meth c D cl ids ad ce A Q nL kn pc lv (.int x :: st) σ := by
  intro H locs ls hP hD hS hl
  exact lv_i2l C.1.1 C.1.2.1 hdg rfl (k H locs ls hP hD hS hl)
theorem V_i2c (C : CX p s m args c D cl tys NX cc nL own Ts) {x : Int32} (hdg : decode cc pc = .ok (.i2c, 1)) (k : VV p l e R s m args below meth c D cl ids ad ce A Q nL kn (pc + 1) lv (.int (x.toUInt32 % 65536).toInt32 :: st) σ) : VV p l e R s m args below meth c D cl ids ad ce A Q nL kn pc lv (.int x :: st) σ := by
  intro H locs ls hP hD hS hl
  exact lv_i2c C.1.1 C.1.2.1 hdg rfl (k H locs ls hP hD hS hl)
theorem V_lcmp (C : CX p s m args c D cl tys NX cc nL own Ts) {x y : Int64} (hdg : decode cc pc = .ok (.lcmp, 1)) (k : VV p l e R s m args below meth c D cl ids ad ce A Q nL kn (pc + 1) lv (.int (lg_cmp x y) :: st) σ) : VV p l e R s m args below meth c D cl ids ad ce A Q nL kn pc lv (.long y :: .long x :: st) σ := by
  intro H locs ls hP hD hS hl
  exact W.lcmp C.1.1 C.1.2.1 hdg (k H locs ls hP hD hS hl)
theorem V_sld (C : CX p s m args c D cl tys NX cc nL own Ts) {sb sL : Nat} {xs : Nat → Int32} (hX : va_X sb sL xs s s.heap) (hbl : sb < s.heap.size) (hbA : ¬ A sb) {i : Int32} (hin : vp_in i sL) (hdg : decode cc pc = .ok (.iaload, 1)) (k : VV p l e R s m args below meth c D cl ids ad ce A Q nL kn (pc + 1) lv (.int (xs i.toNatClampNeg) :: st) σ) : VV p l e R s m args below meth c D cl ids ad ce A Q nL kn pc lv (.int i :: .ref sb :: st) σ := by
  intro H locs ls hP hD hS hl
  exact va_sld C.1.1 C.1.2.1 hX hbl hbA hS hin hdg (k H locs ls hP hD hS hl)
theorem V_slen (C : CX p s m args c D cl tys NX cc nL own Ts) {sb sL : Nat} {xs : Nat → Int32} (hX : va_X sb sL xs s s.heap) (hbl : sb < s.heap.size) (hbA : ¬ A sb) (hdg : decode cc pc = .ok (.arraylength, 1)) (k : VV p l e R s m args below meth c D cl ids ad ce A Q nL kn (pc + 1) lv (.int (Int32.ofNat sL) :: st) σ) : VV p l e R s m args below meth c D cl ids ad ce A Q nL kn pc lv (.ref sb :: st) σ := by
  intro H locs ls hP hD hS hl
  exact va_slen C.1.1 C.1.2.1 hX hbl hbA hS hdg (k H locs ls hP hD hS hl)
theorem V_dup (C : CX p s m args c D cl tys NX cc nL own Ts) {v : Value} (hdg : decode cc pc = .ok (.dup, 1)) (hv : v.category = 1) (k : VV p l e R s m args below meth c D cl ids ad ce A Q nL kn (pc + 1) lv (v :: v :: st) σ) : VV p l e R s m args below meth c D cl ids ad ce A Q nL kn pc lv (v :: st) σ := by
  intro H locs ls hP hD hS hl
  exact lv_dup C.1.1 C.1.2.1 hdg hv (k H locs ls hP hD hS hl)
theorem V_dup2 (C : CX p s m args c D cl tys NX cc nL own Ts) {v w : Value} (hdg : decode cc pc = .ok (.dup2, 1)) (hv : v.category = 1) (hw : w.category = 1) (k : VV p l e R s m args below meth c D cl ids ad ce A Q nL kn (pc + 1) lv (v :: w :: v :: w :: st) σ) : VV p l e R s m args below meth c D cl ids ad ce A Q nL kn pc lv (v :: w :: st) σ := by
  intro H locs ls hP hD hS hl
  exact lv_dup2_11 C.1.1 C.1.2.1 hdg hv hw (k H locs ls hP hD hS hl)
theorem V_pop (C : CX p s m args c D cl tys NX cc nL own Ts) {v : Value} (hdg : decode cc pc = .ok (.pop, 1)) (hv : v.category = 1) (k : VV p l e R s m args below meth c D cl ids ad ce A Q nL kn (pc + 1) lv (st) σ) : VV p l e R s m args below meth c D cl ids ad ce A Q nL kn pc lv (v :: st) σ := by
  intro H locs ls hP hD hS hl
  exact lv_pop C.1.1 C.1.2.1 hdg hv (k H locs ls hP hD hS hl)
theorem V_ldc2 (C : CX p s m args c D cl tys NX cc nL own Ts) {index : Nat} {v : Int64} (hc : Jvm.Cond.constantLong own index v ∈ Ts) (hdg : decode cc pc = .ok (.ldc2_w index, 3)) (k : VV p l e R s m args below meth c D cl ids ad ce A Q nL kn (pc + 3) lv (.long v :: st) σ) : VV p l e R s m args below meth c D cl ids ad ce A Q nL kn pc lv st σ := by
  intro H locs ls hP hD hS hl
  exact lv_ldc2 C.1.1 C.1.2.1 C.1.2.2.2.1 (C.1.2.2.2.2 _ hc) hdg (k H locs ls hP hD hS hl)
theorem V_ldc (C : CX p s m args c D cl tys NX cc nL own Ts) {index : Nat} {v : Int32} (hc : Jvm.Cond.constant own index v ∈ Ts) (hdg : decode cc pc = .ok (.ldc index, 2)) (k : VV p l e R s m args below meth c D cl ids ad ce A Q nL kn (pc + 2) lv (.int v :: st) σ) : VV p l e R s m args below meth c D cl ids ad ce A Q nL kn pc lv st σ := by
  intro H locs ls hP hD hS hl
  exact lv_ldc C.1.1 C.1.2.1 C.1.2.2.2.1 (C.1.2.2.2.2 _ hc) hdg (k H locs ls hP hD hS hl)
theorem V_topi {x : Int32} (k : ∀ y : Int32, y = x → VV p l e R s m args below meth c D cl ids ad ce A Q nL kn pc lv (.int y :: st) σ) : VV p l e R s m args below meth c D cl ids ad ce A Q nL kn pc lv (.int x :: st) σ := k x rfl
theorem V_topl {x : Int64} (k : ∀ y : Int64, y = x → VV p l e R s m args below meth c D cl ids ad ce A Q nL kn pc lv (.long y :: st) σ) : VV p l e R s m args below meth c D cl ids ad ce A Q nL kn pc lv (.long x :: st) σ := k x rfl
theorem V_sub (ks : List Nat) (hk : lv_pick lv ks = lv') (k : VV p l e R s m args below meth c D cl ids ad ce A Q nL kn pc lv' st σ) : VV p l e R s m args below meth c D cl ids ad ce A Q nL kn pc lv st σ := by
  intro H locs ls hP hD hS hl
  exact k H locs ls hP hD hS (lv_sub hl ks hk)
-- branches
theorem V_if_eq (C : CX p s m args c D cl tys NX cc nL own Ts) {x : Int32} {off : Int} {tgt : Nat} (hdg : decode cc pc = .ok (.ifCond .eq off, 3)) (ht : (pc : Int) + off = (tgt : Int)) (kt : x = 0 → VV p l e R s m args below meth c D cl ids ad ce A Q nL kn tgt lv st σ) (kf : ¬ x = 0 → VV p l e R s m args below meth c D cl ids ad ce A Q nL kn (pc + 3) lv st σ) : VV p l e R s m args below meth c D cl ids ad ce A Q nL kn pc lv (.int x :: st) σ := by
  intro H locs ls hP hD hS hl
  exact lv_if_eq C.1.1 C.1.2.1 hdg ht (fun h => kt h H locs ls hP hD hS hl) (fun h => kf h H locs ls hP hD hS hl)
theorem V_icmp_eq (C : CX p s m args c D cl tys NX cc nL own Ts) {x y : Int32} {off : Int} {tgt : Nat} (hdg : decode cc pc = .ok (.if_icmp .eq off, 3)) (ht : (pc : Int) + off = (tgt : Int)) (kt : x = y → VV p l e R s m args below meth c D cl ids ad ce A Q nL kn tgt lv st σ) (kf : ¬ x = y → VV p l e R s m args below meth c D cl ids ad ce A Q nL kn (pc + 3) lv st σ) : VV p l e R s m args below meth c D cl ids ad ce A Q nL kn pc lv (.int y :: .int x :: st) σ := by
  intro H locs ls hP hD hS hl
  exact lv_icmp_eq C.1.1 C.1.2.1 hdg ht (fun h => kt h H locs ls hP hD hS hl) (fun h => kf h H locs ls hP hD hS hl)
theorem V_if_ne (C : CX p s m args c D cl tys NX cc nL own Ts) {x : Int32} {off : Int} {tgt : Nat} (hdg : decode cc pc = .ok (.ifCond .ne off, 3)) (ht : (pc : Int) + off = (tgt : Int)) (kt : ¬ x = 0 → VV p l e R s m args below meth c D cl ids ad ce A Q nL kn tgt lv st σ) (kf : x = 0 → VV p l e R s m args below meth c D cl ids ad ce A Q nL kn (pc + 3) lv st σ) : VV p l e R s m args below meth c D cl ids ad ce A Q nL kn pc lv (.int x :: st) σ := by
  intro H locs ls hP hD hS hl
  exact lv_if_ne C.1.1 C.1.2.1 hdg ht (fun h => kt h H locs ls hP hD hS hl) (fun h => kf h H locs ls hP hD hS hl)
theorem V_icmp_ne (C : CX p s m args c D cl tys NX cc nL own Ts) {x y : Int32} {off : Int} {tgt : Nat} (hdg : decode cc pc = .ok (.if_icmp .ne off, 3)) (ht : (pc : Int) + off = (tgt : Int)) (kt : ¬ x = y → VV p l e R s m args below meth c D cl ids ad ce A Q nL kn tgt lv st σ) (kf : x = y → VV p l e R s m args below meth c D cl ids ad ce A Q nL kn (pc + 3) lv st σ) : VV p l e R s m args below meth c D cl ids ad ce A Q nL kn pc lv (.int y :: .int x :: st) σ := by
  intro H locs ls hP hD hS hl
  exact lv_icmp_ne C.1.1 C.1.2.1 hdg ht (fun h => kt h H locs ls hP hD hS hl) (fun h => kf h H locs ls hP hD hS hl)
theorem V_if_lt (C : CX p s m args c D cl tys NX cc nL own Ts) {x : Int32} {off : Int} {tgt : Nat} (hdg : decode cc pc = .ok (.ifCond .lt off, 3)) (ht : (pc : Int) + off = (tgt : Int)) (kt : x < 0 → VV p l e R s m args below meth c D cl ids ad ce A Q nL kn tgt lv st σ) (kf : ¬ x < 0 → VV p l e R s m args below meth c D cl ids ad ce A Q nL kn (pc + 3) lv st σ) : VV p l e R s m args below meth c D cl ids ad ce A Q nL kn pc lv (.int x :: st) σ := by
  intro H locs ls hP hD hS hl
  exact lv_if_lt C.1.1 C.1.2.1 hdg ht (fun h => kt h H locs ls hP hD hS hl) (fun h => kf h H locs ls hP hD hS hl)
theorem V_icmp_lt (C : CX p s m args c D cl tys NX cc nL own Ts) {x y : Int32} {off : Int} {tgt : Nat} (hdg : decode cc pc = .ok (.if_icmp .lt off, 3)) (ht : (pc : Int) + off = (tgt : Int)) (kt : x < y → VV p l e R s m args below meth c D cl ids ad ce A Q nL kn tgt lv st σ) (kf : ¬ x < y → VV p l e R s m args below meth c D cl ids ad ce A Q nL kn (pc + 3) lv st σ) : VV p l e R s m args below meth c D cl ids ad ce A Q nL kn pc lv (.int y :: .int x :: st) σ := by
  intro H locs ls hP hD hS hl
  exact lv_icmp_lt C.1.1 C.1.2.1 hdg ht (fun h => kt h H locs ls hP hD hS hl) (fun h => kf h H locs ls hP hD hS hl)
theorem V_if_ge (C : CX p s m args c D cl tys NX cc nL own Ts) {x : Int32} {off : Int} {tgt : Nat} (hdg : decode cc pc = .ok (.ifCond .ge off, 3)) (ht : (pc : Int) + off = (tgt : Int)) (kt : 0 ≤ x → VV p l e R s m args below meth c D cl ids ad ce A Q nL kn tgt lv st σ) (kf : ¬ 0 ≤ x → VV p l e R s m args below meth c D cl ids ad ce A Q nL kn (pc + 3) lv st σ) : VV p l e R s m args below meth c D cl ids ad ce A Q nL kn pc lv (.int x :: st) σ := by
  intro H locs ls hP hD hS hl
  exact lv_if_ge C.1.1 C.1.2.1 hdg ht (fun h => kt h H locs ls hP hD hS hl) (fun h => kf h H locs ls hP hD hS hl)
theorem V_icmp_ge (C : CX p s m args c D cl tys NX cc nL own Ts) {x y : Int32} {off : Int} {tgt : Nat} (hdg : decode cc pc = .ok (.if_icmp .ge off, 3)) (ht : (pc : Int) + off = (tgt : Int)) (kt : y ≤ x → VV p l e R s m args below meth c D cl ids ad ce A Q nL kn tgt lv st σ) (kf : ¬ y ≤ x → VV p l e R s m args below meth c D cl ids ad ce A Q nL kn (pc + 3) lv st σ) : VV p l e R s m args below meth c D cl ids ad ce A Q nL kn pc lv (.int y :: .int x :: st) σ := by
  intro H locs ls hP hD hS hl
  exact lv_icmp_ge C.1.1 C.1.2.1 hdg ht (fun h => kt h H locs ls hP hD hS hl) (fun h => kf h H locs ls hP hD hS hl)
theorem V_if_gt (C : CX p s m args c D cl tys NX cc nL own Ts) {x : Int32} {off : Int} {tgt : Nat} (hdg : decode cc pc = .ok (.ifCond .gt off, 3)) (ht : (pc : Int) + off = (tgt : Int)) (kt : 0 < x → VV p l e R s m args below meth c D cl ids ad ce A Q nL kn tgt lv st σ) (kf : ¬ 0 < x → VV p l e R s m args below meth c D cl ids ad ce A Q nL kn (pc + 3) lv st σ) : VV p l e R s m args below meth c D cl ids ad ce A Q nL kn pc lv (.int x :: st) σ := by
  intro H locs ls hP hD hS hl
  exact lv_if_gt C.1.1 C.1.2.1 hdg ht (fun h => kt h H locs ls hP hD hS hl) (fun h => kf h H locs ls hP hD hS hl)
theorem V_icmp_gt (C : CX p s m args c D cl tys NX cc nL own Ts) {x y : Int32} {off : Int} {tgt : Nat} (hdg : decode cc pc = .ok (.if_icmp .gt off, 3)) (ht : (pc : Int) + off = (tgt : Int)) (kt : y < x → VV p l e R s m args below meth c D cl ids ad ce A Q nL kn tgt lv st σ) (kf : ¬ y < x → VV p l e R s m args below meth c D cl ids ad ce A Q nL kn (pc + 3) lv st σ) : VV p l e R s m args below meth c D cl ids ad ce A Q nL kn pc lv (.int y :: .int x :: st) σ := by
  intro H locs ls hP hD hS hl
  exact lv_icmp_gt C.1.1 C.1.2.1 hdg ht (fun h => kt h H locs ls hP hD hS hl) (fun h => kf h H locs ls hP hD hS hl)
theorem V_if_le (C : CX p s m args c D cl tys NX cc nL own Ts) {x : Int32} {off : Int} {tgt : Nat} (hdg : decode cc pc = .ok (.ifCond .le off, 3)) (ht : (pc : Int) + off = (tgt : Int)) (kt : x ≤ 0 → VV p l e R s m args below meth c D cl ids ad ce A Q nL kn tgt lv st σ) (kf : ¬ x ≤ 0 → VV p l e R s m args below meth c D cl ids ad ce A Q nL kn (pc + 3) lv st σ) : VV p l e R s m args below meth c D cl ids ad ce A Q nL kn pc lv (.int x :: st) σ := by
  intro H locs ls hP hD hS hl
  exact lv_if_le C.1.1 C.1.2.1 hdg ht (fun h => kt h H locs ls hP hD hS hl) (fun h => kf h H locs ls hP hD hS hl)
theorem V_icmp_le (C : CX p s m args c D cl tys NX cc nL own Ts) {x y : Int32} {off : Int} {tgt : Nat} (hdg : decode cc pc = .ok (.if_icmp .le off, 3)) (ht : (pc : Int) + off = (tgt : Int)) (kt : x ≤ y → VV p l e R s m args below meth c D cl ids ad ce A Q nL kn tgt lv st σ) (kf : ¬ x ≤ y → VV p l e R s m args below meth c D cl ids ad ce A Q nL kn (pc + 3) lv st σ) : VV p l e R s m args below meth c D cl ids ad ce A Q nL kn pc lv (.int y :: .int x :: st) σ := by
  intro H locs ls hP hD hS hl
  exact lv_icmp_le C.1.1 C.1.2.1 hdg ht (fun h => kt h H locs ls hP hD hS hl) (fun h => kf h H locs ls hP hD hS hl)
theorem V_goto (C : CX p s m args c D cl tys NX cc nL own Ts) {off : Int} {tgt : Nat} (hdg : decode cc pc = .ok (.goto off, 3)) (ht : (pc : Int) + off = (tgt : Int)) (k : VV p l e R s m args below meth c D cl ids ad ce A Q nL kn tgt lv st σ) : VV p l e R s m args below meth c D cl ids ad ce A Q nL kn pc lv st σ := by
  intro H locs ls hP hD hS hl
  exact lv_goto C.1.1 C.1.2.1 hdg ht (k H locs ls hP hD hS hl)
theorem V_lookup (C : CX p s m args c D cl tys NX cc nL own Ts) {dflt : Int} {ps : Array (Int × Int)} {len : Nat} {x : Int32} {off : Int} {tgt : Nat} (hdg : decode cc pc = .ok (.lookupswitch dflt ps, len)) (hp : (ps.toList.zip (ps.toList.drop 1)).all (fun (a, next) => a.1 < next.1) = true) (ho : Op.lookupswitch.offset ps.toList dflt x.toInt = off) (ht : (pc : Int) + off = (tgt : Int)) (k : VV p l e R s m args below meth c D cl ids ad ce A Q nL kn tgt lv st σ) : VV p l e R s m args below meth c D cl ids ad ce A Q nL kn pc lv (.int x :: st) σ := by
  intro H locs ls hP hD hS hl
  exact lv_lookup C.1.1 C.1.2.1 hdg hp ho ht (k H locs ls hP hD hS hl)
theorem V_get (C : CX p s m args c D cl tys NX cc nL own Ts) {o : Oid} (ho : o ∈ ids) {cls : String} {T : u_T} {N ci index : Nat} (hin : ∀ w ∈ u_ws cls T N, w ∈ Ts) (hc : cl[ci]? = some (cls, T, N)) (k : Nat) (hk : k < N) {fs : List Value} (he : ce o (σ o) = .inr (ci, fs)) {v : Value} (hv : fs[k]? = some v) (hlink : Cond.fieldLink own index (T k).1 (T k).2.1 (T k).2.2.1 ∈ Ts) (hdg : decode cc pc = .ok (.getfield index, 3)) (kk : VV p l e R s m args below meth c D cl ids ad ce A Q nL kn (pc + 3) lv (v :: st) σ) : VV p l e R s m args below meth c D cl ids ad ce A Q nL kn pc lv (.ref (ad o) :: st) σ := by
  intro H locs ls hP hD hS hl
  obtain ⟨q, hq, hw⟩ := wl_at (ad := ad) (ce := ce) (σ := σ) ho
  exact va_get C.1.1 C.1.2.1 C.1.2.2.2.2 hin C.1.2.2.2.1 C.2.1 hP q (he ▸ hw) hc k hk (C.1.2.2.2.2 _ hlink) (fun _ h => h) hv hdg (kk H locs ls hP hD hS hl)
theorem V_put (C : CX p s m args c D cl tys NX cc nL own Ts) {o : Oid} (ho : o ∈ ids) {cls : String} {T : u_T} {N ci index : Nat} (hin : ∀ w ∈ u_ws cls T N, w ∈ Ts) (ty0 : Nat → FieldType) (hty : ∀ k, k < N → parseFieldDescriptor (T k).2.2.1 = some (ty0 k)) (hnm : ∀ a, a < N → ∀ b, b < N → a ≠ b → (T a).2.1 ≠ (T b).2.1) (hc : cl[ci]? = some (cls, T, N)) (k : Nat) (hk : k < N) {fs : List Value} (he : ce o (σ o) = .inr (ci, fs)) {x : Int32} (he' : ce o (upd (σ o) k x) = .inr (ci, fs.set k (.int x))) (hlink : Cond.fieldLink own index (T k).1 (T k).2.1 (T k).2.2.1 ∈ Ts) (hfin : (T k).2.2.2 = false) {ty : FieldType} (hd : parseFieldDescriptor (T k).2.2.1 = some ty) (hn : narrow ty (.int x) = .int x) (hfit : fits ty (.int x) = true) (hkl : k < fs.length) (hdg : decode cc pc = .ok (.putfield index, 3)) (kk : ∀ τ : Mem, τ = mup σ o k x → VV p l e R s m args below meth c D cl ids ad ce A Q nL kn (pc + 3) lv st τ) : VV p l e R s m args below meth c D cl ids ad ce A Q nL kn pc lv (.int x :: .ref (ad o) :: st) σ := by
  intro H locs ls hP hD hS hl
  obtain ⟨q, hq, hw⟩ := wl_at (ad := ad) (ce := ce) (σ := σ) ho
  refine va_put C.1.1 C.1.2.1 C.1.2.2.2.2 hin ty0 hty hnm C.1.2.2.2.1 C.2.1 hP hD hS q (he ▸ hw) hc k hk (C.1.2.2.2.2 _ hlink) (fun _ h => h) hfin hd hn hfit hkl hdg (fun H1 locs1 hP1 hD1 hS1 => ?_)
  have e1 := wl_set hD hq (σ' := mup σ o k x) (fun q h => mup_ne σ k x h)
  rw [mup_self, he'] at e1
  rw [e1] at hP1 hD1
  exact kk _ rfl H1 locs1 ls hP1 hD1 hS1 hl
theorem V_iald (C : CX p s m args c D cl tys NX cc nL own Ts) {o : Oid} (ho : o ∈ ids) {cA : ClassId} {n : Nat} (t0 : Nat) (ht : tys[t0]? = some (cA, .int)) (he : ce o (σ o) = .inl (cA, n, .inl (σ o))) {i : Int32} {i0 : Nat} (hi0 : i.toNatClampNeg = i0) (hi : vp_in i n) (hdg : decode cc pc = .ok (.iaload, 1)) (kk : VV p l e R s m args below meth c D cl ids ad ce A Q nL kn (pc + 1) lv (.int (σ o i0) :: st) σ) : VV p l e R s m args below meth c D cl ids ad ce A Q nL kn pc lv (.int i :: .ref (ad o) :: st) σ := by
  intro H locs ls hP hD hS hl
  subst hi0
  obtain ⟨q, hq, hw⟩ := wl_at (ad := ad) (ce := ce) (σ := σ) ho
  exact va_iald C.1.1 C.1.2.1 C.2.1 hP q t0 (he ▸ hw) ht hi hdg (kk H locs ls hP hD hS hl)
theorem V_zald (C : CX p s m args c D cl tys NX cc nL own Ts) {o : Oid} (ho : o ∈ ids) {cA : ClassId} {n : Nat} (t0 : Nat) (ht : tys[t0]? = some (cA, .boolean)) (he : ce o (σ o) = .inl (cA, n, .inl (σ o))) {i : Int32} {i0 : Nat} (hi0 : i.toNatClampNeg = i0) (hi : vp_in i n) (hdg : decode cc pc = .ok (.baload, 1)) (kk : VV p l e R s m args below meth c D cl ids ad ce A Q nL kn (pc + 1) lv (.int (σ o i0) :: st) σ) : VV p l e R s m args below meth c D cl ids ad ce A Q nL kn pc lv (.int i :: .ref (ad o) :: st) σ := by
  intro H locs ls hP hD hS hl
  subst hi0
  obtain ⟨q, hq, hw⟩ := wl_at (ad := ad) (ce := ce) (σ := σ) ho
  exact va_zald C.1.1 C.1.2.1 C.2.1 hP q t0 (he ▸ hw) ht hi hdg (kk H locs ls hP hD hS hl)
theorem V_cald (C : CX p s m args c D cl tys NX cc nL own Ts) {o : Oid} (ho : o ∈ ids) {cA : ClassId} {n : Nat} (t0 : Nat) (ht : tys[t0]? = some (cA, .char)) (he : ce o (σ o) = .inl (cA, n, .inl (σ o))) {i : Int32} {i0 : Nat} (hi0 : i.toNatClampNeg = i0) (hi : vp_in i n) (hdg : decode cc pc = .ok (.caload, 1)) (kk : VV p l e R s m args below meth c D cl ids ad ce A Q nL kn (pc + 1) lv (.int (σ o i0) :: st) σ) : VV p l e R s m args below meth c D cl ids ad ce A Q nL kn pc lv (.int i :: .ref (ad o) :: st) σ := by
  intro H locs ls hP hD hS hl
  subst hi0
  obtain ⟨q, hq, hw⟩ := wl_at (ad := ad) (ce := ce) (σ := σ) ho
  exact va_cald C.1.1 C.1.2.1 C.2.1 hP q t0 (he ▸ hw) ht hi hdg (kk H locs ls hP hD hS hl)
theorem V_iast (C : CX p s m args c D cl tys NX cc nL own Ts) {o : Oid} (ho : o ∈ ids) {cA : ClassId} {n : Nat} (t0 : Nat) (ht : tys[t0]? = some (cA, .int)) (he : ∀ f, ce o f = .inl (cA, n, .inl f)) {i x : Int32} {i0 : Nat} (hi0 : i.toNatClampNeg = i0) (hi : vp_in i n) (hdg : decode cc pc = .ok (.iastore, 1)) (kk : ∀ τ : Mem, τ = mup σ o i0 x → VV p l e R s m args below meth c D cl ids ad ce A Q nL kn (pc + 1) lv st τ) : VV p l e R s m args below meth c D cl ids ad ce A Q nL kn pc lv (.int x :: .int i :: .ref (ad o) :: st) σ := by
  intro H locs ls hP hD hS hl
  subst hi0
  obtain ⟨q, hq, hw⟩ := wl_at (ad := ad) (ce := ce) (σ := σ) ho
  refine va_iast C.1.1 C.1.2.1 C.2.1 hP hD hS q t0 ((he (σ o)) ▸ hw) ht hi hdg (fun H1 locs1 hP1 hD1 hS1 => ?_)
  have e1 := wl_set hD hq (σ' := mup σ o i.toNatClampNeg x) (fun q h => mup_ne σ _ _ h)
  rw [mup_self, he] at e1
  rw [e1] at hP1 hD1
  exact kk _ rfl H1 locs1 ls hP1 hD1 hS1 hl
theorem V_zast (C : CX p s m args c D cl tys NX cc nL own Ts) {o : Oid} (ho : o ∈ ids) {cA : ClassId} {n : Nat} (t0 : Nat) (ht : tys[t0]? = some (cA, .boolean)) (he : ∀ f, ce o f = .inl (cA, n, .inl f)) {i x : Int32} {i0 : Nat} (hi0 : i.toNatClampNeg = i0) (hi : vp_in i n) (hdg : decode cc pc = .ok (.bastore, 1)) (kk : ∀ τ : Mem, τ = mup σ o i0 (vp_nar .boolean x) → VV p l e R s m args below meth c D cl ids ad ce A Q nL kn (pc + 1) lv st τ) : VV p l e R s m args below meth c D cl ids ad ce A Q nL kn pc lv (.int x :: .int i :: .ref (ad o) :: st) σ := by
  intro H locs ls hP hD hS hl
  subst hi0
  obtain ⟨q, hq, hw⟩ := wl_at (ad := ad) (ce := ce) (σ := σ) ho
  refine va_zast C.1.1 C.1.2.1 C.2.1 hP hD hS q t0 ((he (σ o)) ▸ hw) ht hi hdg (fun H1 locs1 hP1 hD1 hS1 => ?_)
  have e1 := wl_set hD hq (σ' := mup σ o i.toNatClampNeg (vp_nar .boolean x)) (fun q h => mup_ne σ _ _ h)
  rw [mup_self, he] at e1
  rw [e1] at hP1 hD1
  exact kk _ rfl H1 locs1 ls hP1 hD1 hS1 hl
theorem V_cast (C : CX p s m args c D cl tys NX cc nL own Ts) {o : Oid} (ho : o ∈ ids) {cA : ClassId} {n : Nat} (t0 : Nat) (ht : tys[t0]? = some (cA, .char)) (he : ∀ f, ce o f = .inl (cA, n, .inl f)) {i x : Int32} {i0 : Nat} (hi0 : i.toNatClampNeg = i0) (hi : vp_in i n) (hdg : decode cc pc = .ok (.castore, 1)) (kk : ∀ τ : Mem, τ = mup σ o i0 (vp_nar .char x) → VV p l e R s m args below meth c D cl ids ad ce A Q nL kn (pc + 1) lv st τ) : VV p l e R s m args below meth c D cl ids ad ce A Q nL kn pc lv (.int x :: .int i :: .ref (ad o) :: st) σ := by
  intro H locs ls hP hD hS hl
  subst hi0
  obtain ⟨q, hq, hw⟩ := wl_at (ad := ad) (ce := ce) (σ := σ) ho
  refine va_cast C.1.1 C.1.2.1 C.2.1 hP hD hS q t0 ((he (σ o)) ▸ hw) ht hi hdg (fun H1 locs1 hP1 hD1 hS1 => ?_)
  have e1 := wl_set hD hq (σ' := mup σ o i.toNatClampNeg (vp_nar .char x)) (fun q h => mup_ne σ _ _ h)
  rw [mup_self, he] at e1
  rw [e1] at hP1 hD1
  exact kk _ rfl H1 locs1 ls hP1 hD1 hS1 hl
theorem V_aald (C : CX p s m args c D cl tys NX cc nL own Ts) {o o' : Oid} (ho : o ∈ ids) {cA : ClassId} {n : Nat} {cn : String} (t0 : Nat) {f : Nat → Option Nat} (ht : tys[t0]? = some (cA, .object cn)) (he : ce o (σ o) = .inl (cA, n, .inr (.inr (.inr (.inr f))))) {i : Int32} (hi : vp_in i n) (hf : f i.toNatClampNeg = some (ad o')) (hdg : decode cc pc = .ok (.aaload, 1)) (kk : VV p l e R s m args below meth c D cl ids ad ce A Q nL kn (pc + 1) lv (.ref (ad o') :: st) σ) : VV p l e R s m args below meth c D cl ids ad ce A Q nL kn pc lv (.int i :: .ref (ad o) :: st) σ := by
  intro H locs ls hP hD hS hl
  obtain ⟨q, hq, hw⟩ := wl_at (ad := ad) (ce := ce) (σ := σ) ho
  have k2 := kk H locs ls hP hD hS hl
  refine va_aldq C.1.1 C.1.2.1 C.2.1 hP q t0 (he ▸ hw) ht hi hdg ?_
  rw [hf]
  exact k2
theorem V_cVi (C : CX p s m args c D cl tys NX cc nL own Ts) {y : MethodName} {bytes : ByteArray} {maxL n index : Nat} {ret : Option FieldType} {ws : List Cond} {rm : Room} {o : Oid} (ho : o ∈ ids) {cls : String} {T : u_T} {N ci : Nat} {fs : List Value} {As : List Value} {Qr : Int32 → Mem → Prop} (hR : kn.1 ≤ R.cells ∧ kn.2 ≤ R.slots) (hM : Met l y ws rm (va_Pc (.ref (ad o) :: As) (WdI D cl tys ids ad ce A σ)) (va_Qi (fun (r : Int32) (u : Mem) => Qr r u) (WdO D cl ids ad ce A) A) 0 0 A) (cw : CallW R s args own cls index y bytes maxL ret ws rm 0 0 n) (hc : cl[ci]? = some (cls, T, N)) (he : ce o (σ o) = .inr (ci, fs)) (hn : As.length = n) {st0 : List Value} (hst : st0 = As.reverse ++ .ref (ad o) :: st) (hW : (st.map fun v => v.category).sum ≤ 8) (hdg : decode cc pc = .ok (.invokevirtual index, 3)) (kk : ∀ (r : Int32) (τ : Mem), Qr r τ → VV p l e R s m args below meth c D cl ids ad ce A Q nL kn (pc + 3) lv (.int r :: st) τ) : VV p l e R s m args below meth c D cl ids ad ce A Q nL kn pc lv st0 σ := by
  intro H locs ls hP hD hS hl
  refine va_calli (va_runV (b := ad o) (As := As) (rest := st) C.1 hM cw ⟨WdI.blind, (by obtain ⟨q, hq, hw⟩ := wl_at (ad := ad) (ce := ce) (σ := σ) ho; exact va_recv C.2.1 hP (q0 := q) hc (he ▸ hw)), fun U hU hW => ⟨rfl, by rw [hU]; exact hP, va_K.moved hW.alike C.2.1, hD, NX.warm hW C.2.2⟩⟩ rfl hn hl.1 hst (lv_room hW) hdg hR) hS (fun q _ h => h) (fun q h => h) (fun r u t H1 locs1 ht hvm hw hB hz1 hk1 hS1 => ?_)
  obtain ⟨hP1, hD1⟩ := hB
  rw [ht] at hP1
  exact kk r u hw H1 locs1 ls hP1 hD1 hS1 hl
theorem V_cSi (C : CX p s m args c D cl tys NX cc nL own Ts) {y : MethodName} {bytes : ByteArray} {maxL n index : Nat} {ret : Option FieldType} {ws : List Cond} {rm : Room} {As : List Value} {Qr : Int32 → Mem → Prop} (hR : kn.1 ≤ R.cells ∧ kn.2 ≤ R.slots) (hM : Met l y ws rm (va_Pc As (WdI D cl tys ids ad ce A σ)) (va_Qi (fun (r : Int32) (u : Mem) => Qr r u) (WdO D cl ids ad ce A) A) 0 0 A) (cw : CallB R s args own index y bytes maxL ret ws rm 0 0 n ∧ (Cond.static y).before args s = true) (hn : As.length = n) {st0 : List Value} (hst : st0 = As.reverse ++ st) (hW : (st.map fun v => v.category).sum ≤ 8) (hdg : decode cc pc = .ok (.invokestatic index, 3)) (kk : ∀ (r : Int32) (τ : Mem), Qr r τ → VV p l e R s m args below meth c D cl ids ad ce A Q nL kn (pc + 3) lv (.int r :: st) τ) : VV p l e R s m args below meth c D cl ids ad ce A Q nL kn pc lv st0 σ := by
  intro H locs ls hP hD hS hl
  refine va_calli (va_runS (As := As) (rest := st) C.1 hM cw ⟨WdI.blind, fun U hU hW => ⟨rfl, by rw [hU]; exact hP, va_K.moved hW.alike C.2.1, hD, NX.warm hW C.2.2⟩⟩ rfl hn hl.1 hst (lv_room hW) hdg hR) hS (fun q _ h => h) (fun q h => h) (fun r u t H1 locs1 ht hvm hw hB hz1 hk1 hS1 => ?_)
  obtain ⟨hP1, hD1⟩ := hB
  rw [ht] at hP1
  exact kk r u hw H1 locs1 ls hP1 hD1 hS1 hl
theorem V_cSSi (C : CX p s m args c D cl tys NX cc nL own Ts) {y : MethodName} {bytes : ByteArray} {maxL n index : Nat} {ret : Option FieldType} {ws : List Cond} {rm : Room} {As : List Value} {sb sL : Nat} {xs : Nat → Int32} {Qr : Int32 → Mem → Prop} (hX : va_X sb sL xs s s.heap) (hbl : sb < s.heap.size) (hbA : ¬ A sb) (hR : kn.1 ≤ R.cells ∧ kn.2 ≤ R.slots) (hM : Met l y ws rm (va_Pc As (WdS sb sL xs D cl tys ids ad ce A σ)) (va_Qi (fun (r : Int32) (u : Mem) => Qr r u) (WdO D cl ids ad ce A) A) 0 0 A) (cw : CallB R s args own index y bytes maxL ret ws rm 0 0 n ∧ (Cond.static y).before args s = true) (hn : As.length = n) {st0 : List Value} (hst : st0 = As.reverse ++ st) (hW : (st.map fun v => v.category).sum ≤ 8) (hdg : decode cc pc = .ok (.invokestatic index, 3)) (kk : ∀ (r : Int32) (τ : Mem), Qr r τ → VV p l e R s m args below meth c D cl ids ad ce A Q nL kn (pc + 3) lv (.int r :: st) τ) : VV p l e R s m args below meth c D cl ids ad ce A Q nL kn pc lv st0 σ := by
  intro H locs ls hP hD hS hl
  refine va_calli (va_runS (As := As) (rest := st) C.1 hM cw ⟨WdS.blind, fun U hU hW => ⟨rfl, ⟨by rw [hU]; exact hP, va_K.moved hW.alike C.2.1, hD, NX.warm hW C.2.2⟩, va_X.moved hW.alike (by rw [hU]; exact hX.kept (hS.2.1 sb hbl hbA)), by rw [hU]; exact Nat.lt_of_lt_of_le hbl hS.1, hbA⟩⟩ rfl hn hl.1 hst (lv_room hW) hdg hR) hS (fun q _ h => h) (fun q h => h) (fun r u t H1 locs1 ht hvm hw hB hz1 hk1 hS1 => ?_)
  obtain ⟨hP1, hD1⟩ := hB
  rw [ht] at hP1
  exact kk r u hw H1 locs1 ls hP1 hD1 hS1 hl
theorem V_cVl (C : CX p s m args c D cl tys NX cc nL own Ts) {y : MethodName} {bytes : ByteArray} {maxL n index : Nat} {ret : Option FieldType} {ws : List Cond} {rm : Room} {o : Oid} (ho : o ∈ ids) {cls : String} {T : u_T} {N ci : Nat} {fs : List Value} {As : List Value} {Qr : Int64 → Mem → Prop} (hR : kn.1 ≤ R.cells ∧ kn.2 ≤ R.slots) (hM : Met l y ws rm (va_Pc (.ref (ad o) :: As) (WdI D cl tys ids ad ce A σ)) (va_Ql (fun (r : Int64) (u : Mem) => Qr r u) (WdO D cl ids ad ce A) A) 0 0 A) (cw : CallW R s args own cls index y bytes maxL ret ws rm 0 0 n) (hc : cl[ci]? = some (cls, T, N)) (he : ce o (σ o) = .inr (ci, fs)) (hn : As.length = n) {st0 : List Value} (hst : st0 = As.reverse ++ .ref (ad o) :: st) (hW : (st.map fun v => v.category).sum ≤ 8) (hdg : decode cc pc = .ok (.invokevirtual index, 3)) (kk : ∀ (r : Int64) (τ : Mem), Qr r τ → VV p l e R s m args below meth c D cl ids ad ce A Q nL kn (pc + 3) lv (.long r :: st) τ) : VV p l e R s m args below meth c D cl ids ad ce A Q nL kn pc lv st0 σ := by
  intro H locs ls hP hD hS hl
  refine va_calll (va_runV (b := ad o) (As := As) (rest := st) C.1 hM cw ⟨WdI.blind, (by obtain ⟨q, hq, hw⟩ := wl_at (ad := ad) (ce := ce) (σ := σ) ho; exact va_recv C.2.1 hP (q0 := q) hc (he ▸ hw)), fun U hU hW => ⟨rfl, by rw [hU]; exact hP, va_K.moved hW.alike C.2.1, hD, NX.warm hW C.2.2⟩⟩ rfl hn hl.1 hst (lv_room hW) hdg hR) hS (fun q _ h => h) (fun q h => h) (fun r u t H1 locs1 ht hvm hw hB hz1 hk1 hS1 => ?_)
  obtain ⟨hP1, hD1⟩ := hB
  rw [ht] at hP1
  exact kk r u hw H1 locs1 ls hP1 hD1 hS1 hl
theorem V_cSl (C : CX p s m args c D cl tys NX cc nL own Ts) {y : MethodName} {bytes : ByteArray} {maxL n index : Nat} {ret : Option FieldType} {ws : List Cond} {rm : Room} {As : List Value} {Qr : Int64 → Mem → Prop} (hR : kn.1 ≤ R.cells ∧ kn.2 ≤ R.slots) (hM : Met l y ws rm (va_Pc As (WdI D cl tys ids ad ce A σ)) (va_Ql (fun (r : Int64) (u : Mem) => Qr r u) (WdO D cl ids ad ce A) A) 0 0 A) (cw : CallB R s args own index y bytes maxL ret ws rm 0 0 n ∧ (Cond.static y).before args s = true) (hn : As.length = n) {st0 : List Value} (hst : st0 = As.reverse ++ st) (hW : (st.map fun v => v.category).sum ≤ 8) (hdg : decode cc pc = .ok (.invokestatic index, 3)) (kk : ∀ (r : Int64) (τ : Mem), Qr r τ → VV p l e R s m args below meth c D cl ids ad ce A Q nL kn (pc + 3) lv (.long r :: st) τ) : VV p l e R s m args below meth c D cl ids ad ce A Q nL kn pc lv st0 σ := by
  intro H locs ls hP hD hS hl
  refine va_calll (va_runS (As := As) (rest := st) C.1 hM cw ⟨WdI.blind, fun U hU hW => ⟨rfl, by rw [hU]; exact hP, va_K.moved hW.alike C.2.1, hD, NX.warm hW C.2.2⟩⟩ rfl hn hl.1 hst (lv_room hW) hdg hR) hS (fun q _ h => h) (fun q h => h) (fun r u t H1 locs1 ht hvm hw hB hz1 hk1 hS1 => ?_)
  obtain ⟨hP1, hD1⟩ := hB
  rw [ht] at hP1
  exact kk r u hw H1 locs1 ls hP1 hD1 hS1 hl
theorem V_cVv (C : CX p s m args c D cl tys NX cc nL own Ts) {y : MethodName} {bytes : ByteArray} {maxL n index : Nat} {ret : Option FieldType} {ws : List Cond} {rm : Room} {o : Oid} (ho : o ∈ ids) {cls : String} {T : u_T} {N ci : Nat} {fs : List Value} {As : List Value} {Qr : Mem → Prop} (hR : kn.1 ≤ R.cells ∧ kn.2 ≤ R.slots) (hM : Met l y ws rm (va_Pc (.ref (ad o) :: As) (WdI D cl tys ids ad ce A σ)) (va_Qv (fun (u : Mem) => Qr u) (WdO D cl ids ad ce A) A) 0 0 A) (cw : CallW R s args own cls index y bytes maxL ret ws rm 0 0 n) (hc : cl[ci]? = some (cls, T, N)) (he : ce o (σ o) = .inr (ci, fs)) (hn : As.length = n) {st0 : List Value} (hst : st0 = As.reverse ++ .ref (ad o) :: st) (hW : (st.map fun v => v.category).sum ≤ 8) (hdg : decode cc pc = .ok (.invokevirtual index, 3)) (kk : ∀ τ : Mem, Qr τ → VV p l e R s m args below meth c D cl ids ad ce A Q nL kn (pc + 3) lv st τ) : VV p l e R s m args below meth c D cl ids ad ce A Q nL kn pc lv st0 σ := by
  intro H locs ls hP hD hS hl
  refine va_callv (va_runV (b := ad o) (As := As) (rest := st) C.1 hM cw ⟨WdI.blind, (by obtain ⟨q, hq, hw⟩ := wl_at (ad := ad) (ce := ce) (σ := σ) ho; exact va_recv C.2.1 hP (q0 := q) hc (he ▸ hw)), fun U hU hW => ⟨rfl, by rw [hU]; exact hP, va_K.moved hW.alike C.2.1, hD, NX.warm hW C.2.2⟩⟩ rfl hn hl.1 hst (lv_room hW) hdg hR) hS (fun q _ h => h) (fun q h => h) (fun u t H1 locs1 ht hvm hw hB hz1 hk1 hS1 => ?_)
  obtain ⟨hP1, hD1⟩ := hB
  rw [ht] at hP1
  exact kk u hw H1 locs1 ls hP1 hD1 hS1 hl
theorem V_cSv (C : CX p s m args c D cl tys NX cc nL own Ts) {y : MethodName} {bytes : ByteArray} {maxL n index : Nat} {ret : Option FieldType} {ws : List Cond} {rm : Room} {As : List Value} {Qr : Mem → Prop} (hR : kn.1 ≤ R.cells ∧ kn.2 ≤ R.slots) (hM : Met l y ws rm (va_Pc As (WdI D cl tys ids ad ce A σ)) (va_Qv (fun (u : Mem) => Qr u) (WdO D cl ids ad ce A) A) 0 0 A) (cw : CallB R s args own index y bytes maxL ret ws rm 0 0 n ∧ (Cond.static y).before args s = true) (hn : As.length = n) {st0 : List Value} (hst : st0 = As.reverse ++ st) (hW : (st.map fun v => v.category).sum ≤ 8) (hdg : decode cc pc = .ok (.invokestatic index, 3)) (kk : ∀ τ : Mem, Qr τ → VV p l e R s m args below meth c D cl ids ad ce A Q nL kn (pc + 3) lv st τ) : VV p l e R s m args below meth c D cl ids ad ce A Q nL kn pc lv st0 σ := by
  intro H locs ls hP hD hS hl
  refine va_callv (va_runS (As := As) (rest := st) C.1 hM cw ⟨WdI.blind, fun U hU hW => ⟨rfl, by rw [hU]; exact hP, va_K.moved hW.alike C.2.1, hD, NX.warm hW C.2.2⟩⟩ rfl hn hl.1 hst (lv_room hW) hdg hR) hS (fun q _ h => h) (fun q h => h) (fun u t H1 locs1 ht hvm hw hB hz1 hk1 hS1 => ?_)
  obtain ⟨hP1, hD1⟩ := hB
  rw [ht] at hP1
  exact kk u hw H1 locs1 ls hP1 hD1 hS1 hl
theorem V_mmin (C : CX p s m args c D cl tys NX cc nL own Ts) {index : Nat} {x y : Int32} (hR : kn.1 ≤ R.cells ∧ kn.2 ≤ R.slots) (hlink : Cond.methodLink own index Lib.Math.min.name ∈ Ts) (hstat : Cond.static Lib.Math.min.name ∈ Ts) (hini : Cond.initialized "java/lang/Math" ∈ Ts) (hcode : Cond.code Lib.Math.min.name Lib.Math.min.code 2 (some .int) ∈ Ts) (hframes : 1 ≤ R.frames) (hlocals : (st.map fun v => v.category).sum + 13 ≤ R.locals) (hdg : decode cc pc = .ok (.invokestatic index, 3)) (kk : VV p l e R s m args below meth c D cl ids ad ce A Q nL kn (pc + 3) lv (.int (if y < x then y else x) :: st) σ) : VV p l e R s m args below meth c D cl ids ad ce A Q nL kn pc lv (.int y :: .int x :: st) σ := by
  intro H locs ls hP hD hS hl
  exact va_mmin C.1.1 C.1.2.1 (C.1.2.2.1.trans hl.1.symm) C.1.2.2.2.1 (C.1.2.2.2.2 _ hlink) (C.1.2.2.2.2 _ hstat) (C.1.2.2.2.2 _ hini) (C.1.2.2.2.2 _ hcode) hframes hlocals hR.1 hR.2 hdg (kk H locs ls hP hD hS hl)
theorem V_mmax (C : CX p s m args c D cl tys NX cc nL own Ts) {index : Nat} {x y : Int32} (hR : kn.1 ≤ R.cells ∧ kn.2 ≤ R.slots) (hlink : Cond.methodLink own index Lib.Math.max.name ∈ Ts) (hstat : Cond.static Lib.Math.max.name ∈ Ts) (hini : Cond.initialized "java/lang/Math" ∈ Ts) (hcode : Cond.code Lib.Math.max.name Lib.Math.max.code 2 (some .int) ∈ Ts) (hframes : 1 ≤ R.frames) (hlocals : (st.map fun v => v.category).sum + 13 ≤ R.locals) (hdg : decode cc pc = .ok (.invokestatic index, 3)) (kk : VV p l e R s m args below meth c D cl ids ad ce A Q nL kn (pc + 3) lv (.int (if x < y then y else x) :: st) σ) : VV p l e R s m args below meth c D cl ids ad ce A Q nL kn pc lv (.int y :: .int x :: st) σ := by
  intro H locs ls hP hD hS hl
  exact va_mmax C.1.1 C.1.2.1 (C.1.2.2.1.trans hl.1.symm) C.1.2.2.2.1 (C.1.2.2.2.2 _ hlink) (C.1.2.2.2.2 _ hstat) (C.1.2.2.2.2 _ hini) (C.1.2.2.2.2 _ hcode) hframes hlocals hR.1 hR.2 hdg (kk H locs ls hP hD hS hl)
theorem V_iret (C : CX p s m args c D cl tys NX cc nL own Ts) {Qr : Int32 → Mem → Prop} (hr : meth.sig.returnType = some .int) (hlocks : meth.locks = false) {v : Int32} (hdg : decode cc pc = .ok (.ireturn, 1)) (hq : Qr v σ) : VV p l e R s m args below meth c D cl ids ad ce A (MQ below (va_Qi (fun (r : Int32) (u : Mem) => Qr r u) (WdO D cl ids ad ce A) A) args s 0 0 A) nL (0, 0) pc lv [.int v] σ := by
  intro H locs ls hP hD hS hl
  exact W.iret (hlocks := hlocks) C.1.1 C.1.2.1 hr (fun t ht hW => ⟨⟨v, σ, rfl, hq, by rw [ht]; exact hP, hD⟩, hS.F ht⟩) hS.2.2 hdg
theorem V_zret (C : CX p s m args c D cl tys NX cc nL own Ts) {Qr : Int32 → Mem → Prop} (hr : meth.sig.returnType = some .boolean) (hlocks : meth.locks = false) {v : Int32} (hz : isB v) (hdg : decode cc pc = .ok (.ireturn, 1)) (hq : Qr v σ) : VV p l e R s m args below meth c D cl ids ad ce A (MQ below (va_Qi (fun (r : Int32) (u : Mem) => Qr r u) (WdO D cl ids ad ce A) A) args s 0 0 A) nL (0, 0) pc lv [.int v] σ := by
  intro H locs ls hP hD hS hl
  exact W.zret (hlocks := hlocks) C.1.1 C.1.2.1 hr (isB_narrow hz) (fun t ht hW => ⟨⟨v, σ, rfl, hq, by rw [ht]; exact hP, hD⟩, hS.F ht⟩) hS.2.2 hdg
theorem V_lret (C : CX p s m args c D cl tys NX cc nL own Ts) {Qr : Int64 → Mem → Prop} (hr : meth.sig.returnType = some .long) (hlocks : meth.locks = false) {v : Int64} (hdg : decode cc pc = .ok (.lreturn, 1)) (hq : Qr v σ) : VV p l e R s m args below meth c D cl ids ad ce A (MQ below (va_Ql (fun (r : Int64) (u : Mem) => Qr r u) (WdO D cl ids ad ce A) A) args s 0 0 A) nL (0, 0) pc lv [.long v] σ := by
  intro H locs ls hP hD hS hl
  exact W.lret (hlocks := hlocks) C.1.1 C.1.2.1 hr (fun t ht hW => ⟨⟨v, σ, rfl, hq, by rw [ht]; exact hP, hD⟩, hS.F ht⟩) hS.2.2 hdg
theorem V_vret (C : CX p s m args c D cl tys NX cc nL own Ts) {Qr : Mem → Prop} (hr : meth.sig.returnType = none) (hlocks : meth.locks = false) (hdg : decode cc pc = .ok (.return_, 1)) (hq : Qr σ) : VV p l e R s m args below meth c D cl ids ad ce A (MQ below (va_Qv (fun (u : Mem) => Qr u) (WdO D cl ids ad ce A) A) args s 0 0 A) nL (0, 0) pc lv [] σ := by
  intro H locs ls hP hD hS hl
  exact W.vret (hlocks := hlocks) C.1.1 C.1.2.1 hr (fun t ht hW => ⟨⟨σ, rfl, hq, by rw [ht]; exact hP, hD⟩, hS.F ht⟩) hS.2.2 hdg
theorem Met_ofWF {y : MethodName} {ws ws' : List Cond} {rm : Room} {Pc : Array Value → State → Prop} {Qc : Array Value → State → Outcome → State → Prop} {mc ms : Nat} {free : Addr → Prop} {cc : ByteArray} {maxL : Nat} {ret : Option FieldType} (hy : plainFor y = true) (hw : ws = Cond.code y cc maxL ret :: ws')
    (body : ∀ p e s m args below meth c s₁, BodyLoose p l y (headSpec ws rm) cc maxL ret e s m args below meth c s₁ → c.maxLocals = maxL → Pc args s → W p l e (headSpec ws rm).room s m args below meth c s.heap [] 0 0 (MQ below Qc args s mc ms free) (entryFrame m args maxL)) : Met l y ws rm Pc Qc mc ms free := by
  refine MetFree.of_bodySF (code := cc) (maxLocals := maxL) (ret := ret) hy ?_ ?_
  · intro args s m h hn
    obtain ⟨meth, c, h1, h2, h3, h4, h5, h6, -, -⟩ := Cond.code_spec hn (atoms_spec (ws := ws) h _ (by rw [hw]; exact List.mem_cons_self))
    exact ⟨meth, c, h1, h2, h3, h4, h5, h6⟩
  · intro p e s m args below meth c s₁ B hml hP _
    have hh0 : s₁.heap = s.heap := by rw [B.state]; rfl
    obtain ⟨t, a1, o, b1, b2, b3⟩ := body p e s m args below meth c s₁ B hml hP s₁ hh0 (Stand.of_body B)
    exact ⟨t, o, a1, b1, b2, ⟨b3.1, b3.2⟩⟩
theorem V_meti {y : MethodName} {ws ws' : List Cond} {rm : Room} {ret : Option FieldType} {As : List Value} {own : String} {Qr : Int32 → Mem → Prop} (hy0 : y.cls = own) (hy : plainFor y = true) (hw : ws = Cond.code y cc nL ret :: ws') (hc0 : rm.cells = 0) (hlen : (lg_sl As).length ≤ nL)
    (body : ∀ (p : Program) (e : Env) (s : State) (m : MethodId) (below : List Frame) (meth : Method) (c : Code), CX p s m As.toArray c D cl tys NX cc nL own ws → meth.sig.returnType = ret → meth.locks = false → VV p l e (headSpec ws rm).room s m As.toArray below meth c D cl ids ad ce A (MQ below (va_Qi (fun (r : Int32) (u : Mem) => Qr r u) (WdO D cl ids ad ce A) A) As.toArray s 0 0 A) nL (0, 0) 0 (lv_args 0 As) [] σ) : Met l y ws rm (va_Pc As (WdI D cl tys ids ad ce A σ)) (va_Qi (fun (r : Int32) (u : Mem) => Qr r u) (WdO D cl ids ad ce A) A) 0 0 A := by
  refine Met_ofWF (cc := cc) (maxL := nL) (ret := ret) hy hw ?_
  intro p e s m args below meth c s₁ B hml hv
  obtain ⟨rfl, hP, hK, hD, hN⟩ := hv
  have hts := atoms_spec (ws := ws) B.pre
  have hown : s.vm.findClass own = some m.cls := hy0 ▸ findClass_of_methodNamed B.named
  have k := body p e s m below meth c ⟨⟨B.exec, B.bytes, hml, hown, hts⟩, hK, hN⟩ B.returns B.notSynchronized
  have hl := lv_entry As (n := nL) hlen
  rw [lg_entry_eq]
  exact k s.heap [] _ hP hD va_S.rf hl
theorem V_metl {y : MethodName} {ws ws' : List Cond} {rm : Room} {ret : Option FieldType} {As : List Value} {own : String} {Qr : Int64 → Mem → Prop} (hy0 : y.cls = own) (hy : plainFor y = true) (hw : ws = Cond.code y cc nL ret :: ws') (hc0 : rm.cells = 0) (hlen : (lg_sl As).length ≤ nL)
    (body : ∀ (p : Program) (e : Env) (s : State) (m : MethodId) (below : List Frame) (meth : Method) (c : Code), CX p s m As.toArray c D cl tys NX cc nL own ws → meth.sig.returnType = ret → meth.locks = false → VV p l e (headSpec ws rm).room s m As.toArray below meth c D cl ids ad ce A (MQ below (va_Ql (fun (r : Int64) (u : Mem) => Qr r u) (WdO D cl ids ad ce A) A) As.toArray s 0 0 A) nL (0, 0) 0 (lv_args 0 As) [] σ) : Met l y ws rm (va_Pc As (WdI D cl tys ids ad ce A σ)) (va_Ql (fun (r : Int64) (u : Mem) => Qr r u) (WdO D cl ids ad ce A) A) 0 0 A := by
  refine Met_ofWF (cc := cc) (maxL := nL) (ret := ret) hy hw ?_
  intro p e s m args below meth c s₁ B hml hv
  obtain ⟨rfl, hP, hK, hD, hN⟩ := hv
  have hts := atoms_spec (ws := ws) B.pre
  have hown : s.vm.findClass own = some m.cls := hy0 ▸ findClass_of_methodNamed B.named
  have k := body p e s m below meth c ⟨⟨B.exec, B.bytes, hml, hown, hts⟩, hK, hN⟩ B.returns B.notSynchronized
  have hl := lv_entry As (n := nL) hlen
  rw [lg_entry_eq]
  exact k s.heap [] _ hP hD va_S.rf hl
theorem V_metv {y : MethodName} {ws ws' : List Cond} {rm : Room} {ret : Option FieldType} {As : List Value} {own : String} {Qr : Mem → Prop} (hy0 : y.cls = own) (hy : plainFor y = true) (hw : ws = Cond.code y cc nL ret :: ws') (hc0 : rm.cells = 0) (hlen : (lg_sl As).length ≤ nL)
    (body : ∀ (p : Program) (e : Env) (s : State) (m : MethodId) (below : List Frame) (meth : Method) (c : Code), CX p s m As.toArray c D cl tys NX cc nL own ws → meth.sig.returnType = ret → meth.locks = false → VV p l e (headSpec ws rm).room s m As.toArray below meth c D cl ids ad ce A (MQ below (va_Qv (fun (u : Mem) => Qr u) (WdO D cl ids ad ce A) A) As.toArray s 0 0 A) nL (0, 0) 0 (lv_args 0 As) [] σ) : Met l y ws rm (va_Pc As (WdI D cl tys ids ad ce A σ)) (va_Qv (fun (u : Mem) => Qr u) (WdO D cl ids ad ce A) A) 0 0 A := by
  refine Met_ofWF (cc := cc) (maxL := nL) (ret := ret) hy hw ?_
  intro p e s m args below meth c s₁ B hml hv
  obtain ⟨rfl, hP, hK, hD, hN⟩ := hv
  have hts := atoms_spec (ws := ws) B.pre
  have hown : s.vm.findClass own = some m.cls := hy0 ▸ findClass_of_methodNamed B.named
  have k := body p e s m below meth c ⟨⟨B.exec, B.bytes, hml, hown, hts⟩, hK, hN⟩ B.returns B.notSynchronized
  have hl := lv_entry As (n := nL) hlen
  rw [lg_entry_eq]
  exact k s.heap [] _ hP hD va_S.rf hl
theorem V_metiS {y : MethodName} {ws ws' : List Cond} {rm : Room} {ret : Option FieldType} {As : List Value} {own : String} {Qr : Int32 → Mem → Prop} {sb sL : Nat} {xs : Nat → Int32} (hy0 : y.cls = own) (hy : plainFor y = true) (hw : ws = Cond.code y cc nL ret :: ws') (hc0 : rm.cells = 0) (hlen : (lg_sl As).length ≤ nL)
    (body : ∀ (p : Program) (e : Env) (s : State) (m : MethodId) (below : List Frame) (meth : Method) (c : Code), CX p s m As.toArray c D cl tys NX cc nL own ws → va_X sb sL xs s s.heap → sb < s.heap.size → ¬ A sb → meth.sig.returnType = ret → meth.locks = false → VV p l e (headSpec ws rm).room s m As.toArray below meth c D cl ids ad ce A (MQ below (va_Qi (fun (r : Int32) (u : Mem) => Qr r u) (WdO D cl ids ad ce A) A) As.toArray s 0 0 A) nL (0, 0) 0 (lv_args 0 As) [] σ) : Met l y ws rm (va_Pc As (WdS sb sL xs D cl tys ids ad ce A σ)) (va_Qi (fun (r : Int32) (u : Mem) => Qr r u) (WdO D cl ids ad ce A) A) 0 0 A := by
  refine Met_ofWF (cc := cc) (maxL := nL) (ret := ret) hy hw ?_
  intro p e s m args below meth c s₁ B hml hv
  obtain ⟨rfl, ⟨hP, hK, hD, hN⟩, hX, hbl, hbA⟩ := hv
  have hts := atoms_spec (ws := ws) B.pre
  have hown : s.vm.findClass own = some m.cls := hy0 ▸ findClass_of_methodNamed B.named
  have k := body p e s m below meth c ⟨⟨B.exec, B.bytes, hml, hown, hts⟩, hK, hN⟩ hX hbl hbA B.returns B.notSynchronized
  have hl := lv_entry As (n := nL) hlen
  rw [lg_entry_eq]
  exact k s.heap [] _ hP hD va_S.rf hl
end VL
