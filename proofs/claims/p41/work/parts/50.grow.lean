/-! PART 50 (written by wip/p41/gen36.py): a world that grows: rows for constructors -/
def NN (U : State) : Prop := va_Nw (.methodLinkNest RX2 40 yX0_init "IrrigationDistrict") U ∧ va_Nw (.methodLinkNest RX2 41 yX4_init "IrrigationDistrict") U ∧ va_Nw (.methodLinkNest RX5 29 yX1_init "IrrigationDistrict") U ∧ va_Nw (.methodLinkNest RX5 36 yX3_init "IrrigationDistrict") U
def NXA (U : State) : Prop := NX U ∧ va_AO RX0 U ∧ va_AO RX4 U ∧ va_AO RX2 U ∧ NN U
theorem NXA.warm {s U : State} (hW : s.WarmedH U.vm) (h : NXA s) : NXA U := ⟨NX.warm hW h.1, va_AO.moved hW.alike h.2.1, va_AO.moved hW.alike h.2.2.1, va_AO.moved hW.alike h.2.2.2.1, va_Nw.warmM hW h.2.2.2.2.1, va_Nw.warmM hW h.2.2.2.2.2.1, va_Nw.warmM hW h.2.2.2.2.2.2.1, va_Nw.warmM hW h.2.2.2.2.2.2.2⟩
theorem NXA.call {U : State} (g : JFrame) (mk : MethodId) (a : Array Value) (h : NXA U) : NXA (U.calling g mk a) := ⟨trivial, va_AO.moved (u := U) (U := U.calling g mk a) (Vm.Alike.refl U.vm) h.2.1, va_AO.moved (u := U) (U := U.calling g mk a) (Vm.Alike.refl U.vm) h.2.2.1, va_AO.moved (u := U) (U := U.calling g mk a) (Vm.Alike.refl U.vm) h.2.2.2.1, va_Nw.same (u := U) (U := U.calling g mk a) rfl rfl h.2.2.2.2.1, va_Nw.same (u := U) (U := U.calling g mk a) rfl rfl h.2.2.2.2.2.1, va_Nw.same (u := U) (U := U.calling g mk a) rfl rfl h.2.2.2.2.2.2.1, va_Nw.same (u := U) (U := U.calling g mk a) rfl rfl h.2.2.2.2.2.2.2⟩
abbrev CG (p : Program) (s : State) (m : MethodId) (args : Array Value) (meth : Method) (c : Code) (D : va_G) (cl : List vw_C) (tys : List (ClassId × FieldType)) (A : Nat → Prop) (cc : ByteArray) (nL : Nat) (own : String) (Ts : List Cond) : Prop := (p.tables.exec = Jvm.exec ∧ c.code = cc ∧ c.maxLocals = nL ∧ s.vm.findClass own = some m.cls ∧ (∀ w ∈ Ts, w.before args s = true)) ∧ va_K D cl tys s ∧ NXA s ∧ (∀ q, s.heap.size ≤ q → A q) ∧ meth.name = "<init>"
def GV (p : Program) (l : Launch) (e : Env) (R : Room) (s : State) (m : MethodId) (args : Array Value) (below : List Frame) (meth : Method) (c : Code) (D : va_G) (cl : List vw_C) (A : Nat → Prop) (Q : State → Prop) (nL : Nat) (pc : Nat) (lv : List (Nat × Value)) (st : List Value) (ws : va_W) (k n : Nat) : Prop := ∀ (H : Heap) (locs : List Loc) (ls : Array Slot), va_P D cl ws H → va_D A ws → va_S A s.heap H locs → lv_has ls nL lv → W p l e R s m args below meth c H locs k n Q (F0 m pc ls st)
/-- a constructor may change its own cell, and makes others -/
def AF (a sz : Nat) : Nat → Prop := fun q => q = a ∨ sz ≤ q
def IniP (D : va_G) (cl : List vw_C) (tys : List (ClassId × FieldType)) (a ci : Nat) (fs : List Value) (sz : Nat) (U : State) : Prop := U.heap.size = sz ∧ va_P D cl [(a, .inr (ci, fs))] U.heap ∧ va_K D cl tys U ∧ NXA U
def IniB {α : Type} (D : va_G) (cl : List vw_C) (w1 : α → va_W) (B : Nat → Prop) (u : α) (t : State) : Prop := va_P D cl (w1 u) t.heap ∧ va_D B (w1 u)
theorem IniP.blind {D : va_G} {cl : List vw_C} {tys : List (ClassId × FieldType)} {a ci : Nat} {fs : List Value} {sz : Nat} {av : List Value} : FrameBlind (va_Pc av (IniP D cl tys a ci fs sz)) := fun a U g mk q => by
  obtain ⟨q0, q1, q2, q3, q4⟩ := q
  exact ⟨q0, q1, q2, va_K.moved (u := U) (U := U.calling g mk a) (Vm.Alike.refl U.vm) q3, q4.call g mk a⟩
theorem va_RA_u {s : State} {cA cB : ClassId} {ty : FieldType} (h1 : va_RA s cA ty) (h2 : va_RA s cB ty) : cA = cB := by
  cases ty with
  | object C =>
    obtain ⟨_, _, _, _, _, a⟩ := h1
    obtain ⟨_, _, _, _, _, b⟩ := h2
    exact Option.some.inj (a.symm.trans b)
  | _ => exact Option.some.inj (h1.symm.trans h2)
theorem va_K.last {D : va_G} {cl : List vw_C} {tys : List (ClassId × FieldType)} {U : State} {q : ClassId × FieldType} (h : va_K D cl (tys ++ [q]) U) : va_RA U q.1 q.2 := (h.2 tys.length q (by simp)).2
section GL
variable {p : Program} {l : Launch} {e : Env} {R : Room} {s : State} {m : MethodId} {args : Array Value} {below : List Frame} {meth : Method} {c : Code} {D : va_G} {cl : List vw_C} {tys : List (ClassId × FieldType)} {A : Nat → Prop} {Q : State → Prop} {nL : Nat} {cc : ByteArray} {own : String} {Ts : List Cond} {pc : Nat} {lv lv' : List (Nat × Value)} {st : List Value} {ws ws' : va_W} {k n : Nat}
theorem G_iconst (C : CG p s m args meth c D cl tys A cc nL own Ts) {n0 : Int} {v : Int32} (hdg : decode cc pc = .ok (.iconst n0, 1)) (hv : Int32.ofInt n0 = v) (kk : GV p l e R s m args below meth c D cl A Q nL (pc + 1) lv (.int v :: st) ws k n) : GV p l e R s m args below meth c D cl A Q nL pc lv (st) ws k n := by
  intro H locs ls hP hD hS hl
  exact lv_iconst C.1.1 C.1.2.1 hdg hv (kk H locs ls hP hD hS hl)
theorem G_bipush (C : CG p s m args meth c D cl tys A cc nL own Ts) {n0 : Int} {v : Int32} (hdg : decode cc pc = .ok (.bipush n0, 2)) (hv : (Int8.ofInt n0).toInt32 = v) (kk : GV p l e R s m args below meth c D cl A Q nL (pc + 2) lv (.int v :: st) ws k n) : GV p l e R s m args below meth c D cl A Q nL pc lv (st) ws k n := by
  intro H locs ls hP hD hS hl
  exact lv_bipush C.1.1 C.1.2.1 hdg hv (kk H locs ls hP hD hS hl)
theorem G_sipush (C : CG p s m args meth c D cl tys A cc nL own Ts) {n0 : Int} {v : Int32} (hdg : decode cc pc = .ok (.sipush n0, 3)) (hv : (Int16.ofInt n0).toInt32 = v) (kk : GV p l e R s m args below meth c D cl A Q nL (pc + 3) lv (.int v :: st) ws k n) : GV p l e R s m args below meth c D cl A Q nL pc lv (st) ws k n := by
  intro H locs ls hP hD hS hl
  exact lv_sipush C.1.1 C.1.2.1 hdg hv (kk H locs ls hP hD hS hl)
theorem G_iload_n (C : CG p s m args meth c D cl tys A cc nL own Ts) {k0 : Fin 4} {x : Int32} (hdg : decode cc pc = .ok (.iload_n k0, 1)) (i : Nat) (hi : lv[i]? = some ((k0 : Nat), .int x)) (kk : GV p l e R s m args below meth c D cl A Q nL (pc + 1) lv (.int x :: st) ws k n) : GV p l e R s m args below meth c D cl A Q nL pc lv (st) ws k n := by
  intro H locs ls hP hD hS hl
  exact lv_iload_n C.1.1 C.1.2.1 hdg rfl (lv_at hl i hi) (kk H locs ls hP hD hS hl)
theorem G_aload_n (C : CG p s m args meth c D cl tys A cc nL own Ts) {k0 : Fin 4} {x : Nat} (hdg : decode cc pc = .ok (.aload_n k0, 1)) (i : Nat) (hi : lv[i]? = some ((k0 : Nat), .ref x)) (kk : GV p l e R s m args below meth c D cl A Q nL (pc + 1) lv (.ref x :: st) ws k n) : GV p l e R s m args below meth c D cl A Q nL pc lv (st) ws k n := by
  intro H locs ls hP hD hS hl
  exact lv_aload_n C.1.1 C.1.2.1 hdg rfl (lv_at hl i hi) (kk H locs ls hP hD hS hl)
theorem G_iadd (C : CG p s m args meth c D cl tys A cc nL own Ts) {x y : Int32} (hdg : decode cc pc = .ok (.iadd, 1)) (kk : GV p l e R s m args below meth c D cl A Q nL (pc + 1) lv (.int (x + y) :: st) ws k n) : GV p l e R s m args below meth c D cl A Q nL pc lv (.int y :: .int x :: st) ws k n := by
  intro H locs ls hP hD hS hl
  exact lv_iadd C.1.1 C.1.2.1 hdg  (kk H locs ls hP hD hS hl)
theorem G_dup (C : CG p s m args meth c D cl tys A cc nL own Ts) {v : Value} (hdg : decode cc pc = .ok (.dup, 1)) (hv : v.category = 1) (kk : GV p l e R s m args below meth c D cl A Q nL (pc + 1) lv (v :: v :: st) ws k n) : GV p l e R s m args below meth c D cl A Q nL pc lv (v :: st) ws k n := by
  intro H locs ls hP hD hS hl
  exact lv_dup C.1.1 C.1.2.1 hdg hv (kk H locs ls hP hD hS hl)
theorem G_istore_n (C : CG p s m args meth c D cl tys A cc nL own Ts) {k0 : Fin 4} {x : Int32} (hdg : decode cc pc = .ok (.istore_n k0, 1)) (hn : (k0 : Nat) < nL) (hlv : ((k0 : Nat), Value.int x) :: lv.filter (fun q => !(q.1 == (k0 : Nat)) && !(q.1 + 1 == (k0 : Nat) && q.2.category == 2)) = lv') (kk : GV p l e R s m args below meth c D cl A Q nL (pc + 1) lv' st ws k n) : GV p l e R s m args below meth c D cl A Q nL pc lv (Value.int x :: st) ws k n := by
  intro H locs ls hP hD hS hl
  exact lv_istore_n C.1.1 C.1.2.1 hdg rfl hl hn hlv (fun ls' hl' => kk H locs ls' hP hD hS hl')
theorem G_astore_n (C : CG p s m args meth c D cl tys A cc nL own Ts) {k0 : Fin 4} {x : Nat} (hdg : decode cc pc = .ok (.astore_n k0, 1)) (hn : (k0 : Nat) < nL) (hlv : ((k0 : Nat), Value.ref x) :: lv.filter (fun q => !(q.1 == (k0 : Nat)) && !(q.1 + 1 == (k0 : Nat) && q.2.category == 2)) = lv') (kk : GV p l e R s m args below meth c D cl A Q nL (pc + 1) lv' st ws k n) : GV p l e R s m args below meth c D cl A Q nL pc lv (Value.ref x :: st) ws k n := by
  intro H locs ls hP hD hS hl
  exact lv_astore_n C.1.1 C.1.2.1 hdg rfl hl hn hlv (fun ls' hl' => kk H locs ls' hP hD hS hl')
theorem G_iinc (C : CG p s m args meth c D cl tys A cc nL own Ts) {k0 : Nat} {n0 : Int} {x v : Int32} (hdg : decode cc pc = .ok (.iinc k0 n0, 3)) (i : Nat) (hi : lv[i]? = some (k0, .int x)) (hv : x + Int32.ofInt n0 = v) (hn : k0 < nL) (hlv : (k0, Value.int v) :: lv.filter (fun q => !(q.1 == k0) && !(q.1 + 1 == k0 && q.2.category == 2)) = lv') (kk : GV p l e R s m args below meth c D cl A Q nL (pc + 3) lv' st ws k n) : GV p l e R s m args below meth c D cl A Q nL pc lv st ws k n := by
  intro H locs ls hP hD hS hl
  exact lv_iinc C.1.1 C.1.2.1 hdg hl hi hv hn hlv (fun ls' hl' => kk H locs ls' hP hD hS hl')
theorem G_goto (C : CG p s m args meth c D cl tys A cc nL own Ts) {off : Int} {tgt : Nat} (hdg : decode cc pc = .ok (.goto off, 3)) (ht : (pc : Int) + off = (tgt : Int)) (kk : GV p l e R s m args below meth c D cl A Q nL tgt lv st ws k n) : GV p l e R s m args below meth c D cl A Q nL pc lv st ws k n := by
  intro H locs ls hP hD hS hl
  exact lv_goto C.1.1 C.1.2.1 hdg ht (kk H locs ls hP hD hS hl)
theorem G_icmp_ge (C : CG p s m args meth c D cl tys A cc nL own Ts) {x y : Int32} {off : Int} {tgt : Nat} (hdg : decode cc pc = .ok (.if_icmp .ge off, 3)) (ht : (pc : Int) + off = (tgt : Int)) (kt : y ≤ x → GV p l e R s m args below meth c D cl A Q nL tgt lv st ws k n) (kf : ¬ y ≤ x → GV p l e R s m args below meth c D cl A Q nL (pc + 3) lv st ws k n) : GV p l e R s m args below meth c D cl A Q nL pc lv (.int y :: .int x :: st) ws k n := by
  intro H locs ls hP hD hS hl
  exact lv_icmp_ge C.1.1 C.1.2.1 hdg ht (fun h => kt h H locs ls hP hD hS hl) (fun h => kf h H locs ls hP hD hS hl)
theorem G_sub (ks : List Nat) (hk : lv_pick lv ks = lv') (kk : GV p l e R s m args below meth c D cl A Q nL pc lv' st ws k n) : GV p l e R s m args below meth c D cl A Q nL pc lv st ws k n := by
  intro H locs ls hP hD hS hl
  exact kk H locs ls hP hD hS (lv_sub hl ks hk)
theorem G_wide {k' n' : Nat} (h1 : k ≤ k') (h2 : n ≤ n') (kk : GV p l e R s m args below meth c D cl A Q nL pc lv st ws k' n') : GV p l e R s m args below meth c D cl A Q nL pc lv st ws k n := fun H locs ls hP hD hS hl => W.widen h1 h2 (kk H locs ls hP hD hS hl)
theorem G_ws (hw : ws = ws') (kk : GV p l e R s m args below meth c D cl A Q nL pc lv st ws' k n) : GV p l e R s m args below meth c D cl A Q nL pc lv st ws k n := hw ▸ kk
theorem G_get (C : CG p s m args meth c D cl tys A cc nL own Ts) (q0 : Nat) {a ci : Nat} {cls : String} {T : u_T} {N index : Nat} {fs : List Value} {v : Value} (hw : ws[q0]? = some (a, .inr (ci, fs))) (hin : ∀ w ∈ u_ws cls T N, w ∈ Ts) (hc : cl[ci]? = some (cls, T, N)) (k0 : Nat) (hk : k0 < N) (hv : fs[k0]? = some v) (hlink : Cond.fieldLink own index (T k0).1 (T k0).2.1 (T k0).2.2.1 ∈ Ts) (hdg : decode cc pc = .ok (.getfield index, 3)) (kk : GV p l e R s m args below meth c D cl A Q nL (pc + 3) lv (v :: st) ws k n) : GV p l e R s m args below meth c D cl A Q nL pc lv (.ref a :: st) ws k n := by
  intro H locs ls hP hD hS hl
  exact va_get C.1.1 C.1.2.1 C.1.2.2.2.2 hin C.1.2.2.2.1 C.2.1 hP q0 hw hc k0 hk (C.1.2.2.2.2 _ hlink) (fun _ h => h) hv hdg (kk H locs ls hP hD hS hl)
theorem G_put (C : CG p s m args meth c D cl tys A cc nL own Ts) (q0 : Nat) {a ci : Nat} {cls : String} {T : u_T} {N index : Nat} {fs : List Value} {v : Value} (hw : ws[q0]? = some (a, .inr (ci, fs))) (hin : ∀ w ∈ u_ws cls T N, w ∈ Ts) (ty0 : Nat → FieldType) (hty : ∀ k, k < N → parseFieldDescriptor (T k).2.2.1 = some (ty0 k)) (hnm : ∀ a, a < N → ∀ b, b < N → a ≠ b → (T a).2.1 ≠ (T b).2.1) (hc : cl[ci]? = some (cls, T, N)) (k0 : Nat) (hk : k0 < N) (hlink : Cond.fieldLink own index (T k0).1 (T k0).2.1 (T k0).2.2.1 ∈ Ts) (hfin : (T k0).2.2.2 = false) {ty : FieldType} (hd : parseFieldDescriptor (T k0).2.2.1 = some ty) (hn : narrow ty v = v) (hfit : fits ty v = true) (hkl : k0 < fs.length) (hws : ws.set q0 (a, .inr (ci, fs.set k0 v)) = ws') (hdg : decode cc pc = .ok (.putfield index, 3)) (kk : GV p l e R s m args below meth c D cl A Q nL (pc + 3) lv st ws' k n) : GV p l e R s m args below meth c D cl A Q nL pc lv (v :: .ref a :: st) ws k n := by
  intro H locs ls hP hD hS hl
  subst hws
  exact va_put C.1.1 C.1.2.1 C.1.2.2.2.2 hin ty0 hty hnm C.1.2.2.2.1 C.2.1 hP hD hS q0 hw hc k0 hk (C.1.2.2.2.2 _ hlink) (fun _ h => h) hfin hd hn hfit hkl hdg (fun H1 locs1 hP1 hD1 hS1 => kk H1 locs1 ls hP1 hD1 hS1 hl)
theorem G_putF (C : CG p s m args meth c D cl tys A cc nL own Ts) (q0 : Nat) {a ci : Nat} {cls : String} {T : u_T} {N index : Nat} {fs : List Value} {v : Value} (hw : ws[q0]? = some (a, .inr (ci, fs))) (hin : ∀ w ∈ u_ws cls T N, w ∈ Ts) (ty0 : Nat → FieldType) (hty : ∀ k, k < N → parseFieldDescriptor (T k).2.2.1 = some (ty0 k)) (hnm : ∀ a, a < N → ∀ b, b < N → a ≠ b → (T a).2.1 ≠ (T b).2.1) (hc : cl[ci]? = some (cls, T, N)) (k0 : Nat) (hk : k0 < N) (hlink : Cond.fieldLink own index (T k0).1 (T k0).2.1 (T k0).2.2.1 ∈ Ts) (hfin : (T k0).2.2.2 = true) (hdecl : (T k0).1 = own) {ty : FieldType} (hd : parseFieldDescriptor (T k0).2.2.1 = some ty) (hn : narrow ty v = v) (hfit : fits ty v = true) (hkl : k0 < fs.length) (hws : ws.set q0 (a, .inr (ci, fs.set k0 v)) = ws') (hdg : decode cc pc = .ok (.putfield index, 3)) (kk : GV p l e R s m args below meth c D cl A Q nL (pc + 3) lv st ws' k n) : GV p l e R s m args below meth c D cl A Q nL pc lv (v :: .ref a :: st) ws k n := by
  intro H locs ls hP hD hS hl
  subst hws
  exact va_putF C.1.1 C.1.2.1 C.1.2.2.2.2 hin ty0 hty hnm C.1.2.2.2.1 C.2.1 hP hD hS q0 hw hc k0 hk (C.1.2.2.2.2 _ hlink) (fun _ h => h) hfin C.2.2.2.2 hdecl hd hn hfit hkl hdg (fun H1 locs1 hP1 hD1 hS1 => kk H1 locs1 ls hP1 hD1 hS1 hl)
theorem G_iast (C : CG p s m args meth c D cl tys A cc nL own Ts) (q0 t0 : Nat) {a : Nat} {cA : ClassId} {N : Nat} {f : Nat → Int32} (hw : ws[q0]? = some (a, .inl (cA, N, .inl f))) (ht : tys[t0]? = some (cA, .int)) {i x : Int32} (hi : vp_in i N) (hws : ws.set q0 (a, .inl (cA, N, .inl (upd f i.toNatClampNeg x))) = ws') (hdg : decode cc pc = .ok (.iastore, 1)) (kk : GV p l e R s m args below meth c D cl A Q nL (pc + 1) lv st ws' k n) : GV p l e R s m args below meth c D cl A Q nL pc lv (.int x :: .int i :: .ref a :: st) ws k n := by
  intro H locs ls hP hD hS hl
  subst hws
  exact va_iast C.1.1 C.1.2.1 C.2.1 hP hD hS q0 t0 hw ht hi hdg (fun H1 locs1 hP1 hD1 hS1 => kk H1 locs1 ls hP1 hD1 hS1 hl)
theorem G_astq (C : CG p s m args meth c D cl tys A cc nL own Ts) (q0 t0 qk ci : Nat) {a v : Nat} {cA : ClassId} {r : vw_C} {N : Nat} {vs : List Value} {f : Nat → Option Nat} (hw : ws[q0]? = some (a, .inl (cA, N, .inr (.inr (.inr (.inr f)))))) (ht : tys[t0]? = some (cA, .object r.1)) (hv : ws[qk]? = some (v, .inr (ci, vs))) (hc : cl[ci]? = some r) {i : Int32} (hi : vp_in i N) (hws : ws.set q0 (a, .inl (cA, N, .inr (.inr (.inr (.inr (va_up f i.toNatClampNeg (some v))))))) = ws') (hdg : decode cc pc = .ok (.aastore, 1)) (kk : GV p l e R s m args below meth c D cl A Q nL (pc + 1) lv st ws' k n) : GV p l e R s m args below meth c D cl A Q nL pc lv (.ref v :: .int i :: .ref a :: st) ws k n := by
  intro H locs ls hP hD hS hl
  subst hws
  exact va_astq C.1.1 C.1.2.1 C.2.1 hP hD hS q0 t0 qk ci hw ht hv hc hi hdg (fun H1 locs1 hP1 hD1 hS1 => kk H1 locs1 ls hP1 hD1 hS1 hl)
theorem G_newi (C : CG p s m args meth c D cl tys A cc nL own Ts) (t0 N : Nat) {cA : ClassId} {x : Int32} (ht : tys[t0]? = some (cA, .int)) (harr : Cond.arrayClass .int ∈ Ts) (hx : ¬ x < 0) (hN : x.toNatClampNeg = N) (hb : N * componentBytes .int ≤ 536870912) (h1 : k + 1 ≤ R.cells) (h2 : n + N ≤ R.slots) (hdg : decode cc pc = .ok (.newarray .int, 2)) (kk : ∀ q : Nat, GV p l e R s m args below meth c D cl A Q nL (pc + 2) lv (.ref q :: st) (ws ++ [(q, .inl (cA, N, .inl (fun _ => 0)))]) (k + 1) (n + N)) : GV p l e R s m args below meth c D cl A Q nL pc lv (.int x :: st) ws k n := by
  intro H locs ls hP hD hS hl
  refine va_newa C.1.1 C.1.2.1 (atype := .int) (C.1.2.2.2.2 _ harr) rfl C.2.1 hP hD hS C.2.2.2.1 (a0 := (N, .inl (fun _ => 0))) (fun cA => rfl) hx hN hb h1 h2 hdg (fun q cB H1 hK1 hP1 hD1 hS1 => ?_)
  have hcB : cB = cA := va_RA_u (hK1.last) (C.2.1.2 t0 _ ht).2
  subst hcB
  exact kk q H1 locs ls hP1 hD1 hS1 hl
theorem G_newz (C : CG p s m args meth c D cl tys A cc nL own Ts) (t0 N : Nat) {cA : ClassId} {x : Int32} (ht : tys[t0]? = some (cA, .boolean)) (harr : Cond.arrayClass .boolean ∈ Ts) (hx : ¬ x < 0) (hN : x.toNatClampNeg = N) (hb : N * componentBytes .boolean ≤ 536870912) (h1 : k + 1 ≤ R.cells) (h2 : n + N ≤ R.slots) (hdg : decode cc pc = .ok (.newarray .boolean, 2)) (kk : ∀ q : Nat, GV p l e R s m args below meth c D cl A Q nL (pc + 2) lv (.ref q :: st) (ws ++ [(q, .inl (cA, N, .inl (fun _ => 0)))]) (k + 1) (n + N)) : GV p l e R s m args below meth c D cl A Q nL pc lv (.int x :: st) ws k n := by
  intro H locs ls hP hD hS hl
  refine va_newa C.1.1 C.1.2.1 (atype := .boolean) (C.1.2.2.2.2 _ harr) rfl C.2.1 hP hD hS C.2.2.2.1 (a0 := (N, .inl (fun _ => 0))) (fun cA => rfl) hx hN hb h1 h2 hdg (fun q cB H1 hK1 hP1 hD1 hS1 => ?_)
  have hcB : cB = cA := va_RA_u (hK1.last) (C.2.1.2 t0 _ ht).2
  subst hcB
  exact kk q H1 locs ls hP1 hD1 hS1 hl
theorem G_newc (C : CG p s m args meth c D cl tys A cc nL own Ts) (t0 N : Nat) {cA : ClassId} {x : Int32} (ht : tys[t0]? = some (cA, .char)) (harr : Cond.arrayClass .char ∈ Ts) (hx : ¬ x < 0) (hN : x.toNatClampNeg = N) (hb : N * componentBytes .char ≤ 536870912) (h1 : k + 1 ≤ R.cells) (h2 : n + N ≤ R.slots) (hdg : decode cc pc = .ok (.newarray .char, 2)) (kk : ∀ q : Nat, GV p l e R s m args below meth c D cl A Q nL (pc + 2) lv (.ref q :: st) (ws ++ [(q, .inl (cA, N, .inl (fun _ => 0)))]) (k + 1) (n + N)) : GV p l e R s m args below meth c D cl A Q nL pc lv (.int x :: st) ws k n := by
  intro H locs ls hP hD hS hl
  refine va_newa C.1.1 C.1.2.1 (atype := .char) (C.1.2.2.2.2 _ harr) rfl C.2.1 hP hD hS C.2.2.2.1 (a0 := (N, .inl (fun _ => 0))) (fun cA => rfl) hx hN hb h1 h2 hdg (fun q cB H1 hK1 hP1 hD1 hS1 => ?_)
  have hcB : cB = cA := va_RA_u (hK1.last) (C.2.1.2 t0 _ ht).2
  subst hcB
  exact kk q H1 locs ls hP1 hD1 hS1 hl
theorem G_newq (C : CG p s m args meth c D cl tys A cc nL own Ts) (t0 N : Nat) {cA : ClassId} {cn : String} {index : Nat} {x : Int32} (ht : tys[t0]? = some (cA, .object cn)) (hover : va_AO cn s) (hlink : Cond.classLink own index cn ∈ Ts) (hx : ¬ x < 0) (hN : x.toNatClampNeg = N) (hb : N * 4 ≤ 536870912) (h1 : k + 1 ≤ R.cells) (h2 : n + N ≤ R.slots) (hdg : decode cc pc = .ok (.anewarray index, 3)) (kk : ∀ q : Nat, GV p l e R s m args below meth c D cl A Q nL (pc + 3) lv (.ref q :: st) (ws ++ [(q, .inl (cA, N, .inr (.inr (.inr (.inr (fun _ => none))))))]) (k + 1) (n + N)) : GV p l e R s m args below meth c D cl A Q nL pc lv (.int x :: st) ws k n := by
  intro H locs ls hP hD hS hl
  refine va_newq C.1.1 C.1.2.1 C.1.2.2.2.1 (C.1.2.2.2.2 _ hlink) hover C.2.1 hP hD hS C.2.2.2.1 hx hN hb h1 h2 hdg (fun q cB H1 hK1 hP1 hD1 hS1 => ?_)
  have hcB : cB = cA := va_RA_u (hK1.last) (C.2.1.2 t0 _ ht).2
  subst hcB
  exact kk q H1 locs ls hP1 hD1 hS1 hl
theorem G_new (C : CG p s m args meth c D cl tys A cc nL own Ts) {cls : String} {T : u_T} {N ci index : Nat} (hin : ∀ w ∈ u_ws cls T N, w ∈ Ts) (ty0 : Nat → FieldType) (hty : ∀ k, k < N → parseFieldDescriptor (T k).2.2.1 = some (ty0 k)) (hlink : Cond.classLink own index cls ∈ Ts) (hinst : Cond.instantiable cls N ∈ Ts) (hini : Cond.initialized cls ∈ Ts) (hc : cl[ci]? = some (cls, T, N)) (fs : List Value) (hfs : ∀ j, j < N → defaultValue (ty0 j) = vp_V fs j) (h1 : k + 1 ≤ R.cells) (h2 : n + N ≤ R.slots) (hdg : decode cc pc = .ok (.new index, 3)) (kk : ∀ q : Nat, GV p l e R s m args below meth c D cl A Q nL (pc + 3) lv (.ref q :: st) (ws ++ [(q, .inr (ci, fs))]) (k + 1) (n + N)) : GV p l e R s m args below meth c D cl A Q nL pc lv st ws k n := by
  intro H locs ls hP hD hS hl
  exact va_new C.1.1 C.1.2.1 C.1.2.2.2.2 hin ty0 hty C.1.2.2.2.1 (C.1.2.2.2.2 _ hlink) (C.1.2.2.2.2 _ hinst) (C.1.2.2.2.2 _ hini) C.2.1 hP hD hS C.2.2.2.1 hc hfs h1 h2 hdg (fun q H1 hP1 hD1 hS1 => kk q H1 locs ls hP1 hD1 hS1 hl)
theorem G_obj (C : CG p s m args meth c D cl tys A cc nL own Ts) {index a : Nat} (hlink : Cond.methodLink own index objectInit ∈ Ts) (hinst : Cond.instanceMethod objectInit ∈ Ts) (hcode : Cond.code objectInit ⟨#[0xb1]⟩ 1 none ∈ Ts) (h1 : 1 ≤ R.frames) (h2 : (st.map fun v => v.category).sum + 12 ≤ R.locals) (hdg : decode cc pc = .ok (.invokespecial index, 3)) (kk : GV p l e R s m args below meth c D cl A Q nL (pc + 3) lv st ws k n) : GV p l e R s m args below meth c D cl A Q nL pc lv (.ref a :: st) ws k n := by
  intro H locs ls hP hD hS hl
  refine W.objInit C.1.1 C.1.2.1 C.1.2.2.2.1 (C.1.2.2.2.2 _ hlink) (C.1.2.2.2.2 _ hinst) (C.1.2.2.2.2 _ hcode) rfl (by rw [C.1.2.2.1]; exact hl.1) rfl hdg h1 (by show 2 * 0 + (st.map fun v => v.category).sum + 12 ≤ R.locals; rw [Nat.mul_zero, Nat.zero_add]; exact h2) ?_
  exact W.eq (g2 := F0 m (pc + 3) ls st) rfl (kk H locs ls hP hD hS hl)
theorem G_cI (C : CG p s m args meth c D cl tys A cc nL own Ts) {α : Type} {post : α → Prop} {w1 : α → va_W} {pre : va_W} {a ci : Nat} {fs : List Value} {y : MethodName} {bytes : ByteArray} {maxL index : Nat} {wy : List Cond} {rm : Room} {mc ms : Nat} (hM : ∀ sz, Met l y wy rm (va_Pc [.ref a] (IniP D cl tys a ci fs sz)) (va_Qv post (IniB D cl w1 (AF a sz)) (AF a sz)) mc ms (AF a sz)) (cw : CallB R s args own index y bytes maxL none wy rm mc ms 0 ∧ y.name = "<init>" ∧ (Cond.instanceMethod y).before args s = true) (hW : (st.map fun v => v.category).sum ≤ 8) (h1 : k + mc ≤ R.cells) (h2 : n + ms ≤ R.slots) (hdg : decode cc pc = .ok (.invokespecial index, 3)) (kk : ∀ u : α, post u → GV p l e R s m args below meth c D cl A Q nL (pc + 3) lv st (pre ++ w1 u) (k + mc) (n + ms)) : GV p l e R s m args below meth c D cl A Q nL pc lv (.ref a :: st) (pre ++ [(a, .inr (ci, fs))]) k n := by
  intro H locs ls hP hD hS hl
  have hlast : (pre ++ [(a, (Sum.inr (ci, fs) : va_E))])[pre.length]? = some (a, .inr (ci, fs)) := by simp
  have hpre : ∀ (i : Nat) (q : Nat × va_E), pre[i]? = some q → (pre ++ [(a, (Sum.inr (ci, fs) : va_E))])[i]? = some q := fun i q h => by
    rw [List.getElem?_append_left (List.getElem?_eq_some_iff.mp h).1]
    exact h
  have hP0 : va_P D cl pre H := fun i q h => hP i q (hpre i q h)
  have hPa : va_P D cl [(a, .inr (ci, fs))] H := fun i q h => by
    have hi : i = 0 := by
      have := (List.getElem?_eq_some_iff.mp h).1
      simp at this
      omega
    subst hi
    cases h
    exact hP _ _ hlast
  have haA : A a := hD.2 _ _ hlast
  have hFA : ∀ q, AF a H.size q → A q := fun q h => by
    rcases h with rfl | h
    · exact haA
    · exact C.2.2.2.1 q (Nat.le_trans hS.1 h)
  have hap : ∀ (i : Nat) (q : Nat × va_E), pre[i]? = some q → ¬ AF a H.size q.1 := fun i q h hq => by
    rcases hq with hq | hq
    · have := hD.1 i pre.length q (a, .inr (ci, fs)) (hpre i q h) hlast hq
      have := (List.getElem?_eq_some_iff.mp h).1
      omega
    · have := (hP0 i q h).lt
      omega
  refine va_callv (va_runI (As := []) (rest := st) C.1 (hM H.size) cw ⟨IniP.blind, fun U hU hW => ⟨rfl, by rw [hU], by rw [hU]; exact hPa, va_K.moved hW.alike C.2.1, NXA.warm hW C.2.2.1⟩⟩ rfl rfl hl.1 rfl (lv_room hW) hdg ⟨h1, h2⟩) hS (fun q _ h => hFA q h) hFA (fun u t H1 locs1 ht hvm hw hB hz1 hk1 hS1 => ?_)
  obtain ⟨hP1, hD1⟩ := hB
  rw [ht] at hP1
  have hP01 : va_P D cl pre H1 := hP0.kept (fun i q h => hk1 q.1 ((hP0 i q h).lt) (hap i q h))
  have hD0 : va_D A pre := ⟨fun i j x y hx hy he => hD.1 i j x y (hpre i x hx) (hpre j y hy) he, fun i q h => hD.2 i q (hpre i q h)⟩
  refine kk u hw H1 locs1 ls (hP01.app hP1) (va_D.app hD0 (hD1.weaken (fun _ q _ h => hFA q.1 h)) (fun i j x y hx hy he => hap i x hx (he ▸ hD1.2 j y hy))) hS1 hl
theorem G_cIN (C : CG p s m args meth c D cl tys A cc nL own Ts) {α : Type} {post : α → Prop} {w1 : α → va_W} {pre : va_W} {a ci : Nat} {fs : List Value} {y : MethodName} {bytes : ByteArray} {maxL index : Nat} {wy : List Cond} {rm : Room} {mc ms : Nat} (hM : ∀ sz, Met l y wy rm (va_Pc [.ref a] (IniP D cl tys a ci fs sz)) (va_Qv post (IniB D cl w1 (AF a sz)) (AF a sz)) mc ms (AF a sz)) {host : String} (cw : va_CN R s args own index y host bytes maxL none wy rm mc ms 0 ∧ y.name = "<init>" ∧ (Cond.instanceMethod y).before args s = true) (hW : (st.map fun v => v.category).sum ≤ 8) (h1 : k + mc ≤ R.cells) (h2 : n + ms ≤ R.slots) (hdg : decode cc pc = .ok (.invokespecial index, 3)) (kk : ∀ u : α, post u → GV p l e R s m args below meth c D cl A Q nL (pc + 3) lv st (pre ++ w1 u) (k + mc) (n + ms)) : GV p l e R s m args below meth c D cl A Q nL pc lv (.ref a :: st) (pre ++ [(a, .inr (ci, fs))]) k n := by
  intro H locs ls hP hD hS hl
  have hlast : (pre ++ [(a, (Sum.inr (ci, fs) : va_E))])[pre.length]? = some (a, .inr (ci, fs)) := by simp
  have hpre : ∀ (i : Nat) (q : Nat × va_E), pre[i]? = some q → (pre ++ [(a, (Sum.inr (ci, fs) : va_E))])[i]? = some q := fun i q h => by
    rw [List.getElem?_append_left (List.getElem?_eq_some_iff.mp h).1]
    exact h
  have hP0 : va_P D cl pre H := fun i q h => hP i q (hpre i q h)
  have hPa : va_P D cl [(a, .inr (ci, fs))] H := fun i q h => by
    have hi : i = 0 := by
      have := (List.getElem?_eq_some_iff.mp h).1
      simp at this
      omega
    subst hi
    cases h
    exact hP _ _ hlast
  have haA : A a := hD.2 _ _ hlast
  have hFA : ∀ q, AF a H.size q → A q := fun q h => by
    rcases h with rfl | h
    · exact haA
    · exact C.2.2.2.1 q (Nat.le_trans hS.1 h)
  have hap : ∀ (i : Nat) (q : Nat × va_E), pre[i]? = some q → ¬ AF a H.size q.1 := fun i q h hq => by
    rcases hq with hq | hq
    · have := hD.1 i pre.length q (a, .inr (ci, fs)) (hpre i q h) hlast hq
      have := (List.getElem?_eq_some_iff.mp h).1
      omega
    · have := (hP0 i q h).lt
      omega
  refine va_callv (va_runIN (As := []) (rest := st) C.1 (hM H.size) cw ⟨IniP.blind, fun U hU hW => ⟨rfl, by rw [hU], by rw [hU]; exact hPa, va_K.moved hW.alike C.2.1, NXA.warm hW C.2.2.1⟩⟩ rfl rfl hl.1 rfl (lv_room hW) hdg ⟨h1, h2⟩) hS (fun q _ h => hFA q h) hFA (fun u t H1 locs1 ht hvm hw hB hz1 hk1 hS1 => ?_)
  obtain ⟨hP1, hD1⟩ := hB
  rw [ht] at hP1
  have hP01 : va_P D cl pre H1 := hP0.kept (fun i q h => hk1 q.1 ((hP0 i q h).lt) (hap i q h))
  have hD0 : va_D A pre := ⟨fun i j x y hx hy he => hD.1 i j x y (hpre i x hx) (hpre j y hy) he, fun i q h => hD.2 i q (hpre i q h)⟩
  refine kk u hw H1 locs1 ls (hP01.app hP1) (va_D.app hD0 (hD1.weaken (fun _ q _ h => hFA q.1 h)) (fun i j x y hx hy he => hap i x hx (he ▸ hD1.2 j y hy))) hS1 hl
theorem G_cV (C : CG p s m args meth c D cl tys A cc nL own Ts) {y : MethodName} {bytes : ByteArray} {maxL index nA : Nat} {ret : Option FieldType} {wy : List Cond} {rm : Room} {ids : List Oid} {ad : Oid → Nat} {ce : Cel} {σ : Mem} {o : Oid} (ho : o ∈ ids) {cls : String} {T : u_T} {N ci : Nat} {fs : List Value} {As : List Value} {Qr : Mem → Prop} (hM : Met l y wy rm (va_Pc (.ref (ad o) :: As) (WdI D cl tys ids ad ce A σ)) (va_Qv (fun (u : Mem) => Qr u) (WdO D cl ids ad ce A) A) 0 0 A) (cw : CallW R s args own cls index y bytes maxL ret wy rm 0 0 nA) (hc : cl[ci]? = some (cls, T, N)) (he : ce o (σ o) = .inr (ci, fs)) (hn : As.length = nA) {st0 : List Value} (hst : st0 = As.reverse ++ .ref (ad o) :: st) (hW : (st.map fun v => v.category).sum ≤ 8) (h1 : k ≤ R.cells) (h2 : n ≤ R.slots) (hdg : decode cc pc = .ok (.invokevirtual index, 3)) (kk : ∀ τ : Mem, Qr τ → GV p l e R s m args below meth c D cl A Q nL (pc + 3) lv st (wl ids ad ce τ) k n) : GV p l e R s m args below meth c D cl A Q nL pc lv st0 (wl ids ad ce σ) k n := by
  intro H locs ls hP hD hS hl
  refine va_callv (va_runV (b := ad o) (As := As) (rest := st) C.1 hM cw ⟨WdI.blind, (by obtain ⟨q, hq, hw⟩ := wl_at (ad := ad) (ce := ce) (σ := σ) ho; exact va_recv C.2.1 hP (q0 := q) hc (he ▸ hw)), fun U hU hW => ⟨rfl, by rw [hU]; exact hP, va_K.moved hW.alike C.2.1, hD, NX.warm hW C.2.2.1.1⟩⟩ rfl hn hl.1 hst (lv_room hW) hdg ⟨h1, h2⟩) hS (fun q _ h => h) (fun q h => h) (fun u t H1 locs1 ht hvm hw hB hz1 hk1 hS1 => ?_)
  obtain ⟨hP1, hD1⟩ := hB
  rw [ht] at hP1
  exact kk u hw H1 locs1 ls hP1 hD1 hS1 hl
theorem G_vret (C : CG p s m args meth c D cl tys A cc nL own Ts) {α : Type} {post : α → Prop} {w1 : α → va_W} (hr : meth.sig.returnType = none) (hlocks : meth.locks = false) (hdg : decode cc pc = .ok (.return_, 1)) (u : α) (hu : post u) (hw : ws = w1 u) : GV p l e R s m args below meth c D cl A (MQ below (va_Qv post (IniB D cl w1 A) A) args s k n A) nL pc lv [] ws k n := by
  intro H locs ls hP hD hS hl
  subst hw
  exact W.vret (hlocks := hlocks) C.1.1 C.1.2.1 hr (fun t ht hW => ⟨⟨u, rfl, hu, by rw [ht]; exact hP, hD⟩, hS.F ht⟩) hS.2.2 hdg
theorem G_met {y : MethodName} {wy ws' : List Cond} {rm : Room} {a ci sz mc ms : Nat} {fs : List Value} {α : Type} {post : α → Prop} {w1 : α → va_W} {maxL : Nat} (hy0 : y.cls = own) (hy1 : y.name = "<init>") (hy : plainName y.cls = true) (hw : wy = Cond.code y cc maxL none :: ws') (hlen : 1 ≤ maxL)
    (body : ∀ (p : Program) (e : Env) (s : State) (m : MethodId) (below : List Frame) (meth : Method) (c : Code), CG p s m #[.ref a] meth c D cl tys (AF a sz) cc maxL own wy → meth.sig.returnType = none → meth.locks = false → GV p l e (headSpec wy rm).room s m #[.ref a] below meth c D cl (AF a sz) (MQ below (va_Qv post (IniB D cl w1 (AF a sz)) (AF a sz)) #[.ref a] s mc ms (AF a sz)) maxL 0 [(0, .ref a)] [] [(a, .inr (ci, fs))] 0 0) : Met l y wy rm (va_Pc [.ref a] (IniP D cl tys a ci fs sz)) (va_Qv post (IniB D cl w1 (AF a sz)) (AF a sz)) mc ms (AF a sz) := by
  refine Met.ofW (cc := cc) (maxL := maxL) (ret := none) hy hw ?_
  intro p e s m args below meth c s₁ B hml hv
  obtain ⟨rfl, hsz, hP, hK, hN⟩ := hv
  have hts := atoms_spec (ws := wy) B.pre
  have hown : s.vm.findClass own = some m.cls := hy0 ▸ findClass_of_methodNamed B.named
  have hin : meth.name = "<init>" := ((name_of_methodNamed B.named B.method).1).trans hy1
  have k := body p e s m below meth c ⟨⟨B.exec, B.bytes, hml, hown, hts⟩, hK, hN, fun q h => Or.inr (hsz ▸ h), hin⟩ B.returns B.notSynchronized
  have hl := lv_entry [.ref a] (n := maxL) hlen
  rw [lg_entry_eq]
  refine k s.heap [] _ hP ⟨fun i j x y hx hy _ => ?_, fun i q h => ?_⟩ va_S.rf hl
  · have h1 := (List.getElem?_eq_some_iff.mp hx).1
    have h2 := (List.getElem?_eq_some_iff.mp hy).1
    simp at h1 h2
    omega
  · have hi : i = 0 := by
      have := (List.getElem?_eq_some_iff.mp h).1
      simp at this
      omega
    subst hi
    cases h
    exact Or.inl rfl
end GL
