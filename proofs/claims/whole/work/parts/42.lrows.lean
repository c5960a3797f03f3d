/-! PART 42 (written by wip/whole/gen42.py): rows of the walk of the law -/
/-! THE CLAIM OUT OF ONE WALK OF THE LAW'S BODY. Your part is whole_start (and what it stands on); all else here is the same for every law, but numbers. -/
def R_law : String := "IrrigationDistrictLaw"
def lw_P (b : Addr) (xs : List Int32) (args : Array Value) (s : State) : Prop := args = #[.ref b] ∧ s.IntsAt b xs ∧ xs.length ≤ 2560 ∧ (Jvm.Cond.and given_1 narrow_1).before args s = true
def lw_Q (_ : Array Value) (s : State) (o : Outcome) (t : State) : Prop := o = .returned (some (.int 1)) ∧ Framed s o t [] 600000 7302250
def lw_Z (below : List Frame) (a : Array Value) (s : State) : State → Prop := fun t => ∃ o, t.status = .running ∧ Ended t below o ∧ lw_Q a s o t
/-- the law's own end, with 1 on the stack, nothing written that was there before, its room as the claim has it -/
theorem lw_ret {p : Program} {l : Launch} {e : Env} {s : State} {m : MethodId} {below : List Frame} {meth : Method} {c : Code} {b : Nat} (hx : p.tables.exec = Jvm.exec) (hb : c.code = code) (hr : meth.sig.returnType = ret) (hlocks : meth.locks = false) {pc : Nat} {H : Heap} {ls : Array Slot} (hdg : decode code pc = .ok (.ireturn, 1)) : W p l e room_1 s m #[Value.ref b] below meth c H [] 600000 7302250 (lw_Z below #[Value.ref b] s) (F0 m pc ls [.int 1]) := by
  intro T hT X
  obtain ⟨fs, hret, hrun, hended, hW, hframe⟩ := X.leave (v := some (.int 1)) (hlocks := hlocks) (fun h => by rw [hr] at h; cases h)
  have hmeth' : T.vm.method? m = some meth := X.method'
  refine ⟨T.setFrames fs, ?_, .returned (some (.int 1)), hrun, hended, rfl, ⟨_, rfl⟩, hW, hframe⟩
  jvm_step X.here [X.here.top, hx, hb, hdg, hmeth', hr, ret, narrow_b1]
  (try refine ⟨rfl, ?_⟩); (try refine ⟨rfl, ?_⟩)
  first | (intro acts; rw [hret _ acts rfl rfl rfl]) | rw [hret _ _ rfl rfl rfl]
  exact Steps.refl _
/-- what holds at the law's entry: the machine, the code, the tables' words (any of lw_tbl by 'hts w (by decide +kernel)'), the script of L ints xs at the cell b, what the Statement gives of the start (any of its parts by flat_of_before) -/
def lw_At (p : Program) (s : State) (m : MethodId) (meth : Method) (c : Code) (b L : Nat) (xs : Nat → Int32) : Prop :=
  p.tables.exec = Jvm.exec ∧ c.code = code ∧ meth.sig.returnType = ret ∧ c.maxLocals = 4 ∧ s.vm.findClass R_law = some m.cls ∧ (∀ w ∈ lw_tbl, w.before #[Value.ref b] s = true) ∧ va_X b L xs s s.heap ∧ b < s.heap.size ∧ meth.locks = false ∧ (Jvm.Cond.and given_1 narrow_1).before #[Value.ref b] s = true
abbrev CL (p : Program) (s : State) (m : MethodId) (args : Array Value) (c : Code) (D : va_G) (cl : List vw_C) (tys : List (ClassId × FieldType)) (A : Nat → Prop) (cc : ByteArray) (nL : Nat) (own : String) (Ts : List Cond) : Prop := (p.tables.exec = Jvm.exec ∧ c.code = cc ∧ c.maxLocals = nL ∧ s.vm.findClass own = some m.cls ∧ (∀ w ∈ Ts, w.before args s = true)) ∧ va_K D cl tys s ∧ NXA s ∧ (∀ q, s.heap.size ≤ q → A q) ∧ True
section LL
variable {p : Program} {l : Launch} {e : Env} {R : Room} {s : State} {m : MethodId} {args : Array Value} {below : List Frame} {meth : Method} {c : Code} {D : va_G} {cl : List vw_C} {tys : List (ClassId × FieldType)} {A : Nat → Prop} {Q : State → Prop} {nL : Nat} {cc : ByteArray} {own : String} {Ts : List Cond} {pc : Nat} {lv lv' : List (Nat × Value)} {st : List Value} {ws ws' w1 w2 : va_W} {k n : Nat} {ids : List Oid} {ad : Oid → Nat} {ce : Cel} {σ : Mem} {H0 : Heap}
theorem L_iconst (C : CL p s m args c D cl tys A cc nL own Ts) {n0 : Int} {v : Int32} (hdg : decode cc pc = .ok (.iconst n0, 1)) (hv : Int32.ofInt n0 = v) (kk : GV p l e R s m args below meth c D cl A Q nL (pc + 1) lv (.int v :: st) ws k n) : GV p l e R s m args below meth c D cl A Q nL pc lv (st) ws k n := by
  intro H locs ls hP hD hS hl
  exact lv_iconst C.1.1 C.1.2.1 hdg hv (kk H locs ls hP hD hS hl)
theorem L_bipush (C : CL p s m args c D cl tys A cc nL own Ts) {n0 : Int} {v : Int32} (hdg : decode cc pc = .ok (.bipush n0, 2)) (hv : (Int8.ofInt n0).toInt32 = v) (kk : GV p l e R s m args below meth c D cl A Q nL (pc + 2) lv (.int v :: st) ws k n) : GV p l e R s m args below meth c D cl A Q nL pc lv (st) ws k n := by
  intro H locs ls hP hD hS hl
  exact lv_bipush C.1.1 C.1.2.1 hdg hv (kk H locs ls hP hD hS hl)
theorem L_iload_n (C : CL p s m args c D cl tys A cc nL own Ts) {k0 : Fin 4} {x : Int32} (hdg : decode cc pc = .ok (.iload_n k0, 1)) (i : Nat) (hi : lv[i]? = some ((k0 : Nat), .int x)) (kk : GV p l e R s m args below meth c D cl A Q nL (pc + 1) lv (.int x :: st) ws k n) : GV p l e R s m args below meth c D cl A Q nL pc lv (st) ws k n := by
  intro H locs ls hP hD hS hl
  exact lv_iload_n C.1.1 C.1.2.1 hdg rfl (lv_at hl i hi) (kk H locs ls hP hD hS hl)
theorem L_aload_n (C : CL p s m args c D cl tys A cc nL own Ts) {k0 : Fin 4} {x : Nat} (hdg : decode cc pc = .ok (.aload_n k0, 1)) (i : Nat) (hi : lv[i]? = some ((k0 : Nat), .ref x)) (kk : GV p l e R s m args below meth c D cl A Q nL (pc + 1) lv (.ref x :: st) ws k n) : GV p l e R s m args below meth c D cl A Q nL pc lv (st) ws k n := by
  intro H locs ls hP hD hS hl
  exact lv_aload_n C.1.1 C.1.2.1 hdg rfl (lv_at hl i hi) (kk H locs ls hP hD hS hl)
theorem L_iadd (C : CL p s m args c D cl tys A cc nL own Ts) {x y : Int32} (hdg : decode cc pc = .ok (.iadd, 1)) (kk : GV p l e R s m args below meth c D cl A Q nL (pc + 1) lv (.int (x + y) :: st) ws k n) : GV p l e R s m args below meth c D cl A Q nL pc lv (.int y :: .int x :: st) ws k n := by
  intro H locs ls hP hD hS hl
  exact lv_iadd C.1.1 C.1.2.1 hdg  (kk H locs ls hP hD hS hl)
theorem L_dup (C : CL p s m args c D cl tys A cc nL own Ts) {v : Value} (hdg : decode cc pc = .ok (.dup, 1)) (hv : v.category = 1) (kk : GV p l e R s m args below meth c D cl A Q nL (pc + 1) lv (v :: v :: st) ws k n) : GV p l e R s m args below meth c D cl A Q nL pc lv (v :: st) ws k n := by
  intro H locs ls hP hD hS hl
  exact lv_dup C.1.1 C.1.2.1 hdg hv (kk H locs ls hP hD hS hl)
theorem L_istore_n (C : CL p s m args c D cl tys A cc nL own Ts) {k0 : Fin 4} {x : Int32} (hdg : decode cc pc = .ok (.istore_n k0, 1)) (hn : (k0 : Nat) < nL) (hlv : ((k0 : Nat), Value.int x) :: lv.filter (fun q => !(q.1 == (k0 : Nat)) && !(q.1 + 1 == (k0 : Nat) && q.2.category == 2)) = lv') (kk : GV p l e R s m args below meth c D cl A Q nL (pc + 1) lv' st ws k n) : GV p l e R s m args below meth c D cl A Q nL pc lv (Value.int x :: st) ws k n := by
  intro H locs ls hP hD hS hl
  exact lv_istore_n C.1.1 C.1.2.1 hdg rfl hl hn hlv (fun ls' hl' => kk H locs ls' hP hD hS hl')
theorem L_astore_n (C : CL p s m args c D cl tys A cc nL own Ts) {k0 : Fin 4} {x : Nat} (hdg : decode cc pc = .ok (.astore_n k0, 1)) (hn : (k0 : Nat) < nL) (hlv : ((k0 : Nat), Value.ref x) :: lv.filter (fun q => !(q.1 == (k0 : Nat)) && !(q.1 + 1 == (k0 : Nat) && q.2.category == 2)) = lv') (kk : GV p l e R s m args below meth c D cl A Q nL (pc + 1) lv' st ws k n) : GV p l e R s m args below meth c D cl A Q nL pc lv (Value.ref x :: st) ws k n := by
  intro H locs ls hP hD hS hl
  exact lv_astore_n C.1.1 C.1.2.1 hdg rfl hl hn hlv (fun ls' hl' => kk H locs ls' hP hD hS hl')
theorem L_iinc (C : CL p s m args c D cl tys A cc nL own Ts) {k0 : Nat} {n0 : Int} {x v : Int32} (hdg : decode cc pc = .ok (.iinc k0 n0, 3)) (i : Nat) (hi : lv[i]? = some (k0, .int x)) (hv : x + Int32.ofInt n0 = v) (hn : k0 < nL) (hlv : (k0, Value.int v) :: lv.filter (fun q => !(q.1 == k0) && !(q.1 + 1 == k0 && q.2.category == 2)) = lv') (kk : GV p l e R s m args below meth c D cl A Q nL (pc + 3) lv' st ws k n) : GV p l e R s m args below meth c D cl A Q nL pc lv st ws k n := by
  intro H locs ls hP hD hS hl
  exact lv_iinc C.1.1 C.1.2.1 hdg hl hi hv hn hlv (fun ls' hl' => kk H locs ls' hP hD hS hl')
theorem L_goto (C : CL p s m args c D cl tys A cc nL own Ts) {off : Int} {tgt : Nat} (hdg : decode cc pc = .ok (.goto off, 3)) (ht : (pc : Int) + off = (tgt : Int)) (kk : GV p l e R s m args below meth c D cl A Q nL tgt lv st ws k n) : GV p l e R s m args below meth c D cl A Q nL pc lv st ws k n := by
  intro H locs ls hP hD hS hl
  exact lv_goto C.1.1 C.1.2.1 hdg ht (kk H locs ls hP hD hS hl)
theorem L_new (C : CL p s m args c D cl tys A cc nL own Ts) {cls : String} {T : u_T} {N ci index : Nat} (hin : ∀ w ∈ u_ws cls T N, w ∈ Ts) (ty0 : Nat → FieldType) (hty : ∀ k, k < N → parseFieldDescriptor (T k).2.2.1 = some (ty0 k)) (hlink : Cond.classLink own index cls ∈ Ts) (hinst : Cond.instantiable cls N ∈ Ts) (hini : Cond.initialized cls ∈ Ts) (hc : cl[ci]? = some (cls, T, N)) (fs : List Value) (hfs : ∀ j, j < N → defaultValue (ty0 j) = vp_V fs j) (h1 : k + 1 ≤ R.cells) (h2 : n + N ≤ R.slots) (hdg : decode cc pc = .ok (.new index, 3)) (kk : ∀ q : Nat, GV p l e R s m args below meth c D cl A Q nL (pc + 3) lv (.ref q :: st) (ws ++ [(q, .inr (ci, fs))]) (k + 1) (n + N)) : GV p l e R s m args below meth c D cl A Q nL pc lv st ws k n := by
  intro H locs ls hP hD hS hl
  exact va_new C.1.1 C.1.2.1 C.1.2.2.2.2 hin ty0 hty C.1.2.2.2.1 (C.1.2.2.2.2 _ hlink) (C.1.2.2.2.2 _ hinst) (C.1.2.2.2.2 _ hini) C.2.1 hP hD hS C.2.2.2.1 hc hfs h1 h2 hdg (fun q H1 hP1 hD1 hS1 => kk q H1 locs ls hP1 hD1 hS1 hl)
theorem L_cI (C : CL p s m args c D cl tys A cc nL own Ts) {α : Type} {post : α → Prop} {w1 : α → va_W} {pre : va_W} {a ci : Nat} {fs : List Value} {y : MethodName} {bytes : ByteArray} {maxL index : Nat} {wy : List Cond} {rm : Room} {mc ms : Nat} (hM : ∀ sz, Met l y wy rm (va_Pc [.ref a] (IniP D cl tys a ci fs sz)) (va_Qv post (IniB D cl w1 (AF a sz)) (AF a sz)) mc ms (AF a sz)) (cw : CallB R s args own index y bytes maxL none wy rm mc ms 0 ∧ y.name = "<init>" ∧ (Cond.instanceMethod y).before args s = true) (hW : (st.map fun v => v.category).sum ≤ 8) (h1 : k + mc ≤ R.cells) (h2 : n + ms ≤ R.slots) (hdg : decode cc pc = .ok (.invokespecial index, 3)) (kk : ∀ u : α, post u → GV p l e R s m args below meth c D cl A Q nL (pc + 3) lv st (pre ++ w1 u) (k + mc) (n + ms)) : GV p l e R s m args below meth c D cl A Q nL pc lv (.ref a :: st) (pre ++ [(a, .inr (ci, fs))]) k n := by
  intro H locs ls hP hD hS hl
  have hlast : (pre ++ [(a, (Sum.inr (ci, fs) : va_E))])[pre.length]? = some (a, .inr (ci, fs)) := by simp
  have hpre : ∀ (i : Nat) (q : Nat × va_E), pre[i]? = some q → (pre ++ [(a, (Sum.inr (ci, fs) : va_E))])[i]? = some q := fun i q h => by
    rw [List.getElem?_append_left (List.getElem?_eq_some_iff.mp h).1]
    exact h
  have hP0 : va_P D cl pre H := fun i q h => hP i q (hpre i q h)
  have hPa : va_P D cl [(a, .inr (ci, fs))] H := fun i q h => by
    have hi : i = 0 := by
      have := (List.getElem?_eq_some_iff.mp h).1
      simp at this
      omega
    subst hi
    cases h
    exact hP _ _ hlast
  have haA : A a := hD.2 _ _ hlast
  have hFA : ∀ q, AF a H.size q → A q := fun q h => by
    rcases h with rfl | h
    · exact haA
    · exact C.2.2.2.1 q (Nat.le_trans hS.1 h)
  have hap : ∀ (i : Nat) (q : Nat × va_E), pre[i]? = some q → ¬ AF a H.size q.1 := fun i q h hq => by
    rcases hq with hq | hq
    · have := hD.1 i pre.length q (a, .inr (ci, fs)) (hpre i q h) hlast hq
      have := (List.getElem?_eq_some_iff.mp h).1
      omega
    · have := (hP0 i q h).lt
      omega
  refine va_callv (va_runI (As := []) (rest := st) C.1 (hM H.size) cw ⟨IniP.blind, fun U hU hW => ⟨rfl, by rw [hU], by rw [hU]; exact hPa, va_K.moved hW.alike C.2.1, NXA.warm hW C.2.2.1⟩⟩ rfl rfl hl.1 rfl (lv_room hW) hdg ⟨h1, h2⟩) hS (fun q _ h => hFA q h) hFA (fun u t H1 locs1 ht hvm hw hB hz1 hk1 hS1 => ?_)
  obtain ⟨hP1, hD1⟩ := hB
  rw [ht] at hP1
  have hP01 : va_P D cl pre H1 := hP0.kept (fun i q h => hk1 q.1 ((hP0 i q h).lt) (hap i q h))
  have hD0 : va_D A pre := ⟨fun i j x y hx hy he => hD.1 i j x y (hpre i x hx) (hpre j y hy) he, fun i q h => hD.2 i q (hpre i q h)⟩
  refine kk u hw H1 locs1 ls (hP01.app hP1) (va_D.app hD0 (hD1.weaken (fun _ q _ h => hFA q.1 h)) (fun i j x y hx hy he => hap i x hx (he ▸ hD1.2 j y hy))) hS1 hl
theorem L_isub (C : CL p s m args c D cl tys A cc nL own Ts) {x y : Int32} (hdg : decode cc pc = .ok (.isub, 1)) (kk : GV p l e R s m args below meth c D cl A Q nL (pc + 1) lv (.int (x - y) :: st) ws k n) : GV p l e R s m args below meth c D cl A Q nL pc lv (.int y :: .int x :: st) ws k n := by
  intro H locs ls hP hD hS hl
  exact lv_isub C.1.1 C.1.2.1 hdg (kk H locs ls hP hD hS hl)
theorem L_iand (C : CL p s m args c D cl tys A cc nL own Ts) {x y : Int32} (hdg : decode cc pc = .ok (.iand, 1)) (kk : GV p l e R s m args below meth c D cl A Q nL (pc + 1) lv (.int (x &&& y) :: st) ws k n) : GV p l e R s m args below meth c D cl A Q nL pc lv (.int y :: .int x :: st) ws k n := by
  intro H locs ls hP hD hS hl
  exact lv_iand C.1.1 C.1.2.1 hdg (kk H locs ls hP hD hS hl)
theorem L_lcmp (C : CL p s m args c D cl tys A cc nL own Ts) {x y : Int64} (hdg : decode cc pc = .ok (.lcmp, 1)) (kk : GV p l e R s m args below meth c D cl A Q nL (pc + 1) lv (.int (lg_cmp x y) :: st) ws k n) : GV p l e R s m args below meth c D cl A Q nL pc lv (.long y :: .long x :: st) ws k n := by
  intro H locs ls hP hD hS hl
  exact W.lcmp C.1.1 C.1.2.1 hdg (kk H locs ls hP hD hS hl)
theorem L_sld (C : CL p s m args c D cl tys A cc nL own Ts) {b L : Nat} {xs : Nat → Int32} (hX : va_X b L xs s s.heap) (hbl : b < s.heap.size) (hbA : ¬ A b) {i : Int32} (hin : vp_in i L) (hdg : decode cc pc = .ok (.iaload, 1)) (kk : GV p l e R s m args below meth c D cl A Q nL (pc + 1) lv (.int (xs i.toNatClampNeg) :: st) ws k n) : GV p l e R s m args below meth c D cl A Q nL pc lv (.int i :: .ref b :: st) ws k n := by
  intro H locs ls hP hD hS hl
  exact va_sld C.1.1 C.1.2.1 hX hbl hbA hS hin hdg (kk H locs ls hP hD hS hl)
theorem L_slen (C : CL p s m args c D cl tys A cc nL own Ts) {b L : Nat} {xs : Nat → Int32} (hX : va_X b L xs s s.heap) (hbl : b < s.heap.size) (hbA : ¬ A b) (hdg : decode cc pc = .ok (.arraylength, 1)) (kk : GV p l e R s m args below meth c D cl A Q nL (pc + 1) lv (.int (Int32.ofNat L) :: st) ws k n) : GV p l e R s m args below meth c D cl A Q nL pc lv (.ref b :: st) ws k n := by
  intro H locs ls hP hD hS hl
  exact va_slen C.1.1 C.1.2.1 hX hbl hbA hS hdg (kk H locs ls hP hD hS hl)
theorem L_tabIn (C : CL p s m args c D cl tys A cc nL own Ts) {dflt lo hi : Int} {offs : Array Int} {len : Nat} {x : Int32} {off : Int} {tgt : Nat} (h1 : ¬ x.toInt < lo) (h2 : ¬ hi < x.toInt) (ho : offs[(x.toInt - lo).toNat]? = some off) (ht : (pc : Int) + off = (tgt : Int)) (hdg : decode cc pc = .ok (.tableswitch dflt lo hi offs, len)) (kk : GV p l e R s m args below meth c D cl A Q nL tgt lv st ws k n) : GV p l e R s m args below meth c D cl A Q nL pc lv (.int x :: st) ws k n := by
  intro H locs ls hP hD hS hl
  exact lv_tableIn C.1.1 C.1.2.1 hdg h1 h2 ho ht (kk H locs ls hP hD hS hl)
theorem L_tabOut (C : CL p s m args c D cl tys A cc nL own Ts) {dflt lo hi : Int} {offs : Array Int} {len : Nat} {x : Int32} {tgt : Nat} (h1 : x.toInt < lo ∨ hi < x.toInt) (ht : (pc : Int) + dflt = (tgt : Int)) (hdg : decode cc pc = .ok (.tableswitch dflt lo hi offs, len)) (kk : GV p l e R s m args below meth c D cl A Q nL tgt lv st ws k n) : GV p l e R s m args below meth c D cl A Q nL pc lv (.int x :: st) ws k n := by
  intro H locs ls hP hD hS hl
  exact lv_tableOut C.1.1 C.1.2.1 hdg h1 ht (kk H locs ls hP hD hS hl)
theorem L_icmp_gt (C : CL p s m args c D cl tys A cc nL own Ts) {x y : Int32} {off : Int} {tgt : Nat} (hdg : decode cc pc = .ok (.if_icmp .gt off, 3)) (ht : (pc : Int) + off = (tgt : Int)) (kt : y < x → GV p l e R s m args below meth c D cl A Q nL tgt lv st ws k n) (kf : ¬ y < x → GV p l e R s m args below meth c D cl A Q nL (pc + 3) lv st ws k n) : GV p l e R s m args below meth c D cl A Q nL pc lv (.int y :: .int x :: st) ws k n := by
  intro H locs ls hP hD hS hl
  exact lv_icmp_gt C.1.1 C.1.2.1 hdg ht (fun h => kt h H locs ls hP hD hS hl) (fun h => kf h H locs ls hP hD hS hl)
theorem L_icmp_eq (C : CL p s m args c D cl tys A cc nL own Ts) {x y : Int32} {off : Int} {tgt : Nat} (hdg : decode cc pc = .ok (.if_icmp .eq off, 3)) (ht : (pc : Int) + off = (tgt : Int)) (kt : x = y → GV p l e R s m args below meth c D cl A Q nL tgt lv st ws k n) (kf : ¬ x = y → GV p l e R s m args below meth c D cl A Q nL (pc + 3) lv st ws k n) : GV p l e R s m args below meth c D cl A Q nL pc lv (.int y :: .int x :: st) ws k n := by
  intro H locs ls hP hD hS hl
  exact lv_icmp_eq C.1.1 C.1.2.1 hdg ht (fun h => kt h H locs ls hP hD hS hl) (fun h => kf h H locs ls hP hD hS hl)
theorem L_if_eq (C : CL p s m args c D cl tys A cc nL own Ts) {x : Int32} {off : Int} {tgt : Nat} (hdg : decode cc pc = .ok (.ifCond .eq off, 3)) (ht : (pc : Int) + off = (tgt : Int)) (kt : x = 0 → GV p l e R s m args below meth c D cl A Q nL tgt lv st ws k n) (kf : ¬ x = 0 → GV p l e R s m args below meth c D cl A Q nL (pc + 3) lv st ws k n) : GV p l e R s m args below meth c D cl A Q nL pc lv (.int x :: st) ws k n := by
  intro H locs ls hP hD hS hl
  exact lv_if_eq C.1.1 C.1.2.1 hdg ht (fun h => kt h H locs ls hP hD hS hl) (fun h => kf h H locs ls hP hD hS hl)
theorem P_lf (h : va_P D cl (w1 ++ w2) H0) : va_P D cl w1 H0 := fun k q hk => h k q (by rw [List.getElem?_append_left (List.getElem?_eq_some_iff.mp hk).1]; exact hk)
theorem P_rt (h : va_P D cl (w1 ++ w2) H0) : va_P D cl w2 H0 := fun k q hk => h (w1.length + k) q (by rw [List.getElem?_append_right (Nat.le_add_right _ _), Nat.add_sub_cancel_left]; exact hk)
theorem D_lf (h : va_D A (w1 ++ w2)) : va_D A w1 := ⟨fun i j x y hi hj he => h.1 i j x y (by rw [List.getElem?_append_left (List.getElem?_eq_some_iff.mp hi).1]; exact hi) (by rw [List.getElem?_append_left (List.getElem?_eq_some_iff.mp hj).1]; exact hj) he, fun k q hk => h.2 k q (by rw [List.getElem?_append_left (List.getElem?_eq_some_iff.mp hk).1]; exact hk)⟩
theorem D_rt (h : va_D A (w1 ++ w2)) : va_D A w2 := ⟨fun i j x y hi hj he => by
  have := h.1 (w1.length + i) (w1.length + j) x y (by rw [List.getElem?_append_right (Nat.le_add_right _ _), Nat.add_sub_cancel_left]; exact hi) (by rw [List.getElem?_append_right (Nat.le_add_right _ _), Nat.add_sub_cancel_left]; exact hj) he
  omega, fun k q hk => h.2 (w1.length + k) q (by rw [List.getElem?_append_right (Nat.le_add_right _ _), Nat.add_sub_cancel_left]; exact hk)⟩
theorem D_x (h : va_D A (w1 ++ w2)) {i j : Nat} {x y : Nat × va_E} (hi : w1[i]? = some x) (hj : w2[j]? = some y) : x.1 ≠ y.1 := fun he => by
  have h1 := (List.getElem?_eq_some_iff.mp hi).1
  have := h.1 i (w1.length + j) x y (by rw [List.getElem?_append_left h1]; exact hi) (by rw [List.getElem?_append_right (Nat.le_add_right _ _), Nat.add_sub_cancel_left]; exact hj) he
  omega
def AW (ids : List Oid) (ad : Oid → Nat) : Nat → Prop := fun q => ∃ o, o ∈ ids ∧ q = ad o
theorem AW_in {i : Nat} {x : Nat × va_E} (h : (wl ids ad ce σ)[i]? = some x) : AW ids ad x.1 := by
  rw [wl_get] at h
  cases ho : ids[i]? with
  | none => rw [ho] at h; cases h
  | some o =>
    rw [ho] at h
    cases h
    exact ⟨o, List.mem_of_getElem? ho, rfl⟩
theorem AW_at {q : Nat} (h : AW ids ad q) : ∃ (i : Nat) (e0 : va_E), (wl ids ad ce σ)[i]? = some (q, e0) := by
  obtain ⟨o, ho, rfl⟩ := h
  obtain ⟨i, hi, hw⟩ := wl_at (ad := ad) (ce := ce) (σ := σ) ho
  exact ⟨i, _, hw⟩
theorem AW_A (hD : va_D A (wl ids ad ce σ)) {q : Nat} (h : AW ids ad q) : A q := by
  obtain ⟨i, e0, hi⟩ := AW_at (ce := ce) (σ := σ) h
  exact hD.2 i _ hi
theorem AW_D (hD : va_D A (wl ids ad ce σ)) : va_D (AW ids ad) (wl ids ad ce σ) := ⟨hD.1, fun _ _ hk => AW_in hk⟩
theorem L_cXi (C : CL p s m args c D cl tys A cc nL own Ts) {y : MethodName} {bytes : ByteArray} {maxL index nA : Nat} {ret : Option FieldType} {wy : List Cond} {rm : Room} {o : Oid} (ho : o ∈ ids) {cls : String} {T : u_T} {N ci : Nat} {fs : List Value} {As : List Value} {Qr : Int32 → Mem → Prop} (hM : Met l y wy rm (va_Pc (.ref (ad o) :: As) (WdI D cl tys ids ad ce (AW ids ad) σ)) (va_Qi (fun (r : Int32) (u : Mem) => Qr r u) (WdO D cl ids ad ce (AW ids ad)) (AW ids ad)) 0 0 (AW ids ad)) (cw : CallW R s args own cls index y bytes maxL ret wy rm 0 0 nA) (hc : cl[ci]? = some (cls, T, N)) (he : ce o (σ o) = .inr (ci, fs)) (hn : As.length = nA) {st0 : List Value} (hst : st0 = As.reverse ++ .ref (ad o) :: st) (hW : (st.map fun v => v.category).sum ≤ 8) (h1 : k ≤ R.cells) (h2 : n ≤ R.slots) (hdg : decode cc pc = .ok (.invokevirtual index, 3)) (kk : ∀ (r : Int32) (τ : Mem), Qr r τ → GV p l e R s m args below meth c D cl A Q nL (pc + 3) lv (.int r :: st) (wl ids ad ce τ ++ w2) k n) : GV p l e R s m args below meth c D cl A Q nL pc lv st0 (wl ids ad ce σ ++ w2) k n := by
  intro H locs ls hP hD hS hl
  have hP1 := P_lf hP
  have hD1 := D_lf hD
  have hP2 := P_rt hP
  have hD2 := D_rt hD
  refine va_calli (va_runV (b := ad o) (As := As) (rest := st) C.1 hM cw ⟨WdI.blind, (by obtain ⟨q, hq, hw⟩ := wl_at (ad := ad) (ce := ce) (σ := σ) ho; exact va_recv C.2.1 hP1 (q0 := q) hc (he ▸ hw)), fun U hU hW => ⟨rfl, by rw [hU]; exact hP1, va_K.moved hW.alike C.2.1, AW_D hD1, NX.warm hW C.2.2.1.1⟩⟩ rfl hn hl.1 hst (lv_room hW) hdg ⟨h1, h2⟩) hS (fun q _ h => AW_A hD1 h) (fun q h => AW_A hD1 h) (fun r u t H1 locs1 ht hvm hw hB hz1 hk1 hS1 => ?_)
  obtain ⟨hPn, hDn⟩ := hB
  rw [ht] at hPn
  have hx : ∀ (i : Nat) (z : Nat × va_E), w2[i]? = some z → ¬ AW ids ad z.1 := fun i z hz ha => by
    obtain ⟨j, e0, hj⟩ := AW_at (ce := ce) (σ := σ) ha
    exact D_x hD hj hz rfl
  have hP3 : va_P D cl w2 H1 := hP2.kept (fun i z hz => hk1 z.1 ((hP2 i z hz).lt) (hx i z hz))
  exact kk r u hw H1 locs1 ls (hPn.app hP3) (va_D.app (hDn.weaken (fun _ q _ h => AW_A hD1 h)) hD2 (fun i j x z hi hj he => hx j z hj (he ▸ hDn.2 i x hi))) hS1 hl
theorem L_cXl (C : CL p s m args c D cl tys A cc nL own Ts) {y : MethodName} {bytes : ByteArray} {maxL index nA : Nat} {ret : Option FieldType} {wy : List Cond} {rm : Room} {o : Oid} (ho : o ∈ ids) {cls : String} {T : u_T} {N ci : Nat} {fs : List Value} {As : List Value} {Qr : Int64 → Mem → Prop} (hM : Met l y wy rm (va_Pc (.ref (ad o) :: As) (WdI D cl tys ids ad ce (AW ids ad) σ)) (va_Ql (fun (r : Int64) (u : Mem) => Qr r u) (WdO D cl ids ad ce (AW ids ad)) (AW ids ad)) 0 0 (AW ids ad)) (cw : CallW R s args own cls index y bytes maxL ret wy rm 0 0 nA) (hc : cl[ci]? = some (cls, T, N)) (he : ce o (σ o) = .inr (ci, fs)) (hn : As.length = nA) {st0 : List Value} (hst : st0 = As.reverse ++ .ref (ad o) :: st) (hW : (st.map fun v => v.category).sum ≤ 8) (h1 : k ≤ R.cells) (h2 : n ≤ R.slots) (hdg : decode cc pc = .ok (.invokevirtual index, 3)) (kk : ∀ (r : Int64) (τ : Mem), Qr r τ → GV p l e R s m args below meth c D cl A Q nL (pc + 3) lv (.long r :: st) (wl ids ad ce τ ++ w2) k n) : GV p l e R s m args below meth c D cl A Q nL pc lv st0 (wl ids ad ce σ ++ w2) k n := by
  intro H locs ls hP hD hS hl
  have hP1 := P_lf hP
  have hD1 := D_lf hD
  have hP2 := P_rt hP
  have hD2 := D_rt hD
  refine va_calll (va_runV (b := ad o) (As := As) (rest := st) C.1 hM cw ⟨WdI.blind, (by obtain ⟨q, hq, hw⟩ := wl_at (ad := ad) (ce := ce) (σ := σ) ho; exact va_recv C.2.1 hP1 (q0 := q) hc (he ▸ hw)), fun U hU hW => ⟨rfl, by rw [hU]; exact hP1, va_K.moved hW.alike C.2.1, AW_D hD1, NX.warm hW C.2.2.1.1⟩⟩ rfl hn hl.1 hst (lv_room hW) hdg ⟨h1, h2⟩) hS (fun q _ h => AW_A hD1 h) (fun q h => AW_A hD1 h) (fun r u t H1 locs1 ht hvm hw hB hz1 hk1 hS1 => ?_)
  obtain ⟨hPn, hDn⟩ := hB
  rw [ht] at hPn
  have hx : ∀ (i : Nat) (z : Nat × va_E), w2[i]? = some z → ¬ AW ids ad z.1 := fun i z hz ha => by
    obtain ⟨j, e0, hj⟩ := AW_at (ce := ce) (σ := σ) ha
    exact D_x hD hj hz rfl
  have hP3 : va_P D cl w2 H1 := hP2.kept (fun i z hz => hk1 z.1 ((hP2 i z hz).lt) (hx i z hz))
  exact kk r u hw H1 locs1 ls (hPn.app hP3) (va_D.app (hDn.weaken (fun _ q _ h => AW_A hD1 h)) hD2 (fun i j x z hi hj he => hx j z hj (he ▸ hDn.2 i x hi))) hS1 hl
theorem L_cMi (C : CL p s m args c D cl tys A cc nL own Ts) {y : MethodName} {bytes : ByteArray} {maxL index nA : Nat} {ret : Option FieldType} {wy : List Cond} {rm : Room} {o : Oid} (ho : o ∈ ids) {cls : String} {T : u_T} {N ci : Nat} {fs : List Value} {As : List Value} {Qr : Int32 → Mem → Prop} (hM : Met l y wy rm (va_Pc (.ref (ad o) :: As) (WdI D cl tys ids ad ce (AW ids ad) σ)) (va_Qi (fun (r : Int32) (u : Mem) => Qr r u) (WdO D cl ids ad ce (AW ids ad)) (AW ids ad)) 0 0 (AW ids ad)) (cw : CallW R s args own cls index y bytes maxL ret wy rm 0 0 nA) (hc : cl[ci]? = some (cls, T, N)) (he : ce o (σ o) = .inr (ci, fs)) (hn : As.length = nA) {st0 : List Value} (hst : st0 = As.reverse ++ .ref (ad o) :: st) (hW : (st.map fun v => v.category).sum ≤ 8) (h1 : k ≤ R.cells) (h2 : n ≤ R.slots) (hdg : decode cc pc = .ok (.invokevirtual index, 3)) (kk : ∀ (r : Int32) (τ : Mem), Qr r τ → GV p l e R s m args below meth c D cl A Q nL (pc + 3) lv (.int r :: st) (w1 ++ wl ids ad ce τ) k n) : GV p l e R s m args below meth c D cl A Q nL pc lv st0 (w1 ++ wl ids ad ce σ) k n := by
  intro H locs ls hP hD hS hl
  have hP1 := P_rt hP
  have hD1 := D_rt hD
  have hP2 := P_lf hP
  have hD2 := D_lf hD
  refine va_calli (va_runV (b := ad o) (As := As) (rest := st) C.1 hM cw ⟨WdI.blind, (by obtain ⟨q, hq, hw⟩ := wl_at (ad := ad) (ce := ce) (σ := σ) ho; exact va_recv C.2.1 hP1 (q0 := q) hc (he ▸ hw)), fun U hU hW => ⟨rfl, by rw [hU]; exact hP1, va_K.moved hW.alike C.2.1, AW_D hD1, NX.warm hW C.2.2.1.1⟩⟩ rfl hn hl.1 hst (lv_room hW) hdg ⟨h1, h2⟩) hS (fun q _ h => AW_A hD1 h) (fun q h => AW_A hD1 h) (fun r u t H1 locs1 ht hvm hw hB hz1 hk1 hS1 => ?_)
  obtain ⟨hPn, hDn⟩ := hB
  rw [ht] at hPn
  have hx : ∀ (i : Nat) (z : Nat × va_E), w1[i]? = some z → ¬ AW ids ad z.1 := fun i z hz ha => by
    obtain ⟨j, e0, hj⟩ := AW_at (ce := ce) (σ := σ) ha
    exact D_x hD hz hj rfl
  have hP3 : va_P D cl w1 H1 := hP2.kept (fun i z hz => hk1 z.1 ((hP2 i z hz).lt) (hx i z hz))
  exact kk r u hw H1 locs1 ls (hP3.app hPn) (va_D.app hD2 (hDn.weaken (fun _ q _ h => AW_A hD1 h)) (fun i j x z hi hj he => hx i x hi (he ▸ hDn.2 j z hj))) hS1 hl
theorem L_cMl (C : CL p s m args c D cl tys A cc nL own Ts) {y : MethodName} {bytes : ByteArray} {maxL index nA : Nat} {ret : Option FieldType} {wy : List Cond} {rm : Room} {o : Oid} (ho : o ∈ ids) {cls : String} {T : u_T} {N ci : Nat} {fs : List Value} {As : List Value} {Qr : Int64 → Mem → Prop} (hM : Met l y wy rm (va_Pc (.ref (ad o) :: As) (WdI D cl tys ids ad ce (AW ids ad) σ)) (va_Ql (fun (r : Int64) (u : Mem) => Qr r u) (WdO D cl ids ad ce (AW ids ad)) (AW ids ad)) 0 0 (AW ids ad)) (cw : CallW R s args own cls index y bytes maxL ret wy rm 0 0 nA) (hc : cl[ci]? = some (cls, T, N)) (he : ce o (σ o) = .inr (ci, fs)) (hn : As.length = nA) {st0 : List Value} (hst : st0 = As.reverse ++ .ref (ad o) :: st) (hW : (st.map fun v => v.category).sum ≤ 8) (h1 : k ≤ R.cells) (h2 : n ≤ R.slots) (hdg : decode cc pc = .ok (.invokevirtual index, 3)) (kk : ∀ (r : Int64) (τ : Mem), Qr r τ → GV p l e R s m args below meth c D cl A Q nL (pc + 3) lv (.long r :: st) (w1 ++ wl ids ad ce τ) k n) : GV p l e R s m args below meth c D cl A Q nL pc lv st0 (w1 ++ wl ids ad ce σ) k n := by
  intro H locs ls hP hD hS hl
  have hP1 := P_rt hP
  have hD1 := D_rt hD
  have hP2 := P_lf hP
  have hD2 := D_lf hD
  refine va_calll (va_runV (b := ad o) (As := As) (rest := st) C.1 hM cw ⟨WdI.blind, (by obtain ⟨q, hq, hw⟩ := wl_at (ad := ad) (ce := ce) (σ := σ) ho; exact va_recv C.2.1 hP1 (q0 := q) hc (he ▸ hw)), fun U hU hW => ⟨rfl, by rw [hU]; exact hP1, va_K.moved hW.alike C.2.1, AW_D hD1, NX.warm hW C.2.2.1.1⟩⟩ rfl hn hl.1 hst (lv_room hW) hdg ⟨h1, h2⟩) hS (fun q _ h => AW_A hD1 h) (fun q h => AW_A hD1 h) (fun r u t H1 locs1 ht hvm hw hB hz1 hk1 hS1 => ?_)
  obtain ⟨hPn, hDn⟩ := hB
  rw [ht] at hPn
  have hx : ∀ (i : Nat) (z : Nat × va_E), w1[i]? = some z → ¬ AW ids ad z.1 := fun i z hz ha => by
    obtain ⟨j, e0, hj⟩ := AW_at (ce := ce) (σ := σ) ha
    exact D_x hD hz hj rfl
  have hP3 : va_P D cl w1 H1 := hP2.kept (fun i z hz => hk1 z.1 ((hP2 i z hz).lt) (hx i z hz))
  exact kk r u hw H1 locs1 ls (hP3.app hPn) (va_D.app hD2 (hDn.weaken (fun _ q _ h => AW_A hD1 h)) (fun i j x z hi hj he => hx i x hi (he ▸ hDn.2 j z hj))) hS1 hl
end LL
