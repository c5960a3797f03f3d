/-! PART 61 (written by wip/p41/gen63.py): the head of the law's text out of the task's skeleton; rows of the law's start -/
/-! THE CLAIM OUT OF ONE WALK OF THE LAW'S BODY. Your part is whole_start (and what it stands on); all else here is the same for every law, but numbers. -/
def R_law : String := "IrrigationDistrictLaw"
def lw_P (b : Addr) (xs : List Int32) (args : Array Value) (s : State) : Prop := args = #[.ref b] ∧ s.IntsAt b xs ∧ xs.length ≤ 260 ∧ (Jvm.Cond.and given_1 narrow_1).before args s = true
def lw_Q (_ : Array Value) (s : State) (o : Outcome) (t : State) : Prop := o = .returned (some (.int 1)) ∧ Framed s o t [] 600000 7302250
def lw_Z (below : List Frame) (a : Array Value) (s : State) : State → Prop := fun t => ∃ o, t.status = .running ∧ Ended t below o ∧ lw_Q a s o t
/-- the law's own end, with 1 on the stack, nothing written that was there before, its room as the claim has it -/
theorem lw_ret {p : Program} {l : Launch} {e : Env} {s : State} {m : MethodId} {below : List Frame} {meth : Method} {c : Code} {b : Nat} (hx : p.tables.exec = Jvm.exec) (hb : c.code = code) (hr : meth.sig.returnType = ret) (hlocks : meth.locks = false) {pc : Nat} {H : Heap} {ls : Array Slot} (hdg : decode code pc = .ok (.ireturn, 1)) : W p l e room_1 s m #[Value.ref b] below meth c H [] 600000 7302250 (lw_Z below #[Value.ref b] s) (F0 m pc ls [.int 1]) := by
  intro T hT X
  obtain ⟨fs, hret, hrun, hended, hW, hframe⟩ := X.leave (v := some (.int 1)) (hlocks := hlocks) (fun h => by rw [hr] at h; cases h)
  have hmeth' : T.vm.method? m = some meth := X.method'
  refine ⟨T.setFrames fs, ?_, .returned (some (.int 1)), hrun, hended, rfl, ⟨_, rfl⟩, hW, hframe⟩
  jvm_step X.here [X.here.top, hx, hb, hdg, hmeth', hr, ret, narrow_b1]
  (try refine ⟨rfl, ?_⟩); (try refine ⟨rfl, ?_⟩)
  first | (intro acts; rw [hret _ acts rfl rfl rfl]) | rw [hret _ _ rfl rfl rfl]
  exact Steps.refl _
/-- what holds at the law's entry: the machine, the code, the tables' words (any of lw_tbl by 'hts w (by decide +kernel)'), the script of L ints xs at the cell b, what the Statement gives of the start (any of its parts by flat_of_before) -/
def lw_At (p : Program) (s : State) (m : MethodId) (meth : Method) (c : Code) (b L : Nat) (xs : Nat → Int32) : Prop :=
  p.tables.exec = Jvm.exec ∧ c.code = code ∧ meth.sig.returnType = ret ∧ c.maxLocals = 12 ∧ s.vm.findClass R_law = some m.cls ∧ (∀ w ∈ lw_tbl, w.before #[Value.ref b] s = true) ∧ va_X b L xs s s.heap ∧ b < s.heap.size ∧ meth.locks = false ∧ (Jvm.Cond.and given_1 narrow_1).before #[Value.ref b] s = true
abbrev CL (p : Program) (s : State) (m : MethodId) (args : Array Value) (c : Code) (D : va_G) (cl : List vw_C) (tys : List (ClassId × FieldType)) (A : Nat → Prop) (cc : ByteArray) (nL : Nat) (own : String) (Ts : List Cond) : Prop := (p.tables.exec = Jvm.exec ∧ c.code = cc ∧ c.maxLocals = nL ∧ s.vm.findClass own = some m.cls ∧ (∀ w ∈ Ts, w.before args s = true)) ∧ va_K D cl tys s ∧ NXA s ∧ (∀ q, s.heap.size ≤ q → A q) ∧ True
section LL
variable {p : Program} {l : Launch} {e : Env} {R : Room} {s : State} {m : MethodId} {args : Array Value} {below : List Frame} {meth : Method} {c : Code} {D : va_G} {cl : List vw_C} {tys : List (ClassId × FieldType)} {A : Nat → Prop} {Q : State → Prop} {nL : Nat} {cc : ByteArray} {own : String} {Ts : List Cond} {pc : Nat} {lv lv' : List (Nat × Value)} {st : List Value} {ws ws' : va_W} {k n : Nat}
theorem L_iconst (C : CL p s m args c D cl tys A cc nL own Ts) {n0 : Int} {v : Int32} (hdg : decode cc pc = .ok (.iconst n0, 1)) (hv : Int32.ofInt n0 = v) (kk : GV p l e R s m args below meth c D cl A Q nL (pc + 1) lv (.int v :: st) ws k n) : GV p l e R s m args below meth c D cl A Q nL pc lv (st) ws k n := by
  intro H locs ls hP hD hS hl
  exact lv_iconst C.1.1 C.1.2.1 hdg hv (kk H locs ls hP hD hS hl)
theorem L_bipush (C : CL p s m args c D cl tys A cc nL own Ts) {n0 : Int} {v : Int32} (hdg : decode cc pc = .ok (.bipush n0, 2)) (hv : (Int8.ofInt n0).toInt32 = v) (kk : GV p l e R s m args below meth c D cl A Q nL (pc + 2) lv (.int v :: st) ws k n) : GV p l e R s m args below meth c D cl A Q nL pc lv (st) ws k n := by
  intro H locs ls hP hD hS hl
  exact lv_bipush C.1.1 C.1.2.1 hdg hv (kk H locs ls hP hD hS hl)
theorem L_dup (C : CL p s m args c D cl tys A cc nL own Ts) {v : Value} (hdg : decode cc pc = .ok (.dup, 1)) (hv : v.category = 1) (kk : GV p l e R s m args below meth c D cl A Q nL (pc + 1) lv (v :: v :: st) ws k n) : GV p l e R s m args below meth c D cl A Q nL pc lv (v :: st) ws k n := by
  intro H locs ls hP hD hS hl
  exact lv_dup C.1.1 C.1.2.1 hdg hv (kk H locs ls hP hD hS hl)
theorem L_astore_n (C : CL p s m args c D cl tys A cc nL own Ts) {k0 : Fin 4} {x : Nat} (hdg : decode cc pc = .ok (.astore_n k0, 1)) (hn : (k0 : Nat) < nL) (hlv : ((k0 : Nat), Value.ref x) :: lv.filter (fun q => !(q.1 == (k0 : Nat)) && !(q.1 + 1 == (k0 : Nat) && q.2.category == 2)) = lv') (kk : GV p l e R s m args below meth c D cl A Q nL (pc + 1) lv' st ws k n) : GV p l e R s m args below meth c D cl A Q nL pc lv (Value.ref x :: st) ws k n := by
  intro H locs ls hP hD hS hl
  exact lv_astore_n C.1.1 C.1.2.1 hdg rfl hl hn hlv (fun ls' hl' => kk H locs ls' hP hD hS hl')
theorem L_new (C : CL p s m args c D cl tys A cc nL own Ts) {cls : String} {T : u_T} {N ci index : Nat} (hin : ∀ w ∈ u_ws cls T N, w ∈ Ts) (ty0 : Nat → FieldType) (hty : ∀ k, k < N → parseFieldDescriptor (T k).2.2.1 = some (ty0 k)) (hlink : Cond.classLink own index cls ∈ Ts) (hinst : Cond.instantiable cls N ∈ Ts) (hini : Cond.initialized cls ∈ Ts) (hc : cl[ci]? = some (cls, T, N)) (fs : List Value) (hfs : ∀ j, j < N → defaultValue (ty0 j) = vp_V fs j) (h1 : k + 1 ≤ R.cells) (h2 : n + N ≤ R.slots) (hdg : decode cc pc = .ok (.new index, 3)) (kk : ∀ q : Nat, GV p l e R s m args below meth c D cl A Q nL (pc + 3) lv (.ref q :: st) (ws ++ [(q, .inr (ci, fs))]) (k + 1) (n + N)) : GV p l e R s m args below meth c D cl A Q nL pc lv st ws k n := by
  intro H locs ls hP hD hS hl
  exact va_new C.1.1 C.1.2.1 C.1.2.2.2.2 hin ty0 hty C.1.2.2.2.1 (C.1.2.2.2.2 _ hlink) (C.1.2.2.2.2 _ hinst) (C.1.2.2.2.2 _ hini) C.2.1 hP hD hS C.2.2.2.1 hc hfs h1 h2 hdg (fun q H1 hP1 hD1 hS1 => kk q H1 locs ls hP1 hD1 hS1 hl)
theorem L_newi (C : CL p s m args c D cl tys A cc nL own Ts) (t0 N : Nat) {cA : ClassId} {x : Int32} (ht : tys[t0]? = some (cA, .int)) (harr : Cond.arrayClass .int ∈ Ts) (hx : ¬ x < 0) (hN : x.toNatClampNeg = N) (hb : N * componentBytes .int ≤ 536870912) (h1 : k + 1 ≤ R.cells) (h2 : n + N ≤ R.slots) (hdg : decode cc pc = .ok (.newarray .int, 2)) (kk : ∀ q : Nat, GV p l e R s m args below meth c D cl A Q nL (pc + 2) lv (.ref q :: st) (ws ++ [(q, .inl (cA, N, .inl (fun _ => 0)))]) (k + 1) (n + N)) : GV p l e R s m args below meth c D cl A Q nL pc lv (.int x :: st) ws k n := by
  intro H locs ls hP hD hS hl
  refine va_newa C.1.1 C.1.2.1 (atype := .int) (C.1.2.2.2.2 _ harr) rfl C.2.1 hP hD hS C.2.2.2.1 (a0 := (N, .inl (fun _ => 0))) (fun cA => rfl) hx hN hb h1 h2 hdg (fun q cB H1 hK1 hP1 hD1 hS1 => ?_)
  have hcB : cB = cA := va_RA_u (hK1.last) (C.2.1.2 t0 _ ht).2
  subst hcB
  exact kk q H1 locs ls hP1 hD1 hS1 hl
theorem L_cI (C : CL p s m args c D cl tys A cc nL own Ts) {α : Type} {post : α → Prop} {w1 : α → va_W} {pre : va_W} {a ci : Nat} {fs : List Value} {y : MethodName} {bytes : ByteArray} {maxL index : Nat} {wy : List Cond} {rm : Room} {mc ms : Nat} (hM : ∀ sz, Met l y wy rm (va_Pc [.ref a] (IniP D cl tys a ci fs sz)) (va_Qv post (IniB D cl w1 (AF a sz)) (AF a sz)) mc ms (AF a sz)) (cw : CallB R s args own index y bytes maxL none wy rm mc ms 0 ∧ y.name = "<init>" ∧ (Cond.instanceMethod y).before args s = true) (hW : (st.map fun v => v.category).sum ≤ 8) (h1 : k + mc ≤ R.cells) (h2 : n + ms ≤ R.slots) (hdg : decode cc pc = .ok (.invokespecial index, 3)) (kk : ∀ u : α, post u → GV p l e R s m args below meth c D cl A Q nL (pc + 3) lv st (pre ++ w1 u) (k + mc) (n + ms)) : GV p l e R s m args below meth c D cl A Q nL pc lv (.ref a :: st) (pre ++ [(a, .inr (ci, fs))]) k n := by
  intro H locs ls hP hD hS hl
  have hlast : (pre ++ [(a, (Sum.inr (ci, fs) : va_E))])[pre.length]? = some (a, .inr (ci, fs)) := by simp
  have hpre : ∀ (i : Nat) (q : Nat × va_E), pre[i]? = some q → (pre ++ [(a, (Sum.inr (ci, fs) : va_E))])[i]? = some q := fun i q h => by
    rw [List.getElem?_append_left (List.getElem?_eq_some_iff.mp h).1]
    exact h
  have hP0 : va_P D cl pre H := fun i q h => hP i q (hpre i q h)
  have hPa : va_P D cl [(a, .inr (ci, fs))] H := fun i q h => by
    have hi : i = 0 := by
      have := (List.getElem?_eq_some_iff.mp h).1
      simp at this
      omega
    subst hi
    cases h
    exact hP _ _ hlast
  have haA : A a := hD.2 _ _ hlast
  have hFA : ∀ q, AF a H.size q → A q := fun q h => by
    rcases h with rfl | h
    · exact haA
    · exact C.2.2.2.1 q (Nat.le_trans hS.1 h)
  have hap : ∀ (i : Nat) (q : Nat × va_E), pre[i]? = some q → ¬ AF a H.size q.1 := fun i q h hq => by
    rcases hq with hq | hq
    · have := hD.1 i pre.length q (a, .inr (ci, fs)) (hpre i q h) hlast hq
      have := (List.getElem?_eq_some_iff.mp h).1
      omega
    · have := (hP0 i q h).lt
      omega
  refine va_callv (va_runI (As := []) (rest := st) C.1 (hM H.size) cw ⟨IniP.blind, fun U hU hW => ⟨rfl, by rw [hU], by rw [hU]; exact hPa, va_K.moved hW.alike C.2.1, NXA.warm hW C.2.2.1⟩⟩ rfl rfl hl.1 rfl (lv_room hW) hdg ⟨h1, h2⟩) hS (fun q _ h => hFA q h) hFA (fun u t H1 locs1 ht hvm hw hB hz1 hk1 hS1 => ?_)
  obtain ⟨hP1, hD1⟩ := hB
  rw [ht] at hP1
  have hP01 : va_P D cl pre H1 := hP0.kept (fun i q h => hk1 q.1 ((hP0 i q h).lt) (hap i q h))
  have hD0 : va_D A pre := ⟨fun i j x y hx hy he => hD.1 i j x y (hpre i x hx) (hpre j y hy) he, fun i q h => hD.2 i q (hpre i q h)⟩
  refine kk u hw H1 locs1 ls (hP01.app hP1) (va_D.app hD0 (hD1.weaken (fun _ q _ h => hFA q.1 h)) (fun i j x y hx hy he => hap i x hx (he ▸ hD1.2 j y hy))) hS1 hl
theorem L_astore (C : CL p s m args c D cl tys A cc nL own Ts) {k0 x : Nat} (hdg : decode cc pc = .ok (.astore k0, 2)) (hn : k0 < nL) (hlv : (k0, Value.ref x) :: lv.filter (fun q => !(q.1 == k0) && !(q.1 + 1 == k0 && q.2.category == 2)) = lv') (kk : GV p l e R s m args below meth c D cl A Q nL (pc + 2) lv' st ws k n) : GV p l e R s m args below meth c D cl A Q nL pc lv (Value.ref x :: st) ws k n := by
  intro H locs ls hP hD hS hl
  exact lv_astore C.1.1 C.1.2.1 hdg hl hn hlv (fun ls' hl' => kk H locs ls' hP hD hS hl')
end LL
/-- the law's three arrays beside the class's objects -/
def adL (ad : Oid → Nat) (q1 q2 q3 : Nat) : Oid → Nat := fun o => if o.1 = 16 then q1 else if o.1 = 17 then q2 else if o.1 = 18 then q3 else ad o
def mL (σ : Mem) : Mem := fun o => if 16 ≤ o.1 then fun _ => 0 else σ o
theorem ids0_lo : ∀ o ∈ idsX0, o.1 ≤ 15 := by decide +kernel
theorem ceX_law (tc : Nat → ClassId) (ad : Oid → Nat) (q1 q2 q3 : Nat) (o : Oid) (ho : o.1 ≤ 15) (f : Nat → Int32) : ceX tc (adL ad q1 q2 q3) o f = ceX tc ad o f := by
  obtain ⟨k, j, i⟩ := o
  have hk : k ≤ 15 := ho
  rcases (by omega : k = 0 ∨ k = 1 ∨ k = 2 ∨ k = 3 ∨ k = 4 ∨ k = 5 ∨ k = 6 ∨ k = 7 ∨ k = 8 ∨ k = 9 ∨ k = 10 ∨ k = 11 ∨ k = 12 ∨ k = 13 ∨ k = 14 ∨ k = 15) with rfl | rfl | rfl | rfl | rfl | rfl | rfl | rfl | rfl | rfl | rfl | rfl | rfl | rfl | rfl | rfl <;> rfl
theorem wl_law (tc : Nat → ClassId) (ad : Oid → Nat) (σ : Mem) (q1 q2 q3 : Nat) : wl idsX (adL ad q1 q2 q3) (ceX tc (adL ad q1 q2 q3)) (mL σ) = ((wl idsX0 ad (ceX tc ad) σ ++ [(q1, .inl (tc 0, 32, .inl (fun _ => 0)))]) ++ [(q2, .inl (tc 0, 64, .inl (fun _ => 0)))]) ++ [(q3, .inl (tc 0, 4, .inl (fun _ => 0)))] := by
  have e : idsX0.map (fun o => (adL ad q1 q2 q3 o, ceX tc (adL ad q1 q2 q3) o (mL σ o))) = idsX0.map (fun o => (ad o, ceX tc ad o (σ o))) := by
    apply List.map_congr_left
    intro o ho
    have hlo := ids0_lo o ho
    have e1 : adL ad q1 q2 q3 o = ad o := by
      unfold adL
      rw [if_neg (by omega), if_neg (by omega), if_neg (by omega)]
    have e2 : mL σ o = σ o := if_neg (by omega)
    rw [e1, e2, ceX_law tc ad q1 q2 q3 o hlo]
  unfold idsX wl
  rw [List.map_append, e, List.append_assoc, List.append_assoc]
  rfl
