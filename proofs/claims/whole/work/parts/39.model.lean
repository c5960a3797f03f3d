/-! PART 39 (written by wip/whole/gen39.py): the constructors of the reference and of the class -/
def wM (tc : Nat → ClassId) (a q1 q2 q3 q4 q5 q6 q7 q8 q9 q10 : Nat) (f : Nat → Int32) : va_W := [(a, .inr (6, [.ref q1, .ref q2, .ref q3, .ref q4, .ref q5, .int 0, .ref q6, .ref q7, .ref q8, .ref q9, .int 0, .ref q10])), (q1, .inl (tc 0, 214, .inl f)), (q2, .inl (tc 0, 214, .inl (fun _ => 0))), (q3, .inl (tc 0, 428, .inl (fun _ => 0))), (q4, .inl (tc 1, 2, .inl (fun _ => 0))), (q5, .inl (tc 0, 100, .inl (fun _ => 0))), (q6, .inl (tc 0, 12, .inl (fun _ => 0))), (q7, .inl (tc 0, 12, .inl (fun _ => 0))), (q8, .inl (tc 0, 10, .inl (fun _ => 0))), (q9, .inl (tc 0, 10, .inl (fun _ => 0))), (q10, .inl (tc 0, 3, .inl (fun _ => 0)))]
set_option maxHeartbeats 4000000 in
set_option maxRecDepth 100000 in
theorem K_X6_l {p : Program} {l : Launch} {e : Env} {s : State} {m : MethodId} {below : List Frame} {meth : Method} {c : Code} {D : va_G} {tc : Nat → ClassId} {a sz : Nat} {Q : State → Prop} {q1 q2 q3 q4 q5 q6 q7 q8 q9 q10 : Nat} {f : Nat → Int32} (C : CG p s m #[.ref a] meth c D vwCl (tysX tc) (AF a sz) cX6_init 2 RX6 wsX6_init) (hE : GV p l e (headSpec wsX6_init ({ frames := 1, cells := 10, slots := 1005, locals := 13 })).room s m #[.ref a] below meth c D vwCl (AF a sz) Q 2 134 [(1, .int (nI 24)), (0, .ref a)] [] (wM tc a q1 q2 q3 q4 q5 q6 q7 q8 q9 q10 (fun i => if 12 ≤ i ∧ i < 12 + 24 then 100 else f i)) 10 1005) : ∀ (r k : Nat), k + r = 24 → GV p l e (headSpec wsX6_init ({ frames := 1, cells := 10, slots := 1005, locals := 13 })).room s m #[.ref a] below meth c D vwCl (AF a sz) Q 2 111 [(1, .int (nI k)), (0, .ref a)] [] (wM tc a q1 q2 q3 q4 q5 q6 q7 q8 q9 q10 (fun i => if 12 ≤ i ∧ i < 12 + k then 100 else f i)) 10 1005 := by
  have uX6 : ∀ w ∈ u_ws RX6 TX6 12, w ∈ wsX6_init := by decide +kernel
  intro r
  induction r with
  | zero =>
    intro k hk
    have : k = 24 := by omega
    subst this
    refine G_iload_n C dX6_init_111 0 rfl ?_
    refine G_bipush (v := nI 24) C dX6_init_112 cb_24 ?_
    exact G_icmp_ge (tgt := 134) C dX6_init_114 rfl (fun _ => hE) (fun h => absurd ((nI_leI (by decide) (by decide)).mpr (Nat.le_refl _)) h)
  | succ r ih =>
    intro k hk
    refine G_iload_n C dX6_init_111 0 rfl ?_
    refine G_bipush (v := nI 24) C dX6_init_112 cb_24 ?_
    refine G_icmp_ge (tgt := 134) C dX6_init_114 rfl (fun h => absurd ((nI_leI (by decide) (by omega)).mp h) (by omega)) (fun _ => ?_)
    refine G_aload_n C dX6_init_117 1 rfl ?_
    refine G_get C 0 (a := a) (ci := 6) rfl uX6 rfl 0 (by decide) rfl (List.mem_of_getElem? (i := 5) rfl) dX6_init_118 ?_
    refine G_bipush (v := nI 12) C dX6_init_121 cb_12 ?_
    refine G_iload_n C dX6_init_123 0 rfl ?_
    refine G_iadd C dX6_init_124 ?_
    refine G_bipush (v := 100) C dX6_init_125 cb_100 ?_
    refine G_iast C 1 0 (a := q1) (cA := tc 0) (N := 214) (f := fun i => if 12 ≤ i ∧ i < 12 + k then 100 else f i) rfl rfl (i := nI 12 + nI k) (by rw [nI_add]; exact vp_in_nI (by omega) (by decide)) (ws' := wM tc a q1 q2 q3 q4 q5 q6 q7 q8 q9 q10 (fun i => if 12 ≤ i ∧ i < 12 + (k + 1) then 100 else f i)) ?_ dX6_init_127 ?_
    · rw [nI_add, nI_clamp (by omega)]
      have e : upd (fun i => if 12 ≤ i ∧ i < 12 + k then (100 : Int32) else f i) (12 + k) 100 = fun i => if 12 ≤ i ∧ i < 12 + (k + 1) then 100 else f i := by
        funext i
        show (if i = 12 + k then (100 : Int32) else if 12 ≤ i ∧ i < 12 + k then 100 else f i) = _
        by_cases h : i = 12 + k
        · rw [if_pos h, if_pos (by omega)]
        · rw [if_neg h]
          by_cases h2 : 12 ≤ i ∧ i < 12 + k
          · rw [if_pos h2, if_pos (by omega)]
          · rw [if_neg h2, if_neg (by omega)]
      rw [e]
      rfl
    refine G_iinc (v := nI (k + 1)) C dX6_init_128 0 rfl (by rw [ci_1, nI_1]) (by decide) rfl ?_
    refine G_goto (tgt := 111) C dX6_init_131 rfl ?_
    exact ih (k + 1) (by omega)
def adM (a q1 q2 q3 q4 q5 q6 q7 q8 q9 q10 : Nat) : Oid → Nat := fun o => if o.1 = 0 then a else if o.1 = 1 then q1 else if o.1 = 2 then q2 else if o.1 = 3 then q3 else if o.1 = 4 then q4 else if o.1 = 5 then q5 else if o.1 = 6 then q6 else if o.1 = 7 then q7 else if o.1 = 8 then q8 else if o.1 = 9 then q9 else q10
def rmem (f : Nat → Int32) : Mem := fun o k => if o.1 = 1 then f k else 0
set_option maxHeartbeats 4000000 in
set_option maxRecDepth 100000 in
theorem K_X6 (l : Launch) (D : va_G) (tc : Nat → ClassId) (a sz : Nat) : Met l yX6_init wsX6_init ({ frames := 1, cells := 10, slots := 1005, locals := 13 }) (va_Pc [.ref a] (IniP D vwCl (tysX tc) a 6 [.null, .null, .null, .null, .null, .int 0, .null, .null, .null, .null, .int 0, .null] sz)) (va_Qv (fun u : (Oid → Nat) × Mem => u.1 (0, 0, 0) = a ∧ ∀ (ds : Nat → Dst) (t : Nat → Nat), WM u.2 d0 (fun _ => 0) ds 0 t) (IniB D vwCl (fun u => wl idsM u.1 (ceM tc u.1) u.2) (AF a sz)) (AF a sz)) 10 1005 (AF a sz) := by
  refine G_met (cc := cX6_init) (own := RX6) (maxL := 2) rfl rfl (by decide) rfl (Nat.le_of_ble_eq_true rfl) ?_
  intro p e s m below meth c C hr hlocks
  have uX6 : ∀ w ∈ u_ws RX6 TX6 12, w ∈ wsX6_init := by decide +kernel
  refine G_aload_n C dX6_init_0 0 rfl ?_
  refine G_obj C (List.mem_of_getElem? (i := 1) rfl) (List.mem_of_getElem? (i := 2) rfl) (List.mem_of_getElem? (i := 3) rfl) (Nat.le_of_ble_eq_true rfl) (Nat.le_of_ble_eq_true rfl) dX6_init_1 ?_
  refine G_aload_n C dX6_init_4 0 rfl ?_
  refine G_sipush (v := 214) C dX6_init_5 (by decide +kernel) ?_
  refine G_newi C 0 214 rfl (List.mem_of_getElem? (i := 4) rfl) (by decide) (by decide) (by decide) (Nat.le_of_ble_eq_true rfl) (Nat.le_of_ble_eq_true rfl) dX6_init_8 (fun q1 => ?_)
  refine G_ws (ws' := [(a, .inr (6, [.null, .null, .null, .null, .null, .int 0, .null, .null, .null, .null, .int 0, .null])), (q1, .inl (tc 0, 214, .inl (fun _ => 0)))]) rfl ?_
  refine G_putF C 0 (ws' := [(a, .inr (6, [.ref q1, .null, .null, .null, .null, .int 0, .null, .null, .null, .null, .int 0, .null])), (q1, .inl (tc 0, 214, .inl (fun _ => 0)))]) rfl uX6 tyX6 tyX6_ok nmX6 (ci := 6) rfl 0 (by decide) (List.mem_of_getElem? (i := 5) rfl) rfl rfl (ty := .array .int) (by decide +kernel) rfl rfl (Nat.le_of_ble_eq_true rfl) rfl dX6_init_10 ?_
  refine G_aload_n C dX6_init_13 0 rfl ?_
  refine G_sipush (v := 214) C dX6_init_14 (by decide +kernel) ?_
  refine G_newi C 0 214 rfl (List.mem_of_getElem? (i := 4) rfl) (by decide) (by decide) (by decide) (Nat.le_of_ble_eq_true rfl) (Nat.le_of_ble_eq_true rfl) dX6_init_17 (fun q2 => ?_)
  refine G_ws (ws' := [(a, .inr (6, [.ref q1, .null, .null, .null, .null, .int 0, .null, .null, .null, .null, .int 0, .null])), (q1, .inl (tc 0, 214, .inl (fun _ => 0))), (q2, .inl (tc 0, 214, .inl (fun _ => 0)))]) rfl ?_
  refine G_putF C 0 (ws' := [(a, .inr (6, [.ref q1, .ref q2, .null, .null, .null, .int 0, .null, .null, .null, .null, .int 0, .null])), (q1, .inl (tc 0, 214, .inl (fun _ => 0))), (q2, .inl (tc 0, 214, .inl (fun _ => 0)))]) rfl uX6 tyX6 tyX6_ok nmX6 (ci := 6) rfl 1 (by decide) (List.mem_of_getElem? (i := 6) rfl) rfl rfl (ty := .array .int) (by decide +kernel) rfl rfl (Nat.le_of_ble_eq_true rfl) rfl dX6_init_19 ?_
  refine G_aload_n C dX6_init_22 0 rfl ?_
  refine G_sipush (v := 428) C dX6_init_23 (by decide +kernel) ?_
  refine G_newi C 0 428 rfl (List.mem_of_getElem? (i := 4) rfl) (by decide) (by decide) (by decide) (Nat.le_of_ble_eq_true rfl) (Nat.le_of_ble_eq_true rfl) dX6_init_26 (fun q3 => ?_)
  refine G_ws (ws' := [(a, .inr (6, [.ref q1, .ref q2, .null, .null, .null, .int 0, .null, .null, .null, .null, .int 0, .null])), (q1, .inl (tc 0, 214, .inl (fun _ => 0))), (q2, .inl (tc 0, 214, .inl (fun _ => 0))), (q3, .inl (tc 0, 428, .inl (fun _ => 0)))]) rfl ?_
  refine G_putF C 0 (ws' := [(a, .inr (6, [.ref q1, .ref q2, .ref q3, .null, .null, .int 0, .null, .null, .null, .null, .int 0, .null])), (q1, .inl (tc 0, 214, .inl (fun _ => 0))), (q2, .inl (tc 0, 214, .inl (fun _ => 0))), (q3, .inl (tc 0, 428, .inl (fun _ => 0)))]) rfl uX6 tyX6 tyX6_ok nmX6 (ci := 6) rfl 2 (by decide) (List.mem_of_getElem? (i := 7) rfl) rfl rfl (ty := .array .int) (by decide +kernel) rfl rfl (Nat.le_of_ble_eq_true rfl) rfl dX6_init_28 ?_
  refine G_aload_n C dX6_init_31 0 rfl ?_
  refine G_iconst (v := 2) C dX6_init_32 ci_2 ?_
  refine G_newz C 1 2 rfl (List.mem_of_getElem? (i := 8) rfl) (by decide) (by decide) (by decide) (Nat.le_of_ble_eq_true rfl) (Nat.le_of_ble_eq_true rfl) dX6_init_33 (fun q4 => ?_)
  refine G_ws (ws' := [(a, .inr (6, [.ref q1, .ref q2, .ref q3, .null, .null, .int 0, .null, .null, .null, .null, .int 0, .null])), (q1, .inl (tc 0, 214, .inl (fun _ => 0))), (q2, .inl (tc 0, 214, .inl (fun _ => 0))), (q3, .inl (tc 0, 428, .inl (fun _ => 0))), (q4, .inl (tc 1, 2, .inl (fun _ => 0)))]) rfl ?_
  refine G_putF C 0 (ws' := [(a, .inr (6, [.ref q1, .ref q2, .ref q3, .ref q4, .null, .int 0, .null, .null, .null, .null, .int 0, .null])), (q1, .inl (tc 0, 214, .inl (fun _ => 0))), (q2, .inl (tc 0, 214, .inl (fun _ => 0))), (q3, .inl (tc 0, 428, .inl (fun _ => 0))), (q4, .inl (tc 1, 2, .inl (fun _ => 0)))]) rfl uX6 tyX6 tyX6_ok nmX6 (ci := 6) rfl 3 (by decide) (List.mem_of_getElem? (i := 9) rfl) rfl rfl (ty := .array .boolean) (by decide +kernel) rfl rfl (Nat.le_of_ble_eq_true rfl) rfl dX6_init_35 ?_
  refine G_aload_n C dX6_init_38 0 rfl ?_
  refine G_bipush (v := 100) C dX6_init_39 cb_100 ?_
  refine G_newi C 0 100 rfl (List.mem_of_getElem? (i := 4) rfl) (by decide) (by decide) (by decide) (Nat.le_of_ble_eq_true rfl) (Nat.le_of_ble_eq_true rfl) dX6_init_41 (fun q5 => ?_)
  refine G_ws (ws' := [(a, .inr (6, [.ref q1, .ref q2, .ref q3, .ref q4, .null, .int 0, .null, .null, .null, .null, .int 0, .null])), (q1, .inl (tc 0, 214, .inl (fun _ => 0))), (q2, .inl (tc 0, 214, .inl (fun _ => 0))), (q3, .inl (tc 0, 428, .inl (fun _ => 0))), (q4, .inl (tc 1, 2, .inl (fun _ => 0))), (q5, .inl (tc 0, 100, .inl (fun _ => 0)))]) rfl ?_
  refine G_putF C 0 (ws' := [(a, .inr (6, [.ref q1, .ref q2, .ref q3, .ref q4, .ref q5, .int 0, .null, .null, .null, .null, .int 0, .null])), (q1, .inl (tc 0, 214, .inl (fun _ => 0))), (q2, .inl (tc 0, 214, .inl (fun _ => 0))), (q3, .inl (tc 0, 428, .inl (fun _ => 0))), (q4, .inl (tc 1, 2, .inl (fun _ => 0))), (q5, .inl (tc 0, 100, .inl (fun _ => 0)))]) rfl uX6 tyX6 tyX6_ok nmX6 (ci := 6) rfl 4 (by decide) (List.mem_of_getElem? (i := 10) rfl) rfl rfl (ty := .array .int) (by decide +kernel) rfl rfl (Nat.le_of_ble_eq_true rfl) rfl dX6_init_43 ?_
  refine G_aload_n C dX6_init_46 0 rfl ?_
  refine G_bipush (v := 12) C dX6_init_47 cb_12 ?_
  refine G_newi C 0 12 rfl (List.mem_of_getElem? (i := 4) rfl) (by decide) (by decide) (by decide) (Nat.le_of_ble_eq_true rfl) (Nat.le_of_ble_eq_true rfl) dX6_init_49 (fun q6 => ?_)
  refine G_ws (ws' := [(a, .inr (6, [.ref q1, .ref q2, .ref q3, .ref q4, .ref q5, .int 0, .null, .null, .null, .null, .int 0, .null])), (q1, .inl (tc 0, 214, .inl (fun _ => 0))), (q2, .inl (tc 0, 214, .inl (fun _ => 0))), (q3, .inl (tc 0, 428, .inl (fun _ => 0))), (q4, .inl (tc 1, 2, .inl (fun _ => 0))), (q5, .inl (tc 0, 100, .inl (fun _ => 0))), (q6, .inl (tc 0, 12, .inl (fun _ => 0)))]) rfl ?_
  refine G_putF C 0 (ws' := [(a, .inr (6, [.ref q1, .ref q2, .ref q3, .ref q4, .ref q5, .int 0, .ref q6, .null, .null, .null, .int 0, .null])), (q1, .inl (tc 0, 214, .inl (fun _ => 0))), (q2, .inl (tc 0, 214, .inl (fun _ => 0))), (q3, .inl (tc 0, 428, .inl (fun _ => 0))), (q4, .inl (tc 1, 2, .inl (fun _ => 0))), (q5, .inl (tc 0, 100, .inl (fun _ => 0))), (q6, .inl (tc 0, 12, .inl (fun _ => 0)))]) rfl uX6 tyX6 tyX6_ok nmX6 (ci := 6) rfl 6 (by decide) (List.mem_of_getElem? (i := 11) rfl) rfl rfl (ty := .array .int) (by decide +kernel) rfl rfl (Nat.le_of_ble_eq_true rfl) rfl dX6_init_51 ?_
  refine G_aload_n C dX6_init_54 0 rfl ?_
  refine G_bipush (v := 12) C dX6_init_55 cb_12 ?_
  refine G_newi C 0 12 rfl (List.mem_of_getElem? (i := 4) rfl) (by decide) (by decide) (by decide) (Nat.le_of_ble_eq_true rfl) (Nat.le_of_ble_eq_true rfl) dX6_init_57 (fun q7 => ?_)
  refine G_ws (ws' := [(a, .inr (6, [.ref q1, .ref q2, .ref q3, .ref q4, .ref q5, .int 0, .ref q6, .null, .null, .null, .int 0, .null])), (q1, .inl (tc 0, 214, .inl (fun _ => 0))), (q2, .inl (tc 0, 214, .inl (fun _ => 0))), (q3, .inl (tc 0, 428, .inl (fun _ => 0))), (q4, .inl (tc 1, 2, .inl (fun _ => 0))), (q5, .inl (tc 0, 100, .inl (fun _ => 0))), (q6, .inl (tc 0, 12, .inl (fun _ => 0))), (q7, .inl (tc 0, 12, .inl (fun _ => 0)))]) rfl ?_
  refine G_putF C 0 (ws' := [(a, .inr (6, [.ref q1, .ref q2, .ref q3, .ref q4, .ref q5, .int 0, .ref q6, .ref q7, .null, .null, .int 0, .null])), (q1, .inl (tc 0, 214, .inl (fun _ => 0))), (q2, .inl (tc 0, 214, .inl (fun _ => 0))), (q3, .inl (tc 0, 428, .inl (fun _ => 0))), (q4, .inl (tc 1, 2, .inl (fun _ => 0))), (q5, .inl (tc 0, 100, .inl (fun _ => 0))), (q6, .inl (tc 0, 12, .inl (fun _ => 0))), (q7, .inl (tc 0, 12, .inl (fun _ => 0)))]) rfl uX6 tyX6 tyX6_ok nmX6 (ci := 6) rfl 7 (by decide) (List.mem_of_getElem? (i := 12) rfl) rfl rfl (ty := .array .int) (by decide +kernel) rfl rfl (Nat.le_of_ble_eq_true rfl) rfl dX6_init_59 ?_
  refine G_aload_n C dX6_init_62 0 rfl ?_
  refine G_bipush (v := 10) C dX6_init_63 cb_10 ?_
  refine G_newi C 0 10 rfl (List.mem_of_getElem? (i := 4) rfl) (by decide) (by decide) (by decide) (Nat.le_of_ble_eq_true rfl) (Nat.le_of_ble_eq_true rfl) dX6_init_65 (fun q8 => ?_)
  refine G_ws (ws' := [(a, .inr (6, [.ref q1, .ref q2, .ref q3, .ref q4, .ref q5, .int 0, .ref q6, .ref q7, .null, .null, .int 0, .null])), (q1, .inl (tc 0, 214, .inl (fun _ => 0))), (q2, .inl (tc 0, 214, .inl (fun _ => 0))), (q3, .inl (tc 0, 428, .inl (fun _ => 0))), (q4, .inl (tc 1, 2, .inl (fun _ => 0))), (q5, .inl (tc 0, 100, .inl (fun _ => 0))), (q6, .inl (tc 0, 12, .inl (fun _ => 0))), (q7, .inl (tc 0, 12, .inl (fun _ => 0))), (q8, .inl (tc 0, 10, .inl (fun _ => 0)))]) rfl ?_
  refine G_putF C 0 (ws' := [(a, .inr (6, [.ref q1, .ref q2, .ref q3, .ref q4, .ref q5, .int 0, .ref q6, .ref q7, .ref q8, .null, .int 0, .null])), (q1, .inl (tc 0, 214, .inl (fun _ => 0))), (q2, .inl (tc 0, 214, .inl (fun _ => 0))), (q3, .inl (tc 0, 428, .inl (fun _ => 0))), (q4, .inl (tc 1, 2, .inl (fun _ => 0))), (q5, .inl (tc 0, 100, .inl (fun _ => 0))), (q6, .inl (tc 0, 12, .inl (fun _ => 0))), (q7, .inl (tc 0, 12, .inl (fun _ => 0))), (q8, .inl (tc 0, 10, .inl (fun _ => 0)))]) rfl uX6 tyX6 tyX6_ok nmX6 (ci := 6) rfl 8 (by decide) (List.mem_of_getElem? (i := 13) rfl) rfl rfl (ty := .array .int) (by decide +kernel) rfl rfl (Nat.le_of_ble_eq_true rfl) rfl dX6_init_67 ?_
  refine G_aload_n C dX6_init_70 0 rfl ?_
  refine G_bipush (v := 10) C dX6_init_71 cb_10 ?_
  refine G_newi C 0 10 rfl (List.mem_of_getElem? (i := 4) rfl) (by decide) (by decide) (by decide) (Nat.le_of_ble_eq_true rfl) (Nat.le_of_ble_eq_true rfl) dX6_init_73 (fun q9 => ?_)
  refine G_ws (ws' := [(a, .inr (6, [.ref q1, .ref q2, .ref q3, .ref q4, .ref q5, .int 0, .ref q6, .ref q7, .ref q8, .null, .int 0, .null])), (q1, .inl (tc 0, 214, .inl (fun _ => 0))), (q2, .inl (tc 0, 214, .inl (fun _ => 0))), (q3, .inl (tc 0, 428, .inl (fun _ => 0))), (q4, .inl (tc 1, 2, .inl (fun _ => 0))), (q5, .inl (tc 0, 100, .inl (fun _ => 0))), (q6, .inl (tc 0, 12, .inl (fun _ => 0))), (q7, .inl (tc 0, 12, .inl (fun _ => 0))), (q8, .inl (tc 0, 10, .inl (fun _ => 0))), (q9, .inl (tc 0, 10, .inl (fun _ => 0)))]) rfl ?_
  refine G_putF C 0 (ws' := [(a, .inr (6, [.ref q1, .ref q2, .ref q3, .ref q4, .ref q5, .int 0, .ref q6, .ref q7, .ref q8, .ref q9, .int 0, .null])), (q1, .inl (tc 0, 214, .inl (fun _ => 0))), (q2, .inl (tc 0, 214, .inl (fun _ => 0))), (q3, .inl (tc 0, 428, .inl (fun _ => 0))), (q4, .inl (tc 1, 2, .inl (fun _ => 0))), (q5, .inl (tc 0, 100, .inl (fun _ => 0))), (q6, .inl (tc 0, 12, .inl (fun _ => 0))), (q7, .inl (tc 0, 12, .inl (fun _ => 0))), (q8, .inl (tc 0, 10, .inl (fun _ => 0))), (q9, .inl (tc 0, 10, .inl (fun _ => 0)))]) rfl uX6 tyX6 tyX6_ok nmX6 (ci := 6) rfl 9 (by decide) (List.mem_of_getElem? (i := 14) rfl) rfl rfl (ty := .array .int) (by decide +kernel) rfl rfl (Nat.le_of_ble_eq_true rfl) rfl dX6_init_75 ?_
  refine G_aload_n C dX6_init_78 0 rfl ?_
  refine G_iconst (v := 3) C dX6_init_79 ci_3 ?_
  refine G_newi C 0 3 rfl (List.mem_of_getElem? (i := 4) rfl) (by decide) (by decide) (by decide) (Nat.le_of_ble_eq_true rfl) (Nat.le_of_ble_eq_true rfl) dX6_init_80 (fun q10 => ?_)
  refine G_ws (ws' := [(a, .inr (6, [.ref q1, .ref q2, .ref q3, .ref q4, .ref q5, .int 0, .ref q6, .ref q7, .ref q8, .ref q9, .int 0, .null])), (q1, .inl (tc 0, 214, .inl (fun _ => 0))), (q2, .inl (tc 0, 214, .inl (fun _ => 0))), (q3, .inl (tc 0, 428, .inl (fun _ => 0))), (q4, .inl (tc 1, 2, .inl (fun _ => 0))), (q5, .inl (tc 0, 100, .inl (fun _ => 0))), (q6, .inl (tc 0, 12, .inl (fun _ => 0))), (q7, .inl (tc 0, 12, .inl (fun _ => 0))), (q8, .inl (tc 0, 10, .inl (fun _ => 0))), (q9, .inl (tc 0, 10, .inl (fun _ => 0))), (q10, .inl (tc 0, 3, .inl (fun _ => 0)))]) rfl ?_
  refine G_putF C 0 (ws' := [(a, .inr (6, [.ref q1, .ref q2, .ref q3, .ref q4, .ref q5, .int 0, .ref q6, .ref q7, .ref q8, .ref q9, .int 0, .ref q10])), (q1, .inl (tc 0, 214, .inl (fun _ => 0))), (q2, .inl (tc 0, 214, .inl (fun _ => 0))), (q3, .inl (tc 0, 428, .inl (fun _ => 0))), (q4, .inl (tc 1, 2, .inl (fun _ => 0))), (q5, .inl (tc 0, 100, .inl (fun _ => 0))), (q6, .inl (tc 0, 12, .inl (fun _ => 0))), (q7, .inl (tc 0, 12, .inl (fun _ => 0))), (q8, .inl (tc 0, 10, .inl (fun _ => 0))), (q9, .inl (tc 0, 10, .inl (fun _ => 0))), (q10, .inl (tc 0, 3, .inl (fun _ => 0)))]) rfl uX6 tyX6 tyX6_ok nmX6 (ci := 6) rfl 11 (by decide) (List.mem_of_getElem? (i := 15) rfl) rfl rfl (ty := .array .int) (by decide +kernel) rfl rfl (Nat.le_of_ble_eq_true rfl) rfl dX6_init_82 ?_
  refine G_aload_n C dX6_init_85 0 rfl ?_
  refine G_get C 0 (a := a) (ci := 6) rfl uX6 rfl 0 (by decide) rfl (List.mem_of_getElem? (i := 5) rfl) dX6_init_86 ?_
  refine G_iconst (v := 1) C dX6_init_89 ci_1 ?_
  refine G_iconst (v := 1) C dX6_init_90 ci_1 ?_
  refine G_iast C 1 0 (a := q1) (cA := tc 0) (N := 214) (f := (fun _ => 0)) rfl rfl (i := 1) (by unfold vp_in; decide +kernel) (ws' := wM tc a q1 q2 q3 q4 q5 q6 q7 q8 q9 q10 (upd (fun _ => 0) 1 1)) (by rw [(by decide : ((1 : Int32)).toNatClampNeg = 1)]; rfl) dX6_init_91 ?_
  refine G_aload_n C dX6_init_92 0 rfl ?_
  refine G_get C 0 (a := a) (ci := 6) rfl uX6 rfl 0 (by decide) rfl (List.mem_of_getElem? (i := 5) rfl) dX6_init_93 ?_
  refine G_iconst (v := 4) C dX6_init_96 ci_4 ?_
  refine G_bipush (v := 30) C dX6_init_97 (by decide +kernel) ?_
  refine G_iast C 1 0 (a := q1) (cA := tc 0) (N := 214) (f := (upd (fun _ => 0) 1 1)) rfl rfl (i := 4) (by unfold vp_in; decide +kernel) (ws' := wM tc a q1 q2 q3 q4 q5 q6 q7 q8 q9 q10 (upd (upd (fun _ => 0) 1 1) 4 30)) (by rw [(by decide : ((4 : Int32)).toNatClampNeg = 4)]; rfl) dX6_init_99 ?_
  refine G_aload_n C dX6_init_100 0 rfl ?_
  refine G_get C 0 (a := a) (ci := 6) rfl uX6 rfl 0 (by decide) rfl (List.mem_of_getElem? (i := 5) rfl) dX6_init_101 ?_
  refine G_bipush (v := 50) C dX6_init_104 cb_50 ?_
  refine G_bipush (v := 100) C dX6_init_106 cb_100 ?_
  refine G_iast C 1 0 (a := q1) (cA := tc 0) (N := 214) (f := (upd (upd (fun _ => 0) 1 1) 4 30)) rfl rfl (i := 50) (by unfold vp_in; decide +kernel) (ws' := wM tc a q1 q2 q3 q4 q5 q6 q7 q8 q9 q10 (upd (upd (upd (fun _ => 0) 1 1) 4 30) 50 100)) (by rw [(by decide : ((50 : Int32)).toNatClampNeg = 50)]; rfl) dX6_init_108 ?_
  generalize hf : (upd (upd (upd (fun _ => 0) 1 1) 4 30) 50 100) = f
  refine G_iconst (v := 0) C dX6_init_109 ci_0 ?_
  refine G_istore_n (lv' := [(1, .int (nI 0)), (0, .ref a)]) C dX6_init_110 (by decide) rfl ?_
  refine G_ws (ws' := wM tc a q1 q2 q3 q4 q5 q6 q7 q8 q9 q10 (fun i => if 12 ≤ i ∧ i < 12 + 0 then 100 else f i)) ?_ ?_
  · congr 1
    funext i
    rw [if_neg (by omega)]
  refine K_X6_l C ?_ 24 0 rfl
  refine G_vret C hr hlocks dX6_init_134 (adM a q1 q2 q3 q4 q5 q6 q7 q8 q9 q10, rmem (fun i => if 12 ≤ i ∧ i < 12 + 24 then 100 else f i)) ⟨rfl, fun ds t => ?_⟩ rfl
  refine ⟨fun k hk => ?_, fun s hs => ⟨rfl, fun h => absurd (show (0 : Nat) = 1 from h) (by decide)⟩, rfl, fun i hi => absurd hi (Nat.not_lt_zero _)⟩
  show (if 12 ≤ k ∧ k < 12 + 24 then (100 : Int32) else f k) = nI (d0 k)
  rw [← hf]
  unfold d0 upd
  by_cases h : 12 ≤ k ∧ k < 36
  · rw [if_pos h, if_neg (by omega), if_neg (by omega), if_pos h]; rfl
  · rw [if_neg h, if_neg h]
    by_cases h1 : k = 1
    · subst h1; rfl
    · by_cases h4 : k = 4
      · subst h4; rfl
      · by_cases h5 : k = 50
        · subst h5; rfl
        · rw [if_neg h1, if_neg h4, if_neg h5, if_neg h1, if_neg h4, if_neg h5]; rfl
