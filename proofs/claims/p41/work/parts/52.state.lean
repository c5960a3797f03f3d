/-! PART 38 (written by wip/p41/gen38.py): the constructor of a state -/
def smem : Mem := fun o k => if o.1 = 7 ∧ k = 8 then 30 else 0
def d0 : Dst := fun k => if k = 1 then 1 else if k = 4 then 30 else if 12 ≤ k ∧ k < 36 then 100 else if k = 50 then 100 else 0
theorem ini_sup (j : Nat) {Q : Mem → Prop} (hQ : ∀ τ : Mem, (∀ o : Oid, o ≠ (11, j, 0) → τ o = smem o) → (∀ h, h < 24 → τ (11, j, 0) h = nI 100) → Q τ) : J_X2_putSupply j 0 24 100 smem Q := by
  unfold J_X2_putSupply
  rw [if_neg (by decide)]
  rintro _ rfl
  refine lpM 24 (by decide) (fun k τ' => (∀ o : Oid, o ≠ (11, j, 0) → τ' o = smem o) ∧ ∀ h, h < k → τ' (11, j, 0) h = nI 100) ⟨fun _ _ => rfl, fun h hh => absurd hh (Nat.not_lt_zero _)⟩ (fun k τ2 I μ hk hP next => ?_)
  obtain ⟨hf, hp⟩ := hP
  rw [fa_lit 24]
  refine br_le (by decide) (by omega) (fun q => ?_) (fun q => ?_)
  · have : k = 24 := by omega
    subst this
    exact hQ τ2 hf hp
  · refine br_le (by decide) (by omega) (fun z => absurd z (by omega)) (fun z => ⟨vp_in_nI (by omega) (by decide), ?_⟩)
    rw [nI_clamp (by omega)]
    rintro _ rfl _ rfl
    rw [nI_1]
    refine next q _ ⟨fun o ho => by rw [mup_ne _ _ _ ho]; exact hf o ho, fun h hh => ?_⟩
    rw [mup_at]
    by_cases w : h = k
    · rw [if_pos w]; rfl
    · rw [if_neg w]; exact hp h (by omega)
theorem ini_dit (j : Nat) {τ : Mem} (hf : ∀ o : Oid, o ≠ (11, j, 0) → τ o = smem o) (hs : ∀ h, h < 24 → τ (11, j, 0) h = nI 100) {Q : Mem → Prop} (hQ : ∀ τ' : Mem, (∀ o : Oid, 7 ≤ o.1 ∧ o.1 ≤ 14 ∧ o.2.1 = j ∨ τ' o = smem o) → RepX τ' j d0 → Q τ') : J_X2_putDitch j 0 100 0 τ Q := by
  have e7 : τ (7, j, 0) = smem (7, j, 0) := hf _ (oid_ne (by decide : (7 : Nat) ≠ 11))
  have s0 : ∀ o : Oid, o.1 ≠ 7 → smem o = fun _ => 0 := fun o ho => by
    funext k
    exact if_neg (fun h => ho h.1)
  have c5 : smem (7, j, 0) 5 = 0 := if_neg (fun h => absurd h.2 (by decide))
  have c6 : smem (7, j, 0) 6 = 0 := if_neg (fun h => absurd h.2 (by decide))
  have c7 : smem (7, j, 0) 7 = 0 := if_neg (fun h => absurd h.2 (by decide))
  have c8 : smem (7, j, 0) 8 = 30 := if_pos ⟨rfl, rfl⟩
  have c9 : smem (7, j, 0) 9 = 0 := if_neg (fun h => absurd h.2 (by decide))
  unfold J_X2_putDitch J_X2_hasRoomForDitch
  rw [e7, c5]
  refine i0 (by decide) (y1 ?_)
  rw [e7, c5]
  have ez : (0 : Int32).toNatClampNeg = 0 := by decide
  rw [ez]
  refine ⟨vp_in_nI (n := 0) (by decide) (by decide), ?_⟩
  unfold J_X0_begin
  rintro _ rfl _ rfl _ rfl
  rw [mup_k _ _ _ (by decide : (7 : Nat) ≠ 13), mup_k _ _ _ (by decide : (7 : Nat) ≠ 13), mup_k _ _ _ (by decide : (7 : Nat) ≠ 13), e7, c5]
  rintro _ rfl
  refine hQ _ (fun o => ?_) ⟨⟨?_, ?_, ?_, ?_, ?_⟩, fun i hi => ?_, fun i hi => ?_, fun i hi => ?_, fun u hu => absurd hu (Nat.not_lt_zero _), fun r hr => absurd hr (Nat.not_lt_zero _)⟩
  · by_cases h : 7 ≤ o.1 ∧ o.1 ≤ 14 ∧ o.2.1 = j
    · exact Or.inl h
    · right
      have hne : ∀ (k i : Nat), 7 ≤ k → k ≤ 14 → o ≠ (k, j, i) := fun k i h1 h2 z => h (by rw [z]; exact ⟨h1, h2, rfl⟩)
      rw [mup_ne _ _ _ (hne 7 0 (by decide) (by decide)), mup_ne _ _ _ (hne 13 0 (by decide) (by decide)), mup_ne _ _ _ (hne 13 0 (by decide) (by decide)), mup_ne _ _ _ (hne 13 0 (by decide) (by decide))]
      exact hf o (hne 11 0 (by decide) (by decide))
  · rw [mup_other _ _ _ (by decide), mup_k _ _ _ (by decide : (7 : Nat) ≠ 13), mup_k _ _ _ (by decide : (7 : Nat) ≠ 13), mup_k _ _ _ (by decide : (7 : Nat) ≠ 13), e7, c9]; rfl
  · rw [mup_same]; rfl
  · rw [mup_other _ _ _ (by decide), mup_k _ _ _ (by decide : (7 : Nat) ≠ 13), mup_k _ _ _ (by decide : (7 : Nat) ≠ 13), mup_k _ _ _ (by decide : (7 : Nat) ≠ 13), e7, c6]; rfl
  · rw [mup_other _ _ _ (by decide), mup_k _ _ _ (by decide : (7 : Nat) ≠ 13), mup_k _ _ _ (by decide : (7 : Nat) ≠ 13), mup_k _ _ _ (by decide : (7 : Nat) ≠ 13), e7, c7]; rfl
  · rw [mup_other _ _ _ (by decide), mup_k _ _ _ (by decide : (7 : Nat) ≠ 13), mup_k _ _ _ (by decide : (7 : Nat) ≠ 13), mup_k _ _ _ (by decide : (7 : Nat) ≠ 13), e7, c8]; rfl
  · rw [mup_k _ _ _ (by decide : (12 : Nat) ≠ 7), mup_k _ _ _ (by decide : (12 : Nat) ≠ 13), mup_k _ _ _ (by decide : (12 : Nat) ≠ 13), mup_k _ _ _ (by decide : (12 : Nat) ≠ 13), hf _ (oid_ne (by decide : (12 : Nat) ≠ 11)), s0 _ (by decide : (12 : Nat) ≠ 7)]
    have h : i = 0 ∨ i = 1 ∨ i = 2 ∨ i = 3 ∨ i = 4 ∨ i = 5 ∨ i = 6 := by omega
    rcases h with rfl | rfl | rfl | rfl | rfl | rfl | rfl <;> rfl
  · rw [mup_k _ _ _ (by decide : (11 : Nat) ≠ 7), mup_k _ _ _ (by decide : (11 : Nat) ≠ 13), mup_k _ _ _ (by decide : (11 : Nat) ≠ 13), mup_k _ _ _ (by decide : (11 : Nat) ≠ 13), hs i hi]
    have : d0 (12 + i) = 100 := by
      unfold d0
      rw [if_neg (by omega), if_neg (by omega), if_pos (by omega)]
    rw [this]
  · have h0 : i = 0 := by
      have : d0 1 = 1 := rfl
      omega
    subst h0
    rw [mup_k _ _ _ (by decide : (13 : Nat) ≠ 7), mup_same, mup_other _ _ _ (by decide), mup_other _ _ _ (by decide), mup_same, mup_other _ _ _ (by decide), mup_same]
    exact ⟨rfl, rfl, rfl⟩
def rfs (f : Nat → Option Nat) : (Nat → Int32) ⊕ (Nat → Int64) ⊕ (Nat → UInt32) ⊕ (Nat → UInt64) ⊕ (Nat → Option Nat) := .inr (.inr (.inr (.inr f)))
def eD : va_E := .inr (0, [.int 0, .int 0, .int 0])
def eU : va_E := .inr (4, [.int 0, .int 0, .int 0, .int 0, .int 0, .int 0, .int 0, .int 0, .int 0, .int 0, .int 0, .int 0])
def plr (da : Nat → Nat) (k : Nat) (e : va_E) : va_W := (List.range k).map (fun i => (da i, e))
theorem plr_succ (da : Nat → Nat) (k q : Nat) (e : va_E) : plr da k e ++ [(q, e)] = plr (va_up da k q) (k + 1) e := by
  unfold plr
  rw [List.range_succ, List.map_append]
  congr 1
  · apply List.map_congr_left
    intro i hi
    rw [List.mem_range] at hi
    rw [va_up_ne _ _ (by omega)]
  · simp [va_up]
def fso (da : Nat → Nat) (k : Nat) : Nat → Option Nat := fun i => if i < k then some (da i) else none
theorem fso_up (da : Nat → Nat) (k q : Nat) : va_up (fso da k) k (some q) = fso (va_up da k q) (k + 1) := by
  funext i
  show (if i = k then some q else if i < k then some (da i) else none) = if i < k + 1 then some (if i = k then q else da i) else none
  by_cases h : i = k
  · rw [if_pos h, if_pos (by omega), if_pos h]
  · rw [if_neg h, if_neg h]
    by_cases h2 : i < k
    · rw [if_pos h2, if_pos (by omega)]
    · rw [if_neg h2, if_neg (by omega)]
theorem fso_0 (da : Nat → Nat) : fso da 0 = fun _ => none := by
  funext i
  exact if_neg (by omega)
def wA (tc : Nat → ClassId) (a q8 q9 q10 q11 q12 : Nat) (f8 f9 : Nat → Option Nat) : va_W := [(a, .inr (2, [.ref q8, .ref q9, .ref q10, .ref q11, .ref q12, .int 0, .int 0, .int 0, .int 30, .int 0])), (q8, .inl (tc 3, 10, rfs f8)), (q9, .inl (tc 4, 12, rfs f9)), (q10, .inl (tc 0, 12, .inl (fun _ => 0))), (q11, .inl (tc 0, 24, .inl (fun _ => 0))), (q12, .inl (tc 0, 7, .inl (fun _ => 0)))]
section GC
variable {p : Program} {l : Launch} {e : Env} {R : Room} {s : State} {m : MethodId} {args : Array Value} {below : List Frame} {meth : Method} {c : Code} {D : va_G} {cl : List vw_C} {A : Nat → Prop} {Q : State → Prop} {nL : Nat} {pc : Nat} {lv : List (Nat × Value)} {st : List Value} {ws ws' : va_W} {k n : Nat}
/-- a cell told otherwise -/
theorem G_cell (q0 : Nat) {a : Nat} {e1 e2 : va_E} (hw : ws[q0]? = some (a, e1)) (hc : ∀ H, va_at D cl (a, e1) H → va_at D cl (a, e2) H) (hws : ws.set q0 (a, e2) = ws') (kk : GV p l e R s m args below meth c D cl A Q nL pc lv st ws' k n) : GV p l e R s m args below meth c D cl A Q nL pc lv st ws k n := by
  intro H locs ls hP hD hS hl
  subst hws
  refine kk H locs ls (fun i q h => ?_) (hD.set hw) hS hl
  by_cases hi : q0 = i
  · subst hi
    have hlt := (List.getElem?_eq_some_iff.mp hw).1
    rw [List.getElem?_set_self hlt] at h
    cases h
    exact hc H (hP _ _ hw)
  · rw [List.getElem?_set_ne hi] at h
    exact hP i q h
end GC
theorem va_at_refs {D : va_G} {cl : List vw_C} {a : Nat} {cA : ClassId} {N : Nat} {f g : Nat → Option Nat} (h : ∀ i, i < N → f i = g i) : ∀ H, va_at D cl (a, .inl (cA, N, rfs f)) H → va_at D cl (a, .inl (cA, N, rfs g)) H := by
  intro H hq
  have e : vp_cell cA (N, rfs f) = vp_cell cA (N, rfs g) := by
    show arrV cA N (fun j => va_rf (f j)) = arrV cA N (fun j => va_rf (g j))
    unfold arrV
    congr 2
    funext j
    show va_rf (f j.val) = va_rf (g j.val)
    rw [h j.val j.isLt]
  show H[a]? = some (vp_cell cA (N, rfs g))
  rw [← e]
  exact hq
set_option maxHeartbeats 4000000 in
set_option maxRecDepth 100000 in
theorem K_X2_l1 {p : Program} {l : Launch} {e : Env} {s : State} {m : MethodId} {below : List Frame} {meth : Method} {c : Code} {D : va_G} {tc : Nat → ClassId} {a sz : Nat} {Q : State → Prop} {q8 q9 q10 q11 q12 : Nat}  (C : CG p s m #[.ref a] meth c D vwCl (tysX tc) (AF a sz) cX2_init 2 RX2 wsX2_init) (hE : ∀ da : Nat → Nat, GV p l e (headSpec wsX2_init ({ frames := 2, cells := 27, slots := 239, locals := 46 })).room s m #[.ref a] below meth c D vwCl (AF a sz) Q 2 84 [(1, .int (nI 10)), (0, .ref a)] [] (wA tc a q8 q9 q10 q11 q12 (fso da 10) (fun _ => none) ++ plr da 10 eD) 15 95) : ∀ (r k : Nat), k + r = 10 → ∀ da : Nat → Nat, GV p l e (headSpec wsX2_init ({ frames := 2, cells := 27, slots := 239, locals := 46 })).room s m #[.ref a] below meth c D vwCl (AF a sz) Q 2 59 [(1, .int (nI k)), (0, .ref a)] [] (wA tc a q8 q9 q10 q11 q12 (fso da k) (fun _ => none) ++ plr da k eD) (5 + k) (65 + 3 * k) := by
  have uX2 : ∀ w ∈ u_ws RX2 TX2 10, w ∈ wsX2_init := by decide +kernel
  have uX0 : ∀ w ∈ u_ws RX0 TX0 3, w ∈ wsX2_init := by decide +kernel
  intro r
  induction r with
  | zero =>
    intro k hk da
    have : k = 10 := by omega
    subst this
    refine G_iload_n C dX2_init_59 0 rfl ?_
    refine G_bipush (v := nI 10) C dX2_init_60 cb_10 ?_
    refine G_icmp_ge (tgt := 84) C dX2_init_62 rfl (fun _ => hE da) (fun h => absurd ((nI_leI (by decide) (by decide)).mpr (Nat.le_refl _)) h)
  | succ r ih =>
    intro k hk da
    refine G_iload_n C dX2_init_59 0 rfl ?_
    refine G_bipush (v := nI 10) C dX2_init_60 cb_10 ?_
    refine G_icmp_ge (tgt := 84) C dX2_init_62 rfl (fun h => absurd ((nI_leI (by decide) (by omega)).mp h) (by omega)) (fun _ => ?_)
    refine G_aload_n C dX2_init_65 1 rfl ?_
    refine G_get C 0 (a := a) (ci := 2) rfl uX2 rfl 0 (by decide) rfl (List.mem_of_getElem? (i := 5) rfl) dX2_init_66 ?_
    refine G_iload_n C dX2_init_69 0 rfl ?_
    refine G_new C uX0 tyX0 tyX0_ok (List.mem_of_getElem? (i := 4) rfl) (List.mem_of_getElem? (i := 14) rfl) (List.mem_of_getElem? (i := 15) rfl) (ci := 0) rfl [.int 0, .int 0, .int 0] (fun j hj => by rcases (by omega : j = 0 ∨ j = 1 ∨ j = 2) with rfl | rfl | rfl <;> rfl) (by show 5 + k + 1 ≤ 27; omega) (by show 65 + 3 * k + 3 ≤ 239; omega) dX2_init_70 (fun q => ?_)
    refine G_dup C dX2_init_73 rfl ?_
    refine G_cIN C (y := yX0_init) (wy := wsX0_init) (fun sz => K_X0 l D tc q sz [.int 0, .int 0, .int 0]) ⟨va_cnB 0 C.1.2.2.2.2 gX2_init_X0_init_n40 rfl rfl rfl C.2.2.1.2.2.2.2.1 (C.1.2.2.2.2 _ (List.mem_of_getElem? (i := 15) rfl)) (by decide +kernel) ⟨Nat.le_of_ble_eq_true rfl, Nat.le_of_ble_eq_true rfl⟩, rfl, C.1.2.2.2.2 _ (List.mem_of_getElem? (i := 18) rfl)⟩ (Nat.le_of_ble_eq_true rfl) (by show 5 + k + 1 + 0 ≤ 27; omega) (by show 65 + 3 * k + 3 + 0 ≤ 239; omega) dX2_init_74 (fun _ _ => ?_)
    refine G_astq C 1 3 (wA tc a q8 q9 q10 q11 q12 (fso da k) (fun _ => none) ++ plr da k eD).length 0 (a := q8) (v := q) (cA := tc 3) (r := (RX0, TX0, 3)) (N := 10) (vs := [.int 0, .int 0, .int 0]) (f := fso da k) rfl rfl (by simp) rfl (i := nI k) (vp_in_nI (by omega) (by decide)) (ws' := wA tc a q8 q9 q10 q11 q12 (fso (va_up da k q) (k + 1)) (fun _ => none) ++ plr (va_up da k q) (k + 1) eD) ?_ dX2_init_77 ?_
    · rw [nI_clamp (by omega), fso_up]
      show wA tc a q8 q9 q10 q11 q12 (fso (va_up da k q) (k + 1)) (fun _ => none) ++ plr da k eD ++ [(q, eD)] = _
      rw [List.append_assoc, plr_succ]
    refine G_iinc (v := nI (k + 1)) C dX2_init_78 0 rfl (by rw [ci_1, nI_1]) (by decide) rfl ?_
    refine G_goto (tgt := 59) C dX2_init_81 rfl ?_
    refine G_wide (k' := 5 + (k + 1)) (n' := 65 + 3 * (k + 1)) (by omega) (by omega) ?_
    exact ih (k + 1) (by omega) (va_up da k q)
set_option maxHeartbeats 4000000 in
set_option maxRecDepth 100000 in
theorem K_X2_l2 {p : Program} {l : Launch} {e : Env} {s : State} {m : MethodId} {below : List Frame} {meth : Method} {c : Code} {D : va_G} {tc : Nat → ClassId} {a sz : Nat} {Q : State → Prop} {q8 q9 q10 q11 q12 : Nat} {dd : Nat → Nat} (C : CG p s m #[.ref a] meth c D vwCl (tysX tc) (AF a sz) cX2_init 2 RX2 wsX2_init) (hE : ∀ da : Nat → Nat, GV p l e (headSpec wsX2_init ({ frames := 2, cells := 27, slots := 239, locals := 46 })).room s m #[.ref a] below meth c D vwCl (AF a sz) Q 2 111 [(1, .int (nI 12)), (0, .ref a)] [] ((wA tc a q8 q9 q10 q11 q12 (fso dd 10) (fso da 12) ++ plr dd 10 eD) ++ plr da 12 eU) 27 239) : ∀ (r k : Nat), k + r = 12 → ∀ da : Nat → Nat, GV p l e (headSpec wsX2_init ({ frames := 2, cells := 27, slots := 239, locals := 46 })).room s m #[.ref a] below meth c D vwCl (AF a sz) Q 2 86 [(1, .int (nI k)), (0, .ref a)] [] ((wA tc a q8 q9 q10 q11 q12 (fso dd 10) (fso da k) ++ plr dd 10 eD) ++ plr da k eU) (15 + k) (95 + 12 * k) := by
  have uX2 : ∀ w ∈ u_ws RX2 TX2 10, w ∈ wsX2_init := by decide +kernel
  have uX4 : ∀ w ∈ u_ws RX4 TX4 12, w ∈ wsX2_init := by decide +kernel
  intro r
  induction r with
  | zero =>
    intro k hk da
    have : k = 12 := by omega
    subst this
    refine G_iload_n C dX2_init_86 0 rfl ?_
    refine G_bipush (v := nI 12) C dX2_init_87 cb_12 ?_
    refine G_icmp_ge (tgt := 111) C dX2_init_89 rfl (fun _ => hE da) (fun h => absurd ((nI_leI (by decide) (by decide)).mpr (Nat.le_refl _)) h)
  | succ r ih =>
    intro k hk da
    refine G_iload_n C dX2_init_86 0 rfl ?_
    refine G_bipush (v := nI 12) C dX2_init_87 cb_12 ?_
    refine G_icmp_ge (tgt := 111) C dX2_init_89 rfl (fun h => absurd ((nI_leI (by decide) (by omega)).mp h) (by omega)) (fun _ => ?_)
    refine G_aload_n C dX2_init_92 1 rfl ?_
    refine G_get C 0 (a := a) (ci := 2) rfl uX2 rfl 1 (by decide) rfl (List.mem_of_getElem? (i := 7) rfl) dX2_init_93 ?_
    refine G_iload_n C dX2_init_96 0 rfl ?_
    refine G_new C uX4 tyX4 tyX4_ok (List.mem_of_getElem? (i := 6) rfl) (List.mem_of_getElem? (i := 16) rfl) (List.mem_of_getElem? (i := 17) rfl) (ci := 4) rfl [.int 0, .int 0, .int 0, .int 0, .int 0, .int 0, .int 0, .int 0, .int 0, .int 0, .int 0, .int 0] (fun j hj => by rcases (by omega : j = 0 ∨ j = 1 ∨ j = 2 ∨ j = 3 ∨ j = 4 ∨ j = 5 ∨ j = 6 ∨ j = 7 ∨ j = 8 ∨ j = 9 ∨ j = 10 ∨ j = 11) with rfl | rfl | rfl | rfl | rfl | rfl | rfl | rfl | rfl | rfl | rfl | rfl <;> rfl) (by show 15 + k + 1 ≤ 27; omega) (by show 95 + 12 * k + 12 ≤ 239; omega) dX2_init_97 (fun q => ?_)
    refine G_dup C dX2_init_100 rfl ?_
    refine G_cIN C (y := yX4_init) (wy := wsX4_init) (fun sz => K_X4 l D tc q sz [.int 0, .int 0, .int 0, .int 0, .int 0, .int 0, .int 0, .int 0, .int 0, .int 0, .int 0, .int 0]) ⟨va_cnB 0 C.1.2.2.2.2 gX2_init_X4_init_n41 rfl rfl rfl C.2.2.1.2.2.2.2.2.1 (C.1.2.2.2.2 _ (List.mem_of_getElem? (i := 17) rfl)) (by decide +kernel) ⟨Nat.le_of_ble_eq_true rfl, Nat.le_of_ble_eq_true rfl⟩, rfl, C.1.2.2.2.2 _ (List.mem_of_getElem? (i := 21) rfl)⟩ (Nat.le_of_ble_eq_true rfl) (by show 15 + k + 1 + 0 ≤ 27; omega) (by show 95 + 12 * k + 12 + 0 ≤ 239; omega) dX2_init_101 (fun _ _ => ?_)
    refine G_astq C 2 4 ((wA tc a q8 q9 q10 q11 q12 (fso dd 10) (fso da k) ++ plr dd 10 eD) ++ plr da k eU).length 4 (a := q9) (v := q) (cA := tc 4) (r := (RX4, TX4, 12)) (N := 12) (vs := [.int 0, .int 0, .int 0, .int 0, .int 0, .int 0, .int 0, .int 0, .int 0, .int 0, .int 0, .int 0]) (f := fso da k) rfl rfl (by simp) rfl (i := nI k) (vp_in_nI (by omega) (by decide)) (ws' := (wA tc a q8 q9 q10 q11 q12 (fso dd 10) (fso (va_up da k q) (k + 1)) ++ plr dd 10 eD) ++ plr (va_up da k q) (k + 1) eU) ?_ dX2_init_104 ?_
    · rw [nI_clamp (by omega), fso_up]
      show wA tc a q8 q9 q10 q11 q12 (fso dd 10) (fso (va_up da k q) (k + 1)) ++ plr dd 10 eD ++ plr da k eU ++ [(q, eU)] = _
      rw [List.append_assoc _ (plr da k eU), plr_succ]
    refine G_iinc (v := nI (k + 1)) C dX2_init_105 0 rfl (by rw [ci_1, nI_1]) (by decide) rfl ?_
    refine G_goto (tgt := 86) C dX2_init_108 rfl ?_
    refine G_wide (k' := 15 + (k + 1)) (n' := 95 + 12 * (k + 1)) (by omega) (by omega) ?_
    exact ih (k + 1) (by omega) (va_up da k q)
def adS (a q8 q9 q10 q11 q12 : Nat) (da ua : Nat → Nat) : Oid → Nat := fun o => if o.1 = 7 then a else if o.1 = 8 then q8 else if o.1 = 9 then q9 else if o.1 = 10 then q10 else if o.1 = 11 then q11 else if o.1 = 12 then q12 else if o.1 = 13 then da o.2.2 else ua o.2.2
theorem wlS_eq (tc : Nat → ClassId) (a q8 q9 q10 q11 q12 : Nat) (da ua : Nat → Nat) (j : Nat) : wl (idsS j) (adS a q8 q9 q10 q11 q12 da ua) (ceX tc (adS a q8 q9 q10 q11 q12 da ua)) smem = (wA tc a q8 q9 q10 q11 q12 (fun i => some (da i)) (fun i => some (ua i)) ++ plr da 10 eD) ++ plr ua 12 eU := by
  unfold wl idsS
  rw [List.map_append, List.map_append, List.map_map, List.map_map, ← List.append_assoc]
  congr 1
set_option maxHeartbeats 4000000 in
set_option maxRecDepth 100000 in
theorem K_X2 (l : Launch) (D : va_G) (tc : Nat → ClassId) (a sz j : Nat) (hj : j < 4) : Met l yX2_init wsX2_init ({ frames := 2, cells := 27, slots := 239, locals := 46 }) (va_Pc [.ref a] (IniP D vwCl (tysX tc) a 2 [.null, .null, .null, .null, .null, .int 0, .int 0, .int 0, .int 0, .int 0] sz)) (va_Qv (fun u : (Oid → Nat) × Mem => u.1 (7, j, 0) = a ∧ RepX u.2 j d0) (IniB D vwCl (fun u => wl (idsS j) u.1 (ceX tc u.1) u.2) (AF a sz)) (AF a sz)) 27 239 (AF a sz) := by
  refine G_met (cc := cX2_init) (own := RX2) (maxL := 2) rfl rfl (by decide) rfl (Nat.le_of_ble_eq_true rfl) ?_
  intro p e s m below meth c C hr hlocks
  have uX2 : ∀ w ∈ u_ws RX2 TX2 10, w ∈ wsX2_init := by decide +kernel
  refine G_aload_n C dX2_init_0 0 rfl ?_
  refine G_obj C (List.mem_of_getElem? (i := 1) rfl) (List.mem_of_getElem? (i := 2) rfl) (List.mem_of_getElem? (i := 3) rfl) (Nat.le_of_ble_eq_true rfl) (Nat.le_of_ble_eq_true rfl) dX2_init_1 ?_
  refine G_aload_n C dX2_init_4 0 rfl ?_
  refine G_bipush (v := 10) C dX2_init_5 cb_10 ?_
  refine G_newq C 3 10 rfl C.2.2.1.2.1 (List.mem_of_getElem? (i := 4) rfl) (by decide) (by decide) (by decide) (Nat.le_of_ble_eq_true rfl) (Nat.le_of_ble_eq_true rfl) dX2_init_7 (fun q8 => ?_)
  refine G_ws (ws' := [(a, .inr (2, [.null, .null, .null, .null, .null, .int 0, .int 0, .int 0, .int 0, .int 0])), (q8, .inl (tc 3, 10, rfs (fun _ => none)))]) rfl ?_
  refine G_putF C 0 (ws' := [(a, .inr (2, [.ref q8, .null, .null, .null, .null, .int 0, .int 0, .int 0, .int 0, .int 0])), (q8, .inl (tc 3, 10, rfs (fun _ => none)))]) rfl uX2 tyX2 tyX2_ok nmX2 (ci := 2) rfl 0 (by decide) (List.mem_of_getElem? (i := 5) rfl) rfl rfl (ty := .array (.object "IrrigationDistrict$Ditch")) (by decide +kernel) rfl rfl (Nat.le_of_ble_eq_true rfl) rfl dX2_init_10 ?_
  refine G_aload_n C dX2_init_13 0 rfl ?_
  refine G_bipush (v := 12) C dX2_init_14 cb_12 ?_
  refine G_newq C 4 12 rfl C.2.2.1.2.2.1 (List.mem_of_getElem? (i := 6) rfl) (by decide) (by decide) (by decide) (Nat.le_of_ble_eq_true rfl) (Nat.le_of_ble_eq_true rfl) dX2_init_16 (fun q9 => ?_)
  refine G_ws (ws' := [(a, .inr (2, [.ref q8, .null, .null, .null, .null, .int 0, .int 0, .int 0, .int 0, .int 0])), (q8, .inl (tc 3, 10, rfs (fun _ => none))), (q9, .inl (tc 4, 12, rfs (fun _ => none)))]) rfl ?_
  refine G_putF C 0 (ws' := [(a, .inr (2, [.ref q8, .ref q9, .null, .null, .null, .int 0, .int 0, .int 0, .int 0, .int 0])), (q8, .inl (tc 3, 10, rfs (fun _ => none))), (q9, .inl (tc 4, 12, rfs (fun _ => none)))]) rfl uX2 tyX2 tyX2_ok nmX2 (ci := 2) rfl 1 (by decide) (List.mem_of_getElem? (i := 7) rfl) rfl rfl (ty := .array (.object "IrrigationDistrict$User")) (by decide +kernel) rfl rfl (Nat.le_of_ble_eq_true rfl) rfl dX2_init_19 ?_
  refine G_aload_n C dX2_init_22 0 rfl ?_
  refine G_bipush (v := 12) C dX2_init_23 cb_12 ?_
  refine G_newi C 0 12 rfl (List.mem_of_getElem? (i := 8) rfl) (by decide) (by decide) (by decide) (Nat.le_of_ble_eq_true rfl) (Nat.le_of_ble_eq_true rfl) dX2_init_25 (fun q10 => ?_)
  refine G_ws (ws' := [(a, .inr (2, [.ref q8, .ref q9, .null, .null, .null, .int 0, .int 0, .int 0, .int 0, .int 0])), (q8, .inl (tc 3, 10, rfs (fun _ => none))), (q9, .inl (tc 4, 12, rfs (fun _ => none))), (q10, .inl (tc 0, 12, .inl (fun _ => 0)))]) rfl ?_
  refine G_putF C 0 (ws' := [(a, .inr (2, [.ref q8, .ref q9, .ref q10, .null, .null, .int 0, .int 0, .int 0, .int 0, .int 0])), (q8, .inl (tc 3, 10, rfs (fun _ => none))), (q9, .inl (tc 4, 12, rfs (fun _ => none))), (q10, .inl (tc 0, 12, .inl (fun _ => 0)))]) rfl uX2 tyX2 tyX2_ok nmX2 (ci := 2) rfl 2 (by decide) (List.mem_of_getElem? (i := 9) rfl) rfl rfl (ty := .array .int) (by decide +kernel) rfl rfl (Nat.le_of_ble_eq_true rfl) rfl dX2_init_27 ?_
  refine G_aload_n C dX2_init_30 0 rfl ?_
  refine G_bipush (v := 24) C dX2_init_31 cb_24 ?_
  refine G_newi C 0 24 rfl (List.mem_of_getElem? (i := 8) rfl) (by decide) (by decide) (by decide) (Nat.le_of_ble_eq_true rfl) (Nat.le_of_ble_eq_true rfl) dX2_init_33 (fun q11 => ?_)
  refine G_ws (ws' := [(a, .inr (2, [.ref q8, .ref q9, .ref q10, .null, .null, .int 0, .int 0, .int 0, .int 0, .int 0])), (q8, .inl (tc 3, 10, rfs (fun _ => none))), (q9, .inl (tc 4, 12, rfs (fun _ => none))), (q10, .inl (tc 0, 12, .inl (fun _ => 0))), (q11, .inl (tc 0, 24, .inl (fun _ => 0)))]) rfl ?_
  refine G_putF C 0 (ws' := [(a, .inr (2, [.ref q8, .ref q9, .ref q10, .ref q11, .null, .int 0, .int 0, .int 0, .int 0, .int 0])), (q8, .inl (tc 3, 10, rfs (fun _ => none))), (q9, .inl (tc 4, 12, rfs (fun _ => none))), (q10, .inl (tc 0, 12, .inl (fun _ => 0))), (q11, .inl (tc 0, 24, .inl (fun _ => 0)))]) rfl uX2 tyX2 tyX2_ok nmX2 (ci := 2) rfl 3 (by decide) (List.mem_of_getElem? (i := 10) rfl) rfl rfl (ty := .array .int) (by decide +kernel) rfl rfl (Nat.le_of_ble_eq_true rfl) rfl dX2_init_35 ?_
  refine G_aload_n C dX2_init_38 0 rfl ?_
  refine G_bipush (v := 7) C dX2_init_39 cb_7 ?_
  refine G_newi C 0 7 rfl (List.mem_of_getElem? (i := 8) rfl) (by decide) (by decide) (by decide) (Nat.le_of_ble_eq_true rfl) (Nat.le_of_ble_eq_true rfl) dX2_init_41 (fun q12 => ?_)
  refine G_ws (ws' := [(a, .inr (2, [.ref q8, .ref q9, .ref q10, .ref q11, .null, .int 0, .int 0, .int 0, .int 0, .int 0])), (q8, .inl (tc 3, 10, rfs (fun _ => none))), (q9, .inl (tc 4, 12, rfs (fun _ => none))), (q10, .inl (tc 0, 12, .inl (fun _ => 0))), (q11, .inl (tc 0, 24, .inl (fun _ => 0))), (q12, .inl (tc 0, 7, .inl (fun _ => 0)))]) rfl ?_
  refine G_putF C 0 (ws' := [(a, .inr (2, [.ref q8, .ref q9, .ref q10, .ref q11, .ref q12, .int 0, .int 0, .int 0, .int 0, .int 0])), (q8, .inl (tc 3, 10, rfs (fun _ => none))), (q9, .inl (tc 4, 12, rfs (fun _ => none))), (q10, .inl (tc 0, 12, .inl (fun _ => 0))), (q11, .inl (tc 0, 24, .inl (fun _ => 0))), (q12, .inl (tc 0, 7, .inl (fun _ => 0)))]) rfl uX2 tyX2 tyX2_ok nmX2 (ci := 2) rfl 4 (by decide) (List.mem_of_getElem? (i := 11) rfl) rfl rfl (ty := .array .int) (by decide +kernel) rfl rfl (Nat.le_of_ble_eq_true rfl) rfl dX2_init_43 ?_
  refine G_aload_n C dX2_init_46 0 rfl ?_
  refine G_iconst (v := 0) C dX2_init_47 ci_0 ?_
  refine G_put C 0 (ws' := [(a, .inr (2, [.ref q8, .ref q9, .ref q10, .ref q11, .ref q12, .int 0, .int 0, .int 0, .int 0, .int 0])), (q8, .inl (tc 3, 10, rfs (fun _ => none))), (q9, .inl (tc 4, 12, rfs (fun _ => none))), (q10, .inl (tc 0, 12, .inl (fun _ => 0))), (q11, .inl (tc 0, 24, .inl (fun _ => 0))), (q12, .inl (tc 0, 7, .inl (fun _ => 0)))]) rfl uX2 tyX2 tyX2_ok nmX2 (ci := 2) rfl 7 (by decide) (List.mem_of_getElem? (i := 12) rfl) rfl (ty := .int) (by decide +kernel) rfl rfl (Nat.le_of_ble_eq_true rfl) rfl dX2_init_48 ?_
  refine G_aload_n C dX2_init_51 0 rfl ?_
  refine G_bipush (v := 30) C dX2_init_52 (by decide +kernel) ?_
  refine G_put C 0 (ws' := [(a, .inr (2, [.ref q8, .ref q9, .ref q10, .ref q11, .ref q12, .int 0, .int 0, .int 0, .int 30, .int 0])), (q8, .inl (tc 3, 10, rfs (fun _ => none))), (q9, .inl (tc 4, 12, rfs (fun _ => none))), (q10, .inl (tc 0, 12, .inl (fun _ => 0))), (q11, .inl (tc 0, 24, .inl (fun _ => 0))), (q12, .inl (tc 0, 7, .inl (fun _ => 0)))]) rfl uX2 tyX2 tyX2_ok nmX2 (ci := 2) rfl 8 (by decide) (List.mem_of_getElem? (i := 13) rfl) rfl (ty := .int) (by decide +kernel) rfl rfl (Nat.le_of_ble_eq_true rfl) rfl dX2_init_54 ?_
  refine G_iconst (v := 0) C dX2_init_57 ci_0 ?_
  refine G_istore_n (lv' := [(1, .int (nI 0)), (0, .ref a)]) C dX2_init_58 (by decide) rfl ?_
  refine G_ws (ws' := wA tc a q8 q9 q10 q11 q12 (fso (fun _ => 0) 0) (fun _ => none) ++ plr (fun _ => 0) 0 eD) (by rw [fso_0]; rfl) ?_
  refine K_X2_l1 C (fun da => ?_) 10 0 rfl (fun _ => 0)
  refine G_iconst (v := 0) C dX2_init_84 ci_0 ?_
  refine G_istore_n (lv' := [(1, .int (nI 0)), (0, .ref a)]) C dX2_init_85 (by decide) rfl ?_
  refine G_ws (ws' := (wA tc a q8 q9 q10 q11 q12 (fso da 10) (fso (fun _ => 0) 0) ++ plr da 10 eD) ++ plr (fun _ => 0) 0 eU) (by rw [fso_0]; exact (List.append_nil _).symm) ?_
  refine K_X2_l2 C (fun ua => ?_) 12 0 rfl (fun _ => 0)
  refine G_cell 1 (a := q8) (e1 := .inl (tc 3, 10, rfs (fso da 10))) (e2 := .inl (tc 3, 10, rfs (fun i => some (da i)))) rfl (va_at_refs (fun i hi => if_pos hi)) (ws' := (wA tc a q8 q9 q10 q11 q12 (fun i => some (da i)) (fso ua 12) ++ plr da 10 eD) ++ plr ua 12 eU) rfl ?_
  refine G_cell 2 (a := q9) (e1 := .inl (tc 4, 12, rfs (fso ua 12))) (e2 := .inl (tc 4, 12, rfs (fun i => some (ua i)))) rfl (va_at_refs (fun i hi => if_pos hi)) (ws' := (wA tc a q8 q9 q10 q11 q12 (fun i => some (da i)) (fun i => some (ua i)) ++ plr da 10 eD) ++ plr ua 12 eU) rfl ?_
  refine G_ws (wlS_eq tc a q8 q9 q10 q11 q12 da ua j).symm ?_
  generalize had : adS a q8 q9 q10 q11 q12 da ua = ad
  have hada : ad (7, j, 0) = a := by rw [← had]; rfl
  refine G_aload_n C dX2_init_111 1 rfl ?_
  refine G_iconst (v := 0) C dX2_init_112 ci_0 ?_
  refine G_bipush (v := 24) C dX2_init_113 cb_24 ?_
  refine G_bipush (v := 100) C dX2_init_115 cb_100 ?_
  refine G_cV (st := []) (As := [.int 0, .int 24, .int 100]) C (okS7 j) (S_X2_putSupply l D tc ad (AF a sz) j hj 0 24 100 (ini_sup j (Q := fun τ => (∀ o : Oid, o ≠ (11, j, 0) → τ o = smem o) ∧ ∀ h, h < 24 → τ (11, j, 0) h = nI 100) (fun τ h1 h2 => ⟨h1, h2⟩))) (cwV 3 C.1.2.2.2.2 gX2_init_X2_putSupply rfl rfl rfl (by decide +kernel) ⟨Nat.le_of_ble_eq_true rfl, Nat.le_of_ble_eq_true rfl⟩) (ci := 2) rfl rfl rfl (by rw [hada]; rfl) (Nat.le_of_ble_eq_true rfl) (Nat.le_of_ble_eq_true rfl) (Nat.le_of_ble_eq_true rfl) dX2_init_117 (fun τ hτ => ?_)
  refine G_aload_n C dX2_init_120 1 rfl ?_
  refine G_iconst (v := 0) C dX2_init_121 ci_0 ?_
  refine G_bipush (v := 100) C dX2_init_122 cb_100 ?_
  refine G_iconst (v := 0) C dX2_init_124 ci_0 ?_
  refine G_cV (st := []) (As := [.int 0, .int 100, .int 0]) C (okS7 j) (S_X2_putDitch l D tc ad (AF a sz) j hj 0 100 0 (ini_dit j hτ.1 hτ.2 (Q := fun τ => RepX τ j d0) (fun τ' _ h2 => h2))) (cwV 3 C.1.2.2.2.2 gX2_init_X2_putDitch rfl rfl rfl (by decide +kernel) ⟨Nat.le_of_ble_eq_true rfl, Nat.le_of_ble_eq_true rfl⟩) (ci := 2) rfl rfl rfl (by rw [hada]; rfl) (Nat.le_of_ble_eq_true rfl) (Nat.le_of_ble_eq_true rfl) (Nat.le_of_ble_eq_true rfl) dX2_init_125 (fun τ' hτ' => ?_)
  exact G_vret C hr hlocks dX2_init_128 (ad, τ') ⟨hada, hτ'⟩ rfl
