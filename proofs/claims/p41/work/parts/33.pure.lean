/-! PART 33: what holds of the numbers: water adds up, what is lost, who is older, the eldest's share, what stays -/
theorem sm_congr {f g : Nat → Nat} : ∀ {k : Nat}, (∀ i, i < k → f i = g i) → sm f k = sm g k
  | 0, _ => rfl
  | k + 1, h => by
    simp only [sm]
    rw [sm_congr (k := k) (fun i hi => h i (by omega)), h k (by omega)]
theorem sm_zero : ∀ k, sm (fun _ => 0) k = 0
  | 0 => rfl
  | k + 1 => by simp only [sm, sm_zero k]
theorem sm_oneE {p v : Nat} : ∀ {k : Nat}, p < k → sm (fun i => if p = i then v else 0) k = v
  | 0, h => absurd h (Nat.not_lt_zero _)
  | k + 1, h => by
    simp only [sm]
    by_cases hk : p = k
    · subst hk
      rw [sm_congr (g := fun _ => 0) (fun i hi => if_neg (by omega)), sm_zero, if_pos rfl, Nat.zero_add]
    · rw [sm_oneE (k := k) (by omega), if_neg hk]
      omega
theorem sm_puE {d : Dst} {a : Nat → Nat} {k : Nat} : ∀ {m : Nat}, (∀ u, u < m → d (70 + u) < k) → sm (fun i => pu d a i m) k = sm a m
  | 0, _ => sm_zero k
  | m + 1, h => by
    have h1 := sm_puE (a := a) (m := m) (fun u hu => h u (by omega))
    have h2 := sm_add (fun i => pu d a i m) (fun i => if d (70 + m) = i then a m else 0) k
    show sm (fun i => pu d a i m + if d (70 + m) = i then a m else 0) k = sm a m + a m
    rw [h2, h1, sm_oneE (h m (by omega))]
theorem sm_chsE {d : Dst} {f : Nat → Nat} {N : Nat} (h : ∀ c, 0 < c → c < N → d (40 + c) < N) : ∀ {c : Nat}, c ≤ N → sm (fun i => chs d f i c) N + (if 0 < c then f 0 else 0) = sm f c
  | 0, _ => sm_zero N
  | c + 1, hc => by
    have h1 := sm_chsE (f := f) h (c := c) (by omega)
    have h2 := sm_add (fun i => chs d f i c) (fun i => if 0 < c ∧ d (40 + c) = i then f c else 0) N
    show sm (fun i => chs d f i c + if 0 < c ∧ d (40 + c) = i then f c else 0) N + _ = sm f c + f c
    rw [h2, if_pos (Nat.succ_pos c)]
    rcases Nat.eq_zero_or_pos c with q | q
    · subst q
      rw [sm_congr (f := fun i => if 0 < 0 ∧ d (40 + 0) = i then f 0 else 0) (g := fun _ => 0) (fun i _ => if_neg (fun z => absurd z.1 (Nat.lt_irrefl 0))), sm_zero]
      have h3 : sm (fun i => chs d f i 0) N = 0 := sm_zero N
      rw [h3]
      rfl
    · rw [if_pos q] at h1
      rw [sm_congr (f := fun i => if 0 < c ∧ d (40 + c) = i then f c else 0) (g := fun i => if d (40 + c) = i then f c else 0) (fun i _ => by
        by_cases z : d (40 + c) = i
        · rw [if_pos z, if_pos ⟨q, z⟩]
        · rw [if_neg z, if_neg (fun w => z w.2)]), sm_oneE (h c q (by omega))]
      omega
/-- WATER ADDS UP -/
theorem balance {d : Dst} (hT : Topo d) (a : Nat → Nat) : FF d a 0 = sm (loss d a) (d 1) + sm a (d 2) := by
  have h1 : sm (FP d a) (d 1) = sm a (d 2) + sm (fun i => chs d (FF d a) i (d 1)) (d 1) := by
    have := sm_add (fun i => pu d a i (d 2)) (fun i => chs d (FF d a) i (d 1)) (d 1)
    rw [sm_puE (fun u hu => hT.2.2.2.2 u hu)] at this
    exact this
  have h2 := sm_chsE (d := d) (f := FF d a) (N := d 1) (fun c h0 hc => Nat.lt_trans (hT.2.2.1 c h0 hc) hc) (Nat.le_refl _)
  rw [if_pos hT.1] at h2
  have h3 : sm (FF d a) (d 1) = sm (loss d a) (d 1) + sm (FP d a) (d 1) := by
    rw [← sm_add]
    refine sm_congr (fun i hi => ?_)
    have := FP_FF hT a hi
    unfold loss
    omega
  omega
theorem infl_up {l : Nat} (hl : l ≤ 50) (y : Nat) : infl l y < infl l (y + 1) := by
  unfold infl
  have hk : 0 < 100 - l := by omega
  have h := Nat.add_div_right (100 * y + (100 - l) - 1) hk
  have h2 : (100 * y + (100 - l) - 1 + (100 - l)) / (100 - l) ≤ (100 * (y + 1) + (100 - l) - 1) / (100 - l) := Nat.div_le_div_right (by omega)
  omega
/-- what is lost -/
theorem loss_eq {l : Nat} (hl : l ≤ 50) (y : Nat) : infl l y - y = (infl l y * l + 99) / 100 := by
  have h1 := (infl_le hl y _).mp (Nat.le_refl _)
  have h2 : ¬ y + 1 ≤ psd l (infl l y) := fun q => absurd ((infl_le hl (y + 1) _).mpr q) (Nat.not_le.mpr (infl_up hl y))
  have h3 : infl l y * l ≤ infl l y * 50 := Nat.mul_le_mul_left _ hl
  unfold psd at h1 h2
  omega
theorem loss_at {d : Dst} (hT : Topo d) (a : Nat → Nat) {i : Nat} (hi : i < d 1) : FF d a i - FP d a i = (FF d a i * d (60 + i) + 99) / 100 := by
  have h := loss_eq (hT.2.2.2.1 i hi) (FP d a i)
  rw [← FF_fix a hT hi] at h
  exact h
theorem rk_older {d : Dst} (hR : Rk d) {r s : Nat} (hrs : r < s) (hs : s < d 2) : older d (rkd d r) (rkd d s) := by
  obtain ⟨a1, a2⟩ := hR r (by omega)
  obtain ⟨b1, b2⟩ := hR s hs
  rcases older_tot (d := d) (a := rkd d r) (b := rkd d s) (fun z => by rw [z] at a2; omega) with h | h
  · exact h
  · have := cnt_lt h b1
    omega
-- the eldest, by age
theorem pu_cg {d d' : Dst} {a : Nat → Nat} {i : Nat} : ∀ {m : Nat}, (∀ u, u < m → d' (70 + u) = d (70 + u)) → pu d' a i m = pu d a i m
  | 0, _ => rfl
  | m + 1, h => by
    simp only [pu]
    rw [pu_cg (m := m) (fun u hu => h u (by omega)), h m (by omega)]
theorem chs_cg {d d' : Dst} {f f' : Nat → Nat} {i : Nat} : ∀ {c : Nat}, (∀ k, k < c → d' (40 + k) = d (40 + k)) → (∀ k, k < c → f' k = f k) → chs d' f' i c = chs d f i c
  | 0, _, _ => rfl
  | c + 1, h, hf => by
    simp only [chs]
    rw [chs_cg (c := c) (fun k hk => h k (by omega)) (fun k hk => hf k (by omega)), h c (by omega), hf c (by omega)]
section CG
variable {d d' : Dst}
theorem ffu_cg (hN : d 1 ≤ 10) (hn : d 2 ≤ 12) (h : ∀ k, k < 94 → d' k = d k) {a : Nat → Nat} : ∀ (s i : Nat), i < d 1 → ffu d' a s i = ffu d a s i
  | 0, _, _ => rfl
  | s + 1, i, hi => by
    show infl (d' (60 + i)) (pu d' a i (d' 2) + chs d' (ffu d' a s) i (d' 1)) = infl (d (60 + i)) (pu d a i (d 2) + chs d (ffu d a s) i (d 1))
    rw [h 2 (by omega), h 1 (by omega), h (60 + i) (by omega), pu_cg (fun u hu => h _ (by omega)), chs_cg (fun k hk => h _ (by omega)) (fun k hk => ffu_cg hN hn h s k (by omega))]
theorem FF_cg (hN : d 1 ≤ 10) (hn : d 2 ≤ 12) (h : ∀ k, k < 94 → d' k = d k) {a : Nat → Nat} {i : Nat} (hi : i < d 1) : FF d' a i = FF d a i := by
  unfold FF
  rw [h 1 (by omega)]
  exact ffu_cg hN hn h _ i hi
theorem Topo_cg (hT : Topo d) (hN : d 1 ≤ 10) (hn : d 2 ≤ 12) (h : ∀ k, k < 94 → d' k = d k) : Topo d' := by
  obtain ⟨t1, t2, t3, t4, t5⟩ := hT
  have e1 := h 1 (by omega)
  have e2 := h 2 (by omega)
  refine ⟨by rw [e1]; exact t1, by rw [h 40 (by omega)]; exact t2, fun c h0 hc => ?_, fun i hi => ?_, fun u hu => ?_⟩
  · rw [e1] at hc
    rw [h _ (by omega)]
    exact t3 c h0 hc
  · rw [e1] at hi
    rw [h _ (by omega)]
    exact t4 i hi
  · rw [e2] at hu
    rw [e1, h _ (by omega)]
    exact t5 u hu
theorem sup_cg (h : ∀ k, k < 94 → d' k = d k) : sup d' = sup d := by
  have hh := hr_lt d
  have e : hr d' = hr d := by unfold hr; rw [h 0 (by omega)]
  unfold sup
  rw [e]
  exact h _ (by omega)
theorem Poss_cg (hT : Topo d) (hN : d 1 ≤ 10) (hn : d 2 ≤ 12) (h : ∀ k, k < 94 → d' k = d k) {a : Nat → Nat} : Poss d' a ↔ Poss d a := by
  have e1 := h 1 (by omega)
  unfold Poss
  rw [e1, sup_cg h, FF_cg hN hn h hT.1]
  constructor
  · rintro ⟨h1, h2⟩
    refine ⟨fun i hi => ?_, h2⟩
    have := h1 i hi
    rw [FF_cg hN hn h hi, h _ (by omega)] at this
    exact this
  · rintro ⟨h1, h2⟩
    refine ⟨fun i hi => ?_, h2⟩
    rw [FF_cg hN hn h hi, h _ (by omega)]
    exact h1 i hi
theorem mx_cg (hT : Topo d) (hN : d 1 ≤ 10) (hn : d 2 ≤ 12) (h : ∀ k, k < 94 → d' k = d k) {a : Nat → Nat} (hP : Poss d a) {u : Nat} (hu : u < d 2) : mx d' a u = mx d a u := by
  have hT' := Topo_cg hT hN hn h
  have hP' := (Poss_cg hT hN hn h).mpr hP
  have hu' : u < d' 2 := by rw [h 2 (by omega)]; exact hu
  have key : ∀ x, x ≤ mx d' a u ↔ x ≤ mx d a u := fun x => by
    rw [← Poss_au hT' hP' hu', ← Poss_au hT hP hu]
    exact Poss_cg hT hN hn h
  exact Nat.le_antisymm ((key _).mp (Nat.le_refl _)) ((key _).mpr (Nat.le_refl _))
theorem tnow_0 (h : d 3 = 0) : tnow d = 99 := tnow_99 (fun q => by omega)
/-- by age the oldest one gets what it could get alone -/
theorem eldest_amt (hT : Topo d) (hR : Rk d) (hn : d 2 ≤ 12) (h3 : d 3 = 0) (h2 : 0 < d 2) : ∀ r, r < d 2 → ams d (r + 1) (rkd d 0) = min (ask d (rkd d 0)) (mx d (fun _ => 0) (rkd d 0)) := by
  have e0 : am1 d = fun _ => 0 := by
    have e : am0 d = fun _ => 0 := if_neg (by omega)
    have e1 : am1 d = am0 d := if_neg (by rw [tnow_0 h3]; omega)
    rw [e1, e]
  have step : ∀ r, r < d 2 → ams d (r + 1) = srv d (ams d r) (rkd d r) := fun r hr => if_neg (by
    have := (hR r hr).1
    rw [tnow_0 h3]
    omega)
  intro r
  induction r with
  | zero =>
    intro hr
    rw [step 0 hr]
    have e : ams d 0 = fun _ => 0 := e0
    rw [e]
    unfold srv
    rw [au_self]
    exact Nat.max_eq_right (Nat.zero_le _)
  | succ r ih =>
    intro hr
    rw [step (r + 1) hr]
    unfold srv
    rw [au_ne _ _ (fun z => ?_)]
    · exact ih (by omega)
    · have a := (hR 0 h2).2
      have b := (hR (r + 1) hr).2
      rw [z] at a
      omega
theorem eldest_same {T : Nat} (hI : Inv T d) (h3 : d 3 = 0) (h2 : 0 < d 2) {v : Nat} (hv : v < d 2) (hne : v ≠ rkd d 0) : amt (du d (202 + v) 1) (rkd d 0) = amt d (rkd d 0) := by
  have g := hI.geo
  have hN := g.nd
  have hn := g.nu
  have hR := g.2.2.2.2.2.2.2.2
  have hT := hI.1
  have hI' := shut_inv hI hv
  have hR' := hI'.geo.2.2.2.2.2.2.2.2
  have e : ∀ {k : Nat}, k < 202 → du d (202 + v) 1 k = d k := fun h => du_ne _ _ (by omega)
  have h94 : ∀ k, k < 94 → du d (202 + v) 1 k = d k := fun k h => e (by omega)
  have er : ∀ r, rkd (du d (202 + v) 1) r = rkd d r := fun r => rkd_congr (e (by omega)) (fun w hw => e (by omega)) r
  obtain ⟨n, hn1⟩ : ∃ n, d 2 = n + 1 := ⟨d 2 - 1, by omega⟩
  have a1 := eldest_amt hT hR hn h3 h2 n (by omega)
  have a2 := eldest_amt hI'.1 hR' (by rw [e (by omega)]; exact hn) (by rw [e (by omega)]; exact h3) (by rw [e (by omega)]; exact h2) n (by rw [e (by omega)]; omega)
  rw [er] at a2
  have h0 := (hR 0 h2).1
  have em : mx (du d (202 + v) 1) (fun _ => 0) (rkd d 0) = mx d (fun _ => 0) (rkd d 0) := mx_cg hT hN hn h94 (Poss_zero hT) h0
  have ea : ask (du d (202 + v) 1) (rkd d 0) = ask d (rkd d 0) := by
    have t1 : tnow (du d (202 + v) 1) = 99 := tnow_0 (by rw [e (by omega)]; exact h3)
    have t2 : tnow d = 99 := tnow_0 h3
    have h5 : du d (202 + v) 1 (202 + rkd d 0) = d (202 + rkd d 0) := du_ne _ _ (by omega)
    have ec : could (du d (202 + v) 1) (rkd d 0) = could d (rkd d 0) := by
      unfold could
      rw [need_congr (e (by omega)) (e (by omega)) (e (by omega)) (e (by omega)), e (by omega), e (by omega)]
    unfold ask
    rw [h5, t1, t2, ec, e (by omega)]
  unfold amt
  rw [e (by omega), hn1, a1, a2, em, ea]
theorem gnd_zero {T : Nat} (hI : Inv T d) (h3 : d 3 = 0) (h2 : 0 < d 2) {v : Nat} (hv : v < d 2) (hne : v ≠ rkd d 0) : gnd d (rkd d 0) v = 0 := by
  unfold gnd
  rw [eldest_same hI h3 h2 hv hne]
  exact Int32.sub_self _
theorem jdd_two {o y : Nat} (h : gnd d o y = 0) : ¬ jdd d o y = 2 := by
  unfold jdd
  split
  · decide
  · split
    · decide
    · decide
end CG
/-- what the law's arrays hold of a district stays -/
def Sm (d d' : Dst) : Prop := ∀ k, k = 1 ∨ k = 2 ∨ 12 ≤ k ∧ k < 94 → d' k = d k
theorem Sm.rf (d : Dst) : Sm d d := fun _ _ => rfl
theorem Sm.tr {d d' d'' : Dst} (h : Sm d d') (h' : Sm d' d'') : Sm d d'' := fun k hk => (h' k hk).trans (h k hk)
theorem Sm.du {d : Dst} {k x : Nat} (h : k ≠ 1 ∧ k ≠ 2 ∧ (k < 12 ∨ 94 ≤ k)) : Sm d (du d k x) := fun i hi => du_ne _ _ (by omega)
/-- the account of the water -/
def Bal (d : Dst) : Prop := d 5 = d 7 + d 8
section PS
variable {T : Nat} {d : Dst}
theorem psU_8 {a : Nat → Nat} : ∀ {m : Nat}, m ≤ 12 → psU d a m 8 = d 8 + sm a m ∧ psU d a m 5 = d 5 + FF d a 0 ∧ psU d a m 7 = d 7 + sm (loss d a) (d 1) ∧ d 11 ≤ psU d a m 11
  | 0, _ => by
    have e8 : psU d a 0 8 = d 8 := hb_ne (by omega)
    have e11 : psU d a 0 11 = d 11 := hb_ne (by omega)
    refine ⟨by rw [e8]; rfl, ?_, ?_, Nat.le_of_eq e11.symm⟩
    · show hb d a (d 1) 5 = _
      unfold hb hb0
      rw [du_ne _ _ (by omega), du_ne _ _ (by omega), du_self]
    · show hb d a (d 1) 7 = _
      unfold hb
      rw [du_self]
  | m + 1, hm => by
    obtain ⟨h1, h2, h3, h4⟩ := psU_8 (a := a) (m := m) (by omega)
    refine ⟨?_, ?_, ?_, ?_⟩
    · show useU (psU d a m) m (a m) 8 = d 8 + (sm a m + a m)
      unfold useU us1
      rw [du_ne _ _ (by omega), du_ne _ _ (by omega), du_ne _ _ (by omega), du_ne _ _ (by omega), du_self, h1]
      omega
    · show useU (psU d a m) m (a m) 5 = _
      rw [useU_ne (by omega) (by omega) (by omega) (by omega)]
      exact h2
    · show useU (psU d a m) m (a m) 7 = _
      rw [useU_ne (by omega) (by omega) (by omega) (by omega)]
      exact h3
    · show d 11 ≤ useU (psU d a m) m (a m) 11
      unfold useU us1
      rw [du_ne _ _ (by omega), du_self]
      omega
theorem pass_bal (hI : Inv T d) (h : Bal d) : Bal (pass d) ∧ d 11 ≤ pass d 11 ∧ pass d 0 = d 0 + 1 := by
  have hn := hI.geo.nu
  obtain ⟨h1, h2, h3, h4⟩ := psU_8 (d := d) (a := amt d) (m := d 2) hn
  have hb := balance hI.1 (amt d)
  have e : ∀ k, k ≠ 0 → pass d k = psU d (amt d) (d 2) k := fun k hk => du_ne _ _ hk
  refine ⟨?_, ?_, du_self _ _ _⟩
  · unfold Bal at h ⊢
    rw [e 5 (by omega), e 7 (by omega), e 8 (by omega)]
    omega
  · rw [e 11 (by omega)]
    exact h4
theorem psn_bal (hI : Inv T d) (h : Bal d) : ∀ {k : Nat}, T + k ≤ 30000 → Bal (psn d k) ∧ d 11 ≤ psn d k 11 ∧ psn d k 0 = d 0 + k
  | 0, _ => ⟨h, Nat.le_refl _, rfl⟩
  | k + 1, hk => by
    obtain ⟨h1, h2, h3⟩ := psn_bal hI h (k := k) (by omega)
    obtain ⟨q1, q2, q3⟩ := pass_bal (psn_inv hI (k := k) (by omega)) h1
    refine ⟨q1, Nat.le_trans h2 q2, ?_⟩
    show pass (psn d k) 0 = _
    rw [q3, h3]
    omega
theorem psn_sm (hI : Inv T d) (k : Nat) : Sm d (psn d k) := fun i hi => by
  have hn := hI.geo.nu
  exact psn_lo hn (by omega)
theorem psn_178 (hI : Inv T d) (k : Nat) {u : Nat} (hu : u < 12) : psn d k (178 + u) = d (178 + u) := psn_lo hI.geo.nu (by omega)
theorem psn_3 (hI : Inv T d) (k : Nat) : psn d k 3 = d 3 := psn_lo hI.geo.nu (by omega)
-- settle
theorem stp_ne {k m : Nat} {s : Dst × Nat} {i : Nat} (hi : i < 202) : (stp k m s).1 i = s.1 i ∧ (stp k m s).2 ≤ s.2 + 1 := by
  unfold stp
  split
  · exact ⟨du_ne _ _ (by omega), Nat.le_refl _⟩
  · exact ⟨rfl, Nat.le_succ _⟩
theorem inn_ne {k i : Nat} (hi : i < 202) : ∀ {m : Nat} {s : Dst × Nat}, (inn k m s).1 i = s.1 i ∧ (inn k m s).2 ≤ s.2 + m
  | 0, s => ⟨rfl, Nat.le_refl _⟩
  | m + 1, s => by
    by_cases q : m ≤ k
    · rw [inn_le (by omega)]
      exact ⟨rfl, by omega⟩
    · rw [inn_gt (by omega)]
      obtain ⟨a, b⟩ := stp_ne (k := k) (m := m) (s := s) hi
      obtain ⟨a', b'⟩ := inn_ne (k := k) hi (m := m) (s := stp k m s)
      exact ⟨a'.trans a, by omega⟩
theorem outr_ne {n i : Nat} (hi : i < 202) : ∀ {f k : Nat} {s : Dst × Nat}, (outr n f k s).1 i = s.1 i ∧ (outr n f k s).2 ≤ s.2 + f * n
  | 0, _, s => ⟨rfl, Nat.le_add_right s.2 (0 * n)⟩
  | f + 1, k, s => by
    obtain ⟨a, b⟩ := inn_ne (k := k) hi (m := n) (s := s)
    obtain ⟨a', b'⟩ := outr_ne (n := n) hi (f := f) (k := k + 1) (s := inn k n s)
    refine ⟨a'.trans a, ?_⟩
    show (outr n f (k + 1) (inn k n s)).2 ≤ _
    rw [Nat.succ_mul]
    omega
-- the turns
theorem tsum_mono (d : Dst) {i j : Nat} (h : i ≤ j) : tsum d i ≤ tsum d j := by
  induction j with
  | zero => rw [Nat.le_zero.mp h]; exact Nat.le_refl _
  | succ j ih =>
    by_cases q : i = j + 1
    · rw [q]; exact Nat.le_refl _
    · exact Nat.le_trans (ih (by omega)) (Nat.le_add_right _ _)
theorem tsum_cg {d d' : Dst} : ∀ {k : Nat}, (∀ u, u < k → d' (178 + u) = d (178 + u)) → tsum d' k = tsum d k
  | 0, _ => rfl
  | k + 1, h => by
    simp only [tsum]
    rw [tsum_cg (k := k) (fun u hu => h u (by omega)), h k (by omega)]
/-- who has the turn in hour t, of d's turns -/
def tv (d : Dst) (t : Nat) : Nat := tfd d (d 2) 0 (t % tsum d (d 2))
theorem tv_lt (d : Dst) (t : Nat) (h : tsum d (d 2) ≠ 0) : tv d t < d 2 ∧ tsum d (tv d t) ≤ t % tsum d (d 2) ∧ t % tsum d (d 2) < tsum d (tv d t + 1) := by
  have h1 := Nat.mod_lt t (Nat.pos_of_ne_zero h)
  have h2 := tfd_lt (d := d) (d 2) 0 (t % tsum d (d 2)) (by simp only [tsum, Nat.zero_add]; omega)
  simp only [tsum, Nat.zero_add, Nat.add_zero] at h2
  unfold tv
  exact h2
theorem tv_mono {d : Dst} {t : Nat} (h : tsum d (d 2) ≠ 0) (ht : t + 1 < tsum d (d 2)) : tv d t ≤ tv d (t + 1) := by
  obtain ⟨a1, a2, a3⟩ := tv_lt d t h
  obtain ⟨b1, b2, b3⟩ := tv_lt d (t + 1) h
  rw [Nat.mod_eq_of_lt (by omega)] at a2 a3
  rw [Nat.mod_eq_of_lt ht] at b2 b3
  rcases Nat.lt_or_ge (tv d (t + 1)) (tv d t) with q | q
  · have := tsum_mono d (show tv d (t + 1) + 1 ≤ tv d t from q)
    omega
  · exact q
theorem tfd_cg {d d' : Dst} : ∀ (k u w : Nat), (∀ v, v < u + k → d' (178 + v) = d (178 + v)) → tfd d' k u w = tfd d k u w
  | 0, _, _, _ => rfl
  | k + 1, u, w, h => by
    simp only [tfd]
    rw [h u (by omega), tfd_cg k (u + 1) _ (fun v hv => h v (by omega))]
theorem turn_at {d d' : Dst} (hn : d 2 ≤ 12) (h3 : d' 3 = 1) (h2 : d' 2 = d 2) (ht : ∀ u, u < d 2 → d' (178 + u) = d (178 + u)) : turnC d' = if tsum d (d 2) = 0 then -105 else nI (tv d (d' 0)) := by
  have e := tsum_cg (d := d) (d' := d') (k := d 2) ht
  have e2 : ∀ w, tfd d' (d 2) 0 w = tfd d (d 2) 0 w := fun w => tfd_cg _ _ _ (fun v hv => ht v (by omega))
  unfold turnC
  by_cases hz : tsum d (d 2) = 0
  · rw [if_pos hz, tnow_99 (fun q => q.2 (by rw [h2, e]; exact hz)), if_pos rfl]
  · rw [if_neg hz]
    have hp : d' 3 = 1 ∧ tsum d' (d' 2) ≠ 0 := ⟨h3, by rw [h2, e]; exact hz⟩
    have en : tnow d' = tv d (d' 0) := by
      unfold tnow tv
      rw [if_pos hp, h2, e, e2]
    by_cases h99 : tnow d' = 99
    · exfalso
      unfold tnow at h99
      rw [if_pos hp] at h99
      have h1 := Nat.mod_lt (d' 0) (Nat.pos_of_ne_zero hp.2)
      have h5 := (tfd_lt (d := d') (d' 2) 0 (d' 0 % tsum d' (d' 2)) (by simp only [tsum, Nat.zero_add]; omega)).1
      rw [h99] at h5
      omega
    · rw [if_neg h99, en]
end PS
