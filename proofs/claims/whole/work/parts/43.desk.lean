theorem goF_end {full : Int32} {pr : Nat → Int32} {n : Nat} : ∀ (k nw : Nat) (R : Nat → Nat → Int32), nw + k < 200 → goF full pr n (k + 1) nw R = hrs full pr (nw + k) n (goF full pr n k nw R)
  | 0, nw, R, h => by rw [goF_s (by omega)]; rfl
  | k + 1, nw, R, h => by
    rw [goF_s (by omega), goF_end k (nw + 1) _ (by omega), ← goF_s (by omega), show nw + 1 + k = nw + (k + 1) by omega]
theorem goF_min {full : Int32} {pr : Nat → Int32} {n : Nat} : ∀ (k nw : Nat) (R : Nat → Nat → Int32), nw ≤ 200 → goF full pr n k nw R = goF full pr n (min k (200 - nw)) nw R
  | 0, nw, R, h => by rw [Nat.zero_min]
  | k + 1, nw, R, h => by
    rcases Nat.lt_or_ge nw 200 with q | q
    · rw [goF_s q, goF_min k (nw + 1) _ (by omega), show min (k + 1) (200 - nw) = min k (200 - (nw + 1)) + 1 by omega, goF_s q]
    · rw [goF_x (Or.inr q), goF_x (Or.inr q)]
theorem goN_min : ∀ (k nw : Nat), nw ≤ 200 → goN k nw = min 200 (nw + k)
  | 0, nw, h => by rw [goN]; omega
  | k + 1, nw, h => by
    rcases Nat.lt_or_ge nw 200 with q | q
    · rw [goN_s q, goN_min k (nw + 1) (by omega)]; congr 1; omega
    · rw [goN_x (Or.inr q)]; omega
theorem jInv_full {full : Int32} {x : Nat → Int32} (h9 : ¬ x 17 = 1 → x 9 = 0) (h22 : x 22 = x 9) : rAtFull full x 9 = 0 ∧ rAtFull full x 22 = 0 := by
  have e : ∀ k, (k = 9 ∨ k = 22) → rFull1 x k = 0 := by
    intro k hk
    unfold rFull1
    split
    · rename_i h2
      have h0 : x 9 = 0 := h9 (by rw [h2]; decide)
      rcases hk with rfl | rfl
      · exact h0
      · rw [h22]; exact h0
    · unfold rFullB
      split <;> rcases hk with rfl | rfl <;> rfl
  have f : ∀ k, (k = 9 ∨ k = 22) → rAtFull full x k = rFull1 x k := by
    intro k hk
    unfold rAtFull rFullC
    split <;> rcases hk with rfl | rfl <;> rfl
  exact ⟨(f 9 (Or.inl rfl)).trans (e 9 (Or.inl rfl)), (f 22 (Or.inr rfl)).trans (e 22 (Or.inr rfl))⟩
/-- what a turn leaves: since and unsaved agree; unsaved is 0 off the market, and where all is saved -/
def jT (y : Nat → Int32) : Prop := y 22 = y 9 ∧ (¬ y 17 = 1 → y 9 = 0) ∧ (y 0 ≤ y 8 → y 9 = 0)
theorem jT_S {c : Nat → Int32} (h22 : c 22 = c 9) (h17 : c 17 = 1) (hs : ¬ c 0 ≤ c 8) : jT (rMkS c) := by
  unfold rMkS
  split
  · exact ⟨rfl, fun _ => rfl, fun _ => rfl⟩
  · exact ⟨h22, fun z => absurd h17 z, fun z => absurd z hs⟩
theorem jT_B {a : Nat → Int32} (h22 : a 22 = a 9) (h17 : a 17 = 1) (hs : ¬ a 0 ≤ a 8) : jT (rMkB a) := by
  unfold rMkB
  split
  · split
    · have e22 : rInc 22 (rInc 9 (rInc 11 a)) 22 = rInc 22 (rInc 9 (rInc 11 a)) 9 := by
        show a 22 + 1 = a 9 + 1
        rw [h22]
      unfold rMkW
      split
      · exact jT_S e22 h17 hs
      · split
        · exact jT_S e22 h17 hs
        · exact ⟨e22, fun z => absurd h17 z, fun z => absurd z hs⟩
    · exact jT_S (c := rInc 13 (rDec 21 a)) h22 h17 hs
  · exact ⟨h22, fun z => absurd h17 z, fun z => absurd z hs⟩
theorem jT_market {p : Int32} {x : Nat → Int32} (h9 : ¬ x 17 = 1 → x 9 = 0) (h22 : x 22 = x 9) (hs : ¬ x 0 ≤ x 8) : jT (rAtMarket p x) := by
  have ha : rMkA x 22 = rMkA x 9 ∧ rMkA x 17 = 1 ∧ rMkA x 8 = x 8 ∧ rMkA x 0 = x 0 := by
    unfold rMkA
    split
    · exact ⟨h22, by assumption, rfl, rfl⟩
    · rename_i h1
      unfold rMkT
      split <;> exact ⟨(h9 h1).symm, rfl, rfl, rfl⟩
  obtain ⟨a1, a2, a3, a4⟩ := ha
  have hs' : ¬ rMkA x 0 ≤ rMkA x 8 := by rw [a3, a4]; exact hs
  unfold rAtMarket
  exact jT_B (a := rMkP p (rMkA x)) a1 a2 hs'
theorem jT_wait {x : Nat → Int32} (h9 : ¬ x 17 = 1 → x 9 = 0) (h22 : x 22 = x 9) (hs : ¬ x 0 ≤ x 8) : jT (rWait x) := by
  unfold rWait
  split
  · exact ⟨rfl, fun _ => rfl, fun _ => rfl⟩
  · exact ⟨h22, h9, fun z => absurd z hs⟩
theorem jT_turn {full p : Int32} {x : Nat → Int32} (h9 : ¬ x 17 = 1 → x 9 = 0) (h22 : x 22 = x 9) (hs : ¬ x 0 ≤ x 8) : jT (rTurn full p x) := by
  unfold rTurn
  split
  · split
    · exact jT_wait h9 h22 hs
    · split
      · exact jT_market h9 h22 hs
      · exact jT_wait h9 h22 hs
  · obtain ⟨e9, e22⟩ := jInv_full (full := full) h9 h22
    exact ⟨e22.trans e9.symm, fun _ => e9, fun _ => e9⟩
theorem jInv_hour {full p : Int32} {nw : Nat} {row : Nat → Int32} (hnw : nw < 200) (h : jInv row) (hr : row 18 = -1) : jInv (rHour full p nw row) := by
  obtain ⟨h1, h2, h3⟩ := h
  have hs : ¬ row 0 ≤ row 8 := i32_nle.mpr (h3 hr)
  obtain ⟨t1, t2, t3⟩ := jT_turn (full := full) (p := p) (x := va_up row 23 (rGuard nw row)) h2 h1 hs
  unfold rHour
  generalize rTurn full p (va_up row 23 (rGuard nw row)) = y at t1 t2 t3
  unfold rDone
  split
  · rename_i hy
    refine ⟨t1, fun _ => t3 hy, fun q => absurd q (nI_nm1 (show nw + 1 < 2 ^ 31 by omega))⟩
  · rename_i hy
    exact ⟨t1, t2, fun _ => i32_nle.mp hy⟩
theorem jInv_hrs {full : Int32} {pr : Nat → Int32} {nw : Nat} {R : Nat → Nat → Int32} (hnw : nw < 200) (i : Nat) (h : jInv (R i)) : ∀ j, jInv (hrs full pr nw j R i)
  | 0 => h
  | j + 1 => by
    unfold hrs
    split
    · rename_i hr
      by_cases q : i = j
      · subst q; rw [va_up_self]; exact jInv_hour hnw (jInv_hrs hnw i h i) hr
      · rw [va_up_ne _ _ q]; exact jInv_hrs hnw i h j
    · exact jInv_hrs hnw i h j
theorem jInv_go {full : Int32} {pr : Nat → Int32} {n : Nat} (i : Nat) : ∀ (k nw : Nat) (R : Nat → Nat → Int32), jInv (R i) → jInv (goF full pr n k nw R i)
  | 0, _, _, h => h
  | k + 1, nw, R, h => by
    unfold goF
    split
    · exact jInv_go i k (nw + 1) _ (jInv_hrs (by assumption) i h n)
    · exact h
theorem jOk_go {full : Int32} {pr : Nat → Int32} {n : Nat} (i : Nat) : ∀ (k nw : Nat) (R : Nat → Nat → Int32), jOk (R i) → jOk (goF full pr n k nw R i)
  | 0, _, _, h => h
  | k + 1, nw, R, h => by
    unfold goF
    split
    · exact jOk_go i k (nw + 1) _ (jOk_of h (fun k9 hk9 => hrs_fix R i k9 hk9 n))
    · exact h
def orcK (pr : Nat → Int32) (full : Int32) (n : Nat) (R : Nat → Nat → Int32) (x r : Int32) : Prop := (wi x 0 (nI n - 1) = 0 ∧ r = -1) ∨ (∃ j, j < n ∧ x = nI j ∧ ∃ w d mk sv bg cm : Nat, ((1 ≤ w ∧ w ≤ 30) ∧ d ≤ 200 ∧ mk < 3 ∧ sv ≤ 5 ∧ bg ≤ 5 ∧ cm + w ≤ d) ∧ R j 0 = nI w ∧ R j 1 = nI d ∧ R j 2 = nI mk ∧ R j 5 = nI sv ∧ R j 6 = nI bg ∧ R j 7 = nI cm ∧ orcC pr full w d bg sv cm r)
theorem dOf5 {A : Nat → Prop} {w : va_W} {a b c d f : Nat × va_E} {i j k m x : Nat} (hD : va_D A w) (ha : w[i]? = some a) (hb : w[j]? = some b) (hc : w[k]? = some c) (hd : w[m]? = some d) (hf : w[x]? = some f) (hn : va_nd [i, j, k, m] = true) (hx : x ≠ i ∧ x ≠ j ∧ x ≠ k ∧ x ≠ m) : va_D A [a, b, c, d, f] := by
  have h4 : va_D A [a, b, c, d] := hD.sub [i, j, k, m] hn (by simp [ha, hb, hc, hd])
  have h1 : va_D A [f] := hD.sub [x] rfl (by simp [hf])
  refine va_D.app (w1 := [a, b, c, d]) (w2 := [f]) h4 h1 (fun y z p q hy hz e => ?_)
  match z, hz with
  | 0, hz =>
    cases hz
    match y, hy with
    | 0, hy => cases hy; exact hx.1 (hD.1 x i _ _ hf ha e.symm)
    | 1, hy => cases hy; exact hx.2.1 (hD.1 x j _ _ hf hb e.symm)
    | 2, hy => cases hy; exact hx.2.2.1 (hD.1 x k _ _ hf hc e.symm)
    | 3, hy => cases hy; exact hx.2.2.2 (hD.1 x m _ _ hf hd e.symm)
    | y + 4, hy => simp at hy
  | z + 1, hz => simp at hz
set_option maxHeartbeats 4000000 in
set_option maxRecDepth 100000 in
theorem c_X6_go (l : Launch) (D : va_G) (cI cL cZ cO : ClassId) (sz : Nat) (o : Nat) (q ja ta : Nat → Nat) (n nw : Nat) (full : Int32) (pr : Nat → Int32) (R : Nat → Nat → Int32) (L : Nat) (kn : Int32) (lp ch : Nat → Int32) (me : Nat → Int64) (ru wo : Nat → Int32) (mb : Nat → Int64) (lf : Nat → Int32) (x : Int32) (hn : n ≤ 12) (hnw : nw ≤ 200) (hR : ∀ j, j < n → jOk (R j)) (hI : ∀ j, j < n → jInv (R j)) : Met l yX6_go wsX6_go ({ frames := 5, cells := 0, slots := 0, locals := 111 } : Room) (va_Pc [.ref o, .int x] (Rw D cI cL cZ cO (wC cI cL cO o q ja ta n nw full pr R L kn lp ch me ru wo mb lf) sz)) (va_Qi (fun (r : Int32) (u : Unit) => r = goV nw x) (fun (u : Unit) => Wo D (va_A (wC cI cL cO o q ja ta n nw full pr R L kn lp ch me ru wo mb lf) sz) (wC cI cL cO o q ja ta n (goW nw x) full pr (goR full pr n nw x R) L kn lp ch me ru wo mb lf)) (va_A (wC cI cL cO o q ja ta n nw full pr R L kn lp ch me ru wo mb lf) sz)) 0 0 (va_A (wC cI cL cO o q ja ta n nw full pr R L kn lp ch me ru wo mb lf) sz) := by
  refine Met.ofW (cc := cX6_go) (maxL := 4) (ret := (some .int)) (by decide) rfl ?_
  intro p e s m args below meth c s₁ B hml hv
  obtain ⟨rfl, hsz, hP, hO, hD0⟩ := hv
  have hx := B.exec
  have hb := B.bytes
  have hr := B.returns
  have hts := atoms_spec (ws := wsX6_go) B.pre
  have hown : s.vm.findClass RX6 = some m.cls := findClass_of_methodNamed B.named
  have hlocks := B.notSynchronized
  have hK := hO.1
  subst hsz
  have hD := hD0.self (sz := s.heap.size)
  generalize hAe : va_A (wC cI cL cO o q ja ta n nw full pr R L kn lp ch me ru wo mb lf) s.heap.size = A at hD ⊢
  have hA : ∀ q : Nat, s.heap.size ≤ q → A q := fun q h => by rw [← hAe]; exact Or.inr h
  have hS : va_S A s.heap s.heap [] := va_S.rf
  have hl := lv_entry ([.ref o, .int x]) (n := 4) (Nat.le_of_ble_eq_true rfl)
  rw [lg_entry_eq]
  generalize (lg_sl ([.ref o, .int x]) ++ List.replicate (4 - (lg_sl ([.ref o, .int x])).length) Slot.unset).toArray = ls at hl ⊢
  have hl : lv_has ls 4 [(0, .ref o), (1, .int x)] := hl
  generalize hQQ : MQ below _ _ s _ _ _ = QQ
  refine lv_iload_n hx hb dX6_go_0 rfl (lv_at hl 1 rfl) ?_
  refine lv_iconst (v := 0) hx hb dX6_go_1 (by decide) ?_
  refine lv_sipush (v := 200) hx hb dX6_go_2 (by decide) ?_
  refine roSi (As := [.int x, .int 0, .int 200]) (rest := []) ⟨hx, hb, hml, hown, hts⟩ (c_X6_within l D cI cL cZ cO x 0 200 ) (va_cwS 3 hts gX6_go_X6_within rfl rfl rfl (by decide +kernel) ⟨Nat.le_of_ble_eq_true rfl, Nat.le_of_ble_eq_true rfl⟩) hO (fun k q h => by simp at h) rfl hl.1 rfl (Nat.le_of_ble_eq_true rfl) dX6_go_5 ⟨Nat.le_of_ble_eq_true rfl, Nat.le_of_ble_eq_true rfl⟩ (fun r_5 e_5 => ?_)
  obtain rfl : r_5 = wi x 0 200 := e_5
  refine lv_if_ne (tgt := 13) hx hb dX6_go_8 (by decide) (fun c_8 => ?_) (fun c_8 => ?_)
  · skip
    obtain ⟨t, -, ht, rfl⟩ := wi_nat (a := 0) (b := 200) (by decide) (by decide) c_8
    refine lv_sipush (v := 200) hx hb dX6_go_13 (by decide) ?_
    refine lv_aload_n hx hb dX6_go_16 rfl (lv_at hl 0 rfl) ?_
    refine va_get (D := D) (cl := vwCl) (ci := 5) (v := .int (nI nw)) (C := RX6) (T := TX6) (N := 6) hx hb hts (fun _ h => List.mem_cons_of_mem _ (List.mem_append_left _ (List.mem_append_left _ (List.mem_append_left _ (List.mem_append_right _ h))))) hown hK hP 0 rfl rfl 5 (by decide) (hts (.fieldLink RX6 42 "CheapHours" "now" "I") (List.mem_of_getElem? (i := 1) rfl)) (fun _ h9 => h9) rfl dX6_go_17 ?_
    refine lv_iload_n hx hb dX6_go_20 rfl (lv_at hl 1 rfl) ?_
    refine n_iadd (x := nw) (y := t) hx hb dX6_go_21 ?_
    refine va_mmin hx hb (hml.trans hl.1.symm) hown (hts (.methodLink RX6 70 Lib.Math.min.name) (List.mem_of_getElem? (i := 2) rfl)) (hts (.static Lib.Math.min.name) (List.mem_of_getElem? (i := 3) rfl)) (hts (.initialized "java/lang/Math") (List.mem_of_getElem? (i := 4) rfl)) (hts (.code Lib.Math.min.name Lib.Math.min.code 2 (some .int)) (List.mem_of_getElem? (i := 5) rfl)) (Nat.le_of_ble_eq_true rfl) (Nat.le_of_ble_eq_true rfl) (Nat.le_of_ble_eq_true rfl) (Nat.le_of_ble_eq_true rfl) (x := 200) (y := (nI (nw + t))) dX6_go_22 ?_
    refine lv_seti (v := nI (min 200 (nw + t))) (n_min (x := 200) (y := (nw + t)) (by omega) (by omega)) ?_
    refine lv_istore_n (lv' := [(2, .int (nI (min 200 (nw + t)))), (0, .ref o), (1, .int (nI t))]) hx hb dX6_go_25 rfl hl (by decide) rfl (fun ls hl => ?_)
    refine lv_aload_n hx hb dX6_go_26 rfl (lv_at hl 1 rfl) ?_
    refine va_get (D := D) (cl := vwCl) (ci := 5) (v := .int (nI nw)) (C := RX6) (T := TX6) (N := 6) hx hb hts (fun _ h => List.mem_cons_of_mem _ (List.mem_append_left _ (List.mem_append_left _ (List.mem_append_left _ (List.mem_append_right _ h))))) hown hK hP 0 rfl rfl 5 (by decide) (hts (.fieldLink RX6 42 "CheapHours" "now" "I") (List.mem_of_getElem? (i := 1) rfl)) (fun _ h9 => h9) rfl dX6_go_27 ?_
    refine lv_istore_n (lv' := [(3, .int (nI nw)), (2, .int (nI (min 200 (nw + t)))), (0, .ref o), (1, .int (nI t))]) hx hb dX6_go_30 rfl hl (by decide) rfl (fun ls hl => ?_)
    have L31 : ∀ (n0 : Nat) (k : Nat) (H : Heap) (locs : List Loc) (ls : Array Slot), min 200 (nw + t) - nw - k < n0 → (nw + k ≤ min 200 (nw + t)) → va_P D vwCl (wC cI cL cO o q ja ta n nw full pr (goF full pr n k nw R) L kn lp ch me ru wo mb lf) H → va_D A (wC cI cL cO o q ja ta n nw full pr (goF full pr n k nw R) L kn lp ch me ru wo mb lf) → va_S A s.heap H locs → lv_has ls 4 [(3, .int (nI (nw + k))), (2, .int (nI (min 200 (nw + t)))), (0, .ref o), (1, .int (nI t))] → W p l e (headSpec wsX6_go ({ frames := 5, cells := 0, slots := 0, locals := 111 } : Room)).room s m ([.ref o, .int (nI t)] : List Value).toArray below meth c H locs 0 0 QQ (F0 m 31 ls []) := by
      intro n0
      induction n0 with
      | zero =>
        intro k H locs ls hmu
        exact absurd hmu (Nat.not_lt_zero _)
      | succ n0 ih31 =>
        intro k H locs ls hmu hk hP hD hS hl
        refine lv_iload_n hx hb dX6_go_31 rfl (lv_at hl 0 rfl) ?_
        refine lv_iload_n hx hb dX6_go_32 rfl (lv_at hl 1 rfl) ?_
        refine n_icmp_ge (x := (nw + k)) (y := (min 200 (nw + t))) (tgt := 47) hx hb dX6_go_33 (by decide) (by omega) (by omega) (fun c_33 => ?_) (fun c_33 => ?_)
        · skip
          refine lv_aload_n hx hb dX6_go_47 rfl (lv_at hl 2 rfl) ?_
          refine lv_iload_n hx hb dX6_go_48 rfl (lv_at hl 1 rfl) ?_
          refine va_put (D := D) (cl := vwCl) (ci := 5) (v := .int (nI (min 200 (nw + t)))) (ty := .int) (C := RX6) (T := TX6) (N := 6) hx hb hts (fun _ h => List.mem_cons_of_mem _ (List.mem_append_left _ (List.mem_append_left _ (List.mem_append_left _ (List.mem_append_right _ h))))) tyX6 tyX6_ok nmX6 hown hK hP hD hS 0 rfl rfl 5 (by decide) (hts (.fieldLink RX6 42 "CheapHours" "now" "I") (List.mem_of_getElem? (i := 1) rfl)) (fun _ h9 => h9) rfl (by decide +kernel) rfl rfl (Nat.le_of_ble_eq_true rfl) dX6_go_49 (fun H locs hP hD hS => ?_)
          have hP : va_P D vwCl (wC cI cL cO o q ja ta n (min 200 (nw + t)) full pr (goF full pr n k nw R) L kn lp ch me ru wo mb lf) H := hP
          have hD : va_D A (wC cI cL cO o q ja ta n (min 200 (nw + t)) full pr (goF full pr n k nw R) L kn lp ch me ru wo mb lf) := hD
          refine lv_aload_n hx hb dX6_go_52 rfl (lv_at hl 2 rfl) ?_
          refine va_get (D := D) (cl := vwCl) (ci := 5) (v := .int (nI (min 200 (nw + t)))) (C := RX6) (T := TX6) (N := 6) hx hb hts (fun _ h => List.mem_cons_of_mem _ (List.mem_append_left _ (List.mem_append_left _ (List.mem_append_left _ (List.mem_append_right _ h))))) hown hK hP 0 rfl rfl 5 (by decide) (hts (.fieldLink RX6 42 "CheapHours" "now" "I") (List.mem_of_getElem? (i := 1) rfl)) (fun _ h9 => h9) rfl dX6_go_53 ?_
          have h1 : goW nw (nI t) = min 200 (nw + t) := by rw [goW, if_neg c_8, nI_clamp (by omega), goN_min t nw hnw]
          have h2 : goR full pr n nw (nI t) R = goF full pr n k nw R := by rw [goR, if_neg c_8, nI_clamp (by omega), goF_min t nw R hnw, show min t (200 - nw) = k by omega]
          have hw9 : wC cI cL cO o q ja ta n (goW nw (nI t)) full pr (goR full pr n nw (nI t) R) L kn lp ch me ru wo mb lf = wC cI cL cO o q ja ta n (min 200 (nw + t)) full pr (goF full pr n k nw R) L kn lp ch me ru wo mb lf := by rw [h1, h2]
          rw [← hw9] at hP hD
          rw [← hQQ]
          exact W.iret (v := (nI (min 200 (nw + t)))) hx hb hr (fun t9 ht9 hW9 => ⟨⟨_, (), rfl, (by rw [goV, if_neg c_8, nI_clamp (by omega), goN_min t nw hnw]), by rw [ht9]; exact hP, hD⟩, hS.F ht9⟩) hS.2.2 dX6_go_56
        · skip
          refine lv_aload_n hx hb dX6_go_36 rfl (lv_at hl 2 rfl) ?_
          refine lv_iload_n hx hb dX6_go_37 rfl (lv_at hl 0 rfl) ?_
          refine rwVv (As := [.int (nI (nw + k))]) (rest := []) ⟨hx, hb, hml, hown, hts⟩ (c_X6_passHour l D cI cL cZ cO H.size o q ja ta n nw full pr (goF full pr n k nw R) L kn lp ch me ru wo mb lf (nw + k) hn (by omega) (fun j9 hj9 => jOk_go j9 k nw R (hR j9 hj9)) (fun j9 hj9 => jInv_go j9 k nw R (hI j9 hj9))) (cwV 1 hts gX6_go_X6_passHour rfl rfl rfl (by decide +kernel) ⟨Nat.le_of_ble_eq_true rfl, Nat.le_of_ble_eq_true rfl⟩) hO hP hD hS hA (va_recv hK hP (ci := 5) (q0 := 0) rfl rfl) rfl hl.1 rfl (Nat.le_of_ble_eq_true rfl) dX6_go_38 ⟨Nat.le_of_ble_eq_true rfl, Nat.le_of_ble_eq_true rfl⟩ (fun u_38 H locs e_38 hP hD hS => ?_)
          rw [← goF_end k nw R (by omega)] at hP hD
          have hP : va_P D vwCl (wC cI cL cO o q ja ta n nw full pr (goF full pr n (k + 1) nw R) L kn lp ch me ru wo mb lf) H := hP
          have hD : va_D A (wC cI cL cO o q ja ta n nw full pr (goF full pr n (k + 1) nw R) L kn lp ch me ru wo mb lf) := hD
          refine lv_iinc (v := (nI ((nw + k) + 1))) (lv' := [(3, .int (nI ((nw + k) + 1))), (2, .int (nI (min 200 (nw + t)))), (0, .ref o), (1, .int (nI t))]) hx hb dX6_go_41 hl (k := 0) rfl (nI_add (nw + k) 1) (by decide) rfl (fun ls hl => ?_)
          refine lv_goto (tgt := 31) hx hb dX6_go_44 (by decide) ?_
          exact ih31 (k + 1) _ _ _ (by omega) (by omega) hP hD hS (lv_sub hl [0, 1, 2, 3] rfl)
    exact L31 _ 0 _ _ _ (Nat.lt_succ_self _) (by omega) hP hD hS (lv_sub hl [0, 1, 2, 3] rfl)
  · skip
    refine lv_iconst (v := (-1)) hx hb dX6_go_11 (by decide) ?_
    have h1 : goW nw x = nw := if_pos c_8
    have h2 : goR full pr n nw x R = R := if_pos c_8
    have hw9 : wC cI cL cO o q ja ta n (goW nw x) full pr (goR full pr n nw x R) L kn lp ch me ru wo mb lf = wC cI cL cO o q ja ta n nw full pr R L kn lp ch me ru wo mb lf := by rw [h1, h2]
    rw [← hw9] at hP hD
    rw [← hQQ]
    exact W.iret (v := (-1)) hx hb hr (fun t9 ht9 hW9 => ⟨⟨_, (), rfl, (if_pos c_8).symm, by rw [ht9]; exact hP, hD⟩, hS.F ht9⟩) hS.2.2 dX6_go_12
set_option maxHeartbeats 4000000 in
set_option maxRecDepth 100000 in
theorem c_X6_oracle (l : Launch) (D : va_G) (cI cL cZ cO : ClassId) (sz : Nat) (o : Nat) (q ja ta : Nat → Nat) (n nw : Nat) (full : Int32) (pr : Nat → Int32) (R : Nat → Nat → Int32) (L : Nat) (kn : Int32) (lp ch : Nat → Int32) (me : Nat → Int64) (ru wo : Nat → Int32) (mb : Nat → Int64) (lf : Nat → Int32) (x : Int32) (hn : n ≤ 12) (hR : ∀ j, j < n → jOk (R j)) (hpr : prGood pr full) : Met l yX6_oracle wsX6_oracle ({ frames := 7, cells := 0, slots := 0, locals := 165 } : Room) (va_Pc [.ref o, .int x] (Rw D cI cL cZ cO (wC cI cL cO o q ja ta n nw full pr R L kn lp ch me ru wo mb lf) sz)) (va_Qi (fun (r : Int32) (u : Nat → Int32) => orcK pr full n R x r) (fun (u : Nat → Int32) => Wo D (va_A (wC cI cL cO o q ja ta n nw full pr R L kn lp ch me ru wo mb lf) sz) (wC cI cL cO o q ja ta n nw full pr R L kn lp ch me ru wo mb u)) (va_A (wC cI cL cO o q ja ta n nw full pr R L kn lp ch me ru wo mb lf) sz)) 0 0 (va_A (wC cI cL cO o q ja ta n nw full pr R L kn lp ch me ru wo mb lf) sz) := by
  refine Met.ofW (cc := cX6_oracle) (maxL := 3) (ret := (some .int)) (by decide) rfl ?_
  intro p e s m args below meth c s₁ B hml hv
  obtain ⟨rfl, hsz, hP, hO, hD0⟩ := hv
  have hx := B.exec
  have hb := B.bytes
  have hr := B.returns
  have hts := atoms_spec (ws := wsX6_oracle) B.pre
  have hown : s.vm.findClass RX6 = some m.cls := findClass_of_methodNamed B.named
  have hlocks := B.notSynchronized
  have hK := hO.1
  subst hsz
  have hD := hD0.self (sz := s.heap.size)
  generalize hAe : va_A (wC cI cL cO o q ja ta n nw full pr R L kn lp ch me ru wo mb lf) s.heap.size = A at hD ⊢
  have hA : ∀ q : Nat, s.heap.size ≤ q → A q := fun q h => by rw [← hAe]; exact Or.inr h
  have hS : va_S A s.heap s.heap [] := va_S.rf
  have hl := lv_entry ([.ref o, .int x]) (n := 3) (Nat.le_of_ble_eq_true rfl)
  rw [lg_entry_eq]
  generalize (lg_sl ([.ref o, .int x]) ++ List.replicate (3 - (lg_sl ([.ref o, .int x])).length) Slot.unset).toArray = ls at hl ⊢
  have hl : lv_has ls 3 [(0, .ref o), (1, .int x)] := hl
  generalize hQQ : MQ below _ _ s _ _ _ = QQ
  refine lv_aload_n hx hb dX6_oracle_0 rfl (lv_at hl 0 rfl) ?_
  refine lv_iload_n hx hb dX6_oracle_1 rfl (lv_at hl 1 rfl) ?_
  refine roVq (As := [.int x]) (rest := []) ⟨hx, hb, hml, hown, hts⟩ (c_X6_jobOf l D cI cL cZ cO o q ja ta n nw full pr R L kn lp ch me ru wo mb lf x ) (cwV 1 hts gX6_oracle_X6_jobOf rfl rfl rfl (by decide +kernel) ⟨Nat.le_of_ble_eq_true rfl, Nat.le_of_ble_eq_true rfl⟩) hO hP (va_recv hK hP (ci := 5) (q0 := 0) rfl rfl) rfl hl.1 rfl (Nat.le_of_ble_eq_true rfl) dX6_oracle_2 ⟨Nat.le_of_ble_eq_true rfl, Nat.le_of_ble_eq_true rfl⟩ (fun r_2 e_2 => ?_)
  rcases jobOf_cases (ja := ja) (x := x) hn with ⟨hw9, hj9⟩ | ⟨j, hj, rfl, hj9, hw9⟩
  · skip
    rw [e_2, hj9]
    refine lv_astore_nN (lv' := [(2, .null), (0, .ref o), (1, .int x)]) hx hb dX6_oracle_5 rfl hl (by decide) rfl (fun ls hl => ?_)
    refine lv_aload_nN hx hb dX6_oracle_6 rfl (lv_at hl 0 rfl) ?_
    refine lv_ifnonnullN hx hb dX6_oracle_7 ?_
    refine lv_iconst (v := (-1)) hx hb dX6_oracle_10 (by decide) ?_
    refine lv_goto (tgt := 25) hx hb dX6_oracle_11 (by decide) ?_
    rw [← hQQ]
    exact W.iret (v := (-1)) hx hb hr (fun t9 ht9 hW9 => ⟨⟨_, lf, rfl, Or.inl ⟨hw9, rfl⟩, by rw [ht9]; exact hP, hD⟩, hS.F ht9⟩) hS.2.2 dX6_oracle_25
  · skip
    rw [e_2, hj9]
    refine lv_astore_n (lv' := [(2, .ref (ja j)), (0, .ref o), (1, .int (nI j))]) hx hb dX6_oracle_5 rfl hl (by decide) rfl (fun ls hl => ?_)
    refine lv_aload_n hx hb dX6_oracle_6 rfl (lv_at hl 0 rfl) ?_
    refine lv_ifnonnull (tgt := 14) hx hb dX6_oracle_7 (by decide) ?_
    refine lv_aload_n hx hb dX6_oracle_14 rfl (lv_at hl 1 rfl) ?_
    refine va_get (D := D) (cl := vwCl) (ci := 5) (v := .ref (q 10)) (C := RX6) (T := TX6) (N := 6) hx hb hts (fun _ h => List.mem_cons_of_mem _ (List.mem_append_left _ (List.mem_append_left _ (List.mem_append_left _ (List.mem_append_left _ (List.mem_append_right _ h)))))) hown hK hP 0 rfl rfl 3 (by decide) (hts (.fieldLink RX6 34 "CheapHours" "hindsight" "LCheapHours$Hindsight;") (List.mem_of_getElem? (i := 1) rfl)) (fun _ h9 => h9) rfl dX6_oracle_15 ?_
    refine lv_aload_n hx hb dX6_oracle_18 rfl (lv_at hl 0 rfl) ?_
    refine va_get (D := D) (cl := vwCl) (ci := 1) (v := .ref (ta j)) (C := RX1) (T := TX1) (N := 16) hx hb hts (fun _ h => List.mem_cons_of_mem _ (List.mem_append_left _ (List.mem_append_left _ (List.mem_append_left _ (List.mem_append_right _ h))))) hown hK hP (13 + j) (poolJ hj) rfl 0 (by decide) (hts (.fieldLink RX6 141 "CheapHours$Job" "terms" "LCheapHours$Terms;") (List.mem_of_getElem? (i := 2) rfl)) (fun _ h9 => h9) rfl dX6_oracle_19 ?_
    obtain ⟨w, d, mk, sv, bg, cm, hw, hd, hmk, hsv, hbg, hcm, e0, e1, e2, e5, e6, e7⟩ := hR j hj
    have hte : teFs (R j) = [.int (nI w), .int (nI d), .int (nI mk), .int (nI sv), .int (nI bg), .int (R j 3), .int (R j 4), .int (nI cm)] := by unfold teFs; rw [e0, e1, e2, e5, e6, e7]
    have hT9 : (wC cI cL cO o q ja ta n nw full pr R L kn lp ch me ru wo mb lf)[13 + (n + j)]? = some (ta j, .inr (4, [.int (nI w), .int (nI d), .int (nI mk), .int (nI sv), .int (nI bg), .int (R j 3), .int (R j 4), .int (nI cm)])) := by rw [← hte]; exact poolT hj
    have hwc9 : ∀ c9 ∈ wHd cI (q 10) (q 0) (q 1) (q 11) (ta j) full pr lf w d mk sv bg (R j 3) (R j 4) cm, ∃ k9 : Nat, (wC cI cL cO o q ja ta n nw full pr R L kn lp ch me ru wo mb lf)[k9]? = some c9 := by
      intro c9 h9
      simp only [wHd, List.mem_cons, List.not_mem_nil, or_false] at h9
      rcases h9 with rfl | rfl | rfl | rfl | rfl
      · exact ⟨11, rfl⟩
      · exact ⟨1, rfl⟩
      · exact ⟨2, rfl⟩
      · exact ⟨12, rfl⟩
      · exact ⟨_, hT9⟩
    have hPc9 : va_P D vwCl (wHd cI (q 10) (q 0) (q 1) (q 11) (ta j) full pr lf w d mk sv bg (R j 3) (R j 4) cm) s.heap := fun k9 c9 h9 => by obtain ⟨i9, hi9⟩ := hwc9 c9 (List.mem_of_getElem? h9); exact hP i9 c9 hi9
    have hDc9 : va_D A (wHd cI (q 10) (q 0) (q 1) (q 11) (ta j) full pr lf w d mk sv bg (R j 3) (R j 4) cm) := dOf5 hD (rfl : (wC cI cL cO o q ja ta n nw full pr R L kn lp ch me ru wo mb lf)[11]? = _) (rfl : (wC cI cL cO o q ja ta n nw full pr R L kn lp ch me ru wo mb lf)[1]? = _) (rfl : (wC cI cL cO o q ja ta n nw full pr R L kn lp ch me ru wo mb lf)[2]? = _) (rfl : (wC cI cL cO o q ja ta n nw full pr R L kn lp ch me ru wo mb lf)[12]? = _) hT9 (by decide) (by omega)
    refine rwViX (As := [.ref (ta j)]) (rest := []) (w := wC cI cL cO o q ja ta n nw full pr R L kn lp ch me ru wo mb lf) (x0 := fun u9 => (q 11, .inl (cI, 900, .inl u9))) 12 hwc9 (rfl : (wC cI cL cO o q ja ta n nw full pr R L kn lp ch me ru wo mb lf)[12]? = _) (fun _ => rfl) (fun u9 => ?_) (fun u9 c9 h9 hne => ?_) ⟨hx, hb, hml, hown, hts⟩ (c_X0_leastSum l D cI cL cZ cO s.heap.size (q 10) (q 0) (q 1) (q 11) (ta j) full pr lf w d mk sv bg (R j 3) (R j 4) cm hw hd hsv hbg hcm hpr) (cwV 1 hts gX6_oracle_X0_leastSum rfl rfl rfl (by decide +kernel) ⟨Nat.le_of_ble_eq_true rfl, Nat.le_of_ble_eq_true rfl⟩) hO hP hD hPc9 hDc9 hS hA (va_recv hK hPc9 (ci := 0) (q0 := 0) rfl rfl) rfl hl.1 rfl (Nat.le_of_ble_eq_true rfl) dX6_oracle_22 ⟨Nat.le_of_ble_eq_true rfl, Nat.le_of_ble_eq_true rfl⟩ (fun r_22 u_22 H locs e_22 hP hD hS => ?_)
    · simp only [wHd, List.mem_cons, true_or, or_true]
    · skip
      simp only [wHd, List.mem_cons, List.not_mem_nil, or_false] at h9 ⊢
      rcases h9 with rfl | rfl | rfl | rfl | rfl
      · exact Or.inl rfl
      · exact Or.inr (Or.inl rfl)
      · exact Or.inr (Or.inr (Or.inl rfl))
      · exact absurd rfl hne
      · exact Or.inr (Or.inr (Or.inr (Or.inr rfl)))
    have hP : va_P D vwCl (wC cI cL cO o q ja ta n nw full pr R L kn lp ch me ru wo mb u_22) H := hP
    have hD : va_D A (wC cI cL cO o q ja ta n nw full pr R L kn lp ch me ru wo mb u_22) := hD
    rw [← hQQ]
    exact W.iret (v := r_22) hx hb hr (fun t9 ht9 hW9 => ⟨⟨_, u_22, rfl, Or.inr ⟨j, hj, rfl, w, d, mk, sv, bg, cm, ⟨hw, hd, hmk, hsv, hbg, hcm⟩, e0, e1, e2, e5, e6, e7, e_22⟩, by rw [ht9]; exact hP, hD⟩, hS.F ht9⟩) hS.2.2 dX6_oracle_25
