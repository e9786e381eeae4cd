theorem chE_s10 (ch : Nat → Int32) (lx v y : Nat) : upd (chE ch lx v 10 y) (lx * 6 + y) (nI (dv v y % 10)) = chE ch lx v 10 (y + 1) := by
  rw [← chE_s, Nat.mul_comm lx 6]
  by_cases q : y = 0
  · rw [if_pos q]; rfl
  · rw [if_neg q]; rfl
theorem chE_new {ch : Nat → Int32} {i i1 y : Nat} (h2 : ∀ i1 y, i1 < i → y < 6 → ch (6 * i1 + y) = chI (6 * i1 + y)) (a : i1 < i + 1) (b : y < 6) : chE ch i 0 (ds 0 6) 6 (6 * i1 + y) = chI (6 * i1 + y) := by
  unfold chE
  by_cases q : i1 = i
  · subst q
    rw [if_pos (show 6 * i1 ≤ 6 * i1 + y ∧ 6 * i1 + y < 6 * i1 + 6 by omega)]
    have e0 : ∀ k, dv 0 k = 0 := fun k => Nat.le_zero.mp (dv_le 0 k)
    rw [e0]
    unfold chI
    by_cases z : y = 0
    · rw [if_pos (by omega), if_pos (by omega)]; rfl
    · rw [if_neg (by omega), if_neg (by omega)]; rfl
  · rw [if_neg (by omega)]
    exact h2 i1 y (by omega) b
theorem rGuard_01 (nw : Nat) (row : Nat → Int32) : rGuard nw row = 0 ∨ rGuard nw row = 1 := by
  unfold rGuard
  split
  · split
    · exact Or.inl rfl
    · exact Or.inr rfl
  · exact Or.inr rfl
theorem rGuard_na2 (nw : Nat) (row : Nat → Int32) : narrow .boolean (.int (rGuard nw row)) = .int (rGuard nw row) := by
  rcases rGuard_01 nw row with h | h <;> rw [h] <;> rfl
theorem rGuard_fit (nw : Nat) (row : Nat → Int32) : fits .boolean (.int (rGuard nw row)) = true := by
  rcases rGuard_01 nw row with h | h <;> rw [h] <;> rfl
set_option maxHeartbeats 4000000 in
set_option maxRecDepth 100000 in
theorem c_X3_setLevel (l : Launch) (D : va_G) (cI cL cZ cO : ClassId) (sz : Nat) (pl pA lt : Nat) (k : Nat → Nat) (kn full : Int32) (lp ch : Nat → Int32) (me : Nat → Int64) (ru wo : Nat → Int32) (mb : Nat → Int64) (L : Nat) (lx v : Nat) (p0 : Int32) (hl9 : lx < 6) (hv : v < 2 ^ 31) (hds6 : ds v 6 ≤ 10) : Met l yX3_setLevel wsX3_setLevel ({ frames := 1, cells := 0, slots := 0, locals := 22 } : Room) (va_Pc [.ref pl, .int (nI lx), .int p0, .int (nI v)] (Rw D cI cL cZ cO (wPl cI cL pl pA lt k (nI L) kn full lp ch me ru wo mb) sz)) (va_Qv (fun (u : Unit) => True) (fun (u : Unit) => Wo D (va_A (wPl cI cL pl pA lt k (nI L) kn full lp ch me ru wo mb) sz) (wPl cI cL pl pA lt k (nI L) 0 full (upd lp lx p0) (chE ch lx v (ds v 6) 6) me ru wo mb)) (va_A (wPl cI cL pl pA lt k (nI L) kn full lp ch me ru wo mb) sz)) 0 0 (va_A (wPl cI cL pl pA lt k (nI L) kn full lp ch me ru wo mb) sz) := by
  refine Met.ofW (cc := cX3_setLevel) (maxL := 8) (ret := none) (by decide) rfl ?_
  intro p e s m args below meth c s₁ B hml hv
  obtain ⟨rfl, hsz, hP, hO, hD0⟩ := hv
  have hx := B.exec
  have hb := B.bytes
  have hr := B.returns
  have hts := atoms_spec (ws := wsX3_setLevel) B.pre
  have hown : s.vm.findClass RX3 = some m.cls := findClass_of_methodNamed B.named
  have hlocks := B.notSynchronized
  have hK := hO.1
  subst hsz
  have hD := hD0.self (sz := s.heap.size)
  generalize hAe : va_A (wPl cI cL pl pA lt k (nI L) kn full lp ch me ru wo mb) s.heap.size = A at hD ⊢
  have hA : ∀ q : Nat, s.heap.size ≤ q → A q := fun q h => by rw [← hAe]; exact Or.inr h
  have hS : va_S A s.heap s.heap [] := va_S.rf
  have hl := lv_entry ([.ref pl, .int (nI lx), .int p0, .int (nI v)]) (n := 8) (Nat.le_of_ble_eq_true rfl)
  rw [lg_entry_eq]
  generalize (lg_sl ([.ref pl, .int (nI lx), .int p0, .int (nI v)]) ++ List.replicate (8 - (lg_sl ([.ref pl, .int (nI lx), .int p0, .int (nI v)])).length) Slot.unset).toArray = ls at hl ⊢
  have hl : lv_has ls 8 [(0, .ref pl), (1, .int (nI lx)), (2, .int p0), (3, .int (nI v))] := hl
  generalize hQQ : MQ below _ _ s _ _ _ = QQ
  refine lv_iload_n hx hb dX3_setLevel_0 rfl (lv_at hl 1 rfl) ?_
  refine lv_iconst (v := 0) hx hb dX3_setLevel_1 (by decide) ?_
  refine lv_iconst (v := 5) hx hb dX3_setLevel_2 (by decide) ?_
  refine roNi (As := [.int (nI lx), .int 0, .int 5]) (rest := []) ⟨hx, hb, hml, hown, hts⟩ (c_X6_within l D cI cL cZ cO (nI lx) 0 5 ) ⟨va_cnB 3 hts gX3_setLevel_X6_within_n47 rfl rfl rfl hO.2.2.2.2.1 (hts (.initialized RX6) (by decide +kernel)) (by decide +kernel) ⟨Nat.le_of_ble_eq_true rfl, Nat.le_of_ble_eq_true rfl⟩, (hts (.static yX6_within) (by decide +kernel)), trivial⟩ hO (fun k q h => by simp at h) rfl hl.1 rfl (Nat.le_of_ble_eq_true rfl) dX3_setLevel_3 ⟨Nat.le_of_ble_eq_true rfl, Nat.le_of_ble_eq_true rfl⟩ (fun r_3 e_3 => ?_)
  obtain rfl : r_3 = wi (nI lx) 0 5 := e_3
  refine lv_if_ne (tgt := 10) hx hb dX3_setLevel_6 (by decide) (fun c_6 => ?_) (fun c_6 => ?_)
  · skip
    refine lv_aload_n hx hb dX3_setLevel_10 rfl (lv_at hl 0 rfl) ?_
    refine va_get (D := D) (cl := vwCl) (ci := 2) (v := .ref (k 0)) (C := RX3) (T := TX3) (N := 9) hx hb hts (fun _ h => List.mem_cons_of_mem _ (List.mem_append_right _ h)) hown hK hP 0 rfl rfl 3 (by decide) (hts (.fieldLink RX3 15 "CheapHours$Plan" "asked" "[I") (by decide +kernel)) (fun _ h9 => h9) rfl dX3_setLevel_11 ?_
    refine lv_iload_n hx hb dX3_setLevel_14 rfl (lv_at hl 1 rfl) ?_
    refine lv_iload_n hx hb dX3_setLevel_15 rfl (lv_at hl 2 rfl) ?_
    refine n_iast (D := D) (cl := vwCl) (x := lx) (v := p0) hx hb hK hP hD hS 2 0 (f := lp) rfl rfl (by omega) (Nat.le_of_ble_eq_true rfl) dX3_setLevel_16 (fun H locs hP hD hS => ?_)
    have hP : va_P D vwCl (wPl cI cL pl pA lt k (nI L) kn full (upd lp lx p0) ch me ru wo mb) H := hP
    have hD : va_D A (wPl cI cL pl pA lt k (nI L) kn full (upd lp lx p0) ch me ru wo mb) := hD
    rw [← chE_0 ch lx v 10] at hP hD
    refine lv_iload_n hx hb dX3_setLevel_17 rfl (lv_at hl 3 rfl) ?_
    refine lv_istore (lv' := [(4, .int (nI v)), (0, .ref pl), (1, .int (nI lx)), (2, .int p0), (3, .int (nI v))]) hx hb dX3_setLevel_18 hl (by decide) rfl (fun ls hl => ?_)
    refine lv_bipush (v := 10) hx hb dX3_setLevel_20 (by decide) ?_
    refine lv_istore (lv' := [(5, .int 10), (4, .int (nI v)), (0, .ref pl), (1, .int (nI lx)), (2, .int p0), (3, .int (nI v))]) hx hb dX3_setLevel_22 hl (by decide) rfl (fun ls hl => ?_)
    refine lv_iload_n hx hb dX3_setLevel_24 rfl (lv_at hl 3 rfl) ?_
    refine lv_bipush (v := 6) hx hb dX3_setLevel_25 (by decide) ?_
    refine n_imul (x := lx) (y := 6) hx hb dX3_setLevel_27 ?_
    refine lv_istore (lv' := [(6, .int (nI (lx * 6))), (5, .int 10), (4, .int (nI v)), (0, .ref pl), (1, .int (nI lx)), (2, .int p0), (3, .int (nI v))]) hx hb dX3_setLevel_28 hl (by decide) rfl (fun ls hl => ?_)
    refine lv_iconst (v := 0) hx hb dX3_setLevel_30 (by decide) ?_
    refine lv_istore (lv' := [(7, .int 0), (6, .int (nI (lx * 6))), (5, .int 10), (4, .int (nI v)), (0, .ref pl), (1, .int (nI lx)), (2, .int p0), (3, .int (nI v))]) hx hb dX3_setLevel_31 hl (by decide) rfl (fun ls hl => ?_)
    have L33 : ∀ (n0 : Nat) (y : Nat) (H : Heap) (locs : List Loc) (ls : Array Slot), 6 - y < n0 → (y ≤ 6) → va_P D vwCl (wPl cI cL pl pA lt k (nI L) kn full (upd lp lx p0) (chE ch lx v 10 y) me ru wo mb) H → va_D A (wPl cI cL pl pA lt k (nI L) kn full (upd lp lx p0) (chE ch lx v 10 y) me ru wo mb) → va_S A s.heap H locs → lv_has ls 8 [(7, .int (nI y)), (6, .int (nI (lx * 6))), (5, .int (nI (10 - ds v y))), (4, .int (nI (dv v y))), (0, .ref pl), (1, .int (nI lx)), (2, .int p0), (3, .int (nI v))] → W p l e (headSpec wsX3_setLevel ({ frames := 1, cells := 0, slots := 0, locals := 22 } : Room)).room s m ([.ref pl, .int (nI lx), .int p0, .int (nI v)] : List Value).toArray below meth c H locs 0 0 QQ (F0 m 33 ls []) := by
      intro n0
      induction n0 with
      | zero =>
        intro y H locs ls hmu
        exact absurd hmu (Nat.not_lt_zero _)
      | succ n0 ih33 =>
        intro y H locs ls hmu hy hP hD hS hl
        have hdv := dv_le v y
        refine lv_iload hx hb dX3_setLevel_33 (lv_at hl 0 rfl) ?_
        refine lv_bipush (v := 6) hx hb dX3_setLevel_35 (by decide) ?_
        refine n_icmp_ge (x := y) (y := 6) (tgt := 78) hx hb dX3_setLevel_37 (by decide) (by omega) (by omega) (fun c_37 => ?_) (fun c_37 => ?_)
        · skip
          have hy6 : y = 6 := by omega
          rw [hy6] at hl hP hD
          refine lv_aload_n hx hb dX3_setLevel_78 rfl (lv_at hl 4 rfl) ?_
          refine va_get (D := D) (cl := vwCl) (ci := 2) (v := .ref (k 1)) (C := RX3) (T := TX3) (N := 9) hx hb hts (fun _ h => List.mem_cons_of_mem _ (List.mem_append_right _ h)) hown hK hP 0 rfl rfl 4 (by decide) (hts (.fieldLink RX3 19 "CheapHours$Plan" "chance" "[I") (by decide +kernel)) (fun _ h9 => h9) rfl dX3_setLevel_79 ?_
          refine lv_iload hx hb dX3_setLevel_82 (lv_at hl 1 rfl) ?_
          refine lv_dup2_11 hx hb dX3_setLevel_84 rfl rfl ?_
          refine n_iald (D := D) (cl := vwCl) (x := (lx * 6)) hx hb hK hP 3 0 (f := (chE ch lx v 10 6)) rfl rfl (by omega) (Nat.le_of_ble_eq_true rfl) dX3_setLevel_85 ?_
          refine lv_iload hx hb dX3_setLevel_86 (lv_at hl 2 rfl) ?_
          refine lv_iadd hx hb dX3_setLevel_88 ?_
          refine n_iast (D := D) (cl := vwCl) (x := (lx * 6)) (v := (((chE ch lx v 10 6) (lx * 6)) + (nI (10 - ds v 6)))) hx hb hK hP hD hS 3 0 (f := (chE ch lx v 10 6)) rfl rfl (by omega) (Nat.le_of_ble_eq_true rfl) dX3_setLevel_89 (fun H locs hP hD hS => ?_)
          have hP : va_P D vwCl (wPl cI cL pl pA lt k (nI L) kn full (upd lp lx p0) (upd (chE ch lx v 10 6) (lx * 6) (((chE ch lx v 10 6) (lx * 6)) + (nI (10 - ds v 6)))) me ru wo mb) H := hP
          have hD : va_D A (wPl cI cL pl pA lt k (nI L) kn full (upd lp lx p0) (upd (chE ch lx v 10 6) (lx * 6) (((chE ch lx v 10 6) (lx * 6)) + (nI (10 - ds v 6)))) me ru wo mb) := hD
          rw [Nat.mul_comm lx 6, chE_fin ch lx v (ds v 6) hds6] at hP hD
          refine lv_aload_n hx hb dX3_setLevel_90 rfl (lv_at hl 4 rfl) ?_
          refine lv_iconst (v := 0) hx hb dX3_setLevel_91 (by decide) ?_
          refine va_put (D := D) (cl := vwCl) (ci := 2) (v := .int 0) (ty := .boolean) (C := RX3) (T := TX3) (N := 9) hx hb hts (fun _ h => List.mem_cons_of_mem _ (List.mem_append_right _ h)) tyX3 tyX3_ok nmX3 hown hK hP hD hS 0 rfl rfl 1 (by decide) (hts (.fieldLink RX3 35 "CheapHours$Plan" "known" "Z") (by decide +kernel)) (fun _ h9 => h9) rfl (by decide +kernel) rfl rfl (Nat.le_of_ble_eq_true rfl) dX3_setLevel_92 (fun H locs hP hD hS => ?_)
          have hP : va_P D vwCl (wPl cI cL pl pA lt k (nI L) 0 full (upd lp lx p0) (chE ch lx v (ds v 6) 6) me ru wo mb) H := hP
          have hD : va_D A (wPl cI cL pl pA lt k (nI L) 0 full (upd lp lx p0) (chE ch lx v (ds v 6) 6) me ru wo mb) := hD
          rw [← hQQ]
          exact W.vret hx hb hr (fun t9 ht9 hW9 => ⟨⟨(), rfl, trivial, by rw [ht9]; exact hP, hD⟩, hS.F ht9⟩) hS.2.2 dX3_setLevel_95
        · skip
          have hm9 : ds v y + dv v y % 10 ≤ 10 := Nat.le_trans (ds_mono v (show y + 1 ≤ 6 by omega)) hds6
          refine lv_aload_n hx hb dX3_setLevel_40 rfl (lv_at hl 4 rfl) ?_
          refine va_get (D := D) (cl := vwCl) (ci := 2) (v := .ref (k 1)) (C := RX3) (T := TX3) (N := 9) hx hb hts (fun _ h => List.mem_cons_of_mem _ (List.mem_append_right _ h)) hown hK hP 0 rfl rfl 4 (by decide) (hts (.fieldLink RX3 19 "CheapHours$Plan" "chance" "[I") (by decide +kernel)) (fun _ h9 => h9) rfl dX3_setLevel_41 ?_
          refine lv_iload hx hb dX3_setLevel_44 (lv_at hl 1 rfl) ?_
          refine lv_iload hx hb dX3_setLevel_46 (lv_at hl 0 rfl) ?_
          refine n_iadd (x := (lx * 6)) (y := y) hx hb dX3_setLevel_48 ?_
          refine lv_iload hx hb dX3_setLevel_49 (lv_at hl 3 rfl) ?_
          refine lv_bipush (v := 10) hx hb dX3_setLevel_51 (by decide) ?_
          refine n_irem (x := (dv v y)) (y := 10) hx hb dX3_setLevel_53 (by omega) (by omega) (by omega) ?_
          refine n_iast (D := D) (cl := vwCl) (x := ((lx * 6) + y)) (v := (nI ((dv v y) % 10))) hx hb hK hP hD hS 3 0 (f := (chE ch lx v 10 y)) rfl rfl (by omega) (Nat.le_of_ble_eq_true rfl) dX3_setLevel_54 (fun H locs hP hD hS => ?_)
          have hP : va_P D vwCl (wPl cI cL pl pA lt k (nI L) kn full (upd lp lx p0) (upd (chE ch lx v 10 y) ((lx * 6) + y) (nI ((dv v y) % 10))) me ru wo mb) H := hP
          have hD : va_D A (wPl cI cL pl pA lt k (nI L) kn full (upd lp lx p0) (upd (chE ch lx v 10 y) ((lx * 6) + y) (nI ((dv v y) % 10))) me ru wo mb) := hD
          rw [chE_s10] at hP hD
          refine lv_iload hx hb dX3_setLevel_55 (lv_at hl 2 rfl) ?_
          refine lv_iload hx hb dX3_setLevel_57 (lv_at hl 3 rfl) ?_
          refine lv_bipush (v := 10) hx hb dX3_setLevel_59 (by decide) ?_
          refine n_irem (x := (dv v y)) (y := 10) hx hb dX3_setLevel_61 (by omega) (by omega) (by omega) ?_
          refine n_isub (x := (10 - ds v y)) (y := ((dv v y) % 10)) hx hb dX3_setLevel_62 (by omega) ?_
          refine lv_seti (v := nI (10 - ds v (y + 1))) (by rw [Nat.sub_sub]; rfl) ?_
          refine lv_istore (lv' := [(5, .int (nI (10 - ds v (y + 1)))), (7, .int (nI y)), (6, .int (nI (lx * 6))), (4, .int (nI (dv v y))), (0, .ref pl), (1, .int (nI lx)), (2, .int p0), (3, .int (nI v))]) hx hb dX3_setLevel_63 hl (by decide) rfl (fun ls hl => ?_)
          refine lv_iload hx hb dX3_setLevel_65 (lv_at hl 3 rfl) ?_
          refine lv_bipush (v := 10) hx hb dX3_setLevel_67 (by decide) ?_
          refine n_idiv (x := (dv v y)) (y := 10) hx hb dX3_setLevel_69 (by omega) (by omega) (by omega) ?_
          refine lv_istore (lv' := [(4, .int (nI ((dv v y) / 10))), (5, .int (nI (10 - ds v (y + 1)))), (7, .int (nI y)), (6, .int (nI (lx * 6))), (0, .ref pl), (1, .int (nI lx)), (2, .int p0), (3, .int (nI v))]) hx hb dX3_setLevel_70 hl (by decide) rfl (fun ls hl => ?_)
          refine lv_iinc (v := (nI (y + 1))) (lv' := [(7, .int (nI (y + 1))), (4, .int (nI ((dv v y) / 10))), (5, .int (nI (10 - ds v (y + 1)))), (6, .int (nI (lx * 6))), (0, .ref pl), (1, .int (nI lx)), (2, .int p0), (3, .int (nI v))]) hx hb dX3_setLevel_72 hl (k := 2) rfl (nI_add y 1) (by decide) rfl (fun ls hl => ?_)
          refine lv_goto (tgt := 33) hx hb dX3_setLevel_75 (by decide) ?_
          exact ih33 (y + 1) _ _ _ (by omega) (by omega) hP hD hS (lv_sub hl [0, 3, 2, 1, 4, 5, 6, 7] rfl)
    exact L33 _ 0 _ _ _ (Nat.lt_succ_self _) (Nat.zero_le _) hP hD hS (lv_sub hl [0, 1, 2, 3, 4, 5, 6, 7] rfl)
  · skip
    exact absurd ((wi_n0 (m := lx) (b := 5) (by omega) (by decide)).mp c_6) (by omega)
set_option maxHeartbeats 4000000 in
set_option maxRecDepth 100000 in
theorem c_X3_startAnew (l : Launch) (D : va_G) (cI cL cZ cO : ClassId) (sz : Nat) (pl pA lt : Nat) (k : Nat → Nat) (kn full : Int32) (lp ch : Nat → Int32) (me : Nat → Int64) (ru wo : Nat → Int32) (mb : Nat → Int64) (L : Nat) (N : Nat) (hN : 1 ≤ N ∧ N ≤ 6) : Met l yX3_startAnew wsX3_startAnew ({ frames := 2, cells := 0, slots := 0, locals := 49 } : Room) (va_Pc [.ref pl, .int (nI N)] (Rw D cI cL cZ cO (wPl cI cL pl pA lt k (nI L) kn full lp ch me ru wo mb) sz)) (va_Qv (fun (u : (Nat → Int32) × (Nat → Int32)) => (∀ i, i < N → u.1 i = 0) ∧ ∀ i y, i < N → y < 6 → u.2 (6 * i + y) = chI (6 * i + y)) (fun (u : (Nat → Int32) × (Nat → Int32)) => Wo D (va_A (wPl cI cL pl pA lt k (nI L) kn full lp ch me ru wo mb) sz) (wPl cI cL pl pA lt k (nI N) 0 full u.1 u.2 me ru wo mb)) (va_A (wPl cI cL pl pA lt k (nI L) kn full lp ch me ru wo mb) sz)) 0 0 (va_A (wPl cI cL pl pA lt k (nI L) kn full lp ch me ru wo mb) sz) := by
  refine Met.ofW (cc := cX3_startAnew) (maxL := 3) (ret := none) (by decide) rfl ?_
  intro p e s m args below meth c s₁ B hml hv
  obtain ⟨rfl, hsz, hP, hO, hD0⟩ := hv
  have hx := B.exec
  have hb := B.bytes
  have hr := B.returns
  have hts := atoms_spec (ws := wsX3_startAnew) B.pre
  have hown : s.vm.findClass RX3 = some m.cls := findClass_of_methodNamed B.named
  have hlocks := B.notSynchronized
  have hK := hO.1
  subst hsz
  have hD := hD0.self (sz := s.heap.size)
  generalize hAe : va_A (wPl cI cL pl pA lt k (nI L) kn full lp ch me ru wo mb) s.heap.size = A at hD ⊢
  have hA : ∀ q : Nat, s.heap.size ≤ q → A q := fun q h => by rw [← hAe]; exact Or.inr h
  have hS : va_S A s.heap s.heap [] := va_S.rf
  have hl := lv_entry ([.ref pl, .int (nI N)]) (n := 3) (Nat.le_of_ble_eq_true rfl)
  rw [lg_entry_eq]
  generalize (lg_sl ([.ref pl, .int (nI N)]) ++ List.replicate (3 - (lg_sl ([.ref pl, .int (nI N)])).length) Slot.unset).toArray = ls at hl ⊢
  have hl : lv_has ls 3 [(0, .ref pl), (1, .int (nI N))] := hl
  generalize hQQ : MQ below _ _ s _ _ _ = QQ
  refine lv_aload_n hx hb dX3_startAnew_0 rfl (lv_at hl 0 rfl) ?_
  refine lv_iload_n hx hb dX3_startAnew_1 rfl (lv_at hl 1 rfl) ?_
  refine va_put (D := D) (cl := vwCl) (ci := 2) (v := .int (nI N)) (ty := .int) (C := RX3) (T := TX3) (N := 9) hx hb hts (fun _ h => List.mem_cons_of_mem _ (List.mem_append_right _ h)) tyX3 tyX3_ok nmX3 hown hK hP hD hS 0 rfl rfl 0 (by decide) (hts (.fieldLink RX3 39 "CheapHours$Plan" "size" "I") (by decide +kernel)) (fun _ h9 => h9) rfl (by decide +kernel) rfl rfl (Nat.le_of_ble_eq_true rfl) dX3_startAnew_2 (fun H locs hP hD hS => ?_)
  have hP : va_P D vwCl (wPl cI cL pl pA lt k (nI N) kn full lp ch me ru wo mb) H := hP
  have hD : va_D A (wPl cI cL pl pA lt k (nI N) kn full lp ch me ru wo mb) := hD
  refine lv_iconst (v := 0) hx hb dX3_startAnew_5 (by decide) ?_
  refine lv_istore_n (lv' := [(2, .int 0), (0, .ref pl), (1, .int (nI N))]) hx hb dX3_startAnew_6 rfl hl (by decide) rfl (fun ls hl => ?_)
  have L7 : ∀ (n0 : Nat) (i : Nat) (kn1 : Int32) (lp1 : Nat → Int32) (ch1 : Nat → Int32) (H : Heap) (locs : List Loc) (ls : Array Slot), N - i < n0 → (i ≤ N) → (i = 0 ∨ kn1 = 0) → (∀ i1, i1 < i → lp1 i1 = 0) → (∀ i1 y, i1 < i → y < 6 → ch1 (6 * i1 + y) = chI (6 * i1 + y)) → va_P D vwCl (wPl cI cL pl pA lt k (nI N) kn1 full lp1 ch1 me ru wo mb) H → va_D A (wPl cI cL pl pA lt k (nI N) kn1 full lp1 ch1 me ru wo mb) → va_S A s.heap H locs → lv_has ls 3 [(2, .int (nI i)), (0, .ref pl), (1, .int (nI N))] → W p l e (headSpec wsX3_startAnew ({ frames := 2, cells := 0, slots := 0, locals := 49 } : Room)).room s m ([.ref pl, .int (nI N)] : List Value).toArray below meth c H locs 0 0 QQ (F0 m 7 ls []) := by
    intro n0
    induction n0 with
    | zero =>
      intro i kn1 lp1 ch1 H locs ls hmu
      exact absurd hmu (Nat.not_lt_zero _)
    | succ n0 ih7 =>
      intro i kn1 lp1 ch1 H locs ls hmu hi hk1 h1 h2 hP hD hS hl
      refine lv_iload_n hx hb dX3_startAnew_7 rfl (lv_at hl 0 rfl) ?_
      refine lv_iload_n hx hb dX3_startAnew_8 rfl (lv_at hl 2 rfl) ?_
      refine n_icmp_ge (x := i) (y := N) (tgt := 25) hx hb dX3_startAnew_9 (by decide) (by omega) (by omega) (fun c_9 => ?_) (fun c_9 => ?_)
      · skip
        have hk0 : kn1 = 0 := hk1.resolve_left (by omega)
        rw [hk0] at hP hD
        rw [← hQQ]
        exact W.vret hx hb hr (fun t9 ht9 hW9 => ⟨⟨(lp1, ch1), rfl, ⟨fun i1 a9 => h1 i1 (by omega), fun i1 y a9 b9 => h2 i1 y (by omega) b9⟩, by rw [ht9]; exact hP, hD⟩, hS.F ht9⟩) hS.2.2 dX3_startAnew_25
      · skip
        refine lv_aload_n hx hb dX3_startAnew_12 rfl (lv_at hl 1 rfl) ?_
        refine lv_iload_n hx hb dX3_startAnew_13 rfl (lv_at hl 0 rfl) ?_
        refine lv_iconst (v := 0) hx hb dX3_startAnew_14 (by decide) ?_
        refine lv_iconst (v := 0) hx hb dX3_startAnew_15 (by decide) ?_
        refine rwVv (As := [.int (nI i), .int 0, .int 0]) (rest := []) ⟨hx, hb, hml, hown, hts⟩ (c_X3_setLevel l D cI cL cZ cO H.size pl pA lt k kn1 full lp1 ch1 me ru wo mb N i 0 0 (by omega) (by decide) (by decide)) (cwV 3 hts gX3_startAnew_X3_setLevel rfl rfl rfl (by decide +kernel) ⟨Nat.le_of_ble_eq_true rfl, Nat.le_of_ble_eq_true rfl⟩) hO hP hD hS hA (va_recv hK hP (ci := 2) (q0 := 0) rfl rfl) rfl hl.1 rfl (Nat.le_of_ble_eq_true rfl) dX3_startAnew_16 ⟨Nat.le_of_ble_eq_true rfl, Nat.le_of_ble_eq_true rfl⟩ (fun u_16 H locs e_16 hP hD hS => ?_)
        have hP : va_P D vwCl (wPl cI cL pl pA lt k (nI N) 0 full (upd lp1 i 0) (chE ch1 i 0 (ds 0 6) 6) me ru wo mb) H := hP
        have hD : va_D A (wPl cI cL pl pA lt k (nI N) 0 full (upd lp1 i 0) (chE ch1 i 0 (ds 0 6) 6) me ru wo mb) := hD
        refine lv_iinc (v := (nI (i + 1))) (lv' := [(2, .int (nI (i + 1))), (0, .ref pl), (1, .int (nI N))]) hx hb dX3_startAnew_19 hl (k := 0) rfl (nI_add i 1) (by decide) rfl (fun ls hl => ?_)
        refine lv_goto (tgt := 7) hx hb dX3_startAnew_22 (by decide) ?_
        exact ih7 (i + 1) 0 (upd lp1 i 0) (chE ch1 i 0 (ds 0 6) 6) _ _ _ (by omega) (by omega) (Or.inr rfl) (fun i1 a9 => by by_cases z9 : i1 = i; (subst z9; exact pk_us); (rw [pk_un z9]; exact h1 i1 (by omega))) (fun i1 y a9 b9 => chE_new h2 a9 b9) hP hD hS (lv_sub hl [0, 1, 2] rfl)
  exact L7 _ 0 kn lp ch _ _ _ (Nat.lt_succ_self _) (Nat.zero_le _) (Or.inl rfl) (fun i1 a9 => absurd a9 (Nat.not_lt_zero _)) (fun i1 y a9 => absurd a9 (Nat.not_lt_zero _)) hP hD hS (lv_sub hl [0, 1, 2] rfl)
set_option maxHeartbeats 4000000 in
set_option maxRecDepth 100000 in
theorem c_X1_passHour (l : Launch) (D : va_G) (cI cL cZ cO : ClassId) (sz : Nat) (ja ta : Nat) (row : Nat → Int32) (pA lt : Nat) (full : Int32) (pr : Nat → Int32) (nw mk : Nat) (hnw : nw < 200) (hmk : mk < 3) (hrm : row 2 = nI mk) (hi : row 22 = row 9) (hi2 : ¬ row 17 = 1 → row 9 = 0) : Met l yX1_passHour wsX1_passHour ({ frames := 3, cells := 0, slots := 0, locals := 65 } : Room) (va_Pc [.ref ja, .int (nI nw), .ref pA] (Rw D cI cL cZ cO (wJP cI ja ta row pA lt full pr) sz)) (va_Qv (fun (u : Unit) => True) (fun (u : Unit) => Wo D (va_A (wJP cI ja ta row pA lt full pr) sz) (wJP cI ja ta (rHourC full (pr (200 * mk + nw)) nw row) pA lt full pr)) (va_A (wJP cI ja ta row pA lt full pr) sz)) 0 0 (va_A (wJP cI ja ta row pA lt full pr) sz) := by
  refine Met.ofW (cc := cX1_passHour) (maxL := 4) (ret := none) (by decide) rfl ?_
  intro p e s m args below meth c s₁ B hml hv
  obtain ⟨rfl, hsz, hP, hO, hD0⟩ := hv
  have hx := B.exec
  have hb := B.bytes
  have hr := B.returns
  have hts := atoms_spec (ws := wsX1_passHour) B.pre
  have hown : s.vm.findClass RX1 = some m.cls := findClass_of_methodNamed B.named
  have hlocks := B.notSynchronized
  have hK := hO.1
  subst hsz
  have hD := hD0.self (sz := s.heap.size)
  generalize hAe : va_A (wJP cI ja ta row pA lt full pr) s.heap.size = A at hD ⊢
  have hA : ∀ q : Nat, s.heap.size ≤ q → A q := fun q h => by rw [← hAe]; exact Or.inr h
  have hS : va_S A s.heap s.heap [] := va_S.rf
  have hl := lv_entry ([.ref ja, .int (nI nw), .ref pA]) (n := 4) (Nat.le_of_ble_eq_true rfl)
  rw [lg_entry_eq]
  generalize (lg_sl ([.ref ja, .int (nI nw), .ref pA]) ++ List.replicate (4 - (lg_sl ([.ref ja, .int (nI nw), .ref pA])).length) Slot.unset).toArray = ls at hl ⊢
  have hl : lv_has ls 4 [(0, .ref ja), (1, .int (nI nw)), (2, .ref pA)] := hl
  generalize hQQ : MQ below _ _ s _ _ _ = QQ
  refine lv_aload_n hx hb dX1_passHour_0 rfl (lv_at hl 0 rfl) ?_
  refine roVi (As := []) (rest := []) ⟨hx, hb, hml, hown, hts⟩ (c_X1_isReady l D cI cL cZ cO ja ta row ) (cwV 0 hts gX1_passHour_X1_isReady rfl rfl rfl (by decide +kernel) ⟨Nat.le_of_ble_eq_true rfl, Nat.le_of_ble_eq_true rfl⟩) hO (hP.sub (ws' := wJ ja ta row) [0, 1] rfl) (va_recv hK hP (ci := 1) (q0 := 0) rfl rfl) rfl hl.1 rfl (Nat.le_of_ble_eq_true rfl) dX1_passHour_1 ⟨Nat.le_of_ble_eq_true rfl, Nat.le_of_ble_eq_true rfl⟩ (fun r_1 e_1 => ?_)
  obtain rfl : r_1 = rReady row := e_1
  refine lv_if_eq (tgt := 8) hx hb dX1_passHour_4 (by decide) (fun c_4 => ?_) (fun c_4 => ?_)
  · skip
    have hrd : row 18 = -1 := Classical.byContradiction (fun z9 => absurd (show rReady row = 1 from if_neg z9) (by rw [c_4]; decide))
    have J37 : ∀ (g : Int32) (H : Heap) (locs : List Loc) (ls : Array Slot), (g = rGuard nw row) → va_P D vwCl (wJP cI ja ta row pA lt full pr) H → va_D A (wJP cI ja ta row pA lt full pr) → va_S A s.heap H locs → lv_has ls 4 [(0, .ref ja), (1, .int (nI nw)), (2, .ref pA)] → W p l e (headSpec wsX1_passHour ({ frames := 3, cells := 0, slots := 0, locals := 65 } : Room)).room s m ([.ref ja, .int (nI nw), .ref pA] : List Value).toArray below meth c H locs 0 0 QQ (F0 m 37 ls [.int g, .ref ja]) := by
      intro g H locs ls hg hP hD hS hl
      subst hg
      refine va_put (D := D) (cl := vwCl) (ci := 1) (v := .int (rGuard nw row)) (ty := .boolean) (C := RX1) (T := TX1) (N := 16) hx hb hts (fun _ h => List.mem_cons_of_mem _ (List.mem_append_left _ (List.mem_append_left _ (List.mem_append_right _ h)))) tyX1 tyX1_ok nmX1 hown hK hP hD hS 0 rfl rfl 13 (by decide) (hts (.fieldLink RX1 60 "CheapHours$Job" "guarded" "Z") (List.mem_of_getElem? (i := 1) rfl)) (fun _ h9 => h9) rfl (by decide +kernel) (rGuard_na2 nw row) (rGuard_fit nw row) (Nat.le_of_ble_eq_true rfl) dX1_passHour_37 (fun H locs hP hD hS => ?_)
      obtain ⟨x37, ex37⟩ : ∃ z : Nat → Int32, z = va_up row 23 (rGuard nw row) := ⟨_, rfl⟩
      have hP : va_P D vwCl (wJP cI ja ta x37 pA lt full pr) H := by rw [ex37]; exact hP
      have hD : va_D A (wJP cI ja ta x37 pA lt full pr) := by rw [ex37]; exact hD
      refine lv_aload_n hx hb dX1_passHour_40 rfl (lv_at hl 2 rfl) ?_
      refine lv_aload_n hx hb dX1_passHour_41 rfl (lv_at hl 0 rfl) ?_
      refine va_get (D := D) (cl := vwCl) (ci := 1) (v := .ref ta) (C := RX1) (T := TX1) (N := 16) hx hb hts (fun _ h => List.mem_cons_of_mem _ (List.mem_append_left _ (List.mem_append_left _ (List.mem_append_right _ h)))) hown hK hP 0 rfl rfl 0 (by decide) (hts (.fieldLink RX1 9 "CheapHours$Job" "terms" "LCheapHours$Terms;") (List.mem_of_getElem? (i := 2) rfl)) (fun _ h9 => h9) rfl dX1_passHour_42 ?_
      refine va_get (D := D) (cl := vwCl) (ci := 4) (v := .int (x37 2)) (C := RX5) (T := TX5) (N := 8) hx hb hts (fun _ h => List.mem_cons_of_mem _ (List.mem_append_left _ (List.mem_append_right _ h))) hown hK hP 1 rfl rfl 2 (by decide) (hts (.fieldLink RX1 69 "CheapHours$Terms" "market" "I") (List.mem_of_getElem? (i := 4) rfl)) (fun _ h9 => h9) rfl dX1_passHour_45 ?_
      refine lv_seti (v := nI mk) (by subst_vars; exact hrm) ?_
      refine lv_iload_n hx hb dX1_passHour_48 rfl (lv_at hl 1 rfl) ?_
      refine roVi (As := [.int (nI mk), .int (nI nw)]) (rest := []) ⟨hx, hb, hml, hown, hts⟩ (c_X4_at l D cI cL cZ cO pA lt full pr mk nw (by omega) (by omega)) (cwV 2 hts gX1_passHour_X4_at rfl rfl rfl (by decide +kernel) ⟨Nat.le_of_ble_eq_true rfl, Nat.le_of_ble_eq_true rfl⟩) hO (hP.sub (ws' := wP cI pA lt full pr) [2, 3] rfl) (va_recv hK hP (ci := 3) (q0 := 2) rfl rfl) rfl hl.1 rfl (Nat.le_of_ble_eq_true rfl) dX1_passHour_49 ⟨Nat.le_of_ble_eq_true rfl, Nat.le_of_ble_eq_true rfl⟩ (fun r_49 e_49 => ?_)
      obtain rfl : r_49 = atV pr full mk nw := e_49
      refine lv_seti (v := pr (200 * mk + nw)) (by rw [atV, if_neg (by omega), if_pos hnw]) ?_
      refine lv_istore_n (lv' := [(3, .int (pr (200 * mk + nw))), (0, .ref ja), (1, .int (nI nw)), (2, .ref pA)]) hx hb dX1_passHour_52 rfl hl (by decide) rfl (fun ls hl => ?_)
      refine lv_aload_n hx hb dX1_passHour_53 rfl (lv_at hl 1 rfl) ?_
      refine va_get (D := D) (cl := vwCl) (ci := 1) (v := .int (x37 23)) (C := RX1) (T := TX1) (N := 16) hx hb hts (fun _ h => List.mem_cons_of_mem _ (List.mem_append_left _ (List.mem_append_left _ (List.mem_append_right _ h)))) hown hK hP 0 rfl rfl 13 (by decide) (hts (.fieldLink RX1 60 "CheapHours$Job" "guarded" "Z") (List.mem_of_getElem? (i := 1) rfl)) (fun _ h9 => h9) rfl dX1_passHour_54 ?_
      refine lv_if_eq (tgt := 71) hx hb dX1_passHour_57 (by decide) (fun c_57 => ?_) (fun c_57 => ?_)
      · skip
        refine lv_iload_n hx hb dX1_passHour_71 rfl (lv_at hl 0 rfl) ?_
        refine lv_iconst (v := (-1)) hx hb dX1_passHour_72 (by decide) ?_
        refine lv_icmp_eq (tgt := 87) hx hb dX1_passHour_73 (by decide) (fun c_73 => ?_) (fun c_73 => ?_)
        · skip
          refine lv_aload_n hx hb dX1_passHour_87 rfl (lv_at hl 1 rfl) ?_
          refine rwVvS (As := []) (rest := []) (wc := wJ ja ta x37) (wr := wP cI pA lt full pr) [0, 1] [2, 3] rfl rfl (by decide) (by decide) ⟨hx, hb, hml, hown, hts⟩ (c_X1_passWaiting l D cI cL cZ cO H.size ja ta x37 ) (cwV 0 hts gX1_passHour_X1_passWaiting rfl rfl rfl (by decide +kernel) ⟨Nat.le_of_ble_eq_true rfl, Nat.le_of_ble_eq_true rfl⟩) hO hP hD (hP.sub [0, 1] rfl) (hD.sub [0, 1] (by decide) rfl) hS hA (va_recv hK hP (ci := 1) (q0 := 0) rfl rfl) rfl hl.1 rfl (Nat.le_of_ble_eq_true rfl) dX1_passHour_88 ⟨Nat.le_of_ble_eq_true rfl, Nat.le_of_ble_eq_true rfl⟩ (fun u_88 H locs e_88 hP hD hS => ?_)
          have hP : va_P D vwCl (wJP cI ja ta (rWait x37) pA lt full pr) H := hP.sub [2, 3, 0, 1] rfl
          have hD : va_D A (wJP cI ja ta (rWait x37) pA lt full pr) := hD.sub [2, 3, 0, 1] (by decide) rfl
          refine lv_goto (tgt := 99) hx hb dX1_passHour_91 (by decide) ?_
          refine lv_aload_n hx hb dX1_passHour_99 rfl (lv_at hl 1 rfl) ?_
          refine va_get (D := D) (cl := vwCl) (ci := 1) (v := .int ((rWait x37) 8)) (C := RX1) (T := TX1) (N := 16) hx hb hts (fun _ h => List.mem_cons_of_mem _ (List.mem_append_left _ (List.mem_append_left _ (List.mem_append_right _ h)))) hown hK hP 0 rfl rfl 2 (by decide) (hts (.fieldLink RX1 22 "CheapHours$Job" "saved" "I") (List.mem_of_getElem? (i := 7) rfl)) (fun _ h9 => h9) rfl dX1_passHour_100 ?_
          refine lv_aload_n hx hb dX1_passHour_103 rfl (lv_at hl 1 rfl) ?_
          refine va_get (D := D) (cl := vwCl) (ci := 1) (v := .ref ta) (C := RX1) (T := TX1) (N := 16) hx hb hts (fun _ h => List.mem_cons_of_mem _ (List.mem_append_left _ (List.mem_append_left _ (List.mem_append_right _ h)))) hown hK hP 0 rfl rfl 0 (by decide) (hts (.fieldLink RX1 9 "CheapHours$Job" "terms" "LCheapHours$Terms;") (List.mem_of_getElem? (i := 2) rfl)) (fun _ h9 => h9) rfl dX1_passHour_104 ?_
          refine va_get (D := D) (cl := vwCl) (ci := 4) (v := .int ((rWait x37) 0)) (C := RX5) (T := TX5) (N := 8) hx hb hts (fun _ h => List.mem_cons_of_mem _ (List.mem_append_left _ (List.mem_append_right _ h))) hown hK hP 1 rfl rfl 0 (by decide) (hts (.fieldLink RX1 94 "CheapHours$Terms" "work" "I") (List.mem_of_getElem? (i := 8) rfl)) (fun _ h9 => h9) rfl dX1_passHour_107 ?_
          refine lv_icmp_lt (tgt := 125) hx hb dX1_passHour_110 (by decide) (fun c_110 => ?_) (fun c_110 => ?_)
          · skip
            have hrow : rHourC full (pr (200 * mk + nw)) nw row = rWait x37 := by
              rw [rHourC, if_pos hrd]
              subst_vars
              try simp only [rHour]
              try simp only [rTurn, if_pos c_57, if_pos c_73, if_neg (i32_nle.mpr c_110)]
              try simp only [rDone, if_pos c_57, if_pos c_73, if_neg (i32_nle.mpr c_110)]
              done
            rw [← hrow] at hP hD
            rw [← hQQ]
            exact W.vret hx hb hr (fun t9 ht9 hW9 => ⟨⟨(), rfl, trivial, by rw [ht9]; exact hP, hD⟩, hS.F ht9⟩) hS.2.2 dX1_passHour_125
          · skip
            refine lv_aload_n hx hb dX1_passHour_113 rfl (lv_at hl 1 rfl) ?_
            refine lv_iload_n hx hb dX1_passHour_114 rfl (lv_at hl 2 rfl) ?_
            refine lv_iconst (v := 1) hx hb dX1_passHour_115 (by decide) ?_
            refine n_iadd (x := nw) (y := 1) hx hb dX1_passHour_116 ?_
            refine va_put (D := D) (cl := vwCl) (ci := 1) (v := .int (nI (nw + 1))) (ty := .int) (C := RX1) (T := TX1) (N := 16) hx hb hts (fun _ h => List.mem_cons_of_mem _ (List.mem_append_left _ (List.mem_append_left _ (List.mem_append_right _ h)))) tyX1 tyX1_ok nmX1 hown hK hP hD hS 0 rfl rfl 11 (by decide) (hts (.fieldLink RX1 19 "CheapHours$Job" "readyAt" "I") (List.mem_of_getElem? (i := 9) rfl)) (fun _ h9 => h9) rfl (by decide +kernel) rfl rfl (Nat.le_of_ble_eq_true rfl) dX1_passHour_117 (fun H locs hP hD hS => ?_)
            obtain ⟨x117, ex117⟩ : ∃ z : Nat → Int32, z = va_up (rWait x37) 18 (nI (nw + 1)) := ⟨_, rfl⟩
            have hP : va_P D vwCl (wJP cI ja ta x117 pA lt full pr) H := by rw [ex117]; exact hP
            have hD : va_D A (wJP cI ja ta x117 pA lt full pr) := by rw [ex117]; exact hD
            refine lv_aload_n hx hb dX1_passHour_120 rfl (lv_at hl 1 rfl) ?_
            refine lv_iconst (v := 0) hx hb dX1_passHour_121 (by decide) ?_
            refine va_put (D := D) (cl := vwCl) (ci := 1) (v := .int 0) (ty := .int) (C := RX1) (T := TX1) (N := 16) hx hb hts (fun _ h => List.mem_cons_of_mem _ (List.mem_append_left _ (List.mem_append_left _ (List.mem_append_right _ h)))) tyX1 tyX1_ok nmX1 hown hK hP hD hS 0 rfl rfl 10 (by decide) (hts (.fieldLink RX1 15 "CheapHours$Job" "place" "I") (List.mem_of_getElem? (i := 10) rfl)) (fun _ h9 => h9) rfl (by decide +kernel) rfl rfl (Nat.le_of_ble_eq_true rfl) dX1_passHour_122 (fun H locs hP hD hS => ?_)
            obtain ⟨x122, ex122⟩ : ∃ z : Nat → Int32, z = va_up x117 17 0 := ⟨_, rfl⟩
            have hP : va_P D vwCl (wJP cI ja ta x122 pA lt full pr) H := by rw [ex122]; exact hP
            have hD : va_D A (wJP cI ja ta x122 pA lt full pr) := by rw [ex122]; exact hD
            have hrow : rHourC full (pr (200 * mk + nw)) nw row = x122 := by
              rw [rHourC, if_pos hrd]
              subst_vars
              try simp only [rHour]
              try simp only [rTurn, if_pos c_57, if_pos c_73, if_pos (i32_nlt.mp c_110)]
              try simp only [rDone, if_pos c_57, if_pos c_73, if_pos (i32_nlt.mp c_110)]
              done
            rw [← hrow] at hP hD
            rw [← hQQ]
            exact W.vret hx hb hr (fun t9 ht9 hW9 => ⟨⟨(), rfl, trivial, by rw [ht9]; exact hP, hD⟩, hS.F ht9⟩) hS.2.2 dX1_passHour_125
        · skip
          refine lv_iload_n hx hb dX1_passHour_76 rfl (lv_at hl 0 rfl) ?_
          refine lv_aload_n hx hb dX1_passHour_77 rfl (lv_at hl 1 rfl) ?_
          refine va_get (D := D) (cl := vwCl) (ci := 1) (v := .ref ta) (C := RX1) (T := TX1) (N := 16) hx hb hts (fun _ h => List.mem_cons_of_mem _ (List.mem_append_left _ (List.mem_append_left _ (List.mem_append_right _ h)))) hown hK hP 0 rfl rfl 0 (by decide) (hts (.fieldLink RX1 9 "CheapHours$Job" "terms" "LCheapHours$Terms;") (List.mem_of_getElem? (i := 2) rfl)) (fun _ h9 => h9) rfl dX1_passHour_78 ?_
          refine va_get (D := D) (cl := vwCl) (ci := 4) (v := .int (x37 3)) (C := RX5) (T := TX5) (N := 8) hx hb hts (fun _ h => List.mem_cons_of_mem _ (List.mem_append_left _ (List.mem_append_right _ h))) hown hK hP 1 rfl rfl 5 (by decide) (hts (.fieldLink RX1 85 "CheapHours$Terms" "bid" "I") (List.mem_of_getElem? (i := 6) rfl)) (fun _ h9 => h9) rfl dX1_passHour_81 ?_
          refine lv_icmp_le (tgt := 94) hx hb dX1_passHour_84 (by decide) (fun c_84 => ?_) (fun c_84 => ?_)
          · skip
            refine lv_aload_n hx hb dX1_passHour_94 rfl (lv_at hl 1 rfl) ?_
            refine lv_iload_n hx hb dX1_passHour_95 rfl (lv_at hl 0 rfl) ?_
            refine rwVvS (As := [.int (pr (200 * mk + nw))]) (rest := []) (wc := wJ ja ta x37) (wr := wP cI pA lt full pr) [0, 1] [2, 3] rfl rfl (by decide) (by decide) ⟨hx, hb, hml, hown, hts⟩ (c_X1_passAtMarket l D cI cL cZ cO H.size ja ta x37 (pr (200 * mk + nw)) (by subst_vars; exact hi) (by subst_vars; exact hi2)) (cwV 1 hts gX1_passHour_X1_passAtMarket rfl rfl rfl (by decide +kernel) ⟨Nat.le_of_ble_eq_true rfl, Nat.le_of_ble_eq_true rfl⟩) hO hP hD (hP.sub [0, 1] rfl) (hD.sub [0, 1] (by decide) rfl) hS hA (va_recv hK hP (ci := 1) (q0 := 0) rfl rfl) rfl hl.1 rfl (Nat.le_of_ble_eq_true rfl) dX1_passHour_96 ⟨Nat.le_of_ble_eq_true rfl, Nat.le_of_ble_eq_true rfl⟩ (fun u_96 H locs e_96 hP hD hS => ?_)
            have hP : va_P D vwCl (wJP cI ja ta (rAtMarket (pr (200 * mk + nw)) x37) pA lt full pr) H := hP.sub [2, 3, 0, 1] rfl
            have hD : va_D A (wJP cI ja ta (rAtMarket (pr (200 * mk + nw)) x37) pA lt full pr) := hD.sub [2, 3, 0, 1] (by decide) rfl
            refine lv_aload_n hx hb dX1_passHour_99 rfl (lv_at hl 1 rfl) ?_
            refine va_get (D := D) (cl := vwCl) (ci := 1) (v := .int ((rAtMarket (pr (200 * mk + nw)) x37) 8)) (C := RX1) (T := TX1) (N := 16) hx hb hts (fun _ h => List.mem_cons_of_mem _ (List.mem_append_left _ (List.mem_append_left _ (List.mem_append_right _ h)))) hown hK hP 0 rfl rfl 2 (by decide) (hts (.fieldLink RX1 22 "CheapHours$Job" "saved" "I") (List.mem_of_getElem? (i := 7) rfl)) (fun _ h9 => h9) rfl dX1_passHour_100 ?_
            refine lv_aload_n hx hb dX1_passHour_103 rfl (lv_at hl 1 rfl) ?_
            refine va_get (D := D) (cl := vwCl) (ci := 1) (v := .ref ta) (C := RX1) (T := TX1) (N := 16) hx hb hts (fun _ h => List.mem_cons_of_mem _ (List.mem_append_left _ (List.mem_append_left _ (List.mem_append_right _ h)))) hown hK hP 0 rfl rfl 0 (by decide) (hts (.fieldLink RX1 9 "CheapHours$Job" "terms" "LCheapHours$Terms;") (List.mem_of_getElem? (i := 2) rfl)) (fun _ h9 => h9) rfl dX1_passHour_104 ?_
            refine va_get (D := D) (cl := vwCl) (ci := 4) (v := .int ((rAtMarket (pr (200 * mk + nw)) x37) 0)) (C := RX5) (T := TX5) (N := 8) hx hb hts (fun _ h => List.mem_cons_of_mem _ (List.mem_append_left _ (List.mem_append_right _ h))) hown hK hP 1 rfl rfl 0 (by decide) (hts (.fieldLink RX1 94 "CheapHours$Terms" "work" "I") (List.mem_of_getElem? (i := 8) rfl)) (fun _ h9 => h9) rfl dX1_passHour_107 ?_
            refine lv_icmp_lt (tgt := 125) hx hb dX1_passHour_110 (by decide) (fun c_110 => ?_) (fun c_110 => ?_)
            · skip
              have hrow : rHourC full (pr (200 * mk + nw)) nw row = rAtMarket (pr (200 * mk + nw)) x37 := by
                rw [rHourC, if_pos hrd]
                subst_vars
                try simp only [rHour]
                try simp only [rTurn, if_pos c_57, if_neg c_73, if_pos c_84, if_neg (i32_nle.mpr c_110)]
                try simp only [rDone, if_pos c_57, if_neg c_73, if_pos c_84, if_neg (i32_nle.mpr c_110)]
                done
              rw [← hrow] at hP hD
              rw [← hQQ]
              exact W.vret hx hb hr (fun t9 ht9 hW9 => ⟨⟨(), rfl, trivial, by rw [ht9]; exact hP, hD⟩, hS.F ht9⟩) hS.2.2 dX1_passHour_125
            · skip
              refine lv_aload_n hx hb dX1_passHour_113 rfl (lv_at hl 1 rfl) ?_
              refine lv_iload_n hx hb dX1_passHour_114 rfl (lv_at hl 2 rfl) ?_
              refine lv_iconst (v := 1) hx hb dX1_passHour_115 (by decide) ?_
              refine n_iadd (x := nw) (y := 1) hx hb dX1_passHour_116 ?_
              refine va_put (D := D) (cl := vwCl) (ci := 1) (v := .int (nI (nw + 1))) (ty := .int) (C := RX1) (T := TX1) (N := 16) hx hb hts (fun _ h => List.mem_cons_of_mem _ (List.mem_append_left _ (List.mem_append_left _ (List.mem_append_right _ h)))) tyX1 tyX1_ok nmX1 hown hK hP hD hS 0 rfl rfl 11 (by decide) (hts (.fieldLink RX1 19 "CheapHours$Job" "readyAt" "I") (List.mem_of_getElem? (i := 9) rfl)) (fun _ h9 => h9) rfl (by decide +kernel) rfl rfl (Nat.le_of_ble_eq_true rfl) dX1_passHour_117 (fun H locs hP hD hS => ?_)
              obtain ⟨x117, ex117⟩ : ∃ z : Nat → Int32, z = va_up (rAtMarket (pr (200 * mk + nw)) x37) 18 (nI (nw + 1)) := ⟨_, rfl⟩
              have hP : va_P D vwCl (wJP cI ja ta x117 pA lt full pr) H := by rw [ex117]; exact hP
              have hD : va_D A (wJP cI ja ta x117 pA lt full pr) := by rw [ex117]; exact hD
              refine lv_aload_n hx hb dX1_passHour_120 rfl (lv_at hl 1 rfl) ?_
              refine lv_iconst (v := 0) hx hb dX1_passHour_121 (by decide) ?_
              refine va_put (D := D) (cl := vwCl) (ci := 1) (v := .int 0) (ty := .int) (C := RX1) (T := TX1) (N := 16) hx hb hts (fun _ h => List.mem_cons_of_mem _ (List.mem_append_left _ (List.mem_append_left _ (List.mem_append_right _ h)))) tyX1 tyX1_ok nmX1 hown hK hP hD hS 0 rfl rfl 10 (by decide) (hts (.fieldLink RX1 15 "CheapHours$Job" "place" "I") (List.mem_of_getElem? (i := 10) rfl)) (fun _ h9 => h9) rfl (by decide +kernel) rfl rfl (Nat.le_of_ble_eq_true rfl) dX1_passHour_122 (fun H locs hP hD hS => ?_)
              obtain ⟨x122, ex122⟩ : ∃ z : Nat → Int32, z = va_up x117 17 0 := ⟨_, rfl⟩
              have hP : va_P D vwCl (wJP cI ja ta x122 pA lt full pr) H := by rw [ex122]; exact hP
              have hD : va_D A (wJP cI ja ta x122 pA lt full pr) := by rw [ex122]; exact hD
              have hrow : rHourC full (pr (200 * mk + nw)) nw row = x122 := by
                rw [rHourC, if_pos hrd]
                subst_vars
                try simp only [rHour]
                try simp only [rTurn, if_pos c_57, if_neg c_73, if_pos c_84, if_pos (i32_nlt.mp c_110)]
                try simp only [rDone, if_pos c_57, if_neg c_73, if_pos c_84, if_pos (i32_nlt.mp c_110)]
                done
              rw [← hrow] at hP hD
              rw [← hQQ]
              exact W.vret hx hb hr (fun t9 ht9 hW9 => ⟨⟨(), rfl, trivial, by rw [ht9]; exact hP, hD⟩, hS.F ht9⟩) hS.2.2 dX1_passHour_125
          · skip
            refine lv_aload_n hx hb dX1_passHour_87 rfl (lv_at hl 1 rfl) ?_
            refine rwVvS (As := []) (rest := []) (wc := wJ ja ta x37) (wr := wP cI pA lt full pr) [0, 1] [2, 3] rfl rfl (by decide) (by decide) ⟨hx, hb, hml, hown, hts⟩ (c_X1_passWaiting l D cI cL cZ cO H.size ja ta x37 ) (cwV 0 hts gX1_passHour_X1_passWaiting rfl rfl rfl (by decide +kernel) ⟨Nat.le_of_ble_eq_true rfl, Nat.le_of_ble_eq_true rfl⟩) hO hP hD (hP.sub [0, 1] rfl) (hD.sub [0, 1] (by decide) rfl) hS hA (va_recv hK hP (ci := 1) (q0 := 0) rfl rfl) rfl hl.1 rfl (Nat.le_of_ble_eq_true rfl) dX1_passHour_88 ⟨Nat.le_of_ble_eq_true rfl, Nat.le_of_ble_eq_true rfl⟩ (fun u_88 H locs e_88 hP hD hS => ?_)
            have hP : va_P D vwCl (wJP cI ja ta (rWait x37) pA lt full pr) H := hP.sub [2, 3, 0, 1] rfl
            have hD : va_D A (wJP cI ja ta (rWait x37) pA lt full pr) := hD.sub [2, 3, 0, 1] (by decide) rfl
            refine lv_goto (tgt := 99) hx hb dX1_passHour_91 (by decide) ?_
            refine lv_aload_n hx hb dX1_passHour_99 rfl (lv_at hl 1 rfl) ?_
            refine va_get (D := D) (cl := vwCl) (ci := 1) (v := .int ((rWait x37) 8)) (C := RX1) (T := TX1) (N := 16) hx hb hts (fun _ h => List.mem_cons_of_mem _ (List.mem_append_left _ (List.mem_append_left _ (List.mem_append_right _ h)))) hown hK hP 0 rfl rfl 2 (by decide) (hts (.fieldLink RX1 22 "CheapHours$Job" "saved" "I") (List.mem_of_getElem? (i := 7) rfl)) (fun _ h9 => h9) rfl dX1_passHour_100 ?_
            refine lv_aload_n hx hb dX1_passHour_103 rfl (lv_at hl 1 rfl) ?_
            refine va_get (D := D) (cl := vwCl) (ci := 1) (v := .ref ta) (C := RX1) (T := TX1) (N := 16) hx hb hts (fun _ h => List.mem_cons_of_mem _ (List.mem_append_left _ (List.mem_append_left _ (List.mem_append_right _ h)))) hown hK hP 0 rfl rfl 0 (by decide) (hts (.fieldLink RX1 9 "CheapHours$Job" "terms" "LCheapHours$Terms;") (List.mem_of_getElem? (i := 2) rfl)) (fun _ h9 => h9) rfl dX1_passHour_104 ?_
            refine va_get (D := D) (cl := vwCl) (ci := 4) (v := .int ((rWait x37) 0)) (C := RX5) (T := TX5) (N := 8) hx hb hts (fun _ h => List.mem_cons_of_mem _ (List.mem_append_left _ (List.mem_append_right _ h))) hown hK hP 1 rfl rfl 0 (by decide) (hts (.fieldLink RX1 94 "CheapHours$Terms" "work" "I") (List.mem_of_getElem? (i := 8) rfl)) (fun _ h9 => h9) rfl dX1_passHour_107 ?_
            refine lv_icmp_lt (tgt := 125) hx hb dX1_passHour_110 (by decide) (fun c_110 => ?_) (fun c_110 => ?_)
            · skip
              have hrow : rHourC full (pr (200 * mk + nw)) nw row = rWait x37 := by
                rw [rHourC, if_pos hrd]
                subst_vars
                try simp only [rHour]
                try simp only [rTurn, if_pos c_57, if_neg c_73, if_neg c_84, if_neg (i32_nle.mpr c_110)]
                try simp only [rDone, if_pos c_57, if_neg c_73, if_neg c_84, if_neg (i32_nle.mpr c_110)]
                done
              rw [← hrow] at hP hD
              rw [← hQQ]
              exact W.vret hx hb hr (fun t9 ht9 hW9 => ⟨⟨(), rfl, trivial, by rw [ht9]; exact hP, hD⟩, hS.F ht9⟩) hS.2.2 dX1_passHour_125
            · skip
              refine lv_aload_n hx hb dX1_passHour_113 rfl (lv_at hl 1 rfl) ?_
              refine lv_iload_n hx hb dX1_passHour_114 rfl (lv_at hl 2 rfl) ?_
              refine lv_iconst (v := 1) hx hb dX1_passHour_115 (by decide) ?_
              refine n_iadd (x := nw) (y := 1) hx hb dX1_passHour_116 ?_
              refine va_put (D := D) (cl := vwCl) (ci := 1) (v := .int (nI (nw + 1))) (ty := .int) (C := RX1) (T := TX1) (N := 16) hx hb hts (fun _ h => List.mem_cons_of_mem _ (List.mem_append_left _ (List.mem_append_left _ (List.mem_append_right _ h)))) tyX1 tyX1_ok nmX1 hown hK hP hD hS 0 rfl rfl 11 (by decide) (hts (.fieldLink RX1 19 "CheapHours$Job" "readyAt" "I") (List.mem_of_getElem? (i := 9) rfl)) (fun _ h9 => h9) rfl (by decide +kernel) rfl rfl (Nat.le_of_ble_eq_true rfl) dX1_passHour_117 (fun H locs hP hD hS => ?_)
              obtain ⟨x117, ex117⟩ : ∃ z : Nat → Int32, z = va_up (rWait x37) 18 (nI (nw + 1)) := ⟨_, rfl⟩
              have hP : va_P D vwCl (wJP cI ja ta x117 pA lt full pr) H := by rw [ex117]; exact hP
              have hD : va_D A (wJP cI ja ta x117 pA lt full pr) := by rw [ex117]; exact hD
              refine lv_aload_n hx hb dX1_passHour_120 rfl (lv_at hl 1 rfl) ?_
              refine lv_iconst (v := 0) hx hb dX1_passHour_121 (by decide) ?_
              refine va_put (D := D) (cl := vwCl) (ci := 1) (v := .int 0) (ty := .int) (C := RX1) (T := TX1) (N := 16) hx hb hts (fun _ h => List.mem_cons_of_mem _ (List.mem_append_left _ (List.mem_append_left _ (List.mem_append_right _ h)))) tyX1 tyX1_ok nmX1 hown hK hP hD hS 0 rfl rfl 10 (by decide) (hts (.fieldLink RX1 15 "CheapHours$Job" "place" "I") (List.mem_of_getElem? (i := 10) rfl)) (fun _ h9 => h9) rfl (by decide +kernel) rfl rfl (Nat.le_of_ble_eq_true rfl) dX1_passHour_122 (fun H locs hP hD hS => ?_)
              obtain ⟨x122, ex122⟩ : ∃ z : Nat → Int32, z = va_up x117 17 0 := ⟨_, rfl⟩
              have hP : va_P D vwCl (wJP cI ja ta x122 pA lt full pr) H := by rw [ex122]; exact hP
              have hD : va_D A (wJP cI ja ta x122 pA lt full pr) := by rw [ex122]; exact hD
              have hrow : rHourC full (pr (200 * mk + nw)) nw row = x122 := by
                rw [rHourC, if_pos hrd]
                subst_vars
                try simp only [rHour]
                try simp only [rTurn, if_pos c_57, if_neg c_73, if_neg c_84, if_pos (i32_nlt.mp c_110)]
                try simp only [rDone, if_pos c_57, if_neg c_73, if_neg c_84, if_pos (i32_nlt.mp c_110)]
                done
              rw [← hrow] at hP hD
              rw [← hQQ]
              exact W.vret hx hb hr (fun t9 ht9 hW9 => ⟨⟨(), rfl, trivial, by rw [ht9]; exact hP, hD⟩, hS.F ht9⟩) hS.2.2 dX1_passHour_125
      · skip
        refine lv_aload_n hx hb dX1_passHour_60 rfl (lv_at hl 1 rfl) ?_
        refine lv_aload_n hx hb dX1_passHour_61 rfl (lv_at hl 3 rfl) ?_
        refine va_get (D := D) (cl := vwCl) (ci := 3) (v := .int full) (C := RX4) (T := TX4) (N := 2) hx hb hts (fun _ h => List.mem_cons_of_mem _ (List.mem_append_right _ h)) hown hK hP 2 rfl rfl 1 (by decide) (hts (.fieldLink RX1 78 "CheapHours$Prices" "atFull" "I") (List.mem_of_getElem? (i := 5) rfl)) (fun _ h9 => h9) rfl dX1_passHour_62 ?_
        refine rwVvS (As := [.int full]) (rest := []) (wc := wJ ja ta x37) (wr := wP cI pA lt full pr) [0, 1] [2, 3] rfl rfl (by decide) (by decide) ⟨hx, hb, hml, hown, hts⟩ (c_X1_passAtFull l D cI cL cZ cO H.size ja ta x37 full ) (cwV 1 hts gX1_passHour_X1_passAtFull rfl rfl rfl (by decide +kernel) ⟨Nat.le_of_ble_eq_true rfl, Nat.le_of_ble_eq_true rfl⟩) hO hP hD (hP.sub [0, 1] rfl) (hD.sub [0, 1] (by decide) rfl) hS hA (va_recv hK hP (ci := 1) (q0 := 0) rfl rfl) rfl hl.1 rfl (Nat.le_of_ble_eq_true rfl) dX1_passHour_65 ⟨Nat.le_of_ble_eq_true rfl, Nat.le_of_ble_eq_true rfl⟩ (fun u_65 H locs e_65 hP hD hS => ?_)
        have hP : va_P D vwCl (wJP cI ja ta (rAtFull full x37) pA lt full pr) H := hP.sub [2, 3, 0, 1] rfl
        have hD : va_D A (wJP cI ja ta (rAtFull full x37) pA lt full pr) := hD.sub [2, 3, 0, 1] (by decide) rfl
        refine lv_goto (tgt := 99) hx hb dX1_passHour_68 (by decide) ?_
        refine lv_aload_n hx hb dX1_passHour_99 rfl (lv_at hl 1 rfl) ?_
        refine va_get (D := D) (cl := vwCl) (ci := 1) (v := .int ((rAtFull full x37) 8)) (C := RX1) (T := TX1) (N := 16) hx hb hts (fun _ h => List.mem_cons_of_mem _ (List.mem_append_left _ (List.mem_append_left _ (List.mem_append_right _ h)))) hown hK hP 0 rfl rfl 2 (by decide) (hts (.fieldLink RX1 22 "CheapHours$Job" "saved" "I") (List.mem_of_getElem? (i := 7) rfl)) (fun _ h9 => h9) rfl dX1_passHour_100 ?_
        refine lv_aload_n hx hb dX1_passHour_103 rfl (lv_at hl 1 rfl) ?_
        refine va_get (D := D) (cl := vwCl) (ci := 1) (v := .ref ta) (C := RX1) (T := TX1) (N := 16) hx hb hts (fun _ h => List.mem_cons_of_mem _ (List.mem_append_left _ (List.mem_append_left _ (List.mem_append_right _ h)))) hown hK hP 0 rfl rfl 0 (by decide) (hts (.fieldLink RX1 9 "CheapHours$Job" "terms" "LCheapHours$Terms;") (List.mem_of_getElem? (i := 2) rfl)) (fun _ h9 => h9) rfl dX1_passHour_104 ?_
        refine va_get (D := D) (cl := vwCl) (ci := 4) (v := .int ((rAtFull full x37) 0)) (C := RX5) (T := TX5) (N := 8) hx hb hts (fun _ h => List.mem_cons_of_mem _ (List.mem_append_left _ (List.mem_append_right _ h))) hown hK hP 1 rfl rfl 0 (by decide) (hts (.fieldLink RX1 94 "CheapHours$Terms" "work" "I") (List.mem_of_getElem? (i := 8) rfl)) (fun _ h9 => h9) rfl dX1_passHour_107 ?_
        refine lv_icmp_lt (tgt := 125) hx hb dX1_passHour_110 (by decide) (fun c_110 => ?_) (fun c_110 => ?_)
        · skip
          have hrow : rHourC full (pr (200 * mk + nw)) nw row = rAtFull full x37 := by
            rw [rHourC, if_pos hrd]
            subst_vars
            try simp only [rHour]
            try simp only [rTurn, if_neg c_57, if_neg (i32_nle.mpr c_110)]
            try simp only [rDone, if_neg c_57, if_neg (i32_nle.mpr c_110)]
            done
          rw [← hrow] at hP hD
          rw [← hQQ]
          exact W.vret hx hb hr (fun t9 ht9 hW9 => ⟨⟨(), rfl, trivial, by rw [ht9]; exact hP, hD⟩, hS.F ht9⟩) hS.2.2 dX1_passHour_125
        · skip
          refine lv_aload_n hx hb dX1_passHour_113 rfl (lv_at hl 1 rfl) ?_
          refine lv_iload_n hx hb dX1_passHour_114 rfl (lv_at hl 2 rfl) ?_
          refine lv_iconst (v := 1) hx hb dX1_passHour_115 (by decide) ?_
          refine n_iadd (x := nw) (y := 1) hx hb dX1_passHour_116 ?_
          refine va_put (D := D) (cl := vwCl) (ci := 1) (v := .int (nI (nw + 1))) (ty := .int) (C := RX1) (T := TX1) (N := 16) hx hb hts (fun _ h => List.mem_cons_of_mem _ (List.mem_append_left _ (List.mem_append_left _ (List.mem_append_right _ h)))) tyX1 tyX1_ok nmX1 hown hK hP hD hS 0 rfl rfl 11 (by decide) (hts (.fieldLink RX1 19 "CheapHours$Job" "readyAt" "I") (List.mem_of_getElem? (i := 9) rfl)) (fun _ h9 => h9) rfl (by decide +kernel) rfl rfl (Nat.le_of_ble_eq_true rfl) dX1_passHour_117 (fun H locs hP hD hS => ?_)
          obtain ⟨x117, ex117⟩ : ∃ z : Nat → Int32, z = va_up (rAtFull full x37) 18 (nI (nw + 1)) := ⟨_, rfl⟩
          have hP : va_P D vwCl (wJP cI ja ta x117 pA lt full pr) H := by rw [ex117]; exact hP
          have hD : va_D A (wJP cI ja ta x117 pA lt full pr) := by rw [ex117]; exact hD
          refine lv_aload_n hx hb dX1_passHour_120 rfl (lv_at hl 1 rfl) ?_
          refine lv_iconst (v := 0) hx hb dX1_passHour_121 (by decide) ?_
          refine va_put (D := D) (cl := vwCl) (ci := 1) (v := .int 0) (ty := .int) (C := RX1) (T := TX1) (N := 16) hx hb hts (fun _ h => List.mem_cons_of_mem _ (List.mem_append_left _ (List.mem_append_left _ (List.mem_append_right _ h)))) tyX1 tyX1_ok nmX1 hown hK hP hD hS 0 rfl rfl 10 (by decide) (hts (.fieldLink RX1 15 "CheapHours$Job" "place" "I") (List.mem_of_getElem? (i := 10) rfl)) (fun _ h9 => h9) rfl (by decide +kernel) rfl rfl (Nat.le_of_ble_eq_true rfl) dX1_passHour_122 (fun H locs hP hD hS => ?_)
          obtain ⟨x122, ex122⟩ : ∃ z : Nat → Int32, z = va_up x117 17 0 := ⟨_, rfl⟩
          have hP : va_P D vwCl (wJP cI ja ta x122 pA lt full pr) H := by rw [ex122]; exact hP
          have hD : va_D A (wJP cI ja ta x122 pA lt full pr) := by rw [ex122]; exact hD
          have hrow : rHourC full (pr (200 * mk + nw)) nw row = x122 := by
            rw [rHourC, if_pos hrd]
            subst_vars
            try simp only [rHour]
            try simp only [rTurn, if_neg c_57, if_pos (i32_nlt.mp c_110)]
            try simp only [rDone, if_neg c_57, if_pos (i32_nlt.mp c_110)]
            done
          rw [← hrow] at hP hD
          rw [← hQQ]
          exact W.vret hx hb hr (fun t9 ht9 hW9 => ⟨⟨(), rfl, trivial, by rw [ht9]; exact hP, hD⟩, hS.F ht9⟩) hS.2.2 dX1_passHour_125
    refine lv_aload_n hx hb dX1_passHour_8 rfl (lv_at hl 0 rfl) ?_
    refine lv_aload_n hx hb dX1_passHour_9 rfl (lv_at hl 0 rfl) ?_
    refine va_get (D := D) (cl := vwCl) (ci := 1) (v := .int (row 23)) (C := RX1) (T := TX1) (N := 16) hx hb hts (fun _ h => List.mem_cons_of_mem _ (List.mem_append_left _ (List.mem_append_left _ (List.mem_append_right _ h)))) hown hK hP 0 rfl rfl 13 (by decide) (hts (.fieldLink RX1 60 "CheapHours$Job" "guarded" "Z") (List.mem_of_getElem? (i := 1) rfl)) (fun _ h9 => h9) rfl dX1_passHour_10 ?_
    refine lv_if_ne (tgt := 32) hx hb dX1_passHour_13 (by decide) (fun c_13 => ?_) (fun c_13 => ?_)
    · skip
      refine lv_iconst (v := 1) hx hb dX1_passHour_32 (by decide) ?_
      refine lv_goto (tgt := 37) hx hb dX1_passHour_33 (by decide) ?_
      exact J37 1 _ _ _ (by simp only [rGuard, if_neg c_13]) hP hD hS (lv_sub hl [0, 1, 2] rfl)
    · skip
      refine lv_aload_n hx hb dX1_passHour_16 rfl (lv_at hl 0 rfl) ?_
      refine va_get (D := D) (cl := vwCl) (ci := 1) (v := .ref ta) (C := RX1) (T := TX1) (N := 16) hx hb hts (fun _ h => List.mem_cons_of_mem _ (List.mem_append_left _ (List.mem_append_left _ (List.mem_append_right _ h)))) hown hK hP 0 rfl rfl 0 (by decide) (hts (.fieldLink RX1 9 "CheapHours$Job" "terms" "LCheapHours$Terms;") (List.mem_of_getElem? (i := 2) rfl)) (fun _ h9 => h9) rfl dX1_passHour_17 ?_
      refine va_get (D := D) (cl := vwCl) (ci := 4) (v := .int (row 1)) (C := RX5) (T := TX5) (N := 8) hx hb hts (fun _ h => List.mem_cons_of_mem _ (List.mem_append_left _ (List.mem_append_right _ h))) hown hK hP 1 rfl rfl 1 (by decide) (hts (.fieldLink RX1 64 "CheapHours$Terms" "due" "I") (List.mem_of_getElem? (i := 3) rfl)) (fun _ h9 => h9) rfl dX1_passHour_20 ?_
      refine lv_iload_n hx hb dX1_passHour_23 rfl (lv_at hl 1 rfl) ?_
      refine lv_isub hx hb dX1_passHour_24 ?_
      refine lv_aload_n hx hb dX1_passHour_25 rfl (lv_at hl 0 rfl) ?_
      refine roVi (As := []) (rest := [.int ((row 1) - (nI nw)), .ref ja]) ⟨hx, hb, hml, hown, hts⟩ (c_X1_need l D cI cL cZ cO ja ta row ) (cwV 0 hts gX1_passHour_X1_need rfl rfl rfl (by decide +kernel) ⟨Nat.le_of_ble_eq_true rfl, Nat.le_of_ble_eq_true rfl⟩) hO (hP.sub (ws' := wJ ja ta row) [0, 1] rfl) (va_recv hK hP (ci := 1) (q0 := 0) rfl rfl) rfl hl.1 rfl (Nat.le_of_ble_eq_true rfl) dX1_passHour_26 ⟨Nat.le_of_ble_eq_true rfl, Nat.le_of_ble_eq_true rfl⟩ (fun r_26 e_26 => ?_)
      obtain rfl : r_26 = rNeed row := e_26
      refine lv_icmp_gt (tgt := 36) hx hb dX1_passHour_29 (by decide) (fun c_29 => ?_) (fun c_29 => ?_)
      · skip
        refine lv_iconst (v := 0) hx hb dX1_passHour_36 (by decide) ?_
        exact J37 0 _ _ _ (by simp only [rGuard, if_pos c_13, if_pos c_29]) hP hD hS (lv_sub hl [0, 1, 2] rfl)
      · skip
        refine lv_iconst (v := 1) hx hb dX1_passHour_32 (by decide) ?_
        refine lv_goto (tgt := 37) hx hb dX1_passHour_33 (by decide) ?_
        exact J37 1 _ _ _ (by simp only [rGuard, if_pos c_13, if_neg c_29]) hP hD hS (lv_sub hl [0, 1, 2] rfl)
  · skip
    have hrd : ¬ row 18 = -1 := fun z9 => c_4 (by rw [rReady, if_pos z9])
    have hrow : rHourC full (pr (200 * mk + nw)) nw row = row := by
      rw [rHourC, if_neg hrd]
    rw [← hrow] at hP hD
    rw [← hQQ]
    exact W.vret hx hb hr (fun t9 ht9 hW9 => ⟨⟨(), rfl, trivial, by rw [ht9]; exact hP, hD⟩, hS.F ht9⟩) hS.2.2 dX1_passHour_7
