theorem nI_nm1 {x : Nat} (h : x < 2 ^ 31) : ¬ nI x = -1 := by
  intro q
  have := congrArg Int32.toInt q
  rw [nI_toInt h] at this
  have e : (-1 : Int32).toInt = -1 := by decide
  omega
theorem tbMean_0 {price full : Int32} {ten wk wt : Int64} : tbMean price full 0 ten wk wt = wt := if_pos rfl
theorem tbMean_1 {price full : Int32} {ten wk wt : Int64} : tbMean price full 1 ten wk wt = price.toInt64 * ten + wk := by
  rw [tbMean, if_neg (by decide), tbPays, if_neg (by decide), if_pos rfl]
theorem tbMean_2 {price full : Int32} {ten wk wt : Int64} : tbMean price full 2 ten wk wt = full.toInt64 * ten + wk := by
  rw [tbMean, if_neg (by decide), tbPays, if_neg (by decide), if_neg (by decide)]
theorem tbRule_b {price full : Int32} {ten wk wt : Int64} {h w : Nat} : tbRule price full (-1) ten wk wt h w = tbBest (price.toInt64 * ten + wk) (full.toInt64 * ten + wk) wt h w := if_pos rfl
theorem tbRule_c {price full cap : Int32} {ten wk wt : Int64} {h w : Nat} (hc : ¬ cap = -1) : tbRule price full cap ten wk wt h w = if cap < price then (if h ≤ w then (if full < price then 2 else 1) else 0) else 1 := if_neg hc
theorem tb_ru {L : Nat} {lp ch : Nat → Int32} {full cap : Int32} {h w lx : Nat} (hw : 1 ≤ w) : (tb L lp ch full cap (h + 1) w lx).2.1 = 0 → w < h + 1 := by
  rw [tb, if_neg (by omega)]
  exact tbRule_0
theorem tb_wo {L : Nat} {lp ch : Nat → Int32} {full cap : Int32} {h w lx : Nat} (hw : 1 ≤ w) : (tb L lp ch full cap (h + 1) w lx).2.2 = tbPays (lp lx) full (tb L lp ch full cap (h + 1) w lx).2.1 + gwS ch (fun k => (tb L lp ch full cap h (if (tb L lp ch full cap (h + 1) w lx).2.1 = 0 then w else w - 1) k).2.2) lx L := by
  rw [tb, if_neg (by omega)]
theorem tb_r {L : Nat} {lp ch : Nat → Int32} {full cap : Int32} {h w lx : Nat} (hw : 1 ≤ w) : (tb L lp ch full cap (h + 1) w lx).2.1 = tbRule (lp lx) full cap (pw 10 (h + 1)) (nxS ch (fun k => (tb L lp ch full cap h (w - 1) k).1) lx L) (nxS ch (fun k => (tb L lp ch full cap h w k).1) lx L) (h + 1) w := by
  rw [tb, if_neg (by omega)]
theorem tb_m {L : Nat} {lp ch : Nat → Int32} {full cap : Int32} {h w lx : Nat} (hw : 1 ≤ w) : (tb L lp ch full cap (h + 1) w lx).1 = tbMean (lp lx) full (tb L lp ch full cap (h + 1) w lx).2.1 (pw 10 (h + 1)) (nxS ch (fun k => (tb L lp ch full cap h (w - 1) k).1) lx L) (nxS ch (fun k => (tb L lp ch full cap h w k).1) lx L) := by
  rw [tb, if_neg (by omega)]
set_option maxHeartbeats 4000000 in
set_option maxRecDepth 100000 in
theorem c_X3_settleMean_0 (l : Launch) (D : va_G) (cI cL cZ cO : ClassId) (sz : Nat) (pl pA lt : Nat) (k : Nat → Nat) (kn full : Int32) (lp ch : Nat → Int32) (me : Nat → Int64) (ru wo : Nat → Int32) (mb : Nat → Int64) (L : Nat) (h lx : Nat) (hL : L ≤ 6) (hh : h ≤ 12) (hl9 : lx < L) : Met l yX3_settleMean wsX3_settleMean ({ frames := 3, cells := 0, slots := 0, locals := 74 } : Room) (va_Pc [.ref pl, .int (nI h), .int (nI 0), .int (nI lx)] (Rw D cI cL cZ cO (wPl cI cL pl pA lt k (nI L) kn full lp ch me ru wo mb) sz)) (va_Qv (fun (u : Unit) => True) (fun (u : Unit) => Wo D (va_A (wPl cI cL pl pA lt k (nI L) kn full lp ch me ru wo mb) sz) (wPl cI cL pl pA lt k (nI L) kn full lp ch (vp_updL me (tn h 0 lx) (tb L lp ch full (-1) h 0 lx).1) (upd ru (tn h 0 lx) (tb L lp ch full (-1) h 0 lx).2.1) wo mb)) (va_A (wPl cI cL pl pA lt k (nI L) kn full lp ch me ru wo mb) sz)) 0 0 (va_A (wPl cI cL pl pA lt k (nI L) kn full lp ch me ru wo mb) sz) := by
  refine Met.ofW (cc := cX3_settleMean) (maxL := 16) (ret := none) (by decide) rfl ?_
  intro p e s m args below meth c s₁ B hml hv
  obtain ⟨rfl, hsz, hP, hO, hD0⟩ := hv
  have hx := B.exec
  have hb := B.bytes
  have hr := B.returns
  have hts := atoms_spec (ws := wsX3_settleMean) B.pre
  have hown : s.vm.findClass RX3 = some m.cls := findClass_of_methodNamed B.named
  have hlocks := B.notSynchronized
  have hK := hO.1
  subst hsz
  have hD := hD0.self (sz := s.heap.size)
  generalize hAe : va_A (wPl cI cL pl pA lt k (nI L) kn full lp ch me ru wo mb) s.heap.size = A at hD ⊢
  have hA : ∀ q : Nat, s.heap.size ≤ q → A q := fun q h => by rw [← hAe]; exact Or.inr h
  have hS : va_S A s.heap s.heap [] := va_S.rf
  have hl := lv_entry ([.ref pl, .int (nI h), .int (nI 0), .int (nI lx)]) (n := 16) (Nat.le_of_ble_eq_true rfl)
  rw [lg_entry_eq]
  generalize (lg_sl ([.ref pl, .int (nI h), .int (nI 0), .int (nI lx)]) ++ List.replicate (16 - (lg_sl ([.ref pl, .int (nI h), .int (nI 0), .int (nI lx)])).length) Slot.unset).toArray = ls at hl ⊢
  have hl : lv_has ls 16 [(0, .ref pl), (1, .int (nI h)), (2, .int (nI 0)), (3, .int (nI lx))] := hl
  generalize hQQ : MQ below _ _ s _ _ _ = QQ
  refine lv_iload_n hx hb dX3_settleMean_0 rfl (lv_at hl 1 rfl) ?_
  refine lv_iload_n hx hb dX3_settleMean_1 rfl (lv_at hl 2 rfl) ?_
  refine lv_iload_n hx hb dX3_settleMean_2 rfl (lv_at hl 3 rfl) ?_
  refine roSi (As := [.int (nI h), .int (nI 0), .int (nI lx)]) (rest := []) ⟨hx, hb, hml, hown, hts⟩ (c_X3_stateOf l D cI cL cZ cO h 0 lx (by omega) (by omega) (by omega)) (va_cwS 3 hts gX3_settleMean_X3_stateOf rfl rfl rfl (by decide +kernel) ⟨Nat.le_of_ble_eq_true rfl, Nat.le_of_ble_eq_true rfl⟩) hO (fun k q h => by simp at h) rfl hl.1 rfl (Nat.le_of_ble_eq_true rfl) dX3_settleMean_3 ⟨Nat.le_of_ble_eq_true rfl, Nat.le_of_ble_eq_true rfl⟩ (fun r_3 e_3 => ?_)
  obtain rfl : r_3 = nI (tn h 0 lx) := e_3
  refine lv_istore (lv' := [(4, .int (nI (tn h 0 lx))), (0, .ref pl), (1, .int (nI h)), (2, .int (nI 0)), (3, .int (nI lx))]) hx hb dX3_settleMean_6 hl (by decide) rfl (fun ls hl => ?_)
  refine lv_iload hx hb dX3_settleMean_8 (lv_at hl 0 rfl) ?_
  refine lv_iconst (v := (-1)) hx hb dX3_settleMean_10 (by decide) ?_
  refine lv_icmp_ne (tgt := 15) hx hb dX3_settleMean_11 (by decide) (fun c_11 => ?_) (fun c_11 => ?_)
  · skip
    refine lv_iload_n hx hb dX3_settleMean_15 rfl (lv_at hl 3 rfl) ?_
    refine n_if_ne (x := 0) (tgt := 36) hx hb dX3_settleMean_16 (by decide) (by omega) (fun c_16 => ?_) (fun c_16 => ?_)
    · skip
      exact absurd c_16 (Nat.lt_irrefl 0)
    · skip
      refine lv_aload_n hx hb dX3_settleMean_19 rfl (lv_at hl 1 rfl) ?_
      refine va_get (D := D) (cl := vwCl) (ci := 2) (v := .ref (k 2)) (C := RX3) (T := TX3) (N := 9) hx hb hts (fun _ h => List.mem_cons_of_mem _ (List.mem_append_left _ (List.mem_append_right _ h))) hown hK hP 0 rfl rfl 5 (by decide) (hts (.fieldLink RX3 22 "CheapHours$Plan" "mean" "[J") (List.mem_of_getElem? (i := 1) rfl)) (fun _ h9 => h9) rfl dX3_settleMean_20 ?_
      refine lv_iload hx hb dX3_settleMean_23 (lv_at hl 0 rfl) ?_
      refine lv_lconst (v := 0) hx hb dX3_settleMean_25 (by decide) ?_
      refine n_last (D := D) (cl := vwCl) (x := (tn h 0 lx)) (v := 0) hx hb hK hP hD hS 4 1 (f := me) rfl rfl (by unfold tn; omega) (Nat.le_of_ble_eq_true rfl) dX3_settleMean_26 (fun H locs hP hD hS => ?_)
      have hP : va_P D vwCl (wPl cI cL pl pA lt k (nI L) kn full lp ch (vp_updL me (tn h 0 lx) 0) ru wo mb) H := hP
      have hD : va_D A (wPl cI cL pl pA lt k (nI L) kn full lp ch (vp_updL me (tn h 0 lx) 0) ru wo mb) := hD
      refine lv_aload_n hx hb dX3_settleMean_27 rfl (lv_at hl 1 rfl) ?_
      refine va_get (D := D) (cl := vwCl) (ci := 2) (v := .ref (k 3)) (C := RX3) (T := TX3) (N := 9) hx hb hts (fun _ h => List.mem_cons_of_mem _ (List.mem_append_left _ (List.mem_append_right _ h))) hown hK hP 0 rfl rfl 6 (by decide) (hts (.fieldLink RX3 26 "CheapHours$Plan" "choice" "[I") (List.mem_of_getElem? (i := 2) rfl)) (fun _ h9 => h9) rfl dX3_settleMean_28 ?_
      refine lv_iload hx hb dX3_settleMean_31 (lv_at hl 0 rfl) ?_
      refine lv_iconst (v := 0) hx hb dX3_settleMean_33 (by decide) ?_
      refine n_iast (D := D) (cl := vwCl) (x := (tn h 0 lx)) (v := 0) hx hb hK hP hD hS 5 0 (f := ru) rfl rfl (by unfold tn; omega) (Nat.le_of_ble_eq_true rfl) dX3_settleMean_34 (fun H locs hP hD hS => ?_)
      have hP : va_P D vwCl (wPl cI cL pl pA lt k (nI L) kn full lp ch (vp_updL me (tn h 0 lx) 0) (upd ru (tn h 0 lx) 0) wo mb) H := hP
      have hD : va_D A (wPl cI cL pl pA lt k (nI L) kn full lp ch (vp_updL me (tn h 0 lx) 0) (upd ru (tn h 0 lx) 0) wo mb) := hD
      have hw9 : wPl cI cL pl pA lt k (nI L) kn full lp ch (vp_updL me (tn h 0 lx) (tb L lp ch full (-1) h 0 lx).1) (upd ru (tn h 0 lx) (tb L lp ch full (-1) h 0 lx).2.1) wo mb = wPl cI cL pl pA lt k (nI L) kn full lp ch (vp_updL me (tn h 0 lx) 0) (upd ru (tn h 0 lx) 0) wo mb := by
        rw [tb_0]
      rw [← hw9] at hP hD
      rw [← hQQ]
      exact W.vret hx hb hr (fun t9 ht9 hW9 => ⟨⟨(), rfl, trivial, by rw [ht9]; exact hP, hD⟩, hS.F ht9⟩) hS.2.2 dX3_settleMean_35
  · skip
    exact absurd c_11 (nI_nm1 (by unfold tn; omega))
set_option maxHeartbeats 4000000 in
set_option maxRecDepth 100000 in
theorem c_X3_settleMean_s (l : Launch) (D : va_G) (cI cL cZ cO : ClassId) (sz : Nat) (pl pA lt : Nat) (k : Nat → Nat) (kn full : Int32) (lp ch : Nat → Int32) (me : Nat → Int64) (ru wo : Nat → Int32) (mb : Nat → Int64) (L : Nat) (h0 w lx : Nat) (hL : L ≤ 6) (hh : h0 + 1 ≤ 12) (hw1 : 1 ≤ w) (hw : w ≤ h0 + 1) (hl9 : lx < L) (hg : tGood L lp ch full (-1) me ru wo (h0 + 1) w lx) : Met l yX3_settleMean wsX3_settleMean ({ frames := 3, cells := 0, slots := 0, locals := 74 } : Room) (va_Pc [.ref pl, .int (nI (h0 + 1)), .int (nI w), .int (nI lx)] (Rw D cI cL cZ cO (wPl cI cL pl pA lt k (nI L) kn full lp ch me ru wo mb) sz)) (va_Qv (fun (u : Unit) => True) (fun (u : Unit) => Wo D (va_A (wPl cI cL pl pA lt k (nI L) kn full lp ch me ru wo mb) sz) (wPl cI cL pl pA lt k (nI L) kn full lp ch (vp_updL me (tn (h0 + 1) w lx) (tb L lp ch full (-1) (h0 + 1) w lx).1) (upd ru (tn (h0 + 1) w lx) (tb L lp ch full (-1) (h0 + 1) w lx).2.1) wo mb)) (va_A (wPl cI cL pl pA lt k (nI L) kn full lp ch me ru wo mb) sz)) 0 0 (va_A (wPl cI cL pl pA lt k (nI L) kn full lp ch me ru wo mb) sz) := by
  refine Met.ofW (cc := cX3_settleMean) (maxL := 16) (ret := none) (by decide) rfl ?_
  intro p e s m args below meth c s₁ B hml hv
  obtain ⟨rfl, hsz, hP, hO, hD0⟩ := hv
  have hx := B.exec
  have hb := B.bytes
  have hr := B.returns
  have hts := atoms_spec (ws := wsX3_settleMean) B.pre
  have hown : s.vm.findClass RX3 = some m.cls := findClass_of_methodNamed B.named
  have hlocks := B.notSynchronized
  have hK := hO.1
  subst hsz
  have hD := hD0.self (sz := s.heap.size)
  generalize hAe : va_A (wPl cI cL pl pA lt k (nI L) kn full lp ch me ru wo mb) s.heap.size = A at hD ⊢
  have hA : ∀ q : Nat, s.heap.size ≤ q → A q := fun q h => by rw [← hAe]; exact Or.inr h
  have hS : va_S A s.heap s.heap [] := va_S.rf
  have hl := lv_entry ([.ref pl, .int (nI (h0 + 1)), .int (nI w), .int (nI lx)]) (n := 16) (Nat.le_of_ble_eq_true rfl)
  rw [lg_entry_eq]
  generalize (lg_sl ([.ref pl, .int (nI (h0 + 1)), .int (nI w), .int (nI lx)]) ++ List.replicate (16 - (lg_sl ([.ref pl, .int (nI (h0 + 1)), .int (nI w), .int (nI lx)])).length) Slot.unset).toArray = ls at hl ⊢
  have hl : lv_has ls 16 [(0, .ref pl), (1, .int (nI (h0 + 1))), (2, .int (nI w)), (3, .int (nI lx))] := hl
  generalize hQQ : MQ below _ _ s _ _ _ = QQ
  refine lv_iload_n hx hb dX3_settleMean_0 rfl (lv_at hl 1 rfl) ?_
  refine lv_iload_n hx hb dX3_settleMean_1 rfl (lv_at hl 2 rfl) ?_
  refine lv_iload_n hx hb dX3_settleMean_2 rfl (lv_at hl 3 rfl) ?_
  refine roSi (As := [.int (nI (h0 + 1)), .int (nI w), .int (nI lx)]) (rest := []) ⟨hx, hb, hml, hown, hts⟩ (c_X3_stateOf l D cI cL cZ cO (h0 + 1) w lx (by omega) (by omega) (by omega)) (va_cwS 3 hts gX3_settleMean_X3_stateOf rfl rfl rfl (by decide +kernel) ⟨Nat.le_of_ble_eq_true rfl, Nat.le_of_ble_eq_true rfl⟩) hO (fun k q h => by simp at h) rfl hl.1 rfl (Nat.le_of_ble_eq_true rfl) dX3_settleMean_3 ⟨Nat.le_of_ble_eq_true rfl, Nat.le_of_ble_eq_true rfl⟩ (fun r_3 e_3 => ?_)
  obtain rfl : r_3 = nI (tn (h0 + 1) w lx) := e_3
  refine lv_istore (lv' := [(4, .int (nI (tn (h0 + 1) w lx))), (0, .ref pl), (1, .int (nI (h0 + 1))), (2, .int (nI w)), (3, .int (nI lx))]) hx hb dX3_settleMean_6 hl (by decide) rfl (fun ls hl => ?_)
  refine lv_iload hx hb dX3_settleMean_8 (lv_at hl 0 rfl) ?_
  refine lv_iconst (v := (-1)) hx hb dX3_settleMean_10 (by decide) ?_
  refine lv_icmp_ne (tgt := 15) hx hb dX3_settleMean_11 (by decide) (fun c_11 => ?_) (fun c_11 => ?_)
  · skip
    refine lv_iload_n hx hb dX3_settleMean_15 rfl (lv_at hl 3 rfl) ?_
    refine n_if_ne (x := w) (tgt := 36) hx hb dX3_settleMean_16 (by decide) (by omega) (fun c_16 => ?_) (fun c_16 => ?_)
    · skip
      refine lv_bipush (v := 10) hx hb dX3_settleMean_36 (by decide) ?_
      refine lv_iload_n hx hb dX3_settleMean_38 rfl (lv_at hl 2 rfl) ?_
      refine roSl (As := [.int 10, .int (nI (h0 + 1))]) (rest := []) ⟨hx, hb, hml, hown, hts⟩ (c_X2_power l D cI cL cZ cO 10 (h0 + 1) (by omega)) (va_cwS 2 hts gX3_settleMean_X2_power rfl rfl rfl (by decide +kernel) ⟨Nat.le_of_ble_eq_true rfl, Nat.le_of_ble_eq_true rfl⟩) hO (fun k q h => by simp at h) rfl hl.1 rfl (Nat.le_of_ble_eq_true rfl) dX3_settleMean_39 ⟨Nat.le_of_ble_eq_true rfl, Nat.le_of_ble_eq_true rfl⟩ (fun r_39 e_39 => ?_)
      obtain rfl : r_39 = pw 10 (h0 + 1) := e_39
      refine lv_lstore (lv' := [(5, .long (pw 10 (h0 + 1))), (4, .int (nI (tn (h0 + 1) w lx))), (0, .ref pl), (1, .int (nI (h0 + 1))), (2, .int (nI w)), (3, .int (nI lx))]) hx hb dX3_settleMean_42 hl (by decide) rfl (fun ls hl => ?_)
      refine lv_aload_n hx hb dX3_settleMean_44 rfl (lv_at hl 2 rfl) ?_
      refine lv_aload_n hx hb dX3_settleMean_45 rfl (lv_at hl 2 rfl) ?_
      refine va_get (D := D) (cl := vwCl) (ci := 2) (v := .ref (k 2)) (C := RX3) (T := TX3) (N := 9) hx hb hts (fun _ h => List.mem_cons_of_mem _ (List.mem_append_left _ (List.mem_append_right _ h))) hown hK hP 0 rfl rfl 5 (by decide) (hts (.fieldLink RX3 22 "CheapHours$Plan" "mean" "[J") (List.mem_of_getElem? (i := 1) rfl)) (fun _ h9 => h9) rfl dX3_settleMean_46 ?_
      refine lv_iload_n hx hb dX3_settleMean_49 rfl (lv_at hl 3 rfl) ?_
      refine lv_iconst (v := 1) hx hb dX3_settleMean_50 (by decide) ?_
      refine n_isub (x := (h0 + 1)) (y := 1) hx hb dX3_settleMean_51 (by omega) ?_
      refine lv_iload_n hx hb dX3_settleMean_52 rfl (lv_at hl 4 rfl) ?_
      refine lv_iconst (v := 1) hx hb dX3_settleMean_53 (by decide) ?_
      refine n_isub (x := w) (y := 1) hx hb dX3_settleMean_54 (by omega) ?_
      refine lv_iload_n hx hb dX3_settleMean_55 rfl (lv_at hl 5 rfl) ?_
      refine roVl (As := [.ref (k 2), .int (nI ((h0 + 1) - 1)), .int (nI (w - 1)), .int (nI lx)]) (rest := []) ⟨hx, hb, hml, hown, hts⟩ (c_X3_meanBehind_m l D cI cL cZ cO pl pA lt k kn full lp ch me ru wo mb L ((h0 + 1) - 1) (w - 1) lx hL (by omega) (by omega) hl9) (cwV 4 hts gX3_settleMean_X3_meanBehind rfl rfl rfl (by decide +kernel) ⟨Nat.le_of_ble_eq_true rfl, Nat.le_of_ble_eq_true rfl⟩) hO hP (va_recv hK hP (ci := 2) (q0 := 0) rfl rfl) rfl hl.1 rfl (Nat.le_of_ble_eq_true rfl) dX3_settleMean_56 ⟨Nat.le_of_ble_eq_true rfl, Nat.le_of_ble_eq_true rfl⟩ (fun r_56 e_56 => ?_)
      obtain rfl : r_56 = nxS ch (fun k => me (tn ((h0 + 1) - 1) (w - 1) k)) lx L := e_56
      refine lv_setl (v := nxS ch (fun k => (tb L lp ch full (-1) h0 (w - 1) k).1) lx L) (nx_tb0 hL hh hg (by omega)) ?_
      refine lv_lstore (lv' := [(7, .long (nxS ch (fun k => (tb L lp ch full (-1) h0 (w - 1) k).1) lx L)), (5, .long (pw 10 (h0 + 1))), (4, .int (nI (tn (h0 + 1) w lx))), (0, .ref pl), (1, .int (nI (h0 + 1))), (2, .int (nI w)), (3, .int (nI lx))]) hx hb dX3_settleMean_59 hl (by decide) rfl (fun ls hl => ?_)
      refine lv_aload_n hx hb dX3_settleMean_61 rfl (lv_at hl 3 rfl) ?_
      refine va_get (D := D) (cl := vwCl) (ci := 2) (v := .ref pA) (C := RX3) (T := TX3) (N := 9) hx hb hts (fun _ h => List.mem_cons_of_mem _ (List.mem_append_left _ (List.mem_append_right _ h))) hown hK hP 0 rfl rfl 2 (by decide) (hts (.fieldLink RX3 11 "CheapHours$Plan" "prices" "LCheapHours$Prices;") (List.mem_of_getElem? (i := 3) rfl)) (fun _ h9 => h9) rfl dX3_settleMean_62 ?_
      refine va_get (D := D) (cl := vwCl) (ci := 3) (v := .int full) (C := RX4) (T := TX4) (N := 2) hx hb hts (fun _ h => List.mem_cons_of_mem _ (List.mem_append_right _ h)) hown hK hP 1 rfl rfl 1 (by decide) (hts (.fieldLink RX3 95 "CheapHours$Prices" "atFull" "I") (List.mem_of_getElem? (i := 4) rfl)) (fun _ h9 => h9) rfl dX3_settleMean_65 ?_
      refine lv_i2l (v := full.toInt64) hx hb dX3_settleMean_68 rfl ?_
      refine lv_lload hx hb dX3_settleMean_69 (lv_at hl 1 rfl) ?_
      refine lv_lmul hx hb dX3_settleMean_71 ?_
      refine lv_lload hx hb dX3_settleMean_72 (lv_at hl 0 rfl) ?_
      refine lv_ladd hx hb dX3_settleMean_74 ?_
      refine lv_lstore (lv' := [(9, .long ((full.toInt64 * (pw 10 (h0 + 1))) + (nxS ch (fun k => (tb L lp ch full (-1) h0 (w - 1) k).1) lx L))), (7, .long (nxS ch (fun k => (tb L lp ch full (-1) h0 (w - 1) k).1) lx L)), (5, .long (pw 10 (h0 + 1))), (4, .int (nI (tn (h0 + 1) w lx))), (0, .ref pl), (1, .int (nI (h0 + 1))), (2, .int (nI w)), (3, .int (nI lx))]) hx hb dX3_settleMean_75 hl (by decide) rfl (fun ls hl => ?_)
      refine lv_iconst (v := 2) hx hb dX3_settleMean_77 (by decide) ?_
      refine lv_istore (lv' := [(11, .int 2), (9, .long ((full.toInt64 * (pw 10 (h0 + 1))) + (nxS ch (fun k => (tb L lp ch full (-1) h0 (w - 1) k).1) lx L))), (7, .long (nxS ch (fun k => (tb L lp ch full (-1) h0 (w - 1) k).1) lx L)), (5, .long (pw 10 (h0 + 1))), (4, .int (nI (tn (h0 + 1) w lx))), (0, .ref pl), (1, .int (nI (h0 + 1))), (2, .int (nI w)), (3, .int (nI lx))]) hx hb dX3_settleMean_78 hl (by decide) rfl (fun ls hl => ?_)
      refine lv_aload_n hx hb dX3_settleMean_80 rfl (lv_at hl 5 rfl) ?_
      refine lv_iload_n hx hb dX3_settleMean_81 rfl (lv_at hl 8 rfl) ?_
      refine roVi (As := [.int (nI lx)]) (rest := []) ⟨hx, hb, hml, hown, hts⟩ (c_X3_askedAt l D cI cL cZ cO pl pA lt k kn full lp ch me ru wo mb L lx (by omega)) (cwV 1 hts gX3_settleMean_X3_askedAt rfl rfl rfl (by decide +kernel) ⟨Nat.le_of_ble_eq_true rfl, Nat.le_of_ble_eq_true rfl⟩) hO hP (va_recv hK hP (ci := 2) (q0 := 0) rfl rfl) rfl hl.1 rfl (Nat.le_of_ble_eq_true rfl) dX3_settleMean_82 ⟨Nat.le_of_ble_eq_true rfl, Nat.le_of_ble_eq_true rfl⟩ (fun r_82 e_82 => ?_)
      obtain rfl : r_82 = lp lx := e_82
      refine lv_i2l (v := (lp lx).toInt64) hx hb dX3_settleMean_85 rfl ?_
      refine lv_lload hx hb dX3_settleMean_86 (lv_at hl 3 rfl) ?_
      refine lv_lmul hx hb dX3_settleMean_88 ?_
      refine lv_lload hx hb dX3_settleMean_89 (lv_at hl 2 rfl) ?_
      refine lv_ladd hx hb dX3_settleMean_91 ?_
      refine lv_lstore (lv' := [(12, .long ((((lp lx).toInt64) * (pw 10 (h0 + 1))) + (nxS ch (fun k => (tb L lp ch full (-1) h0 (w - 1) k).1) lx L))), (11, .int 2), (9, .long ((full.toInt64 * (pw 10 (h0 + 1))) + (nxS ch (fun k => (tb L lp ch full (-1) h0 (w - 1) k).1) lx L))), (7, .long (nxS ch (fun k => (tb L lp ch full (-1) h0 (w - 1) k).1) lx L)), (5, .long (pw 10 (h0 + 1))), (4, .int (nI (tn (h0 + 1) w lx))), (0, .ref pl), (1, .int (nI (h0 + 1))), (2, .int (nI w)), (3, .int (nI lx))]) hx hb dX3_settleMean_92 hl (by decide) rfl (fun ls hl => ?_)
      refine lv_lload hx hb dX3_settleMean_94 (lv_at hl 0 rfl) ?_
      refine lv_lload hx hb dX3_settleMean_96 (lv_at hl 2 rfl) ?_
      refine W.lcmp hx hb dX3_settleMean_98 ?_
      refine lv_if_gt (tgt := 109) hx hb dX3_settleMean_99 (by decide) (fun c_99 => ?_) (fun c_99 => ?_)
      · skip
        refine lv_aload_n hx hb dX3_settleMean_109 rfl (lv_at hl 6 rfl) ?_
        refine lv_aload_n hx hb dX3_settleMean_110 rfl (lv_at hl 6 rfl) ?_
        refine va_get (D := D) (cl := vwCl) (ci := 2) (v := .ref (k 2)) (C := RX3) (T := TX3) (N := 9) hx hb hts (fun _ h => List.mem_cons_of_mem _ (List.mem_append_left _ (List.mem_append_right _ h))) hown hK hP 0 rfl rfl 5 (by decide) (hts (.fieldLink RX3 22 "CheapHours$Plan" "mean" "[J") (List.mem_of_getElem? (i := 1) rfl)) (fun _ h9 => h9) rfl dX3_settleMean_111 ?_
        refine lv_iload_n hx hb dX3_settleMean_114 rfl (lv_at hl 7 rfl) ?_
        refine lv_iconst (v := 1) hx hb dX3_settleMean_115 (by decide) ?_
        refine n_isub (x := (h0 + 1)) (y := 1) hx hb dX3_settleMean_116 (by omega) ?_
        refine lv_iload_n hx hb dX3_settleMean_117 rfl (lv_at hl 8 rfl) ?_
        refine lv_iload_n hx hb dX3_settleMean_118 rfl (lv_at hl 9 rfl) ?_
        refine roVl (As := [.ref (k 2), .int (nI ((h0 + 1) - 1)), .int (nI w), .int (nI lx)]) (rest := []) ⟨hx, hb, hml, hown, hts⟩ (c_X3_meanBehind_m l D cI cL cZ cO pl pA lt k kn full lp ch me ru wo mb L ((h0 + 1) - 1) w lx hL (by omega) (by omega) hl9) (cwV 4 hts gX3_settleMean_X3_meanBehind rfl rfl rfl (by decide +kernel) ⟨Nat.le_of_ble_eq_true rfl, Nat.le_of_ble_eq_true rfl⟩) hO hP (va_recv hK hP (ci := 2) (q0 := 0) rfl rfl) rfl hl.1 rfl (Nat.le_of_ble_eq_true rfl) dX3_settleMean_119 ⟨Nat.le_of_ble_eq_true rfl, Nat.le_of_ble_eq_true rfl⟩ (fun r_119 e_119 => ?_)
        obtain rfl : r_119 = nxS ch (fun k => me (tn ((h0 + 1) - 1) w k)) lx L := e_119
        refine lv_lstore (lv' := [(14, .long (nxS ch (fun k => me (tn ((h0 + 1) - 1) w k)) lx L)), (12, .long ((((lp lx).toInt64) * (pw 10 (h0 + 1))) + (nxS ch (fun k => (tb L lp ch full (-1) h0 (w - 1) k).1) lx L))), (11, .int 2), (9, .long ((full.toInt64 * (pw 10 (h0 + 1))) + (nxS ch (fun k => (tb L lp ch full (-1) h0 (w - 1) k).1) lx L))), (7, .long (nxS ch (fun k => (tb L lp ch full (-1) h0 (w - 1) k).1) lx L)), (5, .long (pw 10 (h0 + 1))), (4, .int (nI (tn (h0 + 1) w lx))), (0, .ref pl), (1, .int (nI (h0 + 1))), (2, .int (nI w)), (3, .int (nI lx))]) hx hb dX3_settleMean_122 hl (by decide) rfl (fun ls hl => ?_)
        refine lv_iload_n hx hb dX3_settleMean_124 rfl (lv_at hl 9 rfl) ?_
        refine lv_iload_n hx hb dX3_settleMean_125 rfl (lv_at hl 8 rfl) ?_
        refine n_icmp_ge (x := w) (y := (h0 + 1)) (tgt := 144) hx hb dX3_settleMean_126 (by decide) (by omega) (by omega) (fun c_126 => ?_) (fun c_126 => ?_)
        · skip
          refine lv_aload_n hx hb dX3_settleMean_144 rfl (lv_at hl 7 rfl) ?_
          refine va_get (D := D) (cl := vwCl) (ci := 2) (v := .ref (k 2)) (C := RX3) (T := TX3) (N := 9) hx hb hts (fun _ h => List.mem_cons_of_mem _ (List.mem_append_left _ (List.mem_append_right _ h))) hown hK hP 0 rfl rfl 5 (by decide) (hts (.fieldLink RX3 22 "CheapHours$Plan" "mean" "[J") (List.mem_of_getElem? (i := 1) rfl)) (fun _ h9 => h9) rfl dX3_settleMean_145 ?_
          refine lv_iload hx hb dX3_settleMean_148 (lv_at hl 6 rfl) ?_
          refine lv_lload hx hb dX3_settleMean_150 (lv_at hl 3 rfl) ?_
          refine n_last (D := D) (cl := vwCl) (x := (tn (h0 + 1) w lx)) (v := ((full.toInt64 * (pw 10 (h0 + 1))) + (nxS ch (fun k => (tb L lp ch full (-1) h0 (w - 1) k).1) lx L))) hx hb hK hP hD hS 4 1 (f := me) rfl rfl (by unfold tn; omega) (Nat.le_of_ble_eq_true rfl) dX3_settleMean_152 (fun H locs hP hD hS => ?_)
          have hP : va_P D vwCl (wPl cI cL pl pA lt k (nI L) kn full lp ch (vp_updL me (tn (h0 + 1) w lx) ((full.toInt64 * (pw 10 (h0 + 1))) + (nxS ch (fun k => (tb L lp ch full (-1) h0 (w - 1) k).1) lx L))) ru wo mb) H := hP
          have hD : va_D A (wPl cI cL pl pA lt k (nI L) kn full lp ch (vp_updL me (tn (h0 + 1) w lx) ((full.toInt64 * (pw 10 (h0 + 1))) + (nxS ch (fun k => (tb L lp ch full (-1) h0 (w - 1) k).1) lx L))) ru wo mb) := hD
          refine lv_aload_n hx hb dX3_settleMean_153 rfl (lv_at hl 7 rfl) ?_
          refine va_get (D := D) (cl := vwCl) (ci := 2) (v := .ref (k 3)) (C := RX3) (T := TX3) (N := 9) hx hb hts (fun _ h => List.mem_cons_of_mem _ (List.mem_append_left _ (List.mem_append_right _ h))) hown hK hP 0 rfl rfl 6 (by decide) (hts (.fieldLink RX3 26 "CheapHours$Plan" "choice" "[I") (List.mem_of_getElem? (i := 2) rfl)) (fun _ h9 => h9) rfl dX3_settleMean_154 ?_
          refine lv_iload hx hb dX3_settleMean_157 (lv_at hl 6 rfl) ?_
          refine lv_iload hx hb dX3_settleMean_159 (lv_at hl 2 rfl) ?_
          refine n_iast (D := D) (cl := vwCl) (x := (tn (h0 + 1) w lx)) (v := 2) hx hb hK hP hD hS 5 0 (f := ru) rfl rfl (by unfold tn; omega) (Nat.le_of_ble_eq_true rfl) dX3_settleMean_161 (fun H locs hP hD hS => ?_)
          have hP : va_P D vwCl (wPl cI cL pl pA lt k (nI L) kn full lp ch (vp_updL me (tn (h0 + 1) w lx) ((full.toInt64 * (pw 10 (h0 + 1))) + (nxS ch (fun k => (tb L lp ch full (-1) h0 (w - 1) k).1) lx L))) (upd ru (tn (h0 + 1) w lx) 2) wo mb) H := hP
          have hD : va_D A (wPl cI cL pl pA lt k (nI L) kn full lp ch (vp_updL me (tn (h0 + 1) w lx) ((full.toInt64 * (pw 10 (h0 + 1))) + (nxS ch (fun k => (tb L lp ch full (-1) h0 (w - 1) k).1) lx L))) (upd ru (tn (h0 + 1) w lx) 2) wo mb) := hD
          have hR : tbRule (lp lx) full (-1) (pw 10 (h0 + 1)) (nxS ch (fun k => (tb L lp ch full (-1) h0 (w - 1) k).1) lx L) (nxS ch (fun k => (tb L lp ch full (-1) h0 w k).1) lx L) (h0 + 1) w = 2 := by rw [tbRule_b]; exact bestC_2 (lgc_gt.mp c_99) (Or.inl c_126)
          have h2 : (tb L lp ch full (-1) (h0 + 1) w lx).2.1 = 2 := (tb_r hw1).trans hR
          have h1 := tb_m (L := L) (lp := lp) (ch := ch) (full := full) (cap := -1) (h := h0) (w := w) (lx := lx) hw1
          rw [h2, tbMean_2] at h1
          have hw9 : wPl cI cL pl pA lt k (nI L) kn full lp ch (vp_updL me (tn (h0 + 1) w lx) (tb L lp ch full (-1) (h0 + 1) w lx).1) (upd ru (tn (h0 + 1) w lx) (tb L lp ch full (-1) (h0 + 1) w lx).2.1) wo mb = wPl cI cL pl pA lt k (nI L) kn full lp ch (vp_updL me (tn (h0 + 1) w lx) ((full.toInt64 * (pw 10 (h0 + 1))) + (nxS ch (fun k => (tb L lp ch full (-1) h0 (w - 1) k).1) lx L))) (upd ru (tn (h0 + 1) w lx) 2) wo mb := by
            rw [h1, h2]
          rw [← hw9] at hP hD
          rw [← hQQ]
          exact W.vret hx hb hr (fun t9 ht9 hW9 => ⟨⟨(), rfl, trivial, by rw [ht9]; exact hP, hD⟩, hS.F ht9⟩) hS.2.2 dX3_settleMean_162
        · skip
          have hwt : nxS ch (fun k => me (tn (h0 + 1 - 1) w k)) lx L = nxS ch (fun k => (tb L lp ch full (-1) h0 w k).1) lx L := nx_tb0 hL hh hg (by omega)
          refine lv_lload hx hb dX3_settleMean_129 (lv_at hl 0 rfl) ?_
          refine lv_lload hx hb dX3_settleMean_131 (lv_at hl 3 rfl) ?_
          refine W.lcmp hx hb dX3_settleMean_133 ?_
          refine lv_if_gt (tgt := 144) hx hb dX3_settleMean_134 (by decide) (fun c_134 => ?_) (fun c_134 => ?_)
          · skip
            refine lv_aload_n hx hb dX3_settleMean_144 rfl (lv_at hl 7 rfl) ?_
            refine va_get (D := D) (cl := vwCl) (ci := 2) (v := .ref (k 2)) (C := RX3) (T := TX3) (N := 9) hx hb hts (fun _ h => List.mem_cons_of_mem _ (List.mem_append_left _ (List.mem_append_right _ h))) hown hK hP 0 rfl rfl 5 (by decide) (hts (.fieldLink RX3 22 "CheapHours$Plan" "mean" "[J") (List.mem_of_getElem? (i := 1) rfl)) (fun _ h9 => h9) rfl dX3_settleMean_145 ?_
            refine lv_iload hx hb dX3_settleMean_148 (lv_at hl 6 rfl) ?_
            refine lv_lload hx hb dX3_settleMean_150 (lv_at hl 3 rfl) ?_
            refine n_last (D := D) (cl := vwCl) (x := (tn (h0 + 1) w lx)) (v := ((full.toInt64 * (pw 10 (h0 + 1))) + (nxS ch (fun k => (tb L lp ch full (-1) h0 (w - 1) k).1) lx L))) hx hb hK hP hD hS 4 1 (f := me) rfl rfl (by unfold tn; omega) (Nat.le_of_ble_eq_true rfl) dX3_settleMean_152 (fun H locs hP hD hS => ?_)
            have hP : va_P D vwCl (wPl cI cL pl pA lt k (nI L) kn full lp ch (vp_updL me (tn (h0 + 1) w lx) ((full.toInt64 * (pw 10 (h0 + 1))) + (nxS ch (fun k => (tb L lp ch full (-1) h0 (w - 1) k).1) lx L))) ru wo mb) H := hP
            have hD : va_D A (wPl cI cL pl pA lt k (nI L) kn full lp ch (vp_updL me (tn (h0 + 1) w lx) ((full.toInt64 * (pw 10 (h0 + 1))) + (nxS ch (fun k => (tb L lp ch full (-1) h0 (w - 1) k).1) lx L))) ru wo mb) := hD
            refine lv_aload_n hx hb dX3_settleMean_153 rfl (lv_at hl 7 rfl) ?_
            refine va_get (D := D) (cl := vwCl) (ci := 2) (v := .ref (k 3)) (C := RX3) (T := TX3) (N := 9) hx hb hts (fun _ h => List.mem_cons_of_mem _ (List.mem_append_left _ (List.mem_append_right _ h))) hown hK hP 0 rfl rfl 6 (by decide) (hts (.fieldLink RX3 26 "CheapHours$Plan" "choice" "[I") (List.mem_of_getElem? (i := 2) rfl)) (fun _ h9 => h9) rfl dX3_settleMean_154 ?_
            refine lv_iload hx hb dX3_settleMean_157 (lv_at hl 6 rfl) ?_
            refine lv_iload hx hb dX3_settleMean_159 (lv_at hl 2 rfl) ?_
            refine n_iast (D := D) (cl := vwCl) (x := (tn (h0 + 1) w lx)) (v := 2) hx hb hK hP hD hS 5 0 (f := ru) rfl rfl (by unfold tn; omega) (Nat.le_of_ble_eq_true rfl) dX3_settleMean_161 (fun H locs hP hD hS => ?_)
            have hP : va_P D vwCl (wPl cI cL pl pA lt k (nI L) kn full lp ch (vp_updL me (tn (h0 + 1) w lx) ((full.toInt64 * (pw 10 (h0 + 1))) + (nxS ch (fun k => (tb L lp ch full (-1) h0 (w - 1) k).1) lx L))) (upd ru (tn (h0 + 1) w lx) 2) wo mb) H := hP
            have hD : va_D A (wPl cI cL pl pA lt k (nI L) kn full lp ch (vp_updL me (tn (h0 + 1) w lx) ((full.toInt64 * (pw 10 (h0 + 1))) + (nxS ch (fun k => (tb L lp ch full (-1) h0 (w - 1) k).1) lx L))) (upd ru (tn (h0 + 1) w lx) 2) wo mb) := hD
            have h134 : full.toInt64 * pw 10 (h0 + 1) + (nxS ch (fun k => (tb L lp ch full (-1) h0 (w - 1) k).1) lx L) < nxS ch (fun k => (tb L lp ch full (-1) h0 w k).1) lx L := by rw [← hwt]; exact lgc_gt.mp c_134
            have hR : tbRule (lp lx) full (-1) (pw 10 (h0 + 1)) (nxS ch (fun k => (tb L lp ch full (-1) h0 (w - 1) k).1) lx L) (nxS ch (fun k => (tb L lp ch full (-1) h0 w k).1) lx L) (h0 + 1) w = 2 := by rw [tbRule_b]; exact bestC_2 (lgc_gt.mp c_99) (Or.inr h134)
            have h2 : (tb L lp ch full (-1) (h0 + 1) w lx).2.1 = 2 := (tb_r hw1).trans hR
            have h1 := tb_m (L := L) (lp := lp) (ch := ch) (full := full) (cap := -1) (h := h0) (w := w) (lx := lx) hw1
            rw [h2, tbMean_2] at h1
            have hw9 : wPl cI cL pl pA lt k (nI L) kn full lp ch (vp_updL me (tn (h0 + 1) w lx) (tb L lp ch full (-1) (h0 + 1) w lx).1) (upd ru (tn (h0 + 1) w lx) (tb L lp ch full (-1) (h0 + 1) w lx).2.1) wo mb = wPl cI cL pl pA lt k (nI L) kn full lp ch (vp_updL me (tn (h0 + 1) w lx) ((full.toInt64 * (pw 10 (h0 + 1))) + (nxS ch (fun k => (tb L lp ch full (-1) h0 (w - 1) k).1) lx L))) (upd ru (tn (h0 + 1) w lx) 2) wo mb := by
              rw [h1, h2]
            rw [← hw9] at hP hD
            rw [← hQQ]
            exact W.vret hx hb hr (fun t9 ht9 hW9 => ⟨⟨(), rfl, trivial, by rw [ht9]; exact hP, hD⟩, hS.F ht9⟩) hS.2.2 dX3_settleMean_162
          · skip
            refine lv_lload hx hb dX3_settleMean_137 (lv_at hl 0 rfl) ?_
            refine lv_lstore (lv' := [(9, .long (nxS ch (fun k => me (tn ((h0 + 1) - 1) w k)) lx L)), (14, .long (nxS ch (fun k => me (tn ((h0 + 1) - 1) w k)) lx L)), (12, .long ((((lp lx).toInt64) * (pw 10 (h0 + 1))) + (nxS ch (fun k => (tb L lp ch full (-1) h0 (w - 1) k).1) lx L))), (11, .int 2), (7, .long (nxS ch (fun k => (tb L lp ch full (-1) h0 (w - 1) k).1) lx L)), (5, .long (pw 10 (h0 + 1))), (4, .int (nI (tn (h0 + 1) w lx))), (0, .ref pl), (1, .int (nI (h0 + 1))), (2, .int (nI w)), (3, .int (nI lx))]) hx hb dX3_settleMean_139 hl (by decide) rfl (fun ls hl => ?_)
            refine lv_iconst (v := 0) hx hb dX3_settleMean_141 (by decide) ?_
            refine lv_istore (lv' := [(11, .int 0), (9, .long (nxS ch (fun k => me (tn ((h0 + 1) - 1) w k)) lx L)), (14, .long (nxS ch (fun k => me (tn ((h0 + 1) - 1) w k)) lx L)), (12, .long ((((lp lx).toInt64) * (pw 10 (h0 + 1))) + (nxS ch (fun k => (tb L lp ch full (-1) h0 (w - 1) k).1) lx L))), (7, .long (nxS ch (fun k => (tb L lp ch full (-1) h0 (w - 1) k).1) lx L)), (5, .long (pw 10 (h0 + 1))), (4, .int (nI (tn (h0 + 1) w lx))), (0, .ref pl), (1, .int (nI (h0 + 1))), (2, .int (nI w)), (3, .int (nI lx))]) hx hb dX3_settleMean_142 hl (by decide) rfl (fun ls hl => ?_)
            refine lv_aload_n hx hb dX3_settleMean_144 rfl (lv_at hl 7 rfl) ?_
            refine va_get (D := D) (cl := vwCl) (ci := 2) (v := .ref (k 2)) (C := RX3) (T := TX3) (N := 9) hx hb hts (fun _ h => List.mem_cons_of_mem _ (List.mem_append_left _ (List.mem_append_right _ h))) hown hK hP 0 rfl rfl 5 (by decide) (hts (.fieldLink RX3 22 "CheapHours$Plan" "mean" "[J") (List.mem_of_getElem? (i := 1) rfl)) (fun _ h9 => h9) rfl dX3_settleMean_145 ?_
            refine lv_iload hx hb dX3_settleMean_148 (lv_at hl 6 rfl) ?_
            refine lv_lload hx hb dX3_settleMean_150 (lv_at hl 1 rfl) ?_
            refine n_last (D := D) (cl := vwCl) (x := (tn (h0 + 1) w lx)) (v := (nxS ch (fun k => me (tn ((h0 + 1) - 1) w k)) lx L)) hx hb hK hP hD hS 4 1 (f := me) rfl rfl (by unfold tn; omega) (Nat.le_of_ble_eq_true rfl) dX3_settleMean_152 (fun H locs hP hD hS => ?_)
            have hP : va_P D vwCl (wPl cI cL pl pA lt k (nI L) kn full lp ch (vp_updL me (tn (h0 + 1) w lx) (nxS ch (fun k => me (tn ((h0 + 1) - 1) w k)) lx L)) ru wo mb) H := hP
            have hD : va_D A (wPl cI cL pl pA lt k (nI L) kn full lp ch (vp_updL me (tn (h0 + 1) w lx) (nxS ch (fun k => me (tn ((h0 + 1) - 1) w k)) lx L)) ru wo mb) := hD
            refine lv_aload_n hx hb dX3_settleMean_153 rfl (lv_at hl 7 rfl) ?_
            refine va_get (D := D) (cl := vwCl) (ci := 2) (v := .ref (k 3)) (C := RX3) (T := TX3) (N := 9) hx hb hts (fun _ h => List.mem_cons_of_mem _ (List.mem_append_left _ (List.mem_append_right _ h))) hown hK hP 0 rfl rfl 6 (by decide) (hts (.fieldLink RX3 26 "CheapHours$Plan" "choice" "[I") (List.mem_of_getElem? (i := 2) rfl)) (fun _ h9 => h9) rfl dX3_settleMean_154 ?_
            refine lv_iload hx hb dX3_settleMean_157 (lv_at hl 6 rfl) ?_
            refine lv_iload hx hb dX3_settleMean_159 (lv_at hl 0 rfl) ?_
            refine n_iast (D := D) (cl := vwCl) (x := (tn (h0 + 1) w lx)) (v := 0) hx hb hK hP hD hS 5 0 (f := ru) rfl rfl (by unfold tn; omega) (Nat.le_of_ble_eq_true rfl) dX3_settleMean_161 (fun H locs hP hD hS => ?_)
            have hP : va_P D vwCl (wPl cI cL pl pA lt k (nI L) kn full lp ch (vp_updL me (tn (h0 + 1) w lx) (nxS ch (fun k => me (tn ((h0 + 1) - 1) w k)) lx L)) (upd ru (tn (h0 + 1) w lx) 0) wo mb) H := hP
            have hD : va_D A (wPl cI cL pl pA lt k (nI L) kn full lp ch (vp_updL me (tn (h0 + 1) w lx) (nxS ch (fun k => me (tn ((h0 + 1) - 1) w k)) lx L)) (upd ru (tn (h0 + 1) w lx) 0) wo mb) := hD
            have h134 : ¬ full.toInt64 * pw 10 (h0 + 1) + (nxS ch (fun k => (tb L lp ch full (-1) h0 (w - 1) k).1) lx L) < nxS ch (fun k => (tb L lp ch full (-1) h0 w k).1) lx L := by rw [← hwt]; exact fun q9 => c_134 (lgc_gt.mpr q9)
            have hR : tbRule (lp lx) full (-1) (pw 10 (h0 + 1)) (nxS ch (fun k => (tb L lp ch full (-1) h0 (w - 1) k).1) lx L) (nxS ch (fun k => (tb L lp ch full (-1) h0 w k).1) lx L) (h0 + 1) w = 0 := by rw [tbRule_b]; exact bestC_0 (by omega) (i64_lt_tr (lgc_gt.mp c_99) h134) h134
            have h2 : (tb L lp ch full (-1) (h0 + 1) w lx).2.1 = 0 := (tb_r hw1).trans hR
            have h1 := tb_m (L := L) (lp := lp) (ch := ch) (full := full) (cap := -1) (h := h0) (w := w) (lx := lx) hw1
            rw [h2, tbMean_0] at h1
            have hw9 : wPl cI cL pl pA lt k (nI L) kn full lp ch (vp_updL me (tn (h0 + 1) w lx) (tb L lp ch full (-1) (h0 + 1) w lx).1) (upd ru (tn (h0 + 1) w lx) (tb L lp ch full (-1) (h0 + 1) w lx).2.1) wo mb = wPl cI cL pl pA lt k (nI L) kn full lp ch (vp_updL me (tn (h0 + 1) w lx) (nxS ch (fun k => me (tn ((h0 + 1) - 1) w k)) lx L)) (upd ru (tn (h0 + 1) w lx) 0) wo mb := by
              rw [h1, h2, hwt]
            rw [← hw9] at hP hD
            rw [← hQQ]
            exact W.vret hx hb hr (fun t9 ht9 hW9 => ⟨⟨(), rfl, trivial, by rw [ht9]; exact hP, hD⟩, hS.F ht9⟩) hS.2.2 dX3_settleMean_162
      · skip
        refine lv_lload hx hb dX3_settleMean_102 (lv_at hl 0 rfl) ?_
        refine lv_lstore (lv' := [(9, .long ((((lp lx).toInt64) * (pw 10 (h0 + 1))) + (nxS ch (fun k => (tb L lp ch full (-1) h0 (w - 1) k).1) lx L))), (12, .long ((((lp lx).toInt64) * (pw 10 (h0 + 1))) + (nxS ch (fun k => (tb L lp ch full (-1) h0 (w - 1) k).1) lx L))), (11, .int 2), (7, .long (nxS ch (fun k => (tb L lp ch full (-1) h0 (w - 1) k).1) lx L)), (5, .long (pw 10 (h0 + 1))), (4, .int (nI (tn (h0 + 1) w lx))), (0, .ref pl), (1, .int (nI (h0 + 1))), (2, .int (nI w)), (3, .int (nI lx))]) hx hb dX3_settleMean_104 hl (by decide) rfl (fun ls hl => ?_)
        refine lv_iconst (v := 1) hx hb dX3_settleMean_106 (by decide) ?_
        refine lv_istore (lv' := [(11, .int 1), (9, .long ((((lp lx).toInt64) * (pw 10 (h0 + 1))) + (nxS ch (fun k => (tb L lp ch full (-1) h0 (w - 1) k).1) lx L))), (12, .long ((((lp lx).toInt64) * (pw 10 (h0 + 1))) + (nxS ch (fun k => (tb L lp ch full (-1) h0 (w - 1) k).1) lx L))), (7, .long (nxS ch (fun k => (tb L lp ch full (-1) h0 (w - 1) k).1) lx L)), (5, .long (pw 10 (h0 + 1))), (4, .int (nI (tn (h0 + 1) w lx))), (0, .ref pl), (1, .int (nI (h0 + 1))), (2, .int (nI w)), (3, .int (nI lx))]) hx hb dX3_settleMean_107 hl (by decide) rfl (fun ls hl => ?_)
        refine lv_aload_n hx hb dX3_settleMean_109 rfl (lv_at hl 6 rfl) ?_
        refine lv_aload_n hx hb dX3_settleMean_110 rfl (lv_at hl 6 rfl) ?_
        refine va_get (D := D) (cl := vwCl) (ci := 2) (v := .ref (k 2)) (C := RX3) (T := TX3) (N := 9) hx hb hts (fun _ h => List.mem_cons_of_mem _ (List.mem_append_left _ (List.mem_append_right _ h))) hown hK hP 0 rfl rfl 5 (by decide) (hts (.fieldLink RX3 22 "CheapHours$Plan" "mean" "[J") (List.mem_of_getElem? (i := 1) rfl)) (fun _ h9 => h9) rfl dX3_settleMean_111 ?_
        refine lv_iload_n hx hb dX3_settleMean_114 rfl (lv_at hl 7 rfl) ?_
        refine lv_iconst (v := 1) hx hb dX3_settleMean_115 (by decide) ?_
        refine n_isub (x := (h0 + 1)) (y := 1) hx hb dX3_settleMean_116 (by omega) ?_
        refine lv_iload_n hx hb dX3_settleMean_117 rfl (lv_at hl 8 rfl) ?_
        refine lv_iload_n hx hb dX3_settleMean_118 rfl (lv_at hl 9 rfl) ?_
        refine roVl (As := [.ref (k 2), .int (nI ((h0 + 1) - 1)), .int (nI w), .int (nI lx)]) (rest := []) ⟨hx, hb, hml, hown, hts⟩ (c_X3_meanBehind_m l D cI cL cZ cO pl pA lt k kn full lp ch me ru wo mb L ((h0 + 1) - 1) w lx hL (by omega) (by omega) hl9) (cwV 4 hts gX3_settleMean_X3_meanBehind rfl rfl rfl (by decide +kernel) ⟨Nat.le_of_ble_eq_true rfl, Nat.le_of_ble_eq_true rfl⟩) hO hP (va_recv hK hP (ci := 2) (q0 := 0) rfl rfl) rfl hl.1 rfl (Nat.le_of_ble_eq_true rfl) dX3_settleMean_119 ⟨Nat.le_of_ble_eq_true rfl, Nat.le_of_ble_eq_true rfl⟩ (fun r_119 e_119 => ?_)
        obtain rfl : r_119 = nxS ch (fun k => me (tn ((h0 + 1) - 1) w k)) lx L := e_119
        refine lv_lstore (lv' := [(14, .long (nxS ch (fun k => me (tn ((h0 + 1) - 1) w k)) lx L)), (11, .int 1), (9, .long ((((lp lx).toInt64) * (pw 10 (h0 + 1))) + (nxS ch (fun k => (tb L lp ch full (-1) h0 (w - 1) k).1) lx L))), (12, .long ((((lp lx).toInt64) * (pw 10 (h0 + 1))) + (nxS ch (fun k => (tb L lp ch full (-1) h0 (w - 1) k).1) lx L))), (7, .long (nxS ch (fun k => (tb L lp ch full (-1) h0 (w - 1) k).1) lx L)), (5, .long (pw 10 (h0 + 1))), (4, .int (nI (tn (h0 + 1) w lx))), (0, .ref pl), (1, .int (nI (h0 + 1))), (2, .int (nI w)), (3, .int (nI lx))]) hx hb dX3_settleMean_122 hl (by decide) rfl (fun ls hl => ?_)
        refine lv_iload_n hx hb dX3_settleMean_124 rfl (lv_at hl 9 rfl) ?_
        refine lv_iload_n hx hb dX3_settleMean_125 rfl (lv_at hl 8 rfl) ?_
        refine n_icmp_ge (x := w) (y := (h0 + 1)) (tgt := 144) hx hb dX3_settleMean_126 (by decide) (by omega) (by omega) (fun c_126 => ?_) (fun c_126 => ?_)
        · skip
          refine lv_aload_n hx hb dX3_settleMean_144 rfl (lv_at hl 7 rfl) ?_
          refine va_get (D := D) (cl := vwCl) (ci := 2) (v := .ref (k 2)) (C := RX3) (T := TX3) (N := 9) hx hb hts (fun _ h => List.mem_cons_of_mem _ (List.mem_append_left _ (List.mem_append_right _ h))) hown hK hP 0 rfl rfl 5 (by decide) (hts (.fieldLink RX3 22 "CheapHours$Plan" "mean" "[J") (List.mem_of_getElem? (i := 1) rfl)) (fun _ h9 => h9) rfl dX3_settleMean_145 ?_
          refine lv_iload hx hb dX3_settleMean_148 (lv_at hl 6 rfl) ?_
          refine lv_lload hx hb dX3_settleMean_150 (lv_at hl 2 rfl) ?_
          refine n_last (D := D) (cl := vwCl) (x := (tn (h0 + 1) w lx)) (v := ((((lp lx).toInt64) * (pw 10 (h0 + 1))) + (nxS ch (fun k => (tb L lp ch full (-1) h0 (w - 1) k).1) lx L))) hx hb hK hP hD hS 4 1 (f := me) rfl rfl (by unfold tn; omega) (Nat.le_of_ble_eq_true rfl) dX3_settleMean_152 (fun H locs hP hD hS => ?_)
          have hP : va_P D vwCl (wPl cI cL pl pA lt k (nI L) kn full lp ch (vp_updL me (tn (h0 + 1) w lx) ((((lp lx).toInt64) * (pw 10 (h0 + 1))) + (nxS ch (fun k => (tb L lp ch full (-1) h0 (w - 1) k).1) lx L))) ru wo mb) H := hP
          have hD : va_D A (wPl cI cL pl pA lt k (nI L) kn full lp ch (vp_updL me (tn (h0 + 1) w lx) ((((lp lx).toInt64) * (pw 10 (h0 + 1))) + (nxS ch (fun k => (tb L lp ch full (-1) h0 (w - 1) k).1) lx L))) ru wo mb) := hD
          refine lv_aload_n hx hb dX3_settleMean_153 rfl (lv_at hl 7 rfl) ?_
          refine va_get (D := D) (cl := vwCl) (ci := 2) (v := .ref (k 3)) (C := RX3) (T := TX3) (N := 9) hx hb hts (fun _ h => List.mem_cons_of_mem _ (List.mem_append_left _ (List.mem_append_right _ h))) hown hK hP 0 rfl rfl 6 (by decide) (hts (.fieldLink RX3 26 "CheapHours$Plan" "choice" "[I") (List.mem_of_getElem? (i := 2) rfl)) (fun _ h9 => h9) rfl dX3_settleMean_154 ?_
          refine lv_iload hx hb dX3_settleMean_157 (lv_at hl 6 rfl) ?_
          refine lv_iload hx hb dX3_settleMean_159 (lv_at hl 1 rfl) ?_
          refine n_iast (D := D) (cl := vwCl) (x := (tn (h0 + 1) w lx)) (v := 1) hx hb hK hP hD hS 5 0 (f := ru) rfl rfl (by unfold tn; omega) (Nat.le_of_ble_eq_true rfl) dX3_settleMean_161 (fun H locs hP hD hS => ?_)
          have hP : va_P D vwCl (wPl cI cL pl pA lt k (nI L) kn full lp ch (vp_updL me (tn (h0 + 1) w lx) ((((lp lx).toInt64) * (pw 10 (h0 + 1))) + (nxS ch (fun k => (tb L lp ch full (-1) h0 (w - 1) k).1) lx L))) (upd ru (tn (h0 + 1) w lx) 1) wo mb) H := hP
          have hD : va_D A (wPl cI cL pl pA lt k (nI L) kn full lp ch (vp_updL me (tn (h0 + 1) w lx) ((((lp lx).toInt64) * (pw 10 (h0 + 1))) + (nxS ch (fun k => (tb L lp ch full (-1) h0 (w - 1) k).1) lx L))) (upd ru (tn (h0 + 1) w lx) 1) wo mb) := hD
          have hR : tbRule (lp lx) full (-1) (pw 10 (h0 + 1)) (nxS ch (fun k => (tb L lp ch full (-1) h0 (w - 1) k).1) lx L) (nxS ch (fun k => (tb L lp ch full (-1) h0 w k).1) lx L) (h0 + 1) w = 1 := by rw [tbRule_b]; exact bestC_1 (fun q9 => c_99 (lgc_gt.mpr q9)) (Or.inl c_126)
          have h2 : (tb L lp ch full (-1) (h0 + 1) w lx).2.1 = 1 := (tb_r hw1).trans hR
          have h1 := tb_m (L := L) (lp := lp) (ch := ch) (full := full) (cap := -1) (h := h0) (w := w) (lx := lx) hw1
          rw [h2, tbMean_1] at h1
          have hw9 : wPl cI cL pl pA lt k (nI L) kn full lp ch (vp_updL me (tn (h0 + 1) w lx) (tb L lp ch full (-1) (h0 + 1) w lx).1) (upd ru (tn (h0 + 1) w lx) (tb L lp ch full (-1) (h0 + 1) w lx).2.1) wo mb = wPl cI cL pl pA lt k (nI L) kn full lp ch (vp_updL me (tn (h0 + 1) w lx) ((((lp lx).toInt64) * (pw 10 (h0 + 1))) + (nxS ch (fun k => (tb L lp ch full (-1) h0 (w - 1) k).1) lx L))) (upd ru (tn (h0 + 1) w lx) 1) wo mb := by
            rw [h1, h2]
          rw [← hw9] at hP hD
          rw [← hQQ]
          exact W.vret hx hb hr (fun t9 ht9 hW9 => ⟨⟨(), rfl, trivial, by rw [ht9]; exact hP, hD⟩, hS.F ht9⟩) hS.2.2 dX3_settleMean_162
        · skip
          have hwt : nxS ch (fun k => me (tn (h0 + 1 - 1) w k)) lx L = nxS ch (fun k => (tb L lp ch full (-1) h0 w k).1) lx L := nx_tb0 hL hh hg (by omega)
          refine lv_lload hx hb dX3_settleMean_129 (lv_at hl 0 rfl) ?_
          refine lv_lload hx hb dX3_settleMean_131 (lv_at hl 2 rfl) ?_
          refine W.lcmp hx hb dX3_settleMean_133 ?_
          refine lv_if_gt (tgt := 144) hx hb dX3_settleMean_134 (by decide) (fun c_134 => ?_) (fun c_134 => ?_)
          · skip
            refine lv_aload_n hx hb dX3_settleMean_144 rfl (lv_at hl 7 rfl) ?_
            refine va_get (D := D) (cl := vwCl) (ci := 2) (v := .ref (k 2)) (C := RX3) (T := TX3) (N := 9) hx hb hts (fun _ h => List.mem_cons_of_mem _ (List.mem_append_left _ (List.mem_append_right _ h))) hown hK hP 0 rfl rfl 5 (by decide) (hts (.fieldLink RX3 22 "CheapHours$Plan" "mean" "[J") (List.mem_of_getElem? (i := 1) rfl)) (fun _ h9 => h9) rfl dX3_settleMean_145 ?_
            refine lv_iload hx hb dX3_settleMean_148 (lv_at hl 6 rfl) ?_
            refine lv_lload hx hb dX3_settleMean_150 (lv_at hl 2 rfl) ?_
            refine n_last (D := D) (cl := vwCl) (x := (tn (h0 + 1) w lx)) (v := ((((lp lx).toInt64) * (pw 10 (h0 + 1))) + (nxS ch (fun k => (tb L lp ch full (-1) h0 (w - 1) k).1) lx L))) hx hb hK hP hD hS 4 1 (f := me) rfl rfl (by unfold tn; omega) (Nat.le_of_ble_eq_true rfl) dX3_settleMean_152 (fun H locs hP hD hS => ?_)
            have hP : va_P D vwCl (wPl cI cL pl pA lt k (nI L) kn full lp ch (vp_updL me (tn (h0 + 1) w lx) ((((lp lx).toInt64) * (pw 10 (h0 + 1))) + (nxS ch (fun k => (tb L lp ch full (-1) h0 (w - 1) k).1) lx L))) ru wo mb) H := hP
            have hD : va_D A (wPl cI cL pl pA lt k (nI L) kn full lp ch (vp_updL me (tn (h0 + 1) w lx) ((((lp lx).toInt64) * (pw 10 (h0 + 1))) + (nxS ch (fun k => (tb L lp ch full (-1) h0 (w - 1) k).1) lx L))) ru wo mb) := hD
            refine lv_aload_n hx hb dX3_settleMean_153 rfl (lv_at hl 7 rfl) ?_
            refine va_get (D := D) (cl := vwCl) (ci := 2) (v := .ref (k 3)) (C := RX3) (T := TX3) (N := 9) hx hb hts (fun _ h => List.mem_cons_of_mem _ (List.mem_append_left _ (List.mem_append_right _ h))) hown hK hP 0 rfl rfl 6 (by decide) (hts (.fieldLink RX3 26 "CheapHours$Plan" "choice" "[I") (List.mem_of_getElem? (i := 2) rfl)) (fun _ h9 => h9) rfl dX3_settleMean_154 ?_
            refine lv_iload hx hb dX3_settleMean_157 (lv_at hl 6 rfl) ?_
            refine lv_iload hx hb dX3_settleMean_159 (lv_at hl 1 rfl) ?_
            refine n_iast (D := D) (cl := vwCl) (x := (tn (h0 + 1) w lx)) (v := 1) hx hb hK hP hD hS 5 0 (f := ru) rfl rfl (by unfold tn; omega) (Nat.le_of_ble_eq_true rfl) dX3_settleMean_161 (fun H locs hP hD hS => ?_)
            have hP : va_P D vwCl (wPl cI cL pl pA lt k (nI L) kn full lp ch (vp_updL me (tn (h0 + 1) w lx) ((((lp lx).toInt64) * (pw 10 (h0 + 1))) + (nxS ch (fun k => (tb L lp ch full (-1) h0 (w - 1) k).1) lx L))) (upd ru (tn (h0 + 1) w lx) 1) wo mb) H := hP
            have hD : va_D A (wPl cI cL pl pA lt k (nI L) kn full lp ch (vp_updL me (tn (h0 + 1) w lx) ((((lp lx).toInt64) * (pw 10 (h0 + 1))) + (nxS ch (fun k => (tb L lp ch full (-1) h0 (w - 1) k).1) lx L))) (upd ru (tn (h0 + 1) w lx) 1) wo mb) := hD
            have h134 : (lp lx).toInt64 * pw 10 (h0 + 1) + (nxS ch (fun k => (tb L lp ch full (-1) h0 (w - 1) k).1) lx L) < nxS ch (fun k => (tb L lp ch full (-1) h0 w k).1) lx L := by rw [← hwt]; exact lgc_gt.mp c_134
            have hR : tbRule (lp lx) full (-1) (pw 10 (h0 + 1)) (nxS ch (fun k => (tb L lp ch full (-1) h0 (w - 1) k).1) lx L) (nxS ch (fun k => (tb L lp ch full (-1) h0 w k).1) lx L) (h0 + 1) w = 1 := by rw [tbRule_b]; exact bestC_1 (fun q9 => c_99 (lgc_gt.mpr q9)) (Or.inr h134)
            have h2 : (tb L lp ch full (-1) (h0 + 1) w lx).2.1 = 1 := (tb_r hw1).trans hR
            have h1 := tb_m (L := L) (lp := lp) (ch := ch) (full := full) (cap := -1) (h := h0) (w := w) (lx := lx) hw1
            rw [h2, tbMean_1] at h1
            have hw9 : wPl cI cL pl pA lt k (nI L) kn full lp ch (vp_updL me (tn (h0 + 1) w lx) (tb L lp ch full (-1) (h0 + 1) w lx).1) (upd ru (tn (h0 + 1) w lx) (tb L lp ch full (-1) (h0 + 1) w lx).2.1) wo mb = wPl cI cL pl pA lt k (nI L) kn full lp ch (vp_updL me (tn (h0 + 1) w lx) ((((lp lx).toInt64) * (pw 10 (h0 + 1))) + (nxS ch (fun k => (tb L lp ch full (-1) h0 (w - 1) k).1) lx L))) (upd ru (tn (h0 + 1) w lx) 1) wo mb := by
              rw [h1, h2]
            rw [← hw9] at hP hD
            rw [← hQQ]
            exact W.vret hx hb hr (fun t9 ht9 hW9 => ⟨⟨(), rfl, trivial, by rw [ht9]; exact hP, hD⟩, hS.F ht9⟩) hS.2.2 dX3_settleMean_162
          · skip
            refine lv_lload hx hb dX3_settleMean_137 (lv_at hl 0 rfl) ?_
            refine lv_lstore (lv' := [(9, .long (nxS ch (fun k => me (tn ((h0 + 1) - 1) w k)) lx L)), (14, .long (nxS ch (fun k => me (tn ((h0 + 1) - 1) w k)) lx L)), (11, .int 1), (12, .long ((((lp lx).toInt64) * (pw 10 (h0 + 1))) + (nxS ch (fun k => (tb L lp ch full (-1) h0 (w - 1) k).1) lx L))), (7, .long (nxS ch (fun k => (tb L lp ch full (-1) h0 (w - 1) k).1) lx L)), (5, .long (pw 10 (h0 + 1))), (4, .int (nI (tn (h0 + 1) w lx))), (0, .ref pl), (1, .int (nI (h0 + 1))), (2, .int (nI w)), (3, .int (nI lx))]) hx hb dX3_settleMean_139 hl (by decide) rfl (fun ls hl => ?_)
            refine lv_iconst (v := 0) hx hb dX3_settleMean_141 (by decide) ?_
            refine lv_istore (lv' := [(11, .int 0), (9, .long (nxS ch (fun k => me (tn ((h0 + 1) - 1) w k)) lx L)), (14, .long (nxS ch (fun k => me (tn ((h0 + 1) - 1) w k)) lx L)), (12, .long ((((lp lx).toInt64) * (pw 10 (h0 + 1))) + (nxS ch (fun k => (tb L lp ch full (-1) h0 (w - 1) k).1) lx L))), (7, .long (nxS ch (fun k => (tb L lp ch full (-1) h0 (w - 1) k).1) lx L)), (5, .long (pw 10 (h0 + 1))), (4, .int (nI (tn (h0 + 1) w lx))), (0, .ref pl), (1, .int (nI (h0 + 1))), (2, .int (nI w)), (3, .int (nI lx))]) hx hb dX3_settleMean_142 hl (by decide) rfl (fun ls hl => ?_)
            refine lv_aload_n hx hb dX3_settleMean_144 rfl (lv_at hl 7 rfl) ?_
            refine va_get (D := D) (cl := vwCl) (ci := 2) (v := .ref (k 2)) (C := RX3) (T := TX3) (N := 9) hx hb hts (fun _ h => List.mem_cons_of_mem _ (List.mem_append_left _ (List.mem_append_right _ h))) hown hK hP 0 rfl rfl 5 (by decide) (hts (.fieldLink RX3 22 "CheapHours$Plan" "mean" "[J") (List.mem_of_getElem? (i := 1) rfl)) (fun _ h9 => h9) rfl dX3_settleMean_145 ?_
            refine lv_iload hx hb dX3_settleMean_148 (lv_at hl 6 rfl) ?_
            refine lv_lload hx hb dX3_settleMean_150 (lv_at hl 1 rfl) ?_
            refine n_last (D := D) (cl := vwCl) (x := (tn (h0 + 1) w lx)) (v := (nxS ch (fun k => me (tn ((h0 + 1) - 1) w k)) lx L)) hx hb hK hP hD hS 4 1 (f := me) rfl rfl (by unfold tn; omega) (Nat.le_of_ble_eq_true rfl) dX3_settleMean_152 (fun H locs hP hD hS => ?_)
            have hP : va_P D vwCl (wPl cI cL pl pA lt k (nI L) kn full lp ch (vp_updL me (tn (h0 + 1) w lx) (nxS ch (fun k => me (tn ((h0 + 1) - 1) w k)) lx L)) ru wo mb) H := hP
            have hD : va_D A (wPl cI cL pl pA lt k (nI L) kn full lp ch (vp_updL me (tn (h0 + 1) w lx) (nxS ch (fun k => me (tn ((h0 + 1) - 1) w k)) lx L)) ru wo mb) := hD
            refine lv_aload_n hx hb dX3_settleMean_153 rfl (lv_at hl 7 rfl) ?_
            refine va_get (D := D) (cl := vwCl) (ci := 2) (v := .ref (k 3)) (C := RX3) (T := TX3) (N := 9) hx hb hts (fun _ h => List.mem_cons_of_mem _ (List.mem_append_left _ (List.mem_append_right _ h))) hown hK hP 0 rfl rfl 6 (by decide) (hts (.fieldLink RX3 26 "CheapHours$Plan" "choice" "[I") (List.mem_of_getElem? (i := 2) rfl)) (fun _ h9 => h9) rfl dX3_settleMean_154 ?_
            refine lv_iload hx hb dX3_settleMean_157 (lv_at hl 6 rfl) ?_
            refine lv_iload hx hb dX3_settleMean_159 (lv_at hl 0 rfl) ?_
            refine n_iast (D := D) (cl := vwCl) (x := (tn (h0 + 1) w lx)) (v := 0) hx hb hK hP hD hS 5 0 (f := ru) rfl rfl (by unfold tn; omega) (Nat.le_of_ble_eq_true rfl) dX3_settleMean_161 (fun H locs hP hD hS => ?_)
            have hP : va_P D vwCl (wPl cI cL pl pA lt k (nI L) kn full lp ch (vp_updL me (tn (h0 + 1) w lx) (nxS ch (fun k => me (tn ((h0 + 1) - 1) w k)) lx L)) (upd ru (tn (h0 + 1) w lx) 0) wo mb) H := hP
            have hD : va_D A (wPl cI cL pl pA lt k (nI L) kn full lp ch (vp_updL me (tn (h0 + 1) w lx) (nxS ch (fun k => me (tn ((h0 + 1) - 1) w k)) lx L)) (upd ru (tn (h0 + 1) w lx) 0) wo mb) := hD
            have h134 : ¬ (lp lx).toInt64 * pw 10 (h0 + 1) + (nxS ch (fun k => (tb L lp ch full (-1) h0 (w - 1) k).1) lx L) < nxS ch (fun k => (tb L lp ch full (-1) h0 w k).1) lx L := by rw [← hwt]; exact fun q9 => c_134 (lgc_gt.mpr q9)
            have hR : tbRule (lp lx) full (-1) (pw 10 (h0 + 1)) (nxS ch (fun k => (tb L lp ch full (-1) h0 (w - 1) k).1) lx L) (nxS ch (fun k => (tb L lp ch full (-1) h0 w k).1) lx L) (h0 + 1) w = 0 := by rw [tbRule_b]; exact bestC_0 (by omega) h134 (i64_tr h134 (fun q9 => c_99 (lgc_gt.mpr q9)))
            have h2 : (tb L lp ch full (-1) (h0 + 1) w lx).2.1 = 0 := (tb_r hw1).trans hR
            have h1 := tb_m (L := L) (lp := lp) (ch := ch) (full := full) (cap := -1) (h := h0) (w := w) (lx := lx) hw1
            rw [h2, tbMean_0] at h1
            have hw9 : wPl cI cL pl pA lt k (nI L) kn full lp ch (vp_updL me (tn (h0 + 1) w lx) (tb L lp ch full (-1) (h0 + 1) w lx).1) (upd ru (tn (h0 + 1) w lx) (tb L lp ch full (-1) (h0 + 1) w lx).2.1) wo mb = wPl cI cL pl pA lt k (nI L) kn full lp ch (vp_updL me (tn (h0 + 1) w lx) (nxS ch (fun k => me (tn ((h0 + 1) - 1) w k)) lx L)) (upd ru (tn (h0 + 1) w lx) 0) wo mb := by
              rw [h1, h2, hwt]
            rw [← hw9] at hP hD
            rw [← hQQ]
            exact W.vret hx hb hr (fun t9 ht9 hW9 => ⟨⟨(), rfl, trivial, by rw [ht9]; exact hP, hD⟩, hS.F ht9⟩) hS.2.2 dX3_settleMean_162
    · skip
      exact absurd c_16 (by omega)
  · skip
    exact absurd c_11 (nI_nm1 (by unfold tn; omega))
set_option maxHeartbeats 4000000 in
set_option maxRecDepth 100000 in
theorem c_X3_settleMean (l : Launch) (D : va_G) (cI cL cZ cO : ClassId) (sz : Nat) (pl pA lt : Nat) (k : Nat → Nat) (kn full : Int32) (lp ch : Nat → Int32) (me : Nat → Int64) (ru wo : Nat → Int32) (mb : Nat → Int64) (L : Nat) (h w lx : Nat) (hL : L ≤ 6) (hh : h ≤ 12) (hw : w ≤ h) (hl9 : lx < L) (hg : tGood L lp ch full (-1) me ru wo h w lx) : Met l yX3_settleMean wsX3_settleMean ({ frames := 3, cells := 0, slots := 0, locals := 74 } : Room) (va_Pc [.ref pl, .int (nI h), .int (nI w), .int (nI lx)] (Rw D cI cL cZ cO (wPl cI cL pl pA lt k (nI L) kn full lp ch me ru wo mb) sz)) (va_Qv (fun (u : Unit) => True) (fun (u : Unit) => Wo D (va_A (wPl cI cL pl pA lt k (nI L) kn full lp ch me ru wo mb) sz) (wPl cI cL pl pA lt k (nI L) kn full lp ch (vp_updL me (tn h w lx) (tb L lp ch full (-1) h w lx).1) (upd ru (tn h w lx) (tb L lp ch full (-1) h w lx).2.1) wo mb)) (va_A (wPl cI cL pl pA lt k (nI L) kn full lp ch me ru wo mb) sz)) 0 0 (va_A (wPl cI cL pl pA lt k (nI L) kn full lp ch me ru wo mb) sz) := by
  rcases Nat.eq_zero_or_pos w with rfl | hw1
  · exact c_X3_settleMean_0 l D cI cL cZ cO sz pl pA lt k kn full lp ch me ru wo mb L h lx hL hh hl9
  · obtain ⟨h0, rfl⟩ : ∃ h0, h = h0 + 1 := ⟨h - 1, by omega⟩
    exact c_X3_settleMean_s l D cI cL cZ cO sz pl pA lt k kn full lp ch me ru wo mb L h0 w lx hL hh hw1 hw hl9 hg
set_option maxHeartbeats 4000000 in
set_option maxRecDepth 100000 in
theorem c_X3_settleGreatest_0 (l : Launch) (D : va_G) (cI cL cZ cO : ClassId) (sz : Nat) (pl pA lt : Nat) (k : Nat → Nat) (kn full : Int32) (lp ch : Nat → Int32) (me : Nat → Int64) (ru wo : Nat → Int32) (mb : Nat → Int64) (L : Nat) (h lx : Nat) (hL : L ≤ 6) (hh : h ≤ 12) (hl9 : lx < L) : Met l yX3_settleGreatest wsX3_settleGreatest ({ frames := 3, cells := 0, slots := 0, locals := 72 } : Room) (va_Pc [.ref pl, .int (nI h), .int (nI 0), .int (nI lx)] (Rw D cI cL cZ cO (wPl cI cL pl pA lt k (nI L) kn full lp ch me ru wo mb) sz)) (va_Qv (fun (u : Unit) => True) (fun (u : Unit) => Wo D (va_A (wPl cI cL pl pA lt k (nI L) kn full lp ch me ru wo mb) sz) (wPl cI cL pl pA lt k (nI L) kn full lp ch me ru (upd wo (tn h 0 lx) (tb L lp ch full (-1) h 0 lx).2.2) mb)) (va_A (wPl cI cL pl pA lt k (nI L) kn full lp ch me ru wo mb) sz)) 0 0 (va_A (wPl cI cL pl pA lt k (nI L) kn full lp ch me ru wo mb) sz) := by
  refine Met.ofW (cc := cX3_settleGreatest) (maxL := 6) (ret := none) (by decide) rfl ?_
  intro p e s m args below meth c s₁ B hml hv
  obtain ⟨rfl, hsz, hP, hO, hD0⟩ := hv
  have hx := B.exec
  have hb := B.bytes
  have hr := B.returns
  have hts := atoms_spec (ws := wsX3_settleGreatest) B.pre
  have hown : s.vm.findClass RX3 = some m.cls := findClass_of_methodNamed B.named
  have hlocks := B.notSynchronized
  have hK := hO.1
  subst hsz
  have hD := hD0.self (sz := s.heap.size)
  generalize hAe : va_A (wPl cI cL pl pA lt k (nI L) kn full lp ch me ru wo mb) s.heap.size = A at hD ⊢
  have hA : ∀ q : Nat, s.heap.size ≤ q → A q := fun q h => by rw [← hAe]; exact Or.inr h
  have hS : va_S A s.heap s.heap [] := va_S.rf
  have hl := lv_entry ([.ref pl, .int (nI h), .int (nI 0), .int (nI lx)]) (n := 6) (Nat.le_of_ble_eq_true rfl)
  rw [lg_entry_eq]
  generalize (lg_sl ([.ref pl, .int (nI h), .int (nI 0), .int (nI lx)]) ++ List.replicate (6 - (lg_sl ([.ref pl, .int (nI h), .int (nI 0), .int (nI lx)])).length) Slot.unset).toArray = ls at hl ⊢
  have hl : lv_has ls 6 [(0, .ref pl), (1, .int (nI h)), (2, .int (nI 0)), (3, .int (nI lx))] := hl
  generalize hQQ : MQ below _ _ s _ _ _ = QQ
  refine lv_iload_n hx hb dX3_settleGreatest_0 rfl (lv_at hl 1 rfl) ?_
  refine lv_iload_n hx hb dX3_settleGreatest_1 rfl (lv_at hl 2 rfl) ?_
  refine lv_iload_n hx hb dX3_settleGreatest_2 rfl (lv_at hl 3 rfl) ?_
  refine roSi (As := [.int (nI h), .int (nI 0), .int (nI lx)]) (rest := []) ⟨hx, hb, hml, hown, hts⟩ (c_X3_stateOf l D cI cL cZ cO h 0 lx (by omega) (by omega) (by omega)) (va_cwS 3 hts gX3_settleGreatest_X3_stateOf rfl rfl rfl (by decide +kernel) ⟨Nat.le_of_ble_eq_true rfl, Nat.le_of_ble_eq_true rfl⟩) hO (fun k q h => by simp at h) rfl hl.1 rfl (Nat.le_of_ble_eq_true rfl) dX3_settleGreatest_3 ⟨Nat.le_of_ble_eq_true rfl, Nat.le_of_ble_eq_true rfl⟩ (fun r_3 e_3 => ?_)
  obtain rfl : r_3 = nI (tn h 0 lx) := e_3
  refine lv_istore (lv' := [(4, .int (nI (tn h 0 lx))), (0, .ref pl), (1, .int (nI h)), (2, .int (nI 0)), (3, .int (nI lx))]) hx hb dX3_settleGreatest_6 hl (by decide) rfl (fun ls hl => ?_)
  refine lv_iload hx hb dX3_settleGreatest_8 (lv_at hl 0 rfl) ?_
  refine lv_iconst (v := (-1)) hx hb dX3_settleGreatest_10 (by decide) ?_
  refine lv_icmp_ne (tgt := 15) hx hb dX3_settleGreatest_11 (by decide) (fun c_11 => ?_) (fun c_11 => ?_)
  · skip
    refine lv_iload_n hx hb dX3_settleGreatest_15 rfl (lv_at hl 3 rfl) ?_
    refine n_if_ne (x := 0) (tgt := 30) hx hb dX3_settleGreatest_16 (by decide) (by omega) (fun c_16 => ?_) (fun c_16 => ?_)
    · skip
      exact absurd c_16 (Nat.lt_irrefl 0)
    · skip
      refine lv_aload_n hx hb dX3_settleGreatest_19 rfl (lv_at hl 1 rfl) ?_
      refine va_get (D := D) (cl := vwCl) (ci := 2) (v := .ref (k 4)) (C := RX3) (T := TX3) (N := 9) hx hb hts (fun _ h => List.mem_cons_of_mem _ (List.mem_append_left _ (List.mem_append_right _ h))) hown hK hP 0 rfl rfl 7 (by decide) (hts (.fieldLink RX3 29 "CheapHours$Plan" "greatest" "[I") (List.mem_of_getElem? (i := 1) rfl)) (fun _ h9 => h9) rfl dX3_settleGreatest_20 ?_
      refine lv_iload hx hb dX3_settleGreatest_23 (lv_at hl 0 rfl) ?_
      refine lv_iconst (v := 0) hx hb dX3_settleGreatest_25 (by decide) ?_
      refine n_iast (D := D) (cl := vwCl) (x := (tn h 0 lx)) (v := 0) hx hb hK hP hD hS 6 0 (f := wo) rfl rfl (by unfold tn; omega) (Nat.le_of_ble_eq_true rfl) dX3_settleGreatest_26 (fun H locs hP hD hS => ?_)
      have hP : va_P D vwCl (wPl cI cL pl pA lt k (nI L) kn full lp ch me ru (upd wo (tn h 0 lx) 0) mb) H := hP
      have hD : va_D A (wPl cI cL pl pA lt k (nI L) kn full lp ch me ru (upd wo (tn h 0 lx) 0) mb) := hD
      refine lv_goto (tgt := 108) hx hb dX3_settleGreatest_27 (by decide) ?_
      have hw9 : wPl cI cL pl pA lt k (nI L) kn full lp ch me ru (upd wo (tn h 0 lx) (tb L lp ch full (-1) h 0 lx).2.2) mb = wPl cI cL pl pA lt k (nI L) kn full lp ch me ru (upd wo (tn h 0 lx) 0) mb := by
        rw [tb_0]
      rw [← hw9] at hP hD
      rw [← hQQ]
      exact W.vret hx hb hr (fun t9 ht9 hW9 => ⟨⟨(), rfl, trivial, by rw [ht9]; exact hP, hD⟩, hS.F ht9⟩) hS.2.2 dX3_settleGreatest_108
  · skip
    exact absurd c_11 (nI_nm1 (by unfold tn; omega))
set_option maxHeartbeats 4000000 in
set_option maxRecDepth 100000 in
theorem c_X3_settleGreatest_s (l : Launch) (D : va_G) (cI cL cZ cO : ClassId) (sz : Nat) (pl pA lt : Nat) (k : Nat → Nat) (kn full : Int32) (lp ch : Nat → Int32) (me : Nat → Int64) (ru wo : Nat → Int32) (mb : Nat → Int64) (L : Nat) (h0 w lx : Nat) (hL : L ≤ 6) (hh : h0 + 1 ≤ 12) (hw1 : 1 ≤ w) (hw : w ≤ h0 + 1) (hl9 : lx < L) (hru : ru (tn (h0 + 1) w lx) = (tb L lp ch full (-1) (h0 + 1) w lx).2.1) (hwo : ∀ w1 k1, w1 ≤ h0 → k1 < L → wo (tn h0 w1 k1) = (tb L lp ch full (-1) h0 w1 k1).2.2) : Met l yX3_settleGreatest wsX3_settleGreatest ({ frames := 3, cells := 0, slots := 0, locals := 72 } : Room) (va_Pc [.ref pl, .int (nI (h0 + 1)), .int (nI w), .int (nI lx)] (Rw D cI cL cZ cO (wPl cI cL pl pA lt k (nI L) kn full lp ch me ru wo mb) sz)) (va_Qv (fun (u : Unit) => True) (fun (u : Unit) => Wo D (va_A (wPl cI cL pl pA lt k (nI L) kn full lp ch me ru wo mb) sz) (wPl cI cL pl pA lt k (nI L) kn full lp ch me ru (upd wo (tn (h0 + 1) w lx) (tb L lp ch full (-1) (h0 + 1) w lx).2.2) mb)) (va_A (wPl cI cL pl pA lt k (nI L) kn full lp ch me ru wo mb) sz)) 0 0 (va_A (wPl cI cL pl pA lt k (nI L) kn full lp ch me ru wo mb) sz) := by
  refine Met.ofW (cc := cX3_settleGreatest) (maxL := 6) (ret := none) (by decide) rfl ?_
  intro p e s m args below meth c s₁ B hml hv
  obtain ⟨rfl, hsz, hP, hO, hD0⟩ := hv
  have hx := B.exec
  have hb := B.bytes
  have hr := B.returns
  have hts := atoms_spec (ws := wsX3_settleGreatest) B.pre
  have hown : s.vm.findClass RX3 = some m.cls := findClass_of_methodNamed B.named
  have hlocks := B.notSynchronized
  have hK := hO.1
  subst hsz
  have hD := hD0.self (sz := s.heap.size)
  generalize hAe : va_A (wPl cI cL pl pA lt k (nI L) kn full lp ch me ru wo mb) s.heap.size = A at hD ⊢
  have hA : ∀ q : Nat, s.heap.size ≤ q → A q := fun q h => by rw [← hAe]; exact Or.inr h
  have hS : va_S A s.heap s.heap [] := va_S.rf
  have hl := lv_entry ([.ref pl, .int (nI (h0 + 1)), .int (nI w), .int (nI lx)]) (n := 6) (Nat.le_of_ble_eq_true rfl)
  rw [lg_entry_eq]
  generalize (lg_sl ([.ref pl, .int (nI (h0 + 1)), .int (nI w), .int (nI lx)]) ++ List.replicate (6 - (lg_sl ([.ref pl, .int (nI (h0 + 1)), .int (nI w), .int (nI lx)])).length) Slot.unset).toArray = ls at hl ⊢
  have hl : lv_has ls 6 [(0, .ref pl), (1, .int (nI (h0 + 1))), (2, .int (nI w)), (3, .int (nI lx))] := hl
  generalize hQQ : MQ below _ _ s _ _ _ = QQ
  refine lv_iload_n hx hb dX3_settleGreatest_0 rfl (lv_at hl 1 rfl) ?_
  refine lv_iload_n hx hb dX3_settleGreatest_1 rfl (lv_at hl 2 rfl) ?_
  refine lv_iload_n hx hb dX3_settleGreatest_2 rfl (lv_at hl 3 rfl) ?_
  refine roSi (As := [.int (nI (h0 + 1)), .int (nI w), .int (nI lx)]) (rest := []) ⟨hx, hb, hml, hown, hts⟩ (c_X3_stateOf l D cI cL cZ cO (h0 + 1) w lx (by omega) (by omega) (by omega)) (va_cwS 3 hts gX3_settleGreatest_X3_stateOf rfl rfl rfl (by decide +kernel) ⟨Nat.le_of_ble_eq_true rfl, Nat.le_of_ble_eq_true rfl⟩) hO (fun k q h => by simp at h) rfl hl.1 rfl (Nat.le_of_ble_eq_true rfl) dX3_settleGreatest_3 ⟨Nat.le_of_ble_eq_true rfl, Nat.le_of_ble_eq_true rfl⟩ (fun r_3 e_3 => ?_)
  obtain rfl : r_3 = nI (tn (h0 + 1) w lx) := e_3
  refine lv_istore (lv' := [(4, .int (nI (tn (h0 + 1) w lx))), (0, .ref pl), (1, .int (nI (h0 + 1))), (2, .int (nI w)), (3, .int (nI lx))]) hx hb dX3_settleGreatest_6 hl (by decide) rfl (fun ls hl => ?_)
  refine lv_iload hx hb dX3_settleGreatest_8 (lv_at hl 0 rfl) ?_
  refine lv_iconst (v := (-1)) hx hb dX3_settleGreatest_10 (by decide) ?_
  refine lv_icmp_ne (tgt := 15) hx hb dX3_settleGreatest_11 (by decide) (fun c_11 => ?_) (fun c_11 => ?_)
  · skip
    refine lv_iload_n hx hb dX3_settleGreatest_15 rfl (lv_at hl 3 rfl) ?_
    refine n_if_ne (x := w) (tgt := 30) hx hb dX3_settleGreatest_16 (by decide) (by omega) (fun c_16 => ?_) (fun c_16 => ?_)
    · skip
      refine lv_aload_n hx hb dX3_settleGreatest_30 rfl (lv_at hl 1 rfl) ?_
      refine va_get (D := D) (cl := vwCl) (ci := 2) (v := .ref (k 3)) (C := RX3) (T := TX3) (N := 9) hx hb hts (fun _ h => List.mem_cons_of_mem _ (List.mem_append_left _ (List.mem_append_right _ h))) hown hK hP 0 rfl rfl 6 (by decide) (hts (.fieldLink RX3 26 "CheapHours$Plan" "choice" "[I") (List.mem_of_getElem? (i := 2) rfl)) (fun _ h9 => h9) rfl dX3_settleGreatest_31 ?_
      refine lv_iload hx hb dX3_settleGreatest_34 (lv_at hl 0 rfl) ?_
      refine n_iald (D := D) (cl := vwCl) (x := (tn (h0 + 1) w lx)) hx hb hK hP 5 0 (f := ru) rfl rfl (by unfold tn; omega) (Nat.le_of_ble_eq_true rfl) dX3_settleGreatest_36 ?_
      refine lv_if_ne (tgt := 59) hx hb dX3_settleGreatest_37 (by decide) (fun c_37 => ?_) (fun c_37 => ?_)
      · skip
        refine lv_aload_n hx hb dX3_settleGreatest_59 rfl (lv_at hl 1 rfl) ?_
        refine va_get (D := D) (cl := vwCl) (ci := 2) (v := .ref (k 3)) (C := RX3) (T := TX3) (N := 9) hx hb hts (fun _ h => List.mem_cons_of_mem _ (List.mem_append_left _ (List.mem_append_right _ h))) hown hK hP 0 rfl rfl 6 (by decide) (hts (.fieldLink RX3 26 "CheapHours$Plan" "choice" "[I") (List.mem_of_getElem? (i := 2) rfl)) (fun _ h9 => h9) rfl dX3_settleGreatest_60 ?_
        refine lv_iload hx hb dX3_settleGreatest_63 (lv_at hl 0 rfl) ?_
        refine n_iald (D := D) (cl := vwCl) (x := (tn (h0 + 1) w lx)) hx hb hK hP 5 0 (f := ru) rfl rfl (by unfold tn; omega) (Nat.le_of_ble_eq_true rfl) dX3_settleGreatest_65 ?_
        refine lv_iconst (v := 1) hx hb dX3_settleGreatest_66 (by decide) ?_
        refine lv_icmp_ne (tgt := 78) hx hb dX3_settleGreatest_67 (by decide) (fun c_67 => ?_) (fun c_67 => ?_)
        · skip
          refine lv_aload_n hx hb dX3_settleGreatest_78 rfl (lv_at hl 1 rfl) ?_
          refine va_get (D := D) (cl := vwCl) (ci := 2) (v := .ref pA) (C := RX3) (T := TX3) (N := 9) hx hb hts (fun _ h => List.mem_cons_of_mem _ (List.mem_append_left _ (List.mem_append_right _ h))) hown hK hP 0 rfl rfl 2 (by decide) (hts (.fieldLink RX3 11 "CheapHours$Plan" "prices" "LCheapHours$Prices;") (List.mem_of_getElem? (i := 3) rfl)) (fun _ h9 => h9) rfl dX3_settleGreatest_79 ?_
          refine va_get (D := D) (cl := vwCl) (ci := 3) (v := .int full) (C := RX4) (T := TX4) (N := 2) hx hb hts (fun _ h => List.mem_cons_of_mem _ (List.mem_append_right _ h)) hown hK hP 1 rfl rfl 1 (by decide) (hts (.fieldLink RX3 95 "CheapHours$Prices" "atFull" "I") (List.mem_of_getElem? (i := 4) rfl)) (fun _ h9 => h9) rfl dX3_settleGreatest_82 ?_
          refine lv_istore (lv' := [(5, .int full), (4, .int (nI (tn (h0 + 1) w lx))), (0, .ref pl), (1, .int (nI (h0 + 1))), (2, .int (nI w)), (3, .int (nI lx))]) hx hb dX3_settleGreatest_85 hl (by decide) rfl (fun ls hl => ?_)
          refine lv_aload_n hx hb dX3_settleGreatest_87 rfl (lv_at hl 2 rfl) ?_
          refine va_get (D := D) (cl := vwCl) (ci := 2) (v := .ref (k 4)) (C := RX3) (T := TX3) (N := 9) hx hb hts (fun _ h => List.mem_cons_of_mem _ (List.mem_append_left _ (List.mem_append_right _ h))) hown hK hP 0 rfl rfl 7 (by decide) (hts (.fieldLink RX3 29 "CheapHours$Plan" "greatest" "[I") (List.mem_of_getElem? (i := 1) rfl)) (fun _ h9 => h9) rfl dX3_settleGreatest_88 ?_
          refine lv_iload hx hb dX3_settleGreatest_91 (lv_at hl 1 rfl) ?_
          refine lv_iload hx hb dX3_settleGreatest_93 (lv_at hl 0 rfl) ?_
          refine lv_aload_n hx hb dX3_settleGreatest_95 rfl (lv_at hl 2 rfl) ?_
          refine lv_iload_n hx hb dX3_settleGreatest_96 rfl (lv_at hl 3 rfl) ?_
          refine lv_iconst (v := 1) hx hb dX3_settleGreatest_97 (by decide) ?_
          refine n_isub (x := (h0 + 1)) (y := 1) hx hb dX3_settleGreatest_98 (by omega) ?_
          refine lv_iload_n hx hb dX3_settleGreatest_99 rfl (lv_at hl 4 rfl) ?_
          refine lv_iconst (v := 1) hx hb dX3_settleGreatest_100 (by decide) ?_
          refine n_isub (x := w) (y := 1) hx hb dX3_settleGreatest_101 (by omega) ?_
          refine lv_iload_n hx hb dX3_settleGreatest_102 rfl (lv_at hl 5 rfl) ?_
          refine roVi (As := [.int (nI ((h0 + 1) - 1)), .int (nI (w - 1)), .int (nI lx)]) (rest := [.int full, .int (nI (tn (h0 + 1) w lx)), .ref (k 4)]) ⟨hx, hb, hml, hown, hts⟩ (c_X3_greatestBehind l D cI cL cZ cO pl pA lt k kn full lp ch me ru wo mb L ((h0 + 1) - 1) (w - 1) lx hL (by omega) (by omega) hl9) (cwV 3 hts gX3_settleGreatest_X3_greatestBehind rfl rfl rfl (by decide +kernel) ⟨Nat.le_of_ble_eq_true rfl, Nat.le_of_ble_eq_true rfl⟩) hO hP (va_recv hK hP (ci := 2) (q0 := 0) rfl rfl) rfl hl.1 rfl (Nat.le_of_ble_eq_true rfl) dX3_settleGreatest_103 ⟨Nat.le_of_ble_eq_true rfl, Nat.le_of_ble_eq_true rfl⟩ (fun r_103 e_103 => ?_)
          obtain rfl : r_103 = gwS ch (fun k => wo (tn ((h0 + 1) - 1) (w - 1) k)) lx L := e_103
          refine lv_seti (v := gwS ch (fun k => (tb L lp ch full (-1) h0 (w - 1) k).2.2) lx L) (gwS_congr (fun k9 hk9 => ⟨rfl, hwo (w - 1) k9 (by omega) hk9⟩)) ?_
          refine lv_iadd hx hb dX3_settleGreatest_106 ?_
          refine n_iast (D := D) (cl := vwCl) (x := (tn (h0 + 1) w lx)) (v := (full + (gwS ch (fun k => (tb L lp ch full (-1) h0 (w - 1) k).2.2) lx L))) hx hb hK hP hD hS 6 0 (f := wo) rfl rfl (by unfold tn; omega) (Nat.le_of_ble_eq_true rfl) dX3_settleGreatest_107 (fun H locs hP hD hS => ?_)
          have hP : va_P D vwCl (wPl cI cL pl pA lt k (nI L) kn full lp ch me ru (upd wo (tn (h0 + 1) w lx) (full + (gwS ch (fun k => (tb L lp ch full (-1) h0 (w - 1) k).2.2) lx L))) mb) H := hP
          have hD : va_D A (wPl cI cL pl pA lt k (nI L) kn full lp ch me ru (upd wo (tn (h0 + 1) w lx) (full + (gwS ch (fun k => (tb L lp ch full (-1) h0 (w - 1) k).2.2) lx L))) mb) := hD
          have hw9 : wPl cI cL pl pA lt k (nI L) kn full lp ch me ru (upd wo (tn (h0 + 1) w lx) (tb L lp ch full (-1) (h0 + 1) w lx).2.2) mb = wPl cI cL pl pA lt k (nI L) kn full lp ch me ru (upd wo (tn (h0 + 1) w lx) (full + (gwS ch (fun k => (tb L lp ch full (-1) h0 (w - 1) k).2.2) lx L))) mb := by
            rw [tb_wo hw1, ← hru, tbPays, if_neg c_37, if_neg c_37, if_neg c_67]
          rw [← hw9] at hP hD
          rw [← hQQ]
          exact W.vret hx hb hr (fun t9 ht9 hW9 => ⟨⟨(), rfl, trivial, by rw [ht9]; exact hP, hD⟩, hS.F ht9⟩) hS.2.2 dX3_settleGreatest_108
        · skip
          refine lv_aload_n hx hb dX3_settleGreatest_70 rfl (lv_at hl 1 rfl) ?_
          refine lv_iload_n hx hb dX3_settleGreatest_71 rfl (lv_at hl 4 rfl) ?_
          refine roVi (As := [.int (nI lx)]) (rest := []) ⟨hx, hb, hml, hown, hts⟩ (c_X3_askedAt l D cI cL cZ cO pl pA lt k kn full lp ch me ru wo mb L lx (by omega)) (cwV 1 hts gX3_settleGreatest_X3_askedAt rfl rfl rfl (by decide +kernel) ⟨Nat.le_of_ble_eq_true rfl, Nat.le_of_ble_eq_true rfl⟩) hO hP (va_recv hK hP (ci := 2) (q0 := 0) rfl rfl) rfl hl.1 rfl (Nat.le_of_ble_eq_true rfl) dX3_settleGreatest_72 ⟨Nat.le_of_ble_eq_true rfl, Nat.le_of_ble_eq_true rfl⟩ (fun r_72 e_72 => ?_)
          obtain rfl : r_72 = lp lx := e_72
          refine lv_goto (tgt := 85) hx hb dX3_settleGreatest_75 (by decide) ?_
          refine lv_istore (lv' := [(5, .int (lp lx)), (4, .int (nI (tn (h0 + 1) w lx))), (0, .ref pl), (1, .int (nI (h0 + 1))), (2, .int (nI w)), (3, .int (nI lx))]) hx hb dX3_settleGreatest_85 hl (by decide) rfl (fun ls hl => ?_)
          refine lv_aload_n hx hb dX3_settleGreatest_87 rfl (lv_at hl 2 rfl) ?_
          refine va_get (D := D) (cl := vwCl) (ci := 2) (v := .ref (k 4)) (C := RX3) (T := TX3) (N := 9) hx hb hts (fun _ h => List.mem_cons_of_mem _ (List.mem_append_left _ (List.mem_append_right _ h))) hown hK hP 0 rfl rfl 7 (by decide) (hts (.fieldLink RX3 29 "CheapHours$Plan" "greatest" "[I") (List.mem_of_getElem? (i := 1) rfl)) (fun _ h9 => h9) rfl dX3_settleGreatest_88 ?_
          refine lv_iload hx hb dX3_settleGreatest_91 (lv_at hl 1 rfl) ?_
          refine lv_iload hx hb dX3_settleGreatest_93 (lv_at hl 0 rfl) ?_
          refine lv_aload_n hx hb dX3_settleGreatest_95 rfl (lv_at hl 2 rfl) ?_
          refine lv_iload_n hx hb dX3_settleGreatest_96 rfl (lv_at hl 3 rfl) ?_
          refine lv_iconst (v := 1) hx hb dX3_settleGreatest_97 (by decide) ?_
          refine n_isub (x := (h0 + 1)) (y := 1) hx hb dX3_settleGreatest_98 (by omega) ?_
          refine lv_iload_n hx hb dX3_settleGreatest_99 rfl (lv_at hl 4 rfl) ?_
          refine lv_iconst (v := 1) hx hb dX3_settleGreatest_100 (by decide) ?_
          refine n_isub (x := w) (y := 1) hx hb dX3_settleGreatest_101 (by omega) ?_
          refine lv_iload_n hx hb dX3_settleGreatest_102 rfl (lv_at hl 5 rfl) ?_
          refine roVi (As := [.int (nI ((h0 + 1) - 1)), .int (nI (w - 1)), .int (nI lx)]) (rest := [.int (lp lx), .int (nI (tn (h0 + 1) w lx)), .ref (k 4)]) ⟨hx, hb, hml, hown, hts⟩ (c_X3_greatestBehind l D cI cL cZ cO pl pA lt k kn full lp ch me ru wo mb L ((h0 + 1) - 1) (w - 1) lx hL (by omega) (by omega) hl9) (cwV 3 hts gX3_settleGreatest_X3_greatestBehind rfl rfl rfl (by decide +kernel) ⟨Nat.le_of_ble_eq_true rfl, Nat.le_of_ble_eq_true rfl⟩) hO hP (va_recv hK hP (ci := 2) (q0 := 0) rfl rfl) rfl hl.1 rfl (Nat.le_of_ble_eq_true rfl) dX3_settleGreatest_103 ⟨Nat.le_of_ble_eq_true rfl, Nat.le_of_ble_eq_true rfl⟩ (fun r_103 e_103 => ?_)
          obtain rfl : r_103 = gwS ch (fun k => wo (tn ((h0 + 1) - 1) (w - 1) k)) lx L := e_103
          refine lv_seti (v := gwS ch (fun k => (tb L lp ch full (-1) h0 (w - 1) k).2.2) lx L) (gwS_congr (fun k9 hk9 => ⟨rfl, hwo (w - 1) k9 (by omega) hk9⟩)) ?_
          refine lv_iadd hx hb dX3_settleGreatest_106 ?_
          refine n_iast (D := D) (cl := vwCl) (x := (tn (h0 + 1) w lx)) (v := ((lp lx) + (gwS ch (fun k => (tb L lp ch full (-1) h0 (w - 1) k).2.2) lx L))) hx hb hK hP hD hS 6 0 (f := wo) rfl rfl (by unfold tn; omega) (Nat.le_of_ble_eq_true rfl) dX3_settleGreatest_107 (fun H locs hP hD hS => ?_)
          have hP : va_P D vwCl (wPl cI cL pl pA lt k (nI L) kn full lp ch me ru (upd wo (tn (h0 + 1) w lx) ((lp lx) + (gwS ch (fun k => (tb L lp ch full (-1) h0 (w - 1) k).2.2) lx L))) mb) H := hP
          have hD : va_D A (wPl cI cL pl pA lt k (nI L) kn full lp ch me ru (upd wo (tn (h0 + 1) w lx) ((lp lx) + (gwS ch (fun k => (tb L lp ch full (-1) h0 (w - 1) k).2.2) lx L))) mb) := hD
          have hw9 : wPl cI cL pl pA lt k (nI L) kn full lp ch me ru (upd wo (tn (h0 + 1) w lx) (tb L lp ch full (-1) (h0 + 1) w lx).2.2) mb = wPl cI cL pl pA lt k (nI L) kn full lp ch me ru (upd wo (tn (h0 + 1) w lx) ((lp lx) + (gwS ch (fun k => (tb L lp ch full (-1) h0 (w - 1) k).2.2) lx L))) mb := by
            rw [tb_wo hw1, ← hru, tbPays, if_neg c_37, if_neg c_37, if_pos c_67]
          rw [← hw9] at hP hD
          rw [← hQQ]
          exact W.vret hx hb hr (fun t9 ht9 hW9 => ⟨⟨(), rfl, trivial, by rw [ht9]; exact hP, hD⟩, hS.F ht9⟩) hS.2.2 dX3_settleGreatest_108
      · skip
        have hwh : w ≤ h0 := by have := tb_ru hw1 (hru ▸ c_37); omega
        refine lv_aload_n hx hb dX3_settleGreatest_40 rfl (lv_at hl 1 rfl) ?_
        refine va_get (D := D) (cl := vwCl) (ci := 2) (v := .ref (k 4)) (C := RX3) (T := TX3) (N := 9) hx hb hts (fun _ h => List.mem_cons_of_mem _ (List.mem_append_left _ (List.mem_append_right _ h))) hown hK hP 0 rfl rfl 7 (by decide) (hts (.fieldLink RX3 29 "CheapHours$Plan" "greatest" "[I") (List.mem_of_getElem? (i := 1) rfl)) (fun _ h9 => h9) rfl dX3_settleGreatest_41 ?_
        refine lv_iload hx hb dX3_settleGreatest_44 (lv_at hl 0 rfl) ?_
        refine lv_aload_n hx hb dX3_settleGreatest_46 rfl (lv_at hl 1 rfl) ?_
        refine lv_iload_n hx hb dX3_settleGreatest_47 rfl (lv_at hl 2 rfl) ?_
        refine lv_iconst (v := 1) hx hb dX3_settleGreatest_48 (by decide) ?_
        refine n_isub (x := (h0 + 1)) (y := 1) hx hb dX3_settleGreatest_49 (by omega) ?_
        refine lv_iload_n hx hb dX3_settleGreatest_50 rfl (lv_at hl 3 rfl) ?_
        refine lv_iload_n hx hb dX3_settleGreatest_51 rfl (lv_at hl 4 rfl) ?_
        refine roVi (As := [.int (nI ((h0 + 1) - 1)), .int (nI w), .int (nI lx)]) (rest := [.int (nI (tn (h0 + 1) w lx)), .ref (k 4)]) ⟨hx, hb, hml, hown, hts⟩ (c_X3_greatestBehind l D cI cL cZ cO pl pA lt k kn full lp ch me ru wo mb L ((h0 + 1) - 1) w lx hL (by omega) (by omega) hl9) (cwV 3 hts gX3_settleGreatest_X3_greatestBehind rfl rfl rfl (by decide +kernel) ⟨Nat.le_of_ble_eq_true rfl, Nat.le_of_ble_eq_true rfl⟩) hO hP (va_recv hK hP (ci := 2) (q0 := 0) rfl rfl) rfl hl.1 rfl (Nat.le_of_ble_eq_true rfl) dX3_settleGreatest_52 ⟨Nat.le_of_ble_eq_true rfl, Nat.le_of_ble_eq_true rfl⟩ (fun r_52 e_52 => ?_)
        obtain rfl : r_52 = gwS ch (fun k => wo (tn ((h0 + 1) - 1) w k)) lx L := e_52
        refine lv_seti (v := gwS ch (fun k => (tb L lp ch full (-1) h0 w k).2.2) lx L) (gwS_congr (fun k9 hk9 => ⟨rfl, hwo w k9 hwh hk9⟩)) ?_
        refine n_iast (D := D) (cl := vwCl) (x := (tn (h0 + 1) w lx)) (v := (gwS ch (fun k => (tb L lp ch full (-1) h0 w k).2.2) lx L)) hx hb hK hP hD hS 6 0 (f := wo) rfl rfl (by unfold tn; omega) (Nat.le_of_ble_eq_true rfl) dX3_settleGreatest_55 (fun H locs hP hD hS => ?_)
        have hP : va_P D vwCl (wPl cI cL pl pA lt k (nI L) kn full lp ch me ru (upd wo (tn (h0 + 1) w lx) (gwS ch (fun k => (tb L lp ch full (-1) h0 w k).2.2) lx L)) mb) H := hP
        have hD : va_D A (wPl cI cL pl pA lt k (nI L) kn full lp ch me ru (upd wo (tn (h0 + 1) w lx) (gwS ch (fun k => (tb L lp ch full (-1) h0 w k).2.2) lx L)) mb) := hD
        refine lv_goto (tgt := 108) hx hb dX3_settleGreatest_56 (by decide) ?_
        have hw9 : wPl cI cL pl pA lt k (nI L) kn full lp ch me ru (upd wo (tn (h0 + 1) w lx) (tb L lp ch full (-1) (h0 + 1) w lx).2.2) mb = wPl cI cL pl pA lt k (nI L) kn full lp ch me ru (upd wo (tn (h0 + 1) w lx) (gwS ch (fun k => (tb L lp ch full (-1) h0 w k).2.2) lx L)) mb := by
          rw [tb_wo hw1, ← hru, c_37, tbPays, if_pos rfl, if_pos rfl, Int32.zero_add]
        rw [← hw9] at hP hD
        rw [← hQQ]
        exact W.vret hx hb hr (fun t9 ht9 hW9 => ⟨⟨(), rfl, trivial, by rw [ht9]; exact hP, hD⟩, hS.F ht9⟩) hS.2.2 dX3_settleGreatest_108
    · skip
      exact absurd c_16 (by omega)
  · skip
    exact absurd c_11 (nI_nm1 (by unfold tn; omega))
set_option maxHeartbeats 4000000 in
set_option maxRecDepth 100000 in
theorem c_X3_settleGreatest (l : Launch) (D : va_G) (cI cL cZ cO : ClassId) (sz : Nat) (pl pA lt : Nat) (k : Nat → Nat) (kn full : Int32) (lp ch : Nat → Int32) (me : Nat → Int64) (ru wo : Nat → Int32) (mb : Nat → Int64) (L : Nat) (h w lx : Nat) (hL : L ≤ 6) (hh : h ≤ 12) (hw : w ≤ h) (hl9 : lx < L) (hru : ru (tn h w lx) = (tb L lp ch full (-1) h w lx).2.1) (hwo : ∀ h1 w1 k1, h1 + 1 = h → w1 ≤ h1 → k1 < L → wo (tn h1 w1 k1) = (tb L lp ch full (-1) h1 w1 k1).2.2) : Met l yX3_settleGreatest wsX3_settleGreatest ({ frames := 3, cells := 0, slots := 0, locals := 72 } : Room) (va_Pc [.ref pl, .int (nI h), .int (nI w), .int (nI lx)] (Rw D cI cL cZ cO (wPl cI cL pl pA lt k (nI L) kn full lp ch me ru wo mb) sz)) (va_Qv (fun (u : Unit) => True) (fun (u : Unit) => Wo D (va_A (wPl cI cL pl pA lt k (nI L) kn full lp ch me ru wo mb) sz) (wPl cI cL pl pA lt k (nI L) kn full lp ch me ru (upd wo (tn h w lx) (tb L lp ch full (-1) h w lx).2.2) mb)) (va_A (wPl cI cL pl pA lt k (nI L) kn full lp ch me ru wo mb) sz)) 0 0 (va_A (wPl cI cL pl pA lt k (nI L) kn full lp ch me ru wo mb) sz) := by
  rcases Nat.eq_zero_or_pos w with rfl | hw1
  · exact c_X3_settleGreatest_0 l D cI cL cZ cO sz pl pA lt k kn full lp ch me ru wo mb L h lx hL hh hl9
  · obtain ⟨h0, rfl⟩ : ∃ h0, h = h0 + 1 := ⟨h - 1, by omega⟩
    exact c_X3_settleGreatest_s l D cI cL cZ cO sz pl pA lt k kn full lp ch me ru wo mb L h0 w lx hL hh hw1 hw hl9 hru (fun w1 k1 a1 a2 => hwo h0 w1 k1 rfl a1 a2)
set_option maxHeartbeats 4000000 in
set_option maxRecDepth 100000 in
theorem c_X3_settleCapped_0 (l : Launch) (D : va_G) (cI cL cZ cO : ClassId) (sz : Nat) (pl pA lt : Nat) (k : Nat → Nat) (kn full : Int32) (lp ch : Nat → Int32) (me : Nat → Int64) (ru wo : Nat → Int32) (mb : Nat → Int64) (L : Nat) (h lx : Nat) (cap : Int32) (hL : L ≤ 6) (hh : h ≤ 12) (hl9 : lx < L) : Met l yX3_settleCapped wsX3_settleCapped ({ frames := 3, cells := 0, slots := 0, locals := 74 } : Room) (va_Pc [.ref pl, .int (nI h), .int (nI 0), .int (nI lx), .int cap] (Rw D cI cL cZ cO (wPl cI cL pl pA lt k (nI L) kn full lp ch me ru wo mb) sz)) (va_Qv (fun (u : Unit) => True) (fun (u : Unit) => Wo D (va_A (wPl cI cL pl pA lt k (nI L) kn full lp ch me ru wo mb) sz) (wPl cI cL pl pA lt k (nI L) kn full lp ch me ru wo (vp_updL mb (tn h 0 lx) (tb L lp ch full cap h 0 lx).1))) (va_A (wPl cI cL pl pA lt k (nI L) kn full lp ch me ru wo mb) sz)) 0 0 (va_A (wPl cI cL pl pA lt k (nI L) kn full lp ch me ru wo mb) sz) := by
  refine Met.ofW (cc := cX3_settleCapped) (maxL := 8) (ret := none) (by decide) rfl ?_
  intro p e s m args below meth c s₁ B hml hv
  obtain ⟨rfl, hsz, hP, hO, hD0⟩ := hv
  have hx := B.exec
  have hb := B.bytes
  have hr := B.returns
  have hts := atoms_spec (ws := wsX3_settleCapped) B.pre
  have hown : s.vm.findClass RX3 = some m.cls := findClass_of_methodNamed B.named
  have hlocks := B.notSynchronized
  have hK := hO.1
  subst hsz
  have hD := hD0.self (sz := s.heap.size)
  generalize hAe : va_A (wPl cI cL pl pA lt k (nI L) kn full lp ch me ru wo mb) s.heap.size = A at hD ⊢
  have hA : ∀ q : Nat, s.heap.size ≤ q → A q := fun q h => by rw [← hAe]; exact Or.inr h
  have hS : va_S A s.heap s.heap [] := va_S.rf
  have hl := lv_entry ([.ref pl, .int (nI h), .int (nI 0), .int (nI lx), .int cap]) (n := 8) (Nat.le_of_ble_eq_true rfl)
  rw [lg_entry_eq]
  generalize (lg_sl ([.ref pl, .int (nI h), .int (nI 0), .int (nI lx), .int cap]) ++ List.replicate (8 - (lg_sl ([.ref pl, .int (nI h), .int (nI 0), .int (nI lx), .int cap])).length) Slot.unset).toArray = ls at hl ⊢
  have hl : lv_has ls 8 [(0, .ref pl), (1, .int (nI h)), (2, .int (nI 0)), (3, .int (nI lx)), (4, .int cap)] := hl
  generalize hQQ : MQ below _ _ s _ _ _ = QQ
  refine lv_iload_n hx hb dX3_settleCapped_0 rfl (lv_at hl 1 rfl) ?_
  refine lv_iload_n hx hb dX3_settleCapped_1 rfl (lv_at hl 2 rfl) ?_
  refine lv_iload_n hx hb dX3_settleCapped_2 rfl (lv_at hl 3 rfl) ?_
  refine roSi (As := [.int (nI h), .int (nI 0), .int (nI lx)]) (rest := []) ⟨hx, hb, hml, hown, hts⟩ (c_X3_stateOf l D cI cL cZ cO h 0 lx (by omega) (by omega) (by omega)) (va_cwS 3 hts gX3_settleCapped_X3_stateOf rfl rfl rfl (by decide +kernel) ⟨Nat.le_of_ble_eq_true rfl, Nat.le_of_ble_eq_true rfl⟩) hO (fun k q h => by simp at h) rfl hl.1 rfl (Nat.le_of_ble_eq_true rfl) dX3_settleCapped_3 ⟨Nat.le_of_ble_eq_true rfl, Nat.le_of_ble_eq_true rfl⟩ (fun r_3 e_3 => ?_)
  obtain rfl : r_3 = nI (tn h 0 lx) := e_3
  refine lv_istore (lv' := [(5, .int (nI (tn h 0 lx))), (0, .ref pl), (1, .int (nI h)), (2, .int (nI 0)), (3, .int (nI lx)), (4, .int cap)]) hx hb dX3_settleCapped_6 hl (by decide) rfl (fun ls hl => ?_)
  refine lv_iload hx hb dX3_settleCapped_8 (lv_at hl 0 rfl) ?_
  refine lv_iconst (v := (-1)) hx hb dX3_settleCapped_10 (by decide) ?_
  refine lv_icmp_ne (tgt := 15) hx hb dX3_settleCapped_11 (by decide) (fun c_11 => ?_) (fun c_11 => ?_)
  · skip
    refine lv_aload_n hx hb dX3_settleCapped_15 rfl (lv_at hl 1 rfl) ?_
    refine lv_iload_n hx hb dX3_settleCapped_16 rfl (lv_at hl 4 rfl) ?_
    refine roVi (As := [.int (nI lx)]) (rest := []) ⟨hx, hb, hml, hown, hts⟩ (c_X3_askedAt l D cI cL cZ cO pl pA lt k kn full lp ch me ru wo mb L lx (by omega)) (cwV 1 hts gX3_settleCapped_X3_askedAt rfl rfl rfl (by decide +kernel) ⟨Nat.le_of_ble_eq_true rfl, Nat.le_of_ble_eq_true rfl⟩) hO hP (va_recv hK hP (ci := 2) (q0 := 0) rfl rfl) rfl hl.1 rfl (Nat.le_of_ble_eq_true rfl) dX3_settleCapped_17 ⟨Nat.le_of_ble_eq_true rfl, Nat.le_of_ble_eq_true rfl⟩ (fun r_17 e_17 => ?_)
    obtain rfl : r_17 = lp lx := e_17
    refine lv_istore (lv' := [(6, .int (lp lx)), (5, .int (nI (tn h 0 lx))), (0, .ref pl), (1, .int (nI h)), (2, .int (nI 0)), (3, .int (nI lx)), (4, .int cap)]) hx hb dX3_settleCapped_20 hl (by decide) rfl (fun ls hl => ?_)
    refine lv_iload_n hx hb dX3_settleCapped_22 rfl (lv_at hl 4 rfl) ?_
    refine n_if_ne (x := 0) (tgt := 37) hx hb dX3_settleCapped_23 (by decide) (by omega) (fun c_23 => ?_) (fun c_23 => ?_)
    · skip
      exact absurd c_23 (Nat.lt_irrefl 0)
    · skip
      refine lv_aload_n hx hb dX3_settleCapped_26 rfl (lv_at hl 2 rfl) ?_
      refine va_get (D := D) (cl := vwCl) (ci := 2) (v := .ref (k 5)) (C := RX3) (T := TX3) (N := 9) hx hb hts (fun _ h => List.mem_cons_of_mem _ (List.mem_append_left _ (List.mem_append_right _ h))) hown hK hP 0 rfl rfl 8 (by decide) (hts (.fieldLink RX3 32 "CheapHours$Plan" "meanByCap" "[J") (List.mem_of_getElem? (i := 1) rfl)) (fun _ h9 => h9) rfl dX3_settleCapped_27 ?_
      refine lv_iload hx hb dX3_settleCapped_30 (lv_at hl 1 rfl) ?_
      refine lv_lconst (v := 0) hx hb dX3_settleCapped_32 (by decide) ?_
      refine n_last (D := D) (cl := vwCl) (x := (tn h 0 lx)) (v := 0) hx hb hK hP hD hS 7 1 (f := mb) rfl rfl (by unfold tn; omega) (Nat.le_of_ble_eq_true rfl) dX3_settleCapped_33 (fun H locs hP hD hS => ?_)
      have hP : va_P D vwCl (wPl cI cL pl pA lt k (nI L) kn full lp ch me ru wo (vp_updL mb (tn h 0 lx) 0)) H := hP
      have hD : va_D A (wPl cI cL pl pA lt k (nI L) kn full lp ch me ru wo (vp_updL mb (tn h 0 lx) 0)) := hD
      refine lv_goto (tgt := 131) hx hb dX3_settleCapped_34 (by decide) ?_
      have hw9 : wPl cI cL pl pA lt k (nI L) kn full lp ch me ru wo (vp_updL mb (tn h 0 lx) (tb L lp ch full cap h 0 lx).1) = wPl cI cL pl pA lt k (nI L) kn full lp ch me ru wo (vp_updL mb (tn h 0 lx) 0) := by
        rw [tb_0]
      rw [← hw9] at hP hD
      rw [← hQQ]
      exact W.vret hx hb hr (fun t9 ht9 hW9 => ⟨⟨(), rfl, trivial, by rw [ht9]; exact hP, hD⟩, hS.F ht9⟩) hS.2.2 dX3_settleCapped_131
  · skip
    exact absurd c_11 (nI_nm1 (by unfold tn; omega))
set_option maxHeartbeats 4000000 in
set_option maxRecDepth 100000 in
theorem c_X3_settleCapped_s (l : Launch) (D : va_G) (cI cL cZ cO : ClassId) (sz : Nat) (pl pA lt : Nat) (k : Nat → Nat) (kn full : Int32) (lp ch : Nat → Int32) (me : Nat → Int64) (ru wo : Nat → Int32) (mb : Nat → Int64) (L : Nat) (h0 w lx WW : Nat) (cap : Int32) (hL : L ≤ 6) (hh : h0 + 1 ≤ 12) (hw1 : 1 ≤ w) (hw : w ≤ h0 + 1) (hW : w ≤ WW) (hl9 : lx < L) (hcap : ¬ cap = -1) (hg : cGood L lp ch full cap WW mb (h0 + 1) w lx) : Met l yX3_settleCapped wsX3_settleCapped ({ frames := 3, cells := 0, slots := 0, locals := 74 } : Room) (va_Pc [.ref pl, .int (nI (h0 + 1)), .int (nI w), .int (nI lx), .int cap] (Rw D cI cL cZ cO (wPl cI cL pl pA lt k (nI L) kn full lp ch me ru wo mb) sz)) (va_Qv (fun (u : Unit) => True) (fun (u : Unit) => Wo D (va_A (wPl cI cL pl pA lt k (nI L) kn full lp ch me ru wo mb) sz) (wPl cI cL pl pA lt k (nI L) kn full lp ch me ru wo (vp_updL mb (tn (h0 + 1) w lx) (tb L lp ch full cap (h0 + 1) w lx).1))) (va_A (wPl cI cL pl pA lt k (nI L) kn full lp ch me ru wo mb) sz)) 0 0 (va_A (wPl cI cL pl pA lt k (nI L) kn full lp ch me ru wo mb) sz) := by
  refine Met.ofW (cc := cX3_settleCapped) (maxL := 8) (ret := none) (by decide) rfl ?_
  intro p e s m args below meth c s₁ B hml hv
  obtain ⟨rfl, hsz, hP, hO, hD0⟩ := hv
  have hx := B.exec
  have hb := B.bytes
  have hr := B.returns
  have hts := atoms_spec (ws := wsX3_settleCapped) B.pre
  have hown : s.vm.findClass RX3 = some m.cls := findClass_of_methodNamed B.named
  have hlocks := B.notSynchronized
  have hK := hO.1
  subst hsz
  have hD := hD0.self (sz := s.heap.size)
  generalize hAe : va_A (wPl cI cL pl pA lt k (nI L) kn full lp ch me ru wo mb) s.heap.size = A at hD ⊢
  have hA : ∀ q : Nat, s.heap.size ≤ q → A q := fun q h => by rw [← hAe]; exact Or.inr h
  have hS : va_S A s.heap s.heap [] := va_S.rf
  have hl := lv_entry ([.ref pl, .int (nI (h0 + 1)), .int (nI w), .int (nI lx), .int cap]) (n := 8) (Nat.le_of_ble_eq_true rfl)
  rw [lg_entry_eq]
  generalize (lg_sl ([.ref pl, .int (nI (h0 + 1)), .int (nI w), .int (nI lx), .int cap]) ++ List.replicate (8 - (lg_sl ([.ref pl, .int (nI (h0 + 1)), .int (nI w), .int (nI lx), .int cap])).length) Slot.unset).toArray = ls at hl ⊢
  have hl : lv_has ls 8 [(0, .ref pl), (1, .int (nI (h0 + 1))), (2, .int (nI w)), (3, .int (nI lx)), (4, .int cap)] := hl
  generalize hQQ : MQ below _ _ s _ _ _ = QQ
  refine lv_iload_n hx hb dX3_settleCapped_0 rfl (lv_at hl 1 rfl) ?_
  refine lv_iload_n hx hb dX3_settleCapped_1 rfl (lv_at hl 2 rfl) ?_
  refine lv_iload_n hx hb dX3_settleCapped_2 rfl (lv_at hl 3 rfl) ?_
  refine roSi (As := [.int (nI (h0 + 1)), .int (nI w), .int (nI lx)]) (rest := []) ⟨hx, hb, hml, hown, hts⟩ (c_X3_stateOf l D cI cL cZ cO (h0 + 1) w lx (by omega) (by omega) (by omega)) (va_cwS 3 hts gX3_settleCapped_X3_stateOf rfl rfl rfl (by decide +kernel) ⟨Nat.le_of_ble_eq_true rfl, Nat.le_of_ble_eq_true rfl⟩) hO (fun k q h => by simp at h) rfl hl.1 rfl (Nat.le_of_ble_eq_true rfl) dX3_settleCapped_3 ⟨Nat.le_of_ble_eq_true rfl, Nat.le_of_ble_eq_true rfl⟩ (fun r_3 e_3 => ?_)
  obtain rfl : r_3 = nI (tn (h0 + 1) w lx) := e_3
  refine lv_istore (lv' := [(5, .int (nI (tn (h0 + 1) w lx))), (0, .ref pl), (1, .int (nI (h0 + 1))), (2, .int (nI w)), (3, .int (nI lx)), (4, .int cap)]) hx hb dX3_settleCapped_6 hl (by decide) rfl (fun ls hl => ?_)
  refine lv_iload hx hb dX3_settleCapped_8 (lv_at hl 0 rfl) ?_
  refine lv_iconst (v := (-1)) hx hb dX3_settleCapped_10 (by decide) ?_
  refine lv_icmp_ne (tgt := 15) hx hb dX3_settleCapped_11 (by decide) (fun c_11 => ?_) (fun c_11 => ?_)
  · skip
    refine lv_aload_n hx hb dX3_settleCapped_15 rfl (lv_at hl 1 rfl) ?_
    refine lv_iload_n hx hb dX3_settleCapped_16 rfl (lv_at hl 4 rfl) ?_
    refine roVi (As := [.int (nI lx)]) (rest := []) ⟨hx, hb, hml, hown, hts⟩ (c_X3_askedAt l D cI cL cZ cO pl pA lt k kn full lp ch me ru wo mb L lx (by omega)) (cwV 1 hts gX3_settleCapped_X3_askedAt rfl rfl rfl (by decide +kernel) ⟨Nat.le_of_ble_eq_true rfl, Nat.le_of_ble_eq_true rfl⟩) hO hP (va_recv hK hP (ci := 2) (q0 := 0) rfl rfl) rfl hl.1 rfl (Nat.le_of_ble_eq_true rfl) dX3_settleCapped_17 ⟨Nat.le_of_ble_eq_true rfl, Nat.le_of_ble_eq_true rfl⟩ (fun r_17 e_17 => ?_)
    obtain rfl : r_17 = lp lx := e_17
    refine lv_istore (lv' := [(6, .int (lp lx)), (5, .int (nI (tn (h0 + 1) w lx))), (0, .ref pl), (1, .int (nI (h0 + 1))), (2, .int (nI w)), (3, .int (nI lx)), (4, .int cap)]) hx hb dX3_settleCapped_20 hl (by decide) rfl (fun ls hl => ?_)
    refine lv_iload_n hx hb dX3_settleCapped_22 rfl (lv_at hl 4 rfl) ?_
    refine n_if_ne (x := w) (tgt := 37) hx hb dX3_settleCapped_23 (by decide) (by omega) (fun c_23 => ?_) (fun c_23 => ?_)
    · skip
      refine lv_iload hx hb dX3_settleCapped_37 (lv_at hl 0 rfl) ?_
      refine lv_iload hx hb dX3_settleCapped_39 (lv_at hl 6 rfl) ?_
      refine lv_icmp_le (tgt := 72) hx hb dX3_settleCapped_41 (by decide) (fun c_41 => ?_) (fun c_41 => ?_)
      · skip
        refine lv_iload hx hb dX3_settleCapped_72 (lv_at hl 0 rfl) ?_
        refine lv_iload hx hb dX3_settleCapped_74 (lv_at hl 6 rfl) ?_
        refine lv_icmp_le (tgt := 94) hx hb dX3_settleCapped_76 (by decide) (fun c_76 => ?_) (fun c_76 => ?_)
        · skip
          refine lv_iload hx hb dX3_settleCapped_94 (lv_at hl 0 rfl) ?_
          refine lv_istore (lv' := [(7, .int (lp lx)), (6, .int (lp lx)), (5, .int (nI (tn (h0 + 1) w lx))), (0, .ref pl), (1, .int (nI (h0 + 1))), (2, .int (nI w)), (3, .int (nI lx)), (4, .int cap)]) hx hb dX3_settleCapped_96 hl (by decide) rfl (fun ls hl => ?_)
          refine lv_aload_n hx hb dX3_settleCapped_98 rfl (lv_at hl 3 rfl) ?_
          refine va_get (D := D) (cl := vwCl) (ci := 2) (v := .ref (k 5)) (C := RX3) (T := TX3) (N := 9) hx hb hts (fun _ h => List.mem_cons_of_mem _ (List.mem_append_left _ (List.mem_append_right _ h))) hown hK hP 0 rfl rfl 8 (by decide) (hts (.fieldLink RX3 32 "CheapHours$Plan" "meanByCap" "[J") (List.mem_of_getElem? (i := 1) rfl)) (fun _ h9 => h9) rfl dX3_settleCapped_99 ?_
          refine lv_iload hx hb dX3_settleCapped_102 (lv_at hl 2 rfl) ?_
          refine lv_iload hx hb dX3_settleCapped_104 (lv_at hl 0 rfl) ?_
          refine lv_i2l (v := (lp lx).toInt64) hx hb dX3_settleCapped_106 rfl ?_
          refine lv_bipush (v := 10) hx hb dX3_settleCapped_107 (by decide) ?_
          refine lv_iload_n hx hb dX3_settleCapped_109 rfl (lv_at hl 4 rfl) ?_
          refine roSl (As := [.int 10, .int (nI (h0 + 1))]) (rest := [.long ((lp lx).toInt64), .int (nI (tn (h0 + 1) w lx)), .ref (k 5)]) ⟨hx, hb, hml, hown, hts⟩ (c_X2_power l D cI cL cZ cO 10 (h0 + 1) (by omega)) (va_cwS 2 hts gX3_settleCapped_X2_power rfl rfl rfl (by decide +kernel) ⟨Nat.le_of_ble_eq_true rfl, Nat.le_of_ble_eq_true rfl⟩) hO (fun k q h => by simp at h) rfl hl.1 rfl (Nat.le_of_ble_eq_true rfl) dX3_settleCapped_110 ⟨Nat.le_of_ble_eq_true rfl, Nat.le_of_ble_eq_true rfl⟩ (fun r_110 e_110 => ?_)
          obtain rfl : r_110 = pw 10 (h0 + 1) := e_110
          refine lv_lmul hx hb dX3_settleCapped_113 ?_
          refine lv_aload_n hx hb dX3_settleCapped_114 rfl (lv_at hl 3 rfl) ?_
          refine lv_aload_n hx hb dX3_settleCapped_115 rfl (lv_at hl 3 rfl) ?_
          refine va_get (D := D) (cl := vwCl) (ci := 2) (v := .ref (k 5)) (C := RX3) (T := TX3) (N := 9) hx hb hts (fun _ h => List.mem_cons_of_mem _ (List.mem_append_left _ (List.mem_append_right _ h))) hown hK hP 0 rfl rfl 8 (by decide) (hts (.fieldLink RX3 32 "CheapHours$Plan" "meanByCap" "[J") (List.mem_of_getElem? (i := 1) rfl)) (fun _ h9 => h9) rfl dX3_settleCapped_116 ?_
          refine lv_iload_n hx hb dX3_settleCapped_119 rfl (lv_at hl 4 rfl) ?_
          refine lv_iconst (v := 1) hx hb dX3_settleCapped_120 (by decide) ?_
          refine n_isub (x := (h0 + 1)) (y := 1) hx hb dX3_settleCapped_121 (by omega) ?_
          refine lv_iload_n hx hb dX3_settleCapped_122 rfl (lv_at hl 5 rfl) ?_
          refine lv_iconst (v := 1) hx hb dX3_settleCapped_123 (by decide) ?_
          refine n_isub (x := w) (y := 1) hx hb dX3_settleCapped_124 (by omega) ?_
          refine lv_iload_n hx hb dX3_settleCapped_125 rfl (lv_at hl 6 rfl) ?_
          refine roVl (As := [.ref (k 5), .int (nI ((h0 + 1) - 1)), .int (nI (w - 1)), .int (nI lx)]) (rest := [.long (((lp lx).toInt64) * (pw 10 (h0 + 1))), .int (nI (tn (h0 + 1) w lx)), .ref (k 5)]) ⟨hx, hb, hml, hown, hts⟩ (c_X3_meanBehind_c l D cI cL cZ cO pl pA lt k kn full lp ch me ru wo mb L ((h0 + 1) - 1) (w - 1) lx hL (by omega) (by omega) hl9) (cwV 4 hts gX3_settleCapped_X3_meanBehind rfl rfl rfl (by decide +kernel) ⟨Nat.le_of_ble_eq_true rfl, Nat.le_of_ble_eq_true rfl⟩) hO hP (va_recv hK hP (ci := 2) (q0 := 0) rfl rfl) rfl hl.1 rfl (Nat.le_of_ble_eq_true rfl) dX3_settleCapped_126 ⟨Nat.le_of_ble_eq_true rfl, Nat.le_of_ble_eq_true rfl⟩ (fun r_126 e_126 => ?_)
          obtain rfl : r_126 = nxS ch (fun k => mb (tn ((h0 + 1) - 1) (w - 1) k)) lx L := e_126
          refine lv_setl (v := nxS ch (fun k => (tb L lp ch full cap h0 (w - 1) k).1) lx L) (nx_cb hL hh hg (by omega) (by omega)) ?_
          refine lv_ladd hx hb dX3_settleCapped_129 ?_
          refine n_last (D := D) (cl := vwCl) (x := (tn (h0 + 1) w lx)) (v := ((((lp lx).toInt64) * (pw 10 (h0 + 1))) + (nxS ch (fun k => (tb L lp ch full cap h0 (w - 1) k).1) lx L))) hx hb hK hP hD hS 7 1 (f := mb) rfl rfl (by unfold tn; omega) (Nat.le_of_ble_eq_true rfl) dX3_settleCapped_130 (fun H locs hP hD hS => ?_)
          have hP : va_P D vwCl (wPl cI cL pl pA lt k (nI L) kn full lp ch me ru wo (vp_updL mb (tn (h0 + 1) w lx) ((((lp lx).toInt64) * (pw 10 (h0 + 1))) + (nxS ch (fun k => (tb L lp ch full cap h0 (w - 1) k).1) lx L)))) H := hP
          have hD : va_D A (wPl cI cL pl pA lt k (nI L) kn full lp ch me ru wo (vp_updL mb (tn (h0 + 1) w lx) ((((lp lx).toInt64) * (pw 10 (h0 + 1))) + (nxS ch (fun k => (tb L lp ch full cap h0 (w - 1) k).1) lx L)))) := hD
          have hR : tbRule (lp lx) full cap (pw 10 (h0 + 1)) (nxS ch (fun k => (tb L lp ch full cap h0 (w - 1) k).1) lx L) (nxS ch (fun k => (tb L lp ch full cap h0 w k).1) lx L) (h0 + 1) w = 1 := by rw [tbRule_c hcap, if_neg (i32_nlt.mpr c_41)]
          have h1 := tb_m (L := L) (lp := lp) (ch := ch) (full := full) (cap := cap) (h := h0) (w := w) (lx := lx) hw1
          rw [(tb_r hw1).trans hR, tbMean_1] at h1
          have hw9 : wPl cI cL pl pA lt k (nI L) kn full lp ch me ru wo (vp_updL mb (tn (h0 + 1) w lx) (tb L lp ch full cap (h0 + 1) w lx).1) = wPl cI cL pl pA lt k (nI L) kn full lp ch me ru wo (vp_updL mb (tn (h0 + 1) w lx) ((((lp lx).toInt64) * (pw 10 (h0 + 1))) + (nxS ch (fun k => (tb L lp ch full cap h0 (w - 1) k).1) lx L))) := by
            rw [h1]
          rw [← hw9] at hP hD
          rw [← hQQ]
          exact W.vret hx hb hr (fun t9 ht9 hW9 => ⟨⟨(), rfl, trivial, by rw [ht9]; exact hP, hD⟩, hS.F ht9⟩) hS.2.2 dX3_settleCapped_131
        · skip
          exact absurd c_41 c_76
      · skip
        refine lv_iload_n hx hb dX3_settleCapped_44 rfl (lv_at hl 4 rfl) ?_
        refine lv_iload_n hx hb dX3_settleCapped_45 rfl (lv_at hl 3 rfl) ?_
        refine n_icmp_ge (x := w) (y := (h0 + 1)) (tgt := 72) hx hb dX3_settleCapped_46 (by decide) (by omega) (by omega) (fun c_46 => ?_) (fun c_46 => ?_)
        · skip
          refine lv_iload hx hb dX3_settleCapped_72 (lv_at hl 0 rfl) ?_
          refine lv_iload hx hb dX3_settleCapped_74 (lv_at hl 6 rfl) ?_
          refine lv_icmp_le (tgt := 94) hx hb dX3_settleCapped_76 (by decide) (fun c_76 => ?_) (fun c_76 => ?_)
          · skip
            exact absurd c_76 c_41
          · skip
            refine lv_iload hx hb dX3_settleCapped_79 (lv_at hl 0 rfl) ?_
            refine lv_aload_n hx hb dX3_settleCapped_81 rfl (lv_at hl 2 rfl) ?_
            refine va_get (D := D) (cl := vwCl) (ci := 2) (v := .ref pA) (C := RX3) (T := TX3) (N := 9) hx hb hts (fun _ h => List.mem_cons_of_mem _ (List.mem_append_left _ (List.mem_append_right _ h))) hown hK hP 0 rfl rfl 2 (by decide) (hts (.fieldLink RX3 11 "CheapHours$Plan" "prices" "LCheapHours$Prices;") (List.mem_of_getElem? (i := 2) rfl)) (fun _ h9 => h9) rfl dX3_settleCapped_82 ?_
            refine va_get (D := D) (cl := vwCl) (ci := 3) (v := .int full) (C := RX4) (T := TX4) (N := 2) hx hb hts (fun _ h => List.mem_cons_of_mem _ (List.mem_append_right _ h)) hown hK hP 1 rfl rfl 1 (by decide) (hts (.fieldLink RX3 95 "CheapHours$Prices" "atFull" "I") (List.mem_of_getElem? (i := 3) rfl)) (fun _ h9 => h9) rfl dX3_settleCapped_85 ?_
            refine va_mmin hx hb (hml.trans hl.1.symm) hown (hts (.methodLink RX3 66 Lib.Math.min.name) (List.mem_of_getElem? (i := 4) rfl)) (hts (.static Lib.Math.min.name) (List.mem_of_getElem? (i := 5) rfl)) (hts (.initialized "java/lang/Math") (List.mem_of_getElem? (i := 6) rfl)) (hts (.code Lib.Math.min.name Lib.Math.min.code 2 (some .int)) (List.mem_of_getElem? (i := 7) rfl)) (Nat.le_of_ble_eq_true rfl) (Nat.le_of_ble_eq_true rfl) (Nat.le_of_ble_eq_true rfl) (Nat.le_of_ble_eq_true rfl) (x := (lp lx)) (y := full) dX3_settleCapped_88 ?_
            refine lv_goto (tgt := 96) hx hb dX3_settleCapped_91 (by decide) ?_
            refine lv_istore (lv' := [(7, .int (if full < (lp lx) then full else (lp lx))), (6, .int (lp lx)), (5, .int (nI (tn (h0 + 1) w lx))), (0, .ref pl), (1, .int (nI (h0 + 1))), (2, .int (nI w)), (3, .int (nI lx)), (4, .int cap)]) hx hb dX3_settleCapped_96 hl (by decide) rfl (fun ls hl => ?_)
            refine lv_aload_n hx hb dX3_settleCapped_98 rfl (lv_at hl 3 rfl) ?_
            refine va_get (D := D) (cl := vwCl) (ci := 2) (v := .ref (k 5)) (C := RX3) (T := TX3) (N := 9) hx hb hts (fun _ h => List.mem_cons_of_mem _ (List.mem_append_left _ (List.mem_append_right _ h))) hown hK hP 0 rfl rfl 8 (by decide) (hts (.fieldLink RX3 32 "CheapHours$Plan" "meanByCap" "[J") (List.mem_of_getElem? (i := 1) rfl)) (fun _ h9 => h9) rfl dX3_settleCapped_99 ?_
            refine lv_iload hx hb dX3_settleCapped_102 (lv_at hl 2 rfl) ?_
            refine lv_iload hx hb dX3_settleCapped_104 (lv_at hl 0 rfl) ?_
            refine lv_i2l (v := (if full < (lp lx) then full else (lp lx)).toInt64) hx hb dX3_settleCapped_106 rfl ?_
            refine lv_bipush (v := 10) hx hb dX3_settleCapped_107 (by decide) ?_
            refine lv_iload_n hx hb dX3_settleCapped_109 rfl (lv_at hl 4 rfl) ?_
            refine roSl (As := [.int 10, .int (nI (h0 + 1))]) (rest := [.long ((if full < (lp lx) then full else (lp lx)).toInt64), .int (nI (tn (h0 + 1) w lx)), .ref (k 5)]) ⟨hx, hb, hml, hown, hts⟩ (c_X2_power l D cI cL cZ cO 10 (h0 + 1) (by omega)) (va_cwS 2 hts gX3_settleCapped_X2_power rfl rfl rfl (by decide +kernel) ⟨Nat.le_of_ble_eq_true rfl, Nat.le_of_ble_eq_true rfl⟩) hO (fun k q h => by simp at h) rfl hl.1 rfl (Nat.le_of_ble_eq_true rfl) dX3_settleCapped_110 ⟨Nat.le_of_ble_eq_true rfl, Nat.le_of_ble_eq_true rfl⟩ (fun r_110 e_110 => ?_)
            obtain rfl : r_110 = pw 10 (h0 + 1) := e_110
            refine lv_lmul hx hb dX3_settleCapped_113 ?_
            refine lv_aload_n hx hb dX3_settleCapped_114 rfl (lv_at hl 3 rfl) ?_
            refine lv_aload_n hx hb dX3_settleCapped_115 rfl (lv_at hl 3 rfl) ?_
            refine va_get (D := D) (cl := vwCl) (ci := 2) (v := .ref (k 5)) (C := RX3) (T := TX3) (N := 9) hx hb hts (fun _ h => List.mem_cons_of_mem _ (List.mem_append_left _ (List.mem_append_right _ h))) hown hK hP 0 rfl rfl 8 (by decide) (hts (.fieldLink RX3 32 "CheapHours$Plan" "meanByCap" "[J") (List.mem_of_getElem? (i := 1) rfl)) (fun _ h9 => h9) rfl dX3_settleCapped_116 ?_
            refine lv_iload_n hx hb dX3_settleCapped_119 rfl (lv_at hl 4 rfl) ?_
            refine lv_iconst (v := 1) hx hb dX3_settleCapped_120 (by decide) ?_
            refine n_isub (x := (h0 + 1)) (y := 1) hx hb dX3_settleCapped_121 (by omega) ?_
            refine lv_iload_n hx hb dX3_settleCapped_122 rfl (lv_at hl 5 rfl) ?_
            refine lv_iconst (v := 1) hx hb dX3_settleCapped_123 (by decide) ?_
            refine n_isub (x := w) (y := 1) hx hb dX3_settleCapped_124 (by omega) ?_
            refine lv_iload_n hx hb dX3_settleCapped_125 rfl (lv_at hl 6 rfl) ?_
            refine roVl (As := [.ref (k 5), .int (nI ((h0 + 1) - 1)), .int (nI (w - 1)), .int (nI lx)]) (rest := [.long (((if full < (lp lx) then full else (lp lx)).toInt64) * (pw 10 (h0 + 1))), .int (nI (tn (h0 + 1) w lx)), .ref (k 5)]) ⟨hx, hb, hml, hown, hts⟩ (c_X3_meanBehind_c l D cI cL cZ cO pl pA lt k kn full lp ch me ru wo mb L ((h0 + 1) - 1) (w - 1) lx hL (by omega) (by omega) hl9) (cwV 4 hts gX3_settleCapped_X3_meanBehind rfl rfl rfl (by decide +kernel) ⟨Nat.le_of_ble_eq_true rfl, Nat.le_of_ble_eq_true rfl⟩) hO hP (va_recv hK hP (ci := 2) (q0 := 0) rfl rfl) rfl hl.1 rfl (Nat.le_of_ble_eq_true rfl) dX3_settleCapped_126 ⟨Nat.le_of_ble_eq_true rfl, Nat.le_of_ble_eq_true rfl⟩ (fun r_126 e_126 => ?_)
            obtain rfl : r_126 = nxS ch (fun k => mb (tn ((h0 + 1) - 1) (w - 1) k)) lx L := e_126
            refine lv_setl (v := nxS ch (fun k => (tb L lp ch full cap h0 (w - 1) k).1) lx L) (nx_cb hL hh hg (by omega) (by omega)) ?_
            refine lv_ladd hx hb dX3_settleCapped_129 ?_
            refine n_last (D := D) (cl := vwCl) (x := (tn (h0 + 1) w lx)) (v := ((((if full < (lp lx) then full else (lp lx)).toInt64) * (pw 10 (h0 + 1))) + (nxS ch (fun k => (tb L lp ch full cap h0 (w - 1) k).1) lx L))) hx hb hK hP hD hS 7 1 (f := mb) rfl rfl (by unfold tn; omega) (Nat.le_of_ble_eq_true rfl) dX3_settleCapped_130 (fun H locs hP hD hS => ?_)
            have hP : va_P D vwCl (wPl cI cL pl pA lt k (nI L) kn full lp ch me ru wo (vp_updL mb (tn (h0 + 1) w lx) ((((if full < (lp lx) then full else (lp lx)).toInt64) * (pw 10 (h0 + 1))) + (nxS ch (fun k => (tb L lp ch full cap h0 (w - 1) k).1) lx L)))) H := hP
            have hD : va_D A (wPl cI cL pl pA lt k (nI L) kn full lp ch me ru wo (vp_updL mb (tn (h0 + 1) w lx) ((((if full < (lp lx) then full else (lp lx)).toInt64) * (pw 10 (h0 + 1))) + (nxS ch (fun k => (tb L lp ch full cap h0 (w - 1) k).1) lx L)))) := hD
            have hw9 : wPl cI cL pl pA lt k (nI L) kn full lp ch me ru wo (vp_updL mb (tn (h0 + 1) w lx) (tb L lp ch full cap (h0 + 1) w lx).1) = wPl cI cL pl pA lt k (nI L) kn full lp ch me ru wo (vp_updL mb (tn (h0 + 1) w lx) ((((if full < (lp lx) then full else (lp lx)).toInt64) * (pw 10 (h0 + 1))) + (nxS ch (fun k => (tb L lp ch full cap h0 (w - 1) k).1) lx L))) := by
              by_cases q9 : full < lp lx
              · have hR : tbRule (lp lx) full cap (pw 10 (h0 + 1)) (nxS ch (fun k => (tb L lp ch full cap h0 (w - 1) k).1) lx L) (nxS ch (fun k => (tb L lp ch full cap h0 w k).1) lx L) (h0 + 1) w = 2 := by rw [tbRule_c hcap, if_pos (i32_nle.mp c_41), if_pos c_46, if_pos q9]
                have h1 := tb_m (L := L) (lp := lp) (ch := ch) (full := full) (cap := cap) (h := h0) (w := w) (lx := lx) hw1
                rw [(tb_r hw1).trans hR, tbMean_2] at h1
                rw [h1, if_pos q9]
              · have hR : tbRule (lp lx) full cap (pw 10 (h0 + 1)) (nxS ch (fun k => (tb L lp ch full cap h0 (w - 1) k).1) lx L) (nxS ch (fun k => (tb L lp ch full cap h0 w k).1) lx L) (h0 + 1) w = 1 := by rw [tbRule_c hcap, if_pos (i32_nle.mp c_41), if_pos c_46, if_neg q9]
                have h1 := tb_m (L := L) (lp := lp) (ch := ch) (full := full) (cap := cap) (h := h0) (w := w) (lx := lx) hw1
                rw [(tb_r hw1).trans hR, tbMean_1] at h1
                rw [h1, if_neg q9]
            rw [← hw9] at hP hD
            rw [← hQQ]
            exact W.vret hx hb hr (fun t9 ht9 hW9 => ⟨⟨(), rfl, trivial, by rw [ht9]; exact hP, hD⟩, hS.F ht9⟩) hS.2.2 dX3_settleCapped_131
        · skip
          refine lv_aload_n hx hb dX3_settleCapped_49 rfl (lv_at hl 2 rfl) ?_
          refine va_get (D := D) (cl := vwCl) (ci := 2) (v := .ref (k 5)) (C := RX3) (T := TX3) (N := 9) hx hb hts (fun _ h => List.mem_cons_of_mem _ (List.mem_append_left _ (List.mem_append_right _ h))) hown hK hP 0 rfl rfl 8 (by decide) (hts (.fieldLink RX3 32 "CheapHours$Plan" "meanByCap" "[J") (List.mem_of_getElem? (i := 1) rfl)) (fun _ h9 => h9) rfl dX3_settleCapped_50 ?_
          refine lv_iload hx hb dX3_settleCapped_53 (lv_at hl 1 rfl) ?_
          refine lv_aload_n hx hb dX3_settleCapped_55 rfl (lv_at hl 2 rfl) ?_
          refine lv_aload_n hx hb dX3_settleCapped_56 rfl (lv_at hl 2 rfl) ?_
          refine va_get (D := D) (cl := vwCl) (ci := 2) (v := .ref (k 5)) (C := RX3) (T := TX3) (N := 9) hx hb hts (fun _ h => List.mem_cons_of_mem _ (List.mem_append_left _ (List.mem_append_right _ h))) hown hK hP 0 rfl rfl 8 (by decide) (hts (.fieldLink RX3 32 "CheapHours$Plan" "meanByCap" "[J") (List.mem_of_getElem? (i := 1) rfl)) (fun _ h9 => h9) rfl dX3_settleCapped_57 ?_
          refine lv_iload_n hx hb dX3_settleCapped_60 rfl (lv_at hl 3 rfl) ?_
          refine lv_iconst (v := 1) hx hb dX3_settleCapped_61 (by decide) ?_
          refine n_isub (x := (h0 + 1)) (y := 1) hx hb dX3_settleCapped_62 (by omega) ?_
          refine lv_iload_n hx hb dX3_settleCapped_63 rfl (lv_at hl 4 rfl) ?_
          refine lv_iload_n hx hb dX3_settleCapped_64 rfl (lv_at hl 5 rfl) ?_
          refine roVl (As := [.ref (k 5), .int (nI ((h0 + 1) - 1)), .int (nI w), .int (nI lx)]) (rest := [.int (nI (tn (h0 + 1) w lx)), .ref (k 5)]) ⟨hx, hb, hml, hown, hts⟩ (c_X3_meanBehind_c l D cI cL cZ cO pl pA lt k kn full lp ch me ru wo mb L ((h0 + 1) - 1) w lx hL (by omega) (by omega) hl9) (cwV 4 hts gX3_settleCapped_X3_meanBehind rfl rfl rfl (by decide +kernel) ⟨Nat.le_of_ble_eq_true rfl, Nat.le_of_ble_eq_true rfl⟩) hO hP (va_recv hK hP (ci := 2) (q0 := 0) rfl rfl) rfl hl.1 rfl (Nat.le_of_ble_eq_true rfl) dX3_settleCapped_65 ⟨Nat.le_of_ble_eq_true rfl, Nat.le_of_ble_eq_true rfl⟩ (fun r_65 e_65 => ?_)
          obtain rfl : r_65 = nxS ch (fun k => mb (tn ((h0 + 1) - 1) w k)) lx L := e_65
          refine lv_setl (v := nxS ch (fun k => (tb L lp ch full cap h0 w k).1) lx L) (nx_cb hL hh hg (by omega) (by omega)) ?_
          refine n_last (D := D) (cl := vwCl) (x := (tn (h0 + 1) w lx)) (v := (nxS ch (fun k => (tb L lp ch full cap h0 w k).1) lx L)) hx hb hK hP hD hS 7 1 (f := mb) rfl rfl (by unfold tn; omega) (Nat.le_of_ble_eq_true rfl) dX3_settleCapped_68 (fun H locs hP hD hS => ?_)
          have hP : va_P D vwCl (wPl cI cL pl pA lt k (nI L) kn full lp ch me ru wo (vp_updL mb (tn (h0 + 1) w lx) (nxS ch (fun k => (tb L lp ch full cap h0 w k).1) lx L))) H := hP
          have hD : va_D A (wPl cI cL pl pA lt k (nI L) kn full lp ch me ru wo (vp_updL mb (tn (h0 + 1) w lx) (nxS ch (fun k => (tb L lp ch full cap h0 w k).1) lx L))) := hD
          refine lv_goto (tgt := 131) hx hb dX3_settleCapped_69 (by decide) ?_
          have hR : tbRule (lp lx) full cap (pw 10 (h0 + 1)) (nxS ch (fun k => (tb L lp ch full cap h0 (w - 1) k).1) lx L) (nxS ch (fun k => (tb L lp ch full cap h0 w k).1) lx L) (h0 + 1) w = 0 := by rw [tbRule_c hcap, if_pos (i32_nle.mp c_41), if_neg (by omega)]
          have h1 := tb_m (L := L) (lp := lp) (ch := ch) (full := full) (cap := cap) (h := h0) (w := w) (lx := lx) hw1
          rw [(tb_r hw1).trans hR, tbMean_0] at h1
          have hw9 : wPl cI cL pl pA lt k (nI L) kn full lp ch me ru wo (vp_updL mb (tn (h0 + 1) w lx) (tb L lp ch full cap (h0 + 1) w lx).1) = wPl cI cL pl pA lt k (nI L) kn full lp ch me ru wo (vp_updL mb (tn (h0 + 1) w lx) (nxS ch (fun k => (tb L lp ch full cap h0 w k).1) lx L)) := by
            rw [h1]
          rw [← hw9] at hP hD
          rw [← hQQ]
          exact W.vret hx hb hr (fun t9 ht9 hW9 => ⟨⟨(), rfl, trivial, by rw [ht9]; exact hP, hD⟩, hS.F ht9⟩) hS.2.2 dX3_settleCapped_131
    · skip
      exact absurd c_23 (by omega)
  · skip
    exact absurd c_11 (nI_nm1 (by unfold tn; omega))
set_option maxHeartbeats 4000000 in
set_option maxRecDepth 100000 in
theorem c_X3_settleCapped (l : Launch) (D : va_G) (cI cL cZ cO : ClassId) (sz : Nat) (pl pA lt : Nat) (k : Nat → Nat) (kn full : Int32) (lp ch : Nat → Int32) (me : Nat → Int64) (ru wo : Nat → Int32) (mb : Nat → Int64) (L : Nat) (h w lx WW : Nat) (cap : Int32) (hL : L ≤ 6) (hh : h ≤ 12) (hw : w ≤ h) (hW : w ≤ WW) (hl9 : lx < L) (hcap : ¬ cap = -1) (hg : cGood L lp ch full cap WW mb h w lx) : Met l yX3_settleCapped wsX3_settleCapped ({ frames := 3, cells := 0, slots := 0, locals := 74 } : Room) (va_Pc [.ref pl, .int (nI h), .int (nI w), .int (nI lx), .int cap] (Rw D cI cL cZ cO (wPl cI cL pl pA lt k (nI L) kn full lp ch me ru wo mb) sz)) (va_Qv (fun (u : Unit) => True) (fun (u : Unit) => Wo D (va_A (wPl cI cL pl pA lt k (nI L) kn full lp ch me ru wo mb) sz) (wPl cI cL pl pA lt k (nI L) kn full lp ch me ru wo (vp_updL mb (tn h w lx) (tb L lp ch full cap h w lx).1))) (va_A (wPl cI cL pl pA lt k (nI L) kn full lp ch me ru wo mb) sz)) 0 0 (va_A (wPl cI cL pl pA lt k (nI L) kn full lp ch me ru wo mb) sz) := by
  rcases Nat.eq_zero_or_pos w with rfl | hw1
  · exact c_X3_settleCapped_0 l D cI cL cZ cO sz pl pA lt k kn full lp ch me ru wo mb L h lx cap hL hh hl9
  · obtain ⟨h0, rfl⟩ : ∃ h0, h = h0 + 1 := ⟨h - 1, by omega⟩
    exact c_X3_settleCapped_s l D cI cL cZ cO sz pl pA lt k kn full lp ch me ru wo mb L h0 w lx WW cap hL hh hw1 hw hW hl9 hcap hg
set_option maxHeartbeats 4000000 in
set_option maxRecDepth 100000 in
theorem c_X3_settleAll (l : Launch) (D : va_G) (cI cL cZ cO : ClassId) (sz : Nat) (pl pA lt : Nat) (k : Nat → Nat) (kn full : Int32) (lp ch : Nat → Int32) (me : Nat → Int64) (ru wo : Nat → Int32) (mb : Nat → Int64) (L : Nat)  (hL : L ≤ 6) (hkn : kn = 0 ∨ (kn = 1 ∧ tAll L lp ch full (-1) me ru wo)) : Met l yX3_settleAll wsX3_settleAll ({ frames := 4, cells := 0, slots := 0, locals := 109 } : Room) (va_Pc [.ref pl] (Rw D cI cL cZ cO (wPl cI cL pl pA lt k (nI L) kn full lp ch me ru wo mb) sz)) (va_Qv (fun (u : (Nat → Int64) × (Nat → Int32) × (Nat → Int32)) => tAll L lp ch full (-1) u.1 u.2.1 u.2.2) (fun (u : (Nat → Int64) × (Nat → Int32) × (Nat → Int32)) => Wo D (va_A (wPl cI cL pl pA lt k (nI L) kn full lp ch me ru wo mb) sz) (wPl cI cL pl pA lt k (nI L) 1 full lp ch u.1 u.2.1 u.2.2 mb)) (va_A (wPl cI cL pl pA lt k (nI L) kn full lp ch me ru wo mb) sz)) 0 0 (va_A (wPl cI cL pl pA lt k (nI L) kn full lp ch me ru wo mb) sz) := by
  refine Met.ofW (cc := cX3_settleAll) (maxL := 4) (ret := none) (by decide) rfl ?_
  intro p e s m args below meth c s₁ B hml hv
  obtain ⟨rfl, hsz, hP, hO, hD0⟩ := hv
  have hx := B.exec
  have hb := B.bytes
  have hr := B.returns
  have hts := atoms_spec (ws := wsX3_settleAll) B.pre
  have hown : s.vm.findClass RX3 = some m.cls := findClass_of_methodNamed B.named
  have hlocks := B.notSynchronized
  have hK := hO.1
  subst hsz
  have hD := hD0.self (sz := s.heap.size)
  generalize hAe : va_A (wPl cI cL pl pA lt k (nI L) kn full lp ch me ru wo mb) s.heap.size = A at hD ⊢
  have hA : ∀ q : Nat, s.heap.size ≤ q → A q := fun q h => by rw [← hAe]; exact Or.inr h
  have hS : va_S A s.heap s.heap [] := va_S.rf
  have hl := lv_entry ([.ref pl]) (n := 4) (Nat.le_of_ble_eq_true rfl)
  rw [lg_entry_eq]
  generalize (lg_sl ([.ref pl]) ++ List.replicate (4 - (lg_sl ([.ref pl])).length) Slot.unset).toArray = ls at hl ⊢
  have hl : lv_has ls 4 [(0, .ref pl)] := hl
  generalize hQQ : MQ below _ _ s _ _ _ = QQ
  refine lv_aload_n hx hb dX3_settleAll_0 rfl (lv_at hl 0 rfl) ?_
  refine va_get (D := D) (cl := vwCl) (ci := 2) (v := .int kn) (C := RX3) (T := TX3) (N := 9) hx hb hts (fun _ h => List.mem_cons_of_mem _ (List.mem_append_left _ (List.mem_append_right _ h))) hown hK hP 0 rfl rfl 1 (by decide) (hts (.fieldLink RX3 35 "CheapHours$Plan" "known" "Z") (List.mem_of_getElem? (i := 1) rfl)) (fun _ h9 => h9) rfl dX3_settleAll_1 ?_
  refine lv_if_eq (tgt := 8) hx hb dX3_settleAll_4 (by decide) (fun c_4 => ?_) (fun c_4 => ?_)
  · skip
    rw [c_4] at hP hD
    refine lv_iconst (v := 0) hx hb dX3_settleAll_8 (by decide) ?_
    refine lv_istore_n (lv' := [(1, .int 0), (0, .ref pl)]) hx hb dX3_settleAll_9 rfl hl (by decide) rfl (fun ls hl => ?_)
    have L10 : ∀ (n0 : Nat) (h : Nat) (me1 : Nat → Int64) (ru1 : Nat → Int32) (wo1 : Nat → Int32) (H : Heap) (locs : List Loc) (ls : Array Slot), 13 - h < n0 → (h ≤ 13) → (tGood L lp ch full (-1) me1 ru1 wo1 h 0 0) → va_P D vwCl (wPl cI cL pl pA lt k (nI L) 0 full lp ch me1 ru1 wo1 mb) H → va_D A (wPl cI cL pl pA lt k (nI L) 0 full lp ch me1 ru1 wo1 mb) → va_S A s.heap H locs → lv_has ls 4 [(1, .int (nI h)), (0, .ref pl)] → W p l e (headSpec wsX3_settleAll ({ frames := 4, cells := 0, slots := 0, locals := 109 } : Room)).room s m ([.ref pl] : List Value).toArray below meth c H locs 0 0 QQ (F0 m 10 ls []) := by
      intro n0
      induction n0 with
      | zero =>
        intro h me1 ru1 wo1 H locs ls hmu
        exact absurd hmu (Nat.not_lt_zero _)
      | succ n0 ih10 =>
        intro h me1 ru1 wo1 H locs ls hmu hh hg hP hD hS hl
        refine lv_iload_n hx hb dX3_settleAll_10 rfl (lv_at hl 0 rfl) ?_
        refine lv_bipush (v := 12) hx hb dX3_settleAll_11 (by decide) ?_
        refine n_icmp_gt (x := h) (y := 12) (tgt := 65) hx hb dX3_settleAll_13 (by decide) (by omega) (by omega) (fun c_13 => ?_) (fun c_13 => ?_)
        · skip
          refine lv_aload_n hx hb dX3_settleAll_65 rfl (lv_at hl 1 rfl) ?_
          refine lv_iconst (v := 1) hx hb dX3_settleAll_66 (by decide) ?_
          refine va_put (D := D) (cl := vwCl) (ci := 2) (v := .int 1) (ty := .boolean) (C := RX3) (T := TX3) (N := 9) hx hb hts (fun _ h => List.mem_cons_of_mem _ (List.mem_append_left _ (List.mem_append_right _ h))) tyX3 tyX3_ok nmX3 hown hK hP hD hS 0 rfl rfl 1 (by decide) (hts (.fieldLink RX3 35 "CheapHours$Plan" "known" "Z") (List.mem_of_getElem? (i := 1) rfl)) (fun _ h9 => h9) rfl (by decide +kernel) rfl rfl (Nat.le_of_ble_eq_true rfl) dX3_settleAll_67 (fun H locs hP hD hS => ?_)
          have hP : va_P D vwCl (wPl cI cL pl pA lt k (nI L) 1 full lp ch me1 ru1 wo1 mb) H := hP
          have hD : va_D A (wPl cI cL pl pA lt k (nI L) 1 full lp ch me1 ru1 wo1 mb) := hD
          rw [← hQQ]
          exact W.vret hx hb hr (fun t9 ht9 hW9 => ⟨⟨(me1, ru1, wo1), rfl, (fun h9 w9 l9 a1 a2 a3 => hg h9 w9 l9 (by omega) a2 a3 (by omega)), by rw [ht9]; exact hP, hD⟩, hS.F ht9⟩) hS.2.2 dX3_settleAll_70
        · skip
          refine lv_iconst (v := 0) hx hb dX3_settleAll_16 (by decide) ?_
          refine lv_istore_n (lv' := [(2, .int 0), (1, .int (nI h)), (0, .ref pl)]) hx hb dX3_settleAll_17 rfl hl (by decide) rfl (fun ls hl => ?_)
          have L18 : ∀ (n0 : Nat) (w : Nat) (me1 : Nat → Int64) (ru1 : Nat → Int32) (wo1 : Nat → Int32) (H : Heap) (locs : List Loc) (ls : Array Slot), h + 1 - w < n0 → (w ≤ h + 1) → (tGood L lp ch full (-1) me1 ru1 wo1 h w 0) → va_P D vwCl (wPl cI cL pl pA lt k (nI L) 0 full lp ch me1 ru1 wo1 mb) H → va_D A (wPl cI cL pl pA lt k (nI L) 0 full lp ch me1 ru1 wo1 mb) → va_S A s.heap H locs → lv_has ls 4 [(2, .int (nI w)), (1, .int (nI h)), (0, .ref pl)] → W p l e (headSpec wsX3_settleAll ({ frames := 4, cells := 0, slots := 0, locals := 109 } : Room)).room s m ([.ref pl] : List Value).toArray below meth c H locs 0 0 QQ (F0 m 18 ls []) := by
            intro n0
            induction n0 with
            | zero =>
              intro w me1 ru1 wo1 H locs ls hmu
              exact absurd hmu (Nat.not_lt_zero _)
            | succ n0 ih18 =>
              intro w me1 ru1 wo1 H locs ls hmu hw hg2 hP hD hS hl
              refine lv_iload_n hx hb dX3_settleAll_18 rfl (lv_at hl 0 rfl) ?_
              refine lv_iload_n hx hb dX3_settleAll_19 rfl (lv_at hl 1 rfl) ?_
              refine n_icmp_gt (x := w) (y := h) (tgt := 59) hx hb dX3_settleAll_20 (by decide) (by omega) (by omega) (fun c_20 => ?_) (fun c_20 => ?_)
              · skip
                have hwh : w = h + 1 := by omega
                subst hwh
                refine lv_iinc (v := (nI (h + 1))) (lv' := [(1, .int (nI (h + 1))), (2, .int (nI (h + 1))), (0, .ref pl)]) hx hb dX3_settleAll_59 hl (k := 1) rfl (nI_add h 1) (by decide) rfl (fun ls hl => ?_)
                refine lv_goto (tgt := 10) hx hb dX3_settleAll_62 (by decide) ?_
                exact ih10 (h + 1) me1 ru1 wo1 _ _ _ (by omega) (by omega) (tGood_h hg2) hP hD hS (lv_sub hl [0, 2] rfl)
              · skip
                refine lv_iconst (v := 0) hx hb dX3_settleAll_23 (by decide) ?_
                refine lv_istore_n (lv' := [(3, .int 0), (2, .int (nI w)), (1, .int (nI h)), (0, .ref pl)]) hx hb dX3_settleAll_24 rfl hl (by decide) rfl (fun ls hl => ?_)
                have L25 : ∀ (n0 : Nat) (lx : Nat) (me1 : Nat → Int64) (ru1 : Nat → Int32) (wo1 : Nat → Int32) (H : Heap) (locs : List Loc) (ls : Array Slot), L - lx < n0 → (lx ≤ L) → (tGood L lp ch full (-1) me1 ru1 wo1 h w lx) → va_P D vwCl (wPl cI cL pl pA lt k (nI L) 0 full lp ch me1 ru1 wo1 mb) H → va_D A (wPl cI cL pl pA lt k (nI L) 0 full lp ch me1 ru1 wo1 mb) → va_S A s.heap H locs → lv_has ls 4 [(3, .int (nI lx)), (2, .int (nI w)), (1, .int (nI h)), (0, .ref pl)] → W p l e (headSpec wsX3_settleAll ({ frames := 4, cells := 0, slots := 0, locals := 109 } : Room)).room s m ([.ref pl] : List Value).toArray below meth c H locs 0 0 QQ (F0 m 25 ls []) := by
                  intro n0
                  induction n0 with
                  | zero =>
                    intro lx me1 ru1 wo1 H locs ls hmu
                    exact absurd hmu (Nat.not_lt_zero _)
                  | succ n0 ih25 =>
                    intro lx me1 ru1 wo1 H locs ls hmu hlx hg3 hP hD hS hl
                    refine lv_iload_n hx hb dX3_settleAll_25 rfl (lv_at hl 0 rfl) ?_
                    refine lv_aload_n hx hb dX3_settleAll_26 rfl (lv_at hl 3 rfl) ?_
                    refine va_get (D := D) (cl := vwCl) (ci := 2) (v := .int (nI L)) (C := RX3) (T := TX3) (N := 9) hx hb hts (fun _ h => List.mem_cons_of_mem _ (List.mem_append_left _ (List.mem_append_right _ h))) hown hK hP 0 rfl rfl 0 (by decide) (hts (.fieldLink RX3 39 "CheapHours$Plan" "size" "I") (List.mem_of_getElem? (i := 2) rfl)) (fun _ h9 => h9) rfl dX3_settleAll_27 ?_
                    refine n_icmp_ge (x := lx) (y := L) (tgt := 53) hx hb dX3_settleAll_30 (by decide) (by omega) (by omega) (fun c_30 => ?_) (fun c_30 => ?_)
                    · skip
                      have hlL : lx = L := by omega
                      refine lv_iinc (v := (nI (w + 1))) (lv' := [(2, .int (nI (w + 1))), (3, .int (nI lx)), (1, .int (nI h)), (0, .ref pl)]) hx hb dX3_settleAll_53 hl (k := 1) rfl (nI_add w 1) (by decide) rfl (fun ls hl => ?_)
                      refine lv_goto (tgt := 18) hx hb dX3_settleAll_56 (by decide) ?_
                      exact ih18 (w + 1) me1 ru1 wo1 _ _ _ (by omega) (by omega) (tGood_w (hlL ▸ hg3)) hP hD hS (lv_sub hl [0, 2, 3] rfl)
                    · skip
                      refine lv_aload_n hx hb dX3_settleAll_33 rfl (lv_at hl 3 rfl) ?_
                      refine lv_iload_n hx hb dX3_settleAll_34 rfl (lv_at hl 2 rfl) ?_
                      refine lv_iload_n hx hb dX3_settleAll_35 rfl (lv_at hl 1 rfl) ?_
                      refine lv_iload_n hx hb dX3_settleAll_36 rfl (lv_at hl 0 rfl) ?_
                      refine rwVv (As := [.int (nI h), .int (nI w), .int (nI lx)]) (rest := []) ⟨hx, hb, hml, hown, hts⟩ (c_X3_settleMean l D cI cL cZ cO H.size pl pA lt k 0 full lp ch me1 ru1 wo1 mb L h w lx hL (by omega) (by omega) c_30 hg3) (cwV 3 hts gX3_settleAll_X3_settleMean rfl rfl rfl (by decide +kernel) ⟨Nat.le_of_ble_eq_true rfl, Nat.le_of_ble_eq_true rfl⟩) hO hP hD hS hA (va_recv hK hP (ci := 2) (q0 := 0) rfl rfl) rfl hl.1 rfl (Nat.le_of_ble_eq_true rfl) dX3_settleAll_37 ⟨Nat.le_of_ble_eq_true rfl, Nat.le_of_ble_eq_true rfl⟩ (fun u_37 H locs e_37 hP hD hS => ?_)
                      have hP : va_P D vwCl (wPl cI cL pl pA lt k (nI L) 0 full lp ch (vp_updL me1 (tn h w lx) (tb L lp ch full (-1) h w lx).1) (upd ru1 (tn h w lx) (tb L lp ch full (-1) h w lx).2.1) wo1 mb) H := hP
                      have hD : va_D A (wPl cI cL pl pA lt k (nI L) 0 full lp ch (vp_updL me1 (tn h w lx) (tb L lp ch full (-1) h w lx).1) (upd ru1 (tn h w lx) (tb L lp ch full (-1) h w lx).2.1) wo1 mb) := hD
                      refine lv_aload_n hx hb dX3_settleAll_40 rfl (lv_at hl 3 rfl) ?_
                      refine lv_iload_n hx hb dX3_settleAll_41 rfl (lv_at hl 2 rfl) ?_
                      refine lv_iload_n hx hb dX3_settleAll_42 rfl (lv_at hl 1 rfl) ?_
                      refine lv_iload_n hx hb dX3_settleAll_43 rfl (lv_at hl 0 rfl) ?_
                      refine rwVv (As := [.int (nI h), .int (nI w), .int (nI lx)]) (rest := []) ⟨hx, hb, hml, hown, hts⟩ (c_X3_settleGreatest l D cI cL cZ cO H.size pl pA lt k 0 full lp ch (vp_updL me1 (tn h w lx) (tb L lp ch full (-1) h w lx).1) (upd ru1 (tn h w lx) (tb L lp ch full (-1) h w lx).2.1) wo1 mb L h w lx hL (by omega) (by omega) c_30 pk_us (fun h1 w1 k1 a1 a2 a3 => (hg3 h1 w1 k1 (by omega) a2 a3 (by omega)).2.2)) (cwV 3 hts gX3_settleAll_X3_settleGreatest rfl rfl rfl (by decide +kernel) ⟨Nat.le_of_ble_eq_true rfl, Nat.le_of_ble_eq_true rfl⟩) hO hP hD hS hA (va_recv hK hP (ci := 2) (q0 := 0) rfl rfl) rfl hl.1 rfl (Nat.le_of_ble_eq_true rfl) dX3_settleAll_44 ⟨Nat.le_of_ble_eq_true rfl, Nat.le_of_ble_eq_true rfl⟩ (fun u_44 H locs e_44 hP hD hS => ?_)
                      have hP : va_P D vwCl (wPl cI cL pl pA lt k (nI L) 0 full lp ch (vp_updL me1 (tn h w lx) (tb L lp ch full (-1) h w lx).1) (upd ru1 (tn h w lx) (tb L lp ch full (-1) h w lx).2.1) (upd wo1 (tn h w lx) (tb L lp ch full (-1) h w lx).2.2) mb) H := hP
                      have hD : va_D A (wPl cI cL pl pA lt k (nI L) 0 full lp ch (vp_updL me1 (tn h w lx) (tb L lp ch full (-1) h w lx).1) (upd ru1 (tn h w lx) (tb L lp ch full (-1) h w lx).2.1) (upd wo1 (tn h w lx) (tb L lp ch full (-1) h w lx).2.2) mb) := hD
                      refine lv_iinc (v := (nI (lx + 1))) (lv' := [(3, .int (nI (lx + 1))), (2, .int (nI w)), (1, .int (nI h)), (0, .ref pl)]) hx hb dX3_settleAll_47 hl (k := 0) rfl (nI_add lx 1) (by decide) rfl (fun ls hl => ?_)
                      refine lv_goto (tgt := 25) hx hb dX3_settleAll_50 (by decide) ?_
                      exact ih25 (lx + 1) (vp_updL me1 (tn h w lx) (tb L lp ch full (-1) h w lx).1) (upd ru1 (tn h w lx) (tb L lp ch full (-1) h w lx).2.1) (upd wo1 (tn h w lx) (tb L lp ch full (-1) h w lx).2.2) _ _ _ (by omega) (by omega) (tGood_s hL (by omega) (by omega) c_30 hg3) hP hD hS (lv_sub hl [0, 1, 2, 3] rfl)
                exact L25 _ 0 me1 ru1 wo1 _ _ _ (Nat.lt_succ_self _) (Nat.zero_le _) hg2 hP hD hS (lv_sub hl [0, 1, 2, 3] rfl)
          exact L18 _ 0 me1 ru1 wo1 _ _ _ (Nat.lt_succ_self _) (Nat.zero_le _) hg hP hD hS (lv_sub hl [0, 1, 2] rfl)
    exact L10 _ 0 me ru wo _ _ _ (Nat.lt_succ_self _) (Nat.zero_le _) tGood_0 hP hD hS (lv_sub hl [0, 1] rfl)
  · skip
    have hk1 := hkn.resolve_left c_4
    rw [hk1.1] at hP hD
    rw [← hQQ]
    exact W.vret hx hb hr (fun t9 ht9 hW9 => ⟨⟨(me, ru, wo), rfl, hk1.2, by rw [ht9]; exact hP, hD⟩, hS.F ht9⟩) hS.2.2 dX3_settleAll_7
set_option maxHeartbeats 4000000 in
set_option maxRecDepth 100000 in
theorem c_X3_meanOf (l : Launch) (D : va_G) (cI cL cZ cO : ClassId) (sz : Nat) (pl pA lt : Nat) (k : Nat → Nat) (kn full : Int32) (lp ch : Nat → Int32) (me : Nat → Int64) (ru wo : Nat → Int32) (mb : Nat → Int64) (L : Nat) (h w lx : Nat) (hL : L ≤ 6) (hkn : kn = 0 ∨ (kn = 1 ∧ tAll L lp ch full (-1) me ru wo)) (hh : h ≤ 12) (hw : w ≤ h) (hl9 : lx < L) : Met l yX3_meanOf wsX3_meanOf ({ frames := 5, cells := 0, slots := 0, locals := 132 } : Room) (va_Pc [.ref pl, .int (nI h), .int (nI w), .int (nI lx)] (Rw D cI cL cZ cO (wPl cI cL pl pA lt k (nI L) kn full lp ch me ru wo mb) sz)) (va_Ql (fun (r : Int64) (u : (Nat → Int64) × (Nat → Int32) × (Nat → Int32)) => r = (tb L lp ch full (-1) h w lx).1 ∧ tAll L lp ch full (-1) u.1 u.2.1 u.2.2) (fun (u : (Nat → Int64) × (Nat → Int32) × (Nat → Int32)) => Wo D (va_A (wPl cI cL pl pA lt k (nI L) kn full lp ch me ru wo mb) sz) (wPl cI cL pl pA lt k (nI L) 1 full lp ch u.1 u.2.1 u.2.2 mb)) (va_A (wPl cI cL pl pA lt k (nI L) kn full lp ch me ru wo mb) sz)) 0 0 (va_A (wPl cI cL pl pA lt k (nI L) kn full lp ch me ru wo mb) sz) := by
  refine Met.ofW (cc := cX3_meanOf) (maxL := 4) (ret := (some .long)) (by decide) rfl ?_
  intro p e s m args below meth c s₁ B hml hv
  obtain ⟨rfl, hsz, hP, hO, hD0⟩ := hv
  have hx := B.exec
  have hb := B.bytes
  have hr := B.returns
  have hts := atoms_spec (ws := wsX3_meanOf) B.pre
  have hown : s.vm.findClass RX3 = some m.cls := findClass_of_methodNamed B.named
  have hlocks := B.notSynchronized
  have hK := hO.1
  subst hsz
  have hD := hD0.self (sz := s.heap.size)
  generalize hAe : va_A (wPl cI cL pl pA lt k (nI L) kn full lp ch me ru wo mb) s.heap.size = A at hD ⊢
  have hA : ∀ q : Nat, s.heap.size ≤ q → A q := fun q h => by rw [← hAe]; exact Or.inr h
  have hS : va_S A s.heap s.heap [] := va_S.rf
  have hl := lv_entry ([.ref pl, .int (nI h), .int (nI w), .int (nI lx)]) (n := 4) (Nat.le_of_ble_eq_true rfl)
  rw [lg_entry_eq]
  generalize (lg_sl ([.ref pl, .int (nI h), .int (nI w), .int (nI lx)]) ++ List.replicate (4 - (lg_sl ([.ref pl, .int (nI h), .int (nI w), .int (nI lx)])).length) Slot.unset).toArray = ls at hl ⊢
  have hl : lv_has ls 4 [(0, .ref pl), (1, .int (nI h)), (2, .int (nI w)), (3, .int (nI lx))] := hl
  generalize hQQ : MQ below _ _ s _ _ _ = QQ
  refine lv_aload_n hx hb dX3_meanOf_0 rfl (lv_at hl 0 rfl) ?_
  refine rwVv (As := []) (rest := []) ⟨hx, hb, hml, hown, hts⟩ (c_X3_settleAll l D cI cL cZ cO s.heap.size pl pA lt k kn full lp ch me ru wo mb L hL hkn) (cwV 0 hts gX3_meanOf_X3_settleAll rfl rfl rfl (by decide +kernel) ⟨Nat.le_of_ble_eq_true rfl, Nat.le_of_ble_eq_true rfl⟩) hO hP hD hS hA (va_recv hK hP (ci := 2) (q0 := 0) rfl rfl) rfl hl.1 rfl (Nat.le_of_ble_eq_true rfl) dX3_meanOf_1 ⟨Nat.le_of_ble_eq_true rfl, Nat.le_of_ble_eq_true rfl⟩ (fun u_1 H locs e_1 hP hD hS => ?_)
  obtain ⟨me2, ru2, wo2⟩ := u_1
  have hP : va_P D vwCl (wPl cI cL pl pA lt k (nI L) 1 full lp ch me2 ru2 wo2 mb) H := hP
  have hD : va_D A (wPl cI cL pl pA lt k (nI L) 1 full lp ch me2 ru2 wo2 mb) := hD
  refine lv_aload_n hx hb dX3_meanOf_4 rfl (lv_at hl 0 rfl) ?_
  refine va_get (D := D) (cl := vwCl) (ci := 2) (v := .ref (k 2)) (C := RX3) (T := TX3) (N := 9) hx hb hts (fun _ h => List.mem_cons_of_mem _ (List.mem_append_left _ (List.mem_append_right _ h))) hown hK hP 0 rfl rfl 5 (by decide) (hts (.fieldLink RX3 22 "CheapHours$Plan" "mean" "[J") (List.mem_of_getElem? (i := 1) rfl)) (fun _ h9 => h9) rfl dX3_meanOf_5 ?_
  refine lv_iload_n hx hb dX3_meanOf_8 rfl (lv_at hl 1 rfl) ?_
  refine lv_iload_n hx hb dX3_meanOf_9 rfl (lv_at hl 2 rfl) ?_
  refine lv_iload_n hx hb dX3_meanOf_10 rfl (lv_at hl 3 rfl) ?_
  refine roSl (As := [.ref (k 2), .int (nI h), .int (nI w), .int (nI lx)]) (rest := []) ⟨hx, hb, hml, hown, hts⟩ (c_X3_read l D cI cL cZ cO (k 2) me2 h w lx (by omega) (by omega) (by omega)) (va_cwS 4 hts gX3_meanOf_X3_read rfl rfl rfl (by decide +kernel) ⟨Nat.le_of_ble_eq_true rfl, Nat.le_of_ble_eq_true rfl⟩) hO (hP.sub (ws' := [((k 2), .inl (cL, 1014, .inr (.inl me2)))]) [4] rfl) rfl hl.1 rfl (Nat.le_of_ble_eq_true rfl) dX3_meanOf_11 ⟨Nat.le_of_ble_eq_true rfl, Nat.le_of_ble_eq_true rfl⟩ (fun r_11 e_11 => ?_)
  obtain rfl : r_11 = me2 (tn h w lx) := e_11
  rw [← hQQ]
  exact W.lret (v := (me2 (tn h w lx))) hx hb hr (fun t9 ht9 hW9 => ⟨⟨_, (me2, ru2, wo2), rfl, ⟨(e_1 h w lx hh hw hl9).1, e_1⟩, by rw [ht9]; exact hP, hD⟩, hS.F ht9⟩) hS.2.2 dX3_meanOf_14
set_option maxHeartbeats 4000000 in
set_option maxRecDepth 100000 in
theorem c_X3_ruleOf (l : Launch) (D : va_G) (cI cL cZ cO : ClassId) (sz : Nat) (pl pA lt : Nat) (k : Nat → Nat) (kn full : Int32) (lp ch : Nat → Int32) (me : Nat → Int64) (ru wo : Nat → Int32) (mb : Nat → Int64) (L : Nat) (h w lx : Nat) (hL : L ≤ 6) (hkn : kn = 0 ∨ (kn = 1 ∧ tAll L lp ch full (-1) me ru wo)) (hh : h ≤ 12) (hw : w ≤ h) (hl9 : lx < L) : Met l yX3_ruleOf wsX3_ruleOf ({ frames := 5, cells := 0, slots := 0, locals := 132 } : Room) (va_Pc [.ref pl, .int (nI h), .int (nI w), .int (nI lx)] (Rw D cI cL cZ cO (wPl cI cL pl pA lt k (nI L) kn full lp ch me ru wo mb) sz)) (va_Qi (fun (r : Int32) (u : (Nat → Int64) × (Nat → Int32) × (Nat → Int32)) => r = (tb L lp ch full (-1) h w lx).2.1 ∧ tAll L lp ch full (-1) u.1 u.2.1 u.2.2) (fun (u : (Nat → Int64) × (Nat → Int32) × (Nat → Int32)) => Wo D (va_A (wPl cI cL pl pA lt k (nI L) kn full lp ch me ru wo mb) sz) (wPl cI cL pl pA lt k (nI L) 1 full lp ch u.1 u.2.1 u.2.2 mb)) (va_A (wPl cI cL pl pA lt k (nI L) kn full lp ch me ru wo mb) sz)) 0 0 (va_A (wPl cI cL pl pA lt k (nI L) kn full lp ch me ru wo mb) sz) := by
  refine Met.ofW (cc := cX3_ruleOf) (maxL := 4) (ret := (some .int)) (by decide) rfl ?_
  intro p e s m args below meth c s₁ B hml hv
  obtain ⟨rfl, hsz, hP, hO, hD0⟩ := hv
  have hx := B.exec
  have hb := B.bytes
  have hr := B.returns
  have hts := atoms_spec (ws := wsX3_ruleOf) B.pre
  have hown : s.vm.findClass RX3 = some m.cls := findClass_of_methodNamed B.named
  have hlocks := B.notSynchronized
  have hK := hO.1
  subst hsz
  have hD := hD0.self (sz := s.heap.size)
  generalize hAe : va_A (wPl cI cL pl pA lt k (nI L) kn full lp ch me ru wo mb) s.heap.size = A at hD ⊢
  have hA : ∀ q : Nat, s.heap.size ≤ q → A q := fun q h => by rw [← hAe]; exact Or.inr h
  have hS : va_S A s.heap s.heap [] := va_S.rf
  have hl := lv_entry ([.ref pl, .int (nI h), .int (nI w), .int (nI lx)]) (n := 4) (Nat.le_of_ble_eq_true rfl)
  rw [lg_entry_eq]
  generalize (lg_sl ([.ref pl, .int (nI h), .int (nI w), .int (nI lx)]) ++ List.replicate (4 - (lg_sl ([.ref pl, .int (nI h), .int (nI w), .int (nI lx)])).length) Slot.unset).toArray = ls at hl ⊢
  have hl : lv_has ls 4 [(0, .ref pl), (1, .int (nI h)), (2, .int (nI w)), (3, .int (nI lx))] := hl
  generalize hQQ : MQ below _ _ s _ _ _ = QQ
  refine lv_aload_n hx hb dX3_ruleOf_0 rfl (lv_at hl 0 rfl) ?_
  refine rwVv (As := []) (rest := []) ⟨hx, hb, hml, hown, hts⟩ (c_X3_settleAll l D cI cL cZ cO s.heap.size pl pA lt k kn full lp ch me ru wo mb L hL hkn) (cwV 0 hts gX3_ruleOf_X3_settleAll rfl rfl rfl (by decide +kernel) ⟨Nat.le_of_ble_eq_true rfl, Nat.le_of_ble_eq_true rfl⟩) hO hP hD hS hA (va_recv hK hP (ci := 2) (q0 := 0) rfl rfl) rfl hl.1 rfl (Nat.le_of_ble_eq_true rfl) dX3_ruleOf_1 ⟨Nat.le_of_ble_eq_true rfl, Nat.le_of_ble_eq_true rfl⟩ (fun u_1 H locs e_1 hP hD hS => ?_)
  obtain ⟨me2, ru2, wo2⟩ := u_1
  have hP : va_P D vwCl (wPl cI cL pl pA lt k (nI L) 1 full lp ch me2 ru2 wo2 mb) H := hP
  have hD : va_D A (wPl cI cL pl pA lt k (nI L) 1 full lp ch me2 ru2 wo2 mb) := hD
  refine lv_aload_n hx hb dX3_ruleOf_4 rfl (lv_at hl 0 rfl) ?_
  refine va_get (D := D) (cl := vwCl) (ci := 2) (v := .ref (k 3)) (C := RX3) (T := TX3) (N := 9) hx hb hts (fun _ h => List.mem_cons_of_mem _ (List.mem_append_left _ (List.mem_append_right _ h))) hown hK hP 0 rfl rfl 6 (by decide) (hts (.fieldLink RX3 26 "CheapHours$Plan" "choice" "[I") (List.mem_of_getElem? (i := 1) rfl)) (fun _ h9 => h9) rfl dX3_ruleOf_5 ?_
  refine lv_iload_n hx hb dX3_ruleOf_8 rfl (lv_at hl 1 rfl) ?_
  refine lv_iload_n hx hb dX3_ruleOf_9 rfl (lv_at hl 2 rfl) ?_
  refine lv_iload_n hx hb dX3_ruleOf_10 rfl (lv_at hl 3 rfl) ?_
  refine roSi (As := [.ref (k 3), .int (nI h), .int (nI w), .int (nI lx)]) (rest := []) ⟨hx, hb, hml, hown, hts⟩ (c_X3_readInt l D cI cL cZ cO (k 3) ru2 h w lx (by omega) (by omega) (by omega)) (va_cwS 4 hts gX3_ruleOf_X3_readInt rfl rfl rfl (by decide +kernel) ⟨Nat.le_of_ble_eq_true rfl, Nat.le_of_ble_eq_true rfl⟩) hO (hP.sub (ws' := [((k 3), .inl (cI, 1014, .inl ru2))]) [5] rfl) rfl hl.1 rfl (Nat.le_of_ble_eq_true rfl) dX3_ruleOf_11 ⟨Nat.le_of_ble_eq_true rfl, Nat.le_of_ble_eq_true rfl⟩ (fun r_11 e_11 => ?_)
  obtain rfl : r_11 = ru2 (tn h w lx) := e_11
  rw [← hQQ]
  exact W.iret (v := (ru2 (tn h w lx))) hx hb hr (fun t9 ht9 hW9 => ⟨⟨_, (me2, ru2, wo2), rfl, ⟨(e_1 h w lx hh hw hl9).2.1, e_1⟩, by rw [ht9]; exact hP, hD⟩, hS.F ht9⟩) hS.2.2 dX3_ruleOf_14
set_option maxHeartbeats 4000000 in
set_option maxRecDepth 100000 in
theorem c_X3_greatestOf (l : Launch) (D : va_G) (cI cL cZ cO : ClassId) (sz : Nat) (pl pA lt : Nat) (k : Nat → Nat) (kn full : Int32) (lp ch : Nat → Int32) (me : Nat → Int64) (ru wo : Nat → Int32) (mb : Nat → Int64) (L : Nat) (h w lx : Nat) (hL : L ≤ 6) (hkn : kn = 0 ∨ (kn = 1 ∧ tAll L lp ch full (-1) me ru wo)) (hh : h ≤ 12) (hw : w ≤ h) (hl9 : lx < L) : Met l yX3_greatestOf wsX3_greatestOf ({ frames := 5, cells := 0, slots := 0, locals := 132 } : Room) (va_Pc [.ref pl, .int (nI h), .int (nI w), .int (nI lx)] (Rw D cI cL cZ cO (wPl cI cL pl pA lt k (nI L) kn full lp ch me ru wo mb) sz)) (va_Qi (fun (r : Int32) (u : (Nat → Int64) × (Nat → Int32) × (Nat → Int32)) => r = (tb L lp ch full (-1) h w lx).2.2 ∧ tAll L lp ch full (-1) u.1 u.2.1 u.2.2) (fun (u : (Nat → Int64) × (Nat → Int32) × (Nat → Int32)) => Wo D (va_A (wPl cI cL pl pA lt k (nI L) kn full lp ch me ru wo mb) sz) (wPl cI cL pl pA lt k (nI L) 1 full lp ch u.1 u.2.1 u.2.2 mb)) (va_A (wPl cI cL pl pA lt k (nI L) kn full lp ch me ru wo mb) sz)) 0 0 (va_A (wPl cI cL pl pA lt k (nI L) kn full lp ch me ru wo mb) sz) := by
  refine Met.ofW (cc := cX3_greatestOf) (maxL := 4) (ret := (some .int)) (by decide) rfl ?_
  intro p e s m args below meth c s₁ B hml hv
  obtain ⟨rfl, hsz, hP, hO, hD0⟩ := hv
  have hx := B.exec
  have hb := B.bytes
  have hr := B.returns
  have hts := atoms_spec (ws := wsX3_greatestOf) B.pre
  have hown : s.vm.findClass RX3 = some m.cls := findClass_of_methodNamed B.named
  have hlocks := B.notSynchronized
  have hK := hO.1
  subst hsz
  have hD := hD0.self (sz := s.heap.size)
  generalize hAe : va_A (wPl cI cL pl pA lt k (nI L) kn full lp ch me ru wo mb) s.heap.size = A at hD ⊢
  have hA : ∀ q : Nat, s.heap.size ≤ q → A q := fun q h => by rw [← hAe]; exact Or.inr h
  have hS : va_S A s.heap s.heap [] := va_S.rf
  have hl := lv_entry ([.ref pl, .int (nI h), .int (nI w), .int (nI lx)]) (n := 4) (Nat.le_of_ble_eq_true rfl)
  rw [lg_entry_eq]
  generalize (lg_sl ([.ref pl, .int (nI h), .int (nI w), .int (nI lx)]) ++ List.replicate (4 - (lg_sl ([.ref pl, .int (nI h), .int (nI w), .int (nI lx)])).length) Slot.unset).toArray = ls at hl ⊢
  have hl : lv_has ls 4 [(0, .ref pl), (1, .int (nI h)), (2, .int (nI w)), (3, .int (nI lx))] := hl
  generalize hQQ : MQ below _ _ s _ _ _ = QQ
  refine lv_aload_n hx hb dX3_greatestOf_0 rfl (lv_at hl 0 rfl) ?_
  refine rwVv (As := []) (rest := []) ⟨hx, hb, hml, hown, hts⟩ (c_X3_settleAll l D cI cL cZ cO s.heap.size pl pA lt k kn full lp ch me ru wo mb L hL hkn) (cwV 0 hts gX3_greatestOf_X3_settleAll rfl rfl rfl (by decide +kernel) ⟨Nat.le_of_ble_eq_true rfl, Nat.le_of_ble_eq_true rfl⟩) hO hP hD hS hA (va_recv hK hP (ci := 2) (q0 := 0) rfl rfl) rfl hl.1 rfl (Nat.le_of_ble_eq_true rfl) dX3_greatestOf_1 ⟨Nat.le_of_ble_eq_true rfl, Nat.le_of_ble_eq_true rfl⟩ (fun u_1 H locs e_1 hP hD hS => ?_)
  obtain ⟨me2, ru2, wo2⟩ := u_1
  have hP : va_P D vwCl (wPl cI cL pl pA lt k (nI L) 1 full lp ch me2 ru2 wo2 mb) H := hP
  have hD : va_D A (wPl cI cL pl pA lt k (nI L) 1 full lp ch me2 ru2 wo2 mb) := hD
  refine lv_aload_n hx hb dX3_greatestOf_4 rfl (lv_at hl 0 rfl) ?_
  refine va_get (D := D) (cl := vwCl) (ci := 2) (v := .ref (k 4)) (C := RX3) (T := TX3) (N := 9) hx hb hts (fun _ h => List.mem_cons_of_mem _ (List.mem_append_left _ (List.mem_append_right _ h))) hown hK hP 0 rfl rfl 7 (by decide) (hts (.fieldLink RX3 29 "CheapHours$Plan" "greatest" "[I") (List.mem_of_getElem? (i := 1) rfl)) (fun _ h9 => h9) rfl dX3_greatestOf_5 ?_
  refine lv_iload_n hx hb dX3_greatestOf_8 rfl (lv_at hl 1 rfl) ?_
  refine lv_iload_n hx hb dX3_greatestOf_9 rfl (lv_at hl 2 rfl) ?_
  refine lv_iload_n hx hb dX3_greatestOf_10 rfl (lv_at hl 3 rfl) ?_
  refine roSi (As := [.ref (k 4), .int (nI h), .int (nI w), .int (nI lx)]) (rest := []) ⟨hx, hb, hml, hown, hts⟩ (c_X3_readInt l D cI cL cZ cO (k 4) wo2 h w lx (by omega) (by omega) (by omega)) (va_cwS 4 hts gX3_greatestOf_X3_readInt rfl rfl rfl (by decide +kernel) ⟨Nat.le_of_ble_eq_true rfl, Nat.le_of_ble_eq_true rfl⟩) hO (hP.sub (ws' := [((k 4), .inl (cI, 1014, .inl wo2))]) [6] rfl) rfl hl.1 rfl (Nat.le_of_ble_eq_true rfl) dX3_greatestOf_11 ⟨Nat.le_of_ble_eq_true rfl, Nat.le_of_ble_eq_true rfl⟩ (fun r_11 e_11 => ?_)
  obtain rfl : r_11 = wo2 (tn h w lx) := e_11
  rw [← hQQ]
  exact W.iret (v := (wo2 (tn h w lx))) hx hb hr (fun t9 ht9 hW9 => ⟨⟨_, (me2, ru2, wo2), rfl, ⟨(e_1 h w lx hh hw hl9).2.2, e_1⟩, by rw [ht9]; exact hP, hD⟩, hS.F ht9⟩) hS.2.2 dX3_greatestOf_14
set_option maxHeartbeats 4000000 in
set_option maxRecDepth 100000 in
theorem c_X3_meanCapped (l : Launch) (D : va_G) (cI cL cZ cO : ClassId) (sz : Nat) (pl pA lt : Nat) (k : Nat → Nat) (kn full : Int32) (lp ch : Nat → Int32) (me : Nat → Int64) (ru wo : Nat → Int32) (mb : Nat → Int64) (L : Nat) (hq wq lq : Nat) (cap : Int32) (hL : L ≤ 6) (hh9 : hq ≤ 12) (hw9q : wq ≤ hq) (hl9q : lq < L) (hcap : ¬ cap = -1) : Met l yX3_meanCapped wsX3_meanCapped ({ frames := 4, cells := 0, slots := 0, locals := 101 } : Room) (va_Pc [.ref pl, .int (nI hq), .int (nI wq), .int (nI lq), .int cap] (Rw D cI cL cZ cO (wPl cI cL pl pA lt k (nI L) kn full lp ch me ru wo mb) sz)) (va_Ql (fun (r : Int64) (u : Nat → Int64) => r = (tb L lp ch full cap hq wq lq).1) (fun (u : Nat → Int64) => Wo D (va_A (wPl cI cL pl pA lt k (nI L) kn full lp ch me ru wo mb) sz) (wPl cI cL pl pA lt k (nI L) kn full lp ch me ru wo u)) (va_A (wPl cI cL pl pA lt k (nI L) kn full lp ch me ru wo mb) sz)) 0 0 (va_A (wPl cI cL pl pA lt k (nI L) kn full lp ch me ru wo mb) sz) := by
  refine Met.ofW (cc := cX3_meanCapped) (maxL := 8) (ret := (some .long)) (by decide) rfl ?_
  intro p e s m args below meth c s₁ B hml hv
  obtain ⟨rfl, hsz, hP, hO, hD0⟩ := hv
  have hx := B.exec
  have hb := B.bytes
  have hr := B.returns
  have hts := atoms_spec (ws := wsX3_meanCapped) B.pre
  have hown : s.vm.findClass RX3 = some m.cls := findClass_of_methodNamed B.named
  have hlocks := B.notSynchronized
  have hK := hO.1
  subst hsz
  have hD := hD0.self (sz := s.heap.size)
  generalize hAe : va_A (wPl cI cL pl pA lt k (nI L) kn full lp ch me ru wo mb) s.heap.size = A at hD ⊢
  have hA : ∀ q : Nat, s.heap.size ≤ q → A q := fun q h => by rw [← hAe]; exact Or.inr h
  have hS : va_S A s.heap s.heap [] := va_S.rf
  have hl := lv_entry ([.ref pl, .int (nI hq), .int (nI wq), .int (nI lq), .int cap]) (n := 8) (Nat.le_of_ble_eq_true rfl)
  rw [lg_entry_eq]
  generalize (lg_sl ([.ref pl, .int (nI hq), .int (nI wq), .int (nI lq), .int cap]) ++ List.replicate (8 - (lg_sl ([.ref pl, .int (nI hq), .int (nI wq), .int (nI lq), .int cap])).length) Slot.unset).toArray = ls at hl ⊢
  have hl : lv_has ls 8 [(0, .ref pl), (1, .int (nI hq)), (2, .int (nI wq)), (3, .int (nI lq)), (4, .int cap)] := hl
  generalize hQQ : MQ below _ _ s _ _ _ = QQ
  refine lv_iconst (v := 0) hx hb dX3_meanCapped_0 (by decide) ?_
  refine lv_istore (lv' := [(5, .int 0), (0, .ref pl), (1, .int (nI hq)), (2, .int (nI wq)), (3, .int (nI lq)), (4, .int cap)]) hx hb dX3_meanCapped_1 hl (by decide) rfl (fun ls hl => ?_)
  have L3 : ∀ (n0 : Nat) (h : Nat) (mb1 : Nat → Int64) (H : Heap) (locs : List Loc) (ls : Array Slot), hq + 1 - h < n0 → (h ≤ hq + 1) → (cGood L lp ch full cap wq mb1 h 0 0) → va_P D vwCl (wPl cI cL pl pA lt k (nI L) kn full lp ch me ru wo mb1) H → va_D A (wPl cI cL pl pA lt k (nI L) kn full lp ch me ru wo mb1) → va_S A s.heap H locs → lv_has ls 8 [(5, .int (nI h)), (0, .ref pl), (1, .int (nI hq)), (2, .int (nI wq)), (3, .int (nI lq)), (4, .int cap)] → W p l e (headSpec wsX3_meanCapped ({ frames := 4, cells := 0, slots := 0, locals := 101 } : Room)).room s m ([.ref pl, .int (nI hq), .int (nI wq), .int (nI lq), .int cap] : List Value).toArray below meth c H locs 0 0 QQ (F0 m 3 ls []) := by
    intro n0
    induction n0 with
    | zero =>
      intro h mb1 H locs ls hmu
      exact absurd hmu (Nat.not_lt_zero _)
    | succ n0 ih3 =>
      intro h mb1 H locs ls hmu hh hg hP hD hS hl
      refine lv_iload hx hb dX3_meanCapped_3 (lv_at hl 0 rfl) ?_
      refine lv_iload_n hx hb dX3_meanCapped_5 rfl (lv_at hl 2 rfl) ?_
      refine n_icmp_gt (x := h) (y := hq) (tgt := 65) hx hb dX3_meanCapped_6 (by decide) (by omega) (by omega) (fun c_6 => ?_) (fun c_6 => ?_)
      · skip
        refine lv_aload_n hx hb dX3_meanCapped_65 rfl (lv_at hl 1 rfl) ?_
        refine va_get (D := D) (cl := vwCl) (ci := 2) (v := .ref (k 5)) (C := RX3) (T := TX3) (N := 9) hx hb hts (fun _ h => List.mem_cons_of_mem _ (List.mem_append_left _ (List.mem_append_right _ h))) hown hK hP 0 rfl rfl 8 (by decide) (hts (.fieldLink RX3 32 "CheapHours$Plan" "meanByCap" "[J") (List.mem_of_getElem? (i := 6) rfl)) (fun _ h9 => h9) rfl dX3_meanCapped_66 ?_
        refine lv_iload_n hx hb dX3_meanCapped_69 rfl (lv_at hl 2 rfl) ?_
        refine lv_iload_n hx hb dX3_meanCapped_70 rfl (lv_at hl 3 rfl) ?_
        refine lv_iload_n hx hb dX3_meanCapped_71 rfl (lv_at hl 4 rfl) ?_
        refine roSl (As := [.ref (k 5), .int (nI hq), .int (nI wq), .int (nI lq)]) (rest := []) ⟨hx, hb, hml, hown, hts⟩ (c_X3_read l D cI cL cZ cO (k 5) mb1 hq wq lq (by omega) (by omega) (by omega)) (va_cwS 4 hts gX3_meanCapped_X3_read rfl rfl rfl (by decide +kernel) ⟨Nat.le_of_ble_eq_true rfl, Nat.le_of_ble_eq_true rfl⟩) hO (hP.sub (ws' := [(k 5, .inl (cL, 1014, .inr (.inl mb1)))]) [7] rfl) rfl hl.1 rfl (Nat.le_of_ble_eq_true rfl) dX3_meanCapped_72 ⟨Nat.le_of_ble_eq_true rfl, Nat.le_of_ble_eq_true rfl⟩ (fun r_72 e_72 => ?_)
        obtain rfl : r_72 = mb1 (tn hq wq lq) := e_72
        rw [← hQQ]
        exact W.lret (v := (mb1 (tn hq wq lq))) hx hb hr (fun t9 ht9 hW9 => ⟨⟨_, mb1, rfl, (hg hq wq lq (by omega) hw9q (Nat.le_refl _) hl9q (by omega)), by rw [ht9]; exact hP, hD⟩, hS.F ht9⟩) hS.2.2 dX3_meanCapped_75
      · skip
        refine lv_iconst (v := 0) hx hb dX3_meanCapped_9 (by decide) ?_
        refine lv_istore (lv' := [(6, .int 0), (5, .int (nI h)), (0, .ref pl), (1, .int (nI hq)), (2, .int (nI wq)), (3, .int (nI lq)), (4, .int cap)]) hx hb dX3_meanCapped_10 hl (by decide) rfl (fun ls hl => ?_)
        have L12 : ∀ (n0 : Nat) (w : Nat) (mb1 : Nat → Int64) (H : Heap) (locs : List Loc) (ls : Array Slot), min h wq + 1 - w < n0 → (w ≤ min h wq + 1) → (cGood L lp ch full cap wq mb1 h w 0) → va_P D vwCl (wPl cI cL pl pA lt k (nI L) kn full lp ch me ru wo mb1) H → va_D A (wPl cI cL pl pA lt k (nI L) kn full lp ch me ru wo mb1) → va_S A s.heap H locs → lv_has ls 8 [(6, .int (nI w)), (5, .int (nI h)), (0, .ref pl), (1, .int (nI hq)), (2, .int (nI wq)), (3, .int (nI lq)), (4, .int cap)] → W p l e (headSpec wsX3_meanCapped ({ frames := 4, cells := 0, slots := 0, locals := 101 } : Room)).room s m ([.ref pl, .int (nI hq), .int (nI wq), .int (nI lq), .int cap] : List Value).toArray below meth c H locs 0 0 QQ (F0 m 12 ls []) := by
          intro n0
          induction n0 with
          | zero =>
            intro w mb1 H locs ls hmu
            exact absurd hmu (Nat.not_lt_zero _)
          | succ n0 ih12 =>
            intro w mb1 H locs ls hmu hw hg2 hP hD hS hl
            refine lv_iload hx hb dX3_meanCapped_12 (lv_at hl 0 rfl) ?_
            refine lv_iload hx hb dX3_meanCapped_14 (lv_at hl 1 rfl) ?_
            refine lv_iload_n hx hb dX3_meanCapped_16 rfl (lv_at hl 4 rfl) ?_
            refine va_mmin hx hb (hml.trans hl.1.symm) hown (hts (.methodLink RX3 66 Lib.Math.min.name) (List.mem_of_getElem? (i := 1) rfl)) (hts (.static Lib.Math.min.name) (List.mem_of_getElem? (i := 2) rfl)) (hts (.initialized "java/lang/Math") (List.mem_of_getElem? (i := 3) rfl)) (hts (.code Lib.Math.min.name Lib.Math.min.code 2 (some .int)) (List.mem_of_getElem? (i := 4) rfl)) (Nat.le_of_ble_eq_true rfl) (Nat.le_of_ble_eq_true rfl) (Nat.le_of_ble_eq_true rfl) (Nat.le_of_ble_eq_true rfl) (x := (nI h)) (y := (nI wq)) dX3_meanCapped_17 ?_
            refine lv_seti (v := nI (min h wq)) (n_min (by omega) (by omega)) ?_
            refine n_icmp_gt (x := w) (y := (min h wq)) (tgt := 59) hx hb dX3_meanCapped_20 (by decide) (by omega) (by omega) (fun c_20 => ?_) (fun c_20 => ?_)
            · skip
              refine lv_iinc (v := (nI (h + 1))) (lv' := [(5, .int (nI (h + 1))), (6, .int (nI w)), (0, .ref pl), (1, .int (nI hq)), (2, .int (nI wq)), (3, .int (nI lq)), (4, .int cap)]) hx hb dX3_meanCapped_59 hl (k := 1) rfl (nI_add h 1) (by decide) rfl (fun ls hl => ?_)
              refine lv_goto (tgt := 3) hx hb dX3_meanCapped_62 (by decide) ?_
              exact ih3 (h + 1) mb1 _ _ _ (by omega) (by omega) (cGood_h c_20 hg2) hP hD hS (lv_sub hl [0, 2, 3, 4, 5, 6] rfl)
            · skip
              refine lv_iconst (v := 0) hx hb dX3_meanCapped_23 (by decide) ?_
              refine lv_istore (lv' := [(7, .int 0), (6, .int (nI w)), (5, .int (nI h)), (0, .ref pl), (1, .int (nI hq)), (2, .int (nI wq)), (3, .int (nI lq)), (4, .int cap)]) hx hb dX3_meanCapped_24 hl (by decide) rfl (fun ls hl => ?_)
              have L26 : ∀ (n0 : Nat) (lx : Nat) (mb1 : Nat → Int64) (H : Heap) (locs : List Loc) (ls : Array Slot), L - lx < n0 → (lx ≤ L) → (cGood L lp ch full cap wq mb1 h w lx) → va_P D vwCl (wPl cI cL pl pA lt k (nI L) kn full lp ch me ru wo mb1) H → va_D A (wPl cI cL pl pA lt k (nI L) kn full lp ch me ru wo mb1) → va_S A s.heap H locs → lv_has ls 8 [(7, .int (nI lx)), (6, .int (nI w)), (5, .int (nI h)), (0, .ref pl), (1, .int (nI hq)), (2, .int (nI wq)), (3, .int (nI lq)), (4, .int cap)] → W p l e (headSpec wsX3_meanCapped ({ frames := 4, cells := 0, slots := 0, locals := 101 } : Room)).room s m ([.ref pl, .int (nI hq), .int (nI wq), .int (nI lq), .int cap] : List Value).toArray below meth c H locs 0 0 QQ (F0 m 26 ls []) := by
                intro n0
                induction n0 with
                | zero =>
                  intro lx mb1 H locs ls hmu
                  exact absurd hmu (Nat.not_lt_zero _)
                | succ n0 ih26 =>
                  intro lx mb1 H locs ls hmu hlx hg3 hP hD hS hl
                  refine lv_iload hx hb dX3_meanCapped_26 (lv_at hl 0 rfl) ?_
                  refine lv_aload_n hx hb dX3_meanCapped_28 rfl (lv_at hl 3 rfl) ?_
                  refine va_get (D := D) (cl := vwCl) (ci := 2) (v := .int (nI L)) (C := RX3) (T := TX3) (N := 9) hx hb hts (fun _ h => List.mem_cons_of_mem _ (List.mem_append_left _ (List.mem_append_right _ h))) hown hK hP 0 rfl rfl 0 (by decide) (hts (.fieldLink RX3 39 "CheapHours$Plan" "size" "I") (List.mem_of_getElem? (i := 5) rfl)) (fun _ h9 => h9) rfl dX3_meanCapped_29 ?_
                  refine n_icmp_ge (x := lx) (y := L) (tgt := 53) hx hb dX3_meanCapped_32 (by decide) (by omega) (by omega) (fun c_32 => ?_) (fun c_32 => ?_)
                  · skip
                    have hlL : lx = L := by omega
                    refine lv_iinc (v := (nI (w + 1))) (lv' := [(6, .int (nI (w + 1))), (7, .int (nI lx)), (5, .int (nI h)), (0, .ref pl), (1, .int (nI hq)), (2, .int (nI wq)), (3, .int (nI lq)), (4, .int cap)]) hx hb dX3_meanCapped_53 hl (k := 1) rfl (nI_add w 1) (by decide) rfl (fun ls hl => ?_)
                    refine lv_goto (tgt := 12) hx hb dX3_meanCapped_56 (by decide) ?_
                    exact ih12 (w + 1) mb1 _ _ _ (by omega) (by omega) (cGood_w (hlL ▸ hg3)) hP hD hS (lv_sub hl [0, 2, 3, 4, 5, 6, 7] rfl)
                  · skip
                    refine lv_aload_n hx hb dX3_meanCapped_35 rfl (lv_at hl 3 rfl) ?_
                    refine lv_iload hx hb dX3_meanCapped_36 (lv_at hl 2 rfl) ?_
                    refine lv_iload hx hb dX3_meanCapped_38 (lv_at hl 1 rfl) ?_
                    refine lv_iload hx hb dX3_meanCapped_40 (lv_at hl 0 rfl) ?_
                    refine lv_iload hx hb dX3_meanCapped_42 (lv_at hl 7 rfl) ?_
                    refine rwVv (As := [.int (nI h), .int (nI w), .int (nI lx), .int cap]) (rest := []) ⟨hx, hb, hml, hown, hts⟩ (c_X3_settleCapped l D cI cL cZ cO H.size pl pA lt k kn full lp ch me ru wo mb1 L h w lx wq cap hL (by omega) (by omega) (by omega) c_32 hcap hg3) (cwV 4 hts gX3_meanCapped_X3_settleCapped rfl rfl rfl (by decide +kernel) ⟨Nat.le_of_ble_eq_true rfl, Nat.le_of_ble_eq_true rfl⟩) hO hP hD hS hA (va_recv hK hP (ci := 2) (q0 := 0) rfl rfl) rfl hl.1 rfl (Nat.le_of_ble_eq_true rfl) dX3_meanCapped_44 ⟨Nat.le_of_ble_eq_true rfl, Nat.le_of_ble_eq_true rfl⟩ (fun u_44 H locs e_44 hP hD hS => ?_)
                    have hP : va_P D vwCl (wPl cI cL pl pA lt k (nI L) kn full lp ch me ru wo (vp_updL mb1 (tn h w lx) (tb L lp ch full cap h w lx).1)) H := hP
                    have hD : va_D A (wPl cI cL pl pA lt k (nI L) kn full lp ch me ru wo (vp_updL mb1 (tn h w lx) (tb L lp ch full cap h w lx).1)) := hD
                    refine lv_iinc (v := (nI (lx + 1))) (lv' := [(7, .int (nI (lx + 1))), (6, .int (nI w)), (5, .int (nI h)), (0, .ref pl), (1, .int (nI hq)), (2, .int (nI wq)), (3, .int (nI lq)), (4, .int cap)]) hx hb dX3_meanCapped_47 hl (k := 0) rfl (nI_add lx 1) (by decide) rfl (fun ls hl => ?_)
                    refine lv_goto (tgt := 26) hx hb dX3_meanCapped_50 (by decide) ?_
                    exact ih26 (lx + 1) (vp_updL mb1 (tn h w lx) (tb L lp ch full cap h w lx).1) _ _ _ (by omega) (by omega) (cGood_s hL (by omega) (by omega) c_32 hg3) hP hD hS (lv_sub hl [0, 1, 2, 3, 4, 5, 6, 7] rfl)
              exact L26 _ 0 mb1 _ _ _ (Nat.lt_succ_self _) (Nat.zero_le _) hg2 hP hD hS (lv_sub hl [0, 1, 2, 3, 4, 5, 6, 7] rfl)
        exact L12 _ 0 mb1 _ _ _ (Nat.lt_succ_self _) (Nat.zero_le _) hg hP hD hS (lv_sub hl [0, 1, 2, 3, 4, 5, 6] rfl)
  exact L3 _ 0 mb _ _ _ (Nat.lt_succ_self _) (Nat.zero_le _) (fun h9 w9 l9 _ _ _ _ a9 => by omega) hP hD hS (lv_sub hl [0, 1, 2, 3, 4, 5] rfl)
