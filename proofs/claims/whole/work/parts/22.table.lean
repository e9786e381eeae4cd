theorem tbBest_ge {low high a b : Int64} {h w : Nat} (g : h ≤ w) : tbBest low high a h w = tbBest low high b h w := by rw [tbBest, tbBest, if_pos g, if_pos g]
theorem tbRule_0 {price full cap : Int32} {ten working wait : Int64} {h w : Nat} (g : tbRule price full cap ten working wait h w = 0) : w < h := by
  rcases Nat.lt_or_ge w h with q | q
  · exact q
  · unfold tbRule tbBest at g
    rw [if_pos q, if_pos q] at g
    exfalso
    split at g
    · split at g <;> exact absurd g (by decide)
    · split at g
      · split at g <;> exact absurd g (by decide)
      · exact absurd g (by decide)
theorem nx_tb {L : Nat} {lp ch : Nat → Int32} {full cap : Int32} {me : Nat → Int64} {ru wo : Nat → Int32} {h w lx w' : Nat} (hL : L ≤ 6) (hh : h + 1 ≤ 12) (hw : w ≤ h + 1) (hl : lx < L) (g : tGood L lp ch full cap me ru wo (h + 1) w lx) (hw' : w' ≤ h) (z : Int64) : nxS ch (fun k => vp_updL me (tn (h + 1) w lx) z (tn h w' k)) lx L = nxS ch (fun k => (tb L lp ch full cap h w' k).1) lx L :=
  nxS_congr (fun k hk => ⟨rfl, by
    show vp_updL me (tn (h + 1) w lx) z (tn h w' k) = _
    rw [pk_uLn (tn_ne (by omega) (by omega) (by omega) (by omega) (by omega))]
    exact (g h w' k (by omega) hw' hk (by omega)).1⟩)
theorem gw_tb {L : Nat} {lp ch : Nat → Int32} {full cap : Int32} {me : Nat → Int64} {ru wo : Nat → Int32} {h w lx w' : Nat} (hL : L ≤ 6) (hh : h + 1 ≤ 12) (hw : w ≤ h + 1) (hl : lx < L) (g : tGood L lp ch full cap me ru wo (h + 1) w lx) (hw' : w' ≤ h) (z : Int32) : gwS ch (fun k => upd wo (tn (h + 1) w lx) z (tn h w' k)) lx L = gwS ch (fun k => (tb L lp ch full cap h w' k).2.2) lx L :=
  gwS_congr (fun k hk => ⟨rfl, by
    show upd wo (tn (h + 1) w lx) z (tn h w' k) = _
    rw [pk_un (tn_ne (by omega) (by omega) (by omega) (by omega) (by omega))]
    exact (g h w' k (by omega) hw' hk (by omega)).2.2⟩)
def tableV (L : Nat) (lp ch : Nat → Int32) (full : Int32) (x y z : Int32) : Int64 := if stOk x y z L = 0 then -1 else (tb L lp ch full (-1) x.toNatClampNeg y.toNatClampNeg z.toNatClampNeg).1
def ruleV (L : Nat) (lp ch : Nat → Int32) (full : Int32) (x y z : Int32) : Int32 := if stOk x y z L = 0 then -1 else (tb L lp ch full (-1) x.toNatClampNeg y.toNatClampNeg z.toNatClampNeg).2.1
def worstV (L : Nat) (lp ch : Nat → Int32) (full : Int32) (x y z : Int32) : Int32 := if stOk x y z L = 0 then -1 else (tb L lp ch full (-1) x.toNatClampNeg y.toNatClampNeg z.toNatClampNeg).2.2
def cappedV (L : Nat) (lp ch : Nat → Int32) (full : Int32) (x y z cp : Int32) : Int64 := if stOk x y z L = 0 then -1 else if wi cp 0 999 = 0 then -1 else (tb L lp ch full cp x.toNatClampNeg y.toNatClampNeg z.toNatClampNeg).1
def lvsOk (x : Int32) : Int32 := wi x 1 6
def lvsN (x : Int32) (L : Nat) : Nat := if wi x 1 6 = 0 then L else x.toNatClampNeg
set_option maxHeartbeats 4000000 in
set_option maxRecDepth 100000 in
theorem c_X7_state_0 (l : Launch) (D : va_G) (cI cL cZ cO : ClassId) (sz : Nat) (a : Nat) (r : Nat → Nat) (now full jobs : Int32) (pr : Nat → Int32) (R : Nat → Nat → Int32) (lp ch : Nat → Int32) (me : Nat → Int64) (ru wo co : Nat → Int32) (L : Nat) (h lx : Nat) (cap : Int32) (hL : L ≤ 6) (hh : h ≤ 12) (hl9 : lx < L) : Met l yX7_state wsX7_state ({ frames := 3, cells := 0, slots := 0, locals := 79 } : Room) (va_Pc [.ref a, .int (nI h), .int (nI 0), .int (nI lx), .long (pw 10 h), .int cap] (Rw D cI cL cZ cO (wM cI cL cZ a r now full jobs (nI L) pr R lp ch me ru wo co) sz)) (va_Qv (fun (u : Unit) => True) (fun (u : Unit) => Wo D (va_A (wM cI cL cZ a r now full jobs (nI L) pr R lp ch me ru wo co) sz) (wM cI cL cZ a r now full jobs (nI L) pr R lp ch (vp_updL me (tn h 0 lx) (tb L lp ch full cap h 0 lx).1) (upd ru (tn h 0 lx) (tb L lp ch full cap h 0 lx).2.1) (upd wo (tn h 0 lx) (tb L lp ch full cap h 0 lx).2.2) co)) (va_A (wM cI cL cZ a r now full jobs (nI L) pr R lp ch me ru wo co) sz)) 0 0 (va_A (wM cI cL cZ a r now full jobs (nI L) pr R lp ch me ru wo co) sz) := by
  refine Met.ofW (cc := cX7_state) (maxL := 13) (ret := none) (by decide) rfl ?_
  intro p e s m args below meth c s₁ B hml hv
  obtain ⟨rfl, hsz, hP, hO, hD0⟩ := hv
  have hx := B.exec
  have hb := B.bytes
  have hr := B.returns
  have hts := atoms_spec (ws := wsX7_state) B.pre
  have hown : s.vm.findClass RX7 = some m.cls := findClass_of_methodNamed B.named
  have hlocks := B.notSynchronized
  have hK := hO.1
  subst hsz
  have hD := hD0.self (sz := s.heap.size)
  generalize hAe : va_A (wM cI cL cZ a r now full jobs (nI L) pr R lp ch me ru wo co) s.heap.size = A at hD ⊢
  have hA : ∀ q : Nat, s.heap.size ≤ q → A q := fun q h => by rw [← hAe]; exact Or.inr h
  have hS : va_S A s.heap s.heap [] := va_S.rf
  have hl := lv_entry ([.ref a, .int (nI h), .int (nI 0), .int (nI lx), .long (pw 10 h), .int cap]) (n := 13) (Nat.le_of_ble_eq_true rfl)
  rw [lg_entry_eq]
  generalize (lg_sl ([.ref a, .int (nI h), .int (nI 0), .int (nI lx), .long (pw 10 h), .int cap]) ++ List.replicate (13 - (lg_sl ([.ref a, .int (nI h), .int (nI 0), .int (nI lx), .long (pw 10 h), .int cap])).length) Slot.unset).toArray = ls at hl ⊢
  have hl : lv_has ls 13 [(0, .ref a), (1, .int (nI h)), (2, .int (nI 0)), (3, .int (nI lx)), (4, .long (pw 10 h)), (6, .int cap)] := hl
  generalize hQQ : MQ below _ _ s _ _ _ = QQ
  refine lv_iload_n hx hb dX7_state_0 rfl (lv_at hl 1 rfl) ?_
  refine lv_iload_n hx hb dX7_state_1 rfl (lv_at hl 2 rfl) ?_
  refine lv_iload_n hx hb dX7_state_2 rfl (lv_at hl 3 rfl) ?_
  refine roSi (As := [.int (nI h), .int (nI 0), .int (nI lx)]) (rest := []) ⟨hx, hb, hml, hown, hts⟩ (c_X7_at l D cI cL cZ cO h 0 lx ) (va_cwS 3 hts gX7_state_X7_at rfl rfl rfl (by decide +kernel) ⟨Nat.le_of_ble_eq_true rfl, Nat.le_of_ble_eq_true rfl⟩) hO (fun k q h => by simp at h) rfl hl.1 rfl (Nat.le_of_ble_eq_true rfl) dX7_state_3 ⟨Nat.le_of_ble_eq_true rfl, Nat.le_of_ble_eq_true rfl⟩ (fun r_3 e_3 => ?_)
  obtain rfl : r_3 = nI (tn h 0 lx) := e_3
  refine lv_istore (lv' := [(7, .int (nI (tn h 0 lx))), (0, .ref a), (1, .int (nI h)), (2, .int (nI 0)), (3, .int (nI lx)), (4, .long (pw 10 h)), (6, .int cap)]) hx hb dX7_state_6 hl (by decide) rfl (fun ls hl => ?_)
  refine lv_aload_n hx hb dX7_state_8 rfl (lv_at hl 1 rfl) ?_
  refine va_get (D := D) (cl := vwCl) (ci := 6) (v := .ref (r 27)) (C := RX7) (T := TX7) (N := 35) hx hb hts (fun _ h => List.mem_cons_of_mem _ (List.mem_append_right _ h)) hown hK hP 0 rfl rfl 31 (by decide) (hts (.fieldLink RX7 96 "CheapHoursModel" "means" "[J") (by decide +kernel)) (fun _ h9 => h9) rfl dX7_state_9 ?_
  refine lv_iload hx hb dX7_state_12 (lv_at hl 0 rfl) ?_
  refine lv_lconst (v := 0) hx hb dX7_state_14 (by decide) ?_
  refine n_last (D := D) (cl := vwCl) (x := (tn h 0 lx)) (v := 0) hx hb hK hP hD hS 4 1 (f := me) rfl rfl (by unfold tn; omega) (Nat.le_of_ble_eq_true rfl) dX7_state_15 (fun H locs hP hD hS => ?_)
  have hP : va_P D vwCl (wM cI cL cZ a r now full jobs (nI L) pr R lp ch (vp_updL me (tn h 0 lx) 0) ru wo co) H := hP
  have hD : va_D A (wM cI cL cZ a r now full jobs (nI L) pr R lp ch (vp_updL me (tn h 0 lx) 0) ru wo co) := hD
  refine lv_aload_n hx hb dX7_state_16 rfl (lv_at hl 1 rfl) ?_
  refine va_get (D := D) (cl := vwCl) (ci := 6) (v := .ref (r 28)) (C := RX7) (T := TX7) (N := 35) hx hb hts (fun _ h => List.mem_cons_of_mem _ (List.mem_append_right _ h)) hown hK hP 0 rfl rfl 32 (by decide) (hts (.fieldLink RX7 100 "CheapHoursModel" "rules" "[I") (by decide +kernel)) (fun _ h9 => h9) rfl dX7_state_17 ?_
  refine lv_iload hx hb dX7_state_20 (lv_at hl 0 rfl) ?_
  refine lv_iconst (v := 0) hx hb dX7_state_22 (by decide) ?_
  refine n_iast (D := D) (cl := vwCl) (x := (tn h 0 lx)) (v := 0) hx hb hK hP hD hS 5 0 (f := ru) rfl rfl (by unfold tn; omega) (Nat.le_of_ble_eq_true rfl) dX7_state_23 (fun H locs hP hD hS => ?_)
  have hP : va_P D vwCl (wM cI cL cZ a r now full jobs (nI L) pr R lp ch (vp_updL me (tn h 0 lx) 0) (upd ru (tn h 0 lx) 0) wo co) H := hP
  have hD : va_D A (wM cI cL cZ a r now full jobs (nI L) pr R lp ch (vp_updL me (tn h 0 lx) 0) (upd ru (tn h 0 lx) 0) wo co) := hD
  refine lv_aload_n hx hb dX7_state_24 rfl (lv_at hl 1 rfl) ?_
  refine va_get (D := D) (cl := vwCl) (ci := 6) (v := .ref (r 29)) (C := RX7) (T := TX7) (N := 35) hx hb hts (fun _ h => List.mem_cons_of_mem _ (List.mem_append_right _ h)) hown hK hP 0 rfl rfl 33 (by decide) (hts (.fieldLink RX7 103 "CheapHoursModel" "worsts" "[I") (by decide +kernel)) (fun _ h9 => h9) rfl dX7_state_25 ?_
  refine lv_iload hx hb dX7_state_28 (lv_at hl 0 rfl) ?_
  refine lv_iconst (v := 0) hx hb dX7_state_30 (by decide) ?_
  refine n_iast (D := D) (cl := vwCl) (x := (tn h 0 lx)) (v := 0) hx hb hK hP hD hS 6 0 (f := wo) rfl rfl (by unfold tn; omega) (Nat.le_of_ble_eq_true rfl) dX7_state_31 (fun H locs hP hD hS => ?_)
  have hP : va_P D vwCl (wM cI cL cZ a r now full jobs (nI L) pr R lp ch (vp_updL me (tn h 0 lx) 0) (upd ru (tn h 0 lx) 0) (upd wo (tn h 0 lx) 0) co) H := hP
  have hD : va_D A (wM cI cL cZ a r now full jobs (nI L) pr R lp ch (vp_updL me (tn h 0 lx) 0) (upd ru (tn h 0 lx) 0) (upd wo (tn h 0 lx) 0) co) := hD
  refine lv_iload_n hx hb dX7_state_32 rfl (lv_at hl 3 rfl) ?_
  refine n_if_ne (x := 0) (tgt := 37) hx hb dX7_state_33 (by decide) (by omega) (fun c_33 => ?_) (fun c_33 => ?_)
  · skip
    exact absurd c_33 (Nat.lt_irrefl 0)
  · skip
    have hw9 : wM cI cL cZ a r now full jobs (nI L) pr R lp ch (vp_updL me (tn h 0 lx) (tb L lp ch full cap h 0 lx).1) (upd ru (tn h 0 lx) (tb L lp ch full cap h 0 lx).2.1) (upd wo (tn h 0 lx) (tb L lp ch full cap h 0 lx).2.2) co = wM cI cL cZ a r now full jobs (nI L) pr R lp ch (vp_updL me (tn h 0 lx) 0) (upd ru (tn h 0 lx) 0) (upd wo (tn h 0 lx) 0) co := by rw [tb_0]
    rw [← hw9] at hP hD
    rw [← hQQ]
    exact W.vret hx hb hr (fun t9 ht9 hW9 => ⟨⟨(), rfl, trivial, by rw [ht9]; exact hP, hD⟩, hS.F ht9⟩) hS.2.2 dX7_state_36
set_option maxHeartbeats 4000000 in
set_option maxRecDepth 100000 in
theorem c_X7_state_s (l : Launch) (D : va_G) (cI cL cZ cO : ClassId) (sz : Nat) (a : Nat) (r : Nat → Nat) (now full jobs : Int32) (pr : Nat → Int32) (R : Nat → Nat → Int32) (lp ch : Nat → Int32) (me : Nat → Int64) (ru wo co : Nat → Int32) (L : Nat) (h0 w lx : Nat) (cap : Int32) (hL : L ≤ 6) (hh : h0 + 1 ≤ 12) (hw1 : 1 ≤ w) (hw : w ≤ h0 + 1) (hl9 : lx < L) (hg : tGood L lp ch full cap me ru wo (h0 + 1) w lx) : Met l yX7_state wsX7_state ({ frames := 3, cells := 0, slots := 0, locals := 79 } : Room) (va_Pc [.ref a, .int (nI (h0 + 1)), .int (nI w), .int (nI lx), .long (pw 10 (h0 + 1)), .int cap] (Rw D cI cL cZ cO (wM cI cL cZ a r now full jobs (nI L) pr R lp ch me ru wo co) sz)) (va_Qv (fun (u : Unit) => True) (fun (u : Unit) => Wo D (va_A (wM cI cL cZ a r now full jobs (nI L) pr R lp ch me ru wo co) sz) (wM cI cL cZ a r now full jobs (nI L) pr R lp ch (vp_updL me (tn (h0 + 1) w lx) (tb L lp ch full cap (h0 + 1) w lx).1) (upd ru (tn (h0 + 1) w lx) (tb L lp ch full cap (h0 + 1) w lx).2.1) (upd wo (tn (h0 + 1) w lx) (tb L lp ch full cap (h0 + 1) w lx).2.2) co)) (va_A (wM cI cL cZ a r now full jobs (nI L) pr R lp ch me ru wo co) sz)) 0 0 (va_A (wM cI cL cZ a r now full jobs (nI L) pr R lp ch me ru wo co) sz) := by
  refine Met.ofW (cc := cX7_state) (maxL := 13) (ret := none) (by decide) rfl ?_
  intro p e s m args below meth c s₁ B hml hv
  obtain ⟨rfl, hsz, hP, hO, hD0⟩ := hv
  have hx := B.exec
  have hb := B.bytes
  have hr := B.returns
  have hts := atoms_spec (ws := wsX7_state) B.pre
  have hown : s.vm.findClass RX7 = some m.cls := findClass_of_methodNamed B.named
  have hlocks := B.notSynchronized
  have hK := hO.1
  subst hsz
  have hD := hD0.self (sz := s.heap.size)
  generalize hAe : va_A (wM cI cL cZ a r now full jobs (nI L) pr R lp ch me ru wo co) s.heap.size = A at hD ⊢
  have hA : ∀ q : Nat, s.heap.size ≤ q → A q := fun q h => by rw [← hAe]; exact Or.inr h
  have hS : va_S A s.heap s.heap [] := va_S.rf
  have hl := lv_entry ([.ref a, .int (nI (h0 + 1)), .int (nI w), .int (nI lx), .long (pw 10 (h0 + 1)), .int cap]) (n := 13) (Nat.le_of_ble_eq_true rfl)
  rw [lg_entry_eq]
  generalize (lg_sl ([.ref a, .int (nI (h0 + 1)), .int (nI w), .int (nI lx), .long (pw 10 (h0 + 1)), .int cap]) ++ List.replicate (13 - (lg_sl ([.ref a, .int (nI (h0 + 1)), .int (nI w), .int (nI lx), .long (pw 10 (h0 + 1)), .int cap])).length) Slot.unset).toArray = ls at hl ⊢
  have hl : lv_has ls 13 [(0, .ref a), (1, .int (nI (h0 + 1))), (2, .int (nI w)), (3, .int (nI lx)), (4, .long (pw 10 (h0 + 1))), (6, .int cap)] := hl
  generalize hQQ : MQ below _ _ s _ _ _ = QQ
  refine lv_iload_n hx hb dX7_state_0 rfl (lv_at hl 1 rfl) ?_
  refine lv_iload_n hx hb dX7_state_1 rfl (lv_at hl 2 rfl) ?_
  refine lv_iload_n hx hb dX7_state_2 rfl (lv_at hl 3 rfl) ?_
  refine roSi (As := [.int (nI (h0 + 1)), .int (nI w), .int (nI lx)]) (rest := []) ⟨hx, hb, hml, hown, hts⟩ (c_X7_at l D cI cL cZ cO (h0 + 1) w lx ) (va_cwS 3 hts gX7_state_X7_at rfl rfl rfl (by decide +kernel) ⟨Nat.le_of_ble_eq_true rfl, Nat.le_of_ble_eq_true rfl⟩) hO (fun k q h => by simp at h) rfl hl.1 rfl (Nat.le_of_ble_eq_true rfl) dX7_state_3 ⟨Nat.le_of_ble_eq_true rfl, Nat.le_of_ble_eq_true rfl⟩ (fun r_3 e_3 => ?_)
  obtain rfl : r_3 = nI (tn (h0 + 1) w lx) := e_3
  refine lv_istore (lv' := [(7, .int (nI (tn (h0 + 1) w lx))), (0, .ref a), (1, .int (nI (h0 + 1))), (2, .int (nI w)), (3, .int (nI lx)), (4, .long (pw 10 (h0 + 1))), (6, .int cap)]) hx hb dX7_state_6 hl (by decide) rfl (fun ls hl => ?_)
  refine lv_aload_n hx hb dX7_state_8 rfl (lv_at hl 1 rfl) ?_
  refine va_get (D := D) (cl := vwCl) (ci := 6) (v := .ref (r 27)) (C := RX7) (T := TX7) (N := 35) hx hb hts (fun _ h => List.mem_cons_of_mem _ (List.mem_append_right _ h)) hown hK hP 0 rfl rfl 31 (by decide) (hts (.fieldLink RX7 96 "CheapHoursModel" "means" "[J") (by decide +kernel)) (fun _ h9 => h9) rfl dX7_state_9 ?_
  refine lv_iload hx hb dX7_state_12 (lv_at hl 0 rfl) ?_
  refine lv_lconst (v := 0) hx hb dX7_state_14 (by decide) ?_
  refine n_last (D := D) (cl := vwCl) (x := (tn (h0 + 1) w lx)) (v := 0) hx hb hK hP hD hS 4 1 (f := me) rfl rfl (by unfold tn; omega) (Nat.le_of_ble_eq_true rfl) dX7_state_15 (fun H locs hP hD hS => ?_)
  have hP : va_P D vwCl (wM cI cL cZ a r now full jobs (nI L) pr R lp ch (vp_updL me (tn (h0 + 1) w lx) 0) ru wo co) H := hP
  have hD : va_D A (wM cI cL cZ a r now full jobs (nI L) pr R lp ch (vp_updL me (tn (h0 + 1) w lx) 0) ru wo co) := hD
  refine lv_aload_n hx hb dX7_state_16 rfl (lv_at hl 1 rfl) ?_
  refine va_get (D := D) (cl := vwCl) (ci := 6) (v := .ref (r 28)) (C := RX7) (T := TX7) (N := 35) hx hb hts (fun _ h => List.mem_cons_of_mem _ (List.mem_append_right _ h)) hown hK hP 0 rfl rfl 32 (by decide) (hts (.fieldLink RX7 100 "CheapHoursModel" "rules" "[I") (by decide +kernel)) (fun _ h9 => h9) rfl dX7_state_17 ?_
  refine lv_iload hx hb dX7_state_20 (lv_at hl 0 rfl) ?_
  refine lv_iconst (v := 0) hx hb dX7_state_22 (by decide) ?_
  refine n_iast (D := D) (cl := vwCl) (x := (tn (h0 + 1) w lx)) (v := 0) hx hb hK hP hD hS 5 0 (f := ru) rfl rfl (by unfold tn; omega) (Nat.le_of_ble_eq_true rfl) dX7_state_23 (fun H locs hP hD hS => ?_)
  have hP : va_P D vwCl (wM cI cL cZ a r now full jobs (nI L) pr R lp ch (vp_updL me (tn (h0 + 1) w lx) 0) (upd ru (tn (h0 + 1) w lx) 0) wo co) H := hP
  have hD : va_D A (wM cI cL cZ a r now full jobs (nI L) pr R lp ch (vp_updL me (tn (h0 + 1) w lx) 0) (upd ru (tn (h0 + 1) w lx) 0) wo co) := hD
  refine lv_aload_n hx hb dX7_state_24 rfl (lv_at hl 1 rfl) ?_
  refine va_get (D := D) (cl := vwCl) (ci := 6) (v := .ref (r 29)) (C := RX7) (T := TX7) (N := 35) hx hb hts (fun _ h => List.mem_cons_of_mem _ (List.mem_append_right _ h)) hown hK hP 0 rfl rfl 33 (by decide) (hts (.fieldLink RX7 103 "CheapHoursModel" "worsts" "[I") (by decide +kernel)) (fun _ h9 => h9) rfl dX7_state_25 ?_
  refine lv_iload hx hb dX7_state_28 (lv_at hl 0 rfl) ?_
  refine lv_iconst (v := 0) hx hb dX7_state_30 (by decide) ?_
  refine n_iast (D := D) (cl := vwCl) (x := (tn (h0 + 1) w lx)) (v := 0) hx hb hK hP hD hS 6 0 (f := wo) rfl rfl (by unfold tn; omega) (Nat.le_of_ble_eq_true rfl) dX7_state_31 (fun H locs hP hD hS => ?_)
  have hP : va_P D vwCl (wM cI cL cZ a r now full jobs (nI L) pr R lp ch (vp_updL me (tn (h0 + 1) w lx) 0) (upd ru (tn (h0 + 1) w lx) 0) (upd wo (tn (h0 + 1) w lx) 0) co) H := hP
  have hD : va_D A (wM cI cL cZ a r now full jobs (nI L) pr R lp ch (vp_updL me (tn (h0 + 1) w lx) 0) (upd ru (tn (h0 + 1) w lx) 0) (upd wo (tn (h0 + 1) w lx) 0) co) := hD
  refine lv_iload_n hx hb dX7_state_32 rfl (lv_at hl 3 rfl) ?_
  refine n_if_ne (x := w) (tgt := 37) hx hb dX7_state_33 (by decide) (by omega) (fun c_33 => ?_) (fun c_33 => ?_)
  · skip
    refine lv_aload_n hx hb dX7_state_37 rfl (lv_at hl 1 rfl) ?_
    refine va_get (D := D) (cl := vwCl) (ci := 6) (v := .ref (r 25)) (C := RX7) (T := TX7) (N := 35) hx hb hts (fun _ h => List.mem_cons_of_mem _ (List.mem_append_right _ h)) hown hK hP 0 rfl rfl 29 (by decide) (hts (.fieldLink RX7 90 "CheapHoursModel" "levelPrice" "[I") (by decide +kernel)) (fun _ h9 => h9) rfl dX7_state_38 ?_
    refine lv_iload_n hx hb dX7_state_41 rfl (lv_at hl 4 rfl) ?_
    refine n_iald (D := D) (cl := vwCl) (x := lx) hx hb hK hP 2 0 (f := lp) rfl rfl (by omega) (Nat.le_of_ble_eq_true rfl) dX7_state_42 ?_
    refine lv_istore (lv' := [(8, .int (lp lx)), (7, .int (nI (tn (h0 + 1) w lx))), (0, .ref a), (1, .int (nI (h0 + 1))), (2, .int (nI w)), (3, .int (nI lx)), (4, .long (pw 10 (h0 + 1))), (6, .int cap)]) hx hb dX7_state_43 hl (by decide) rfl (fun ls hl => ?_)
    refine lv_aload_n hx hb dX7_state_45 rfl (lv_at hl 2 rfl) ?_
    refine lv_iload_n hx hb dX7_state_46 rfl (lv_at hl 3 rfl) ?_
    refine lv_iload_n hx hb dX7_state_47 rfl (lv_at hl 4 rfl) ?_
    refine lv_iconst (v := 1) hx hb dX7_state_48 (by decide) ?_
    refine n_isub (x := w) (y := 1) hx hb dX7_state_49 (by omega) ?_
    refine lv_iload_n hx hb dX7_state_50 rfl (lv_at hl 5 rfl) ?_
    refine roVl (As := [.int (nI (h0 + 1)), .int (nI (w - 1)), .int (nI lx)]) (rest := []) ⟨hx, hb, hml, hown, hts⟩ (c_X7_next l D cI cL cZ cO a r now full jobs pr R lp ch (vp_updL me (tn (h0 + 1) w lx) 0) (upd ru (tn (h0 + 1) w lx) 0) (upd wo (tn (h0 + 1) w lx) 0) co L (h0 + 1) (w - 1) lx hL (by omega) (by omega) hl9) (cwV 3 hts gX7_state_X7_next rfl rfl rfl (by decide +kernel) ⟨Nat.le_of_ble_eq_true rfl, Nat.le_of_ble_eq_true rfl⟩) hO hP (va_recv hK hP (ci := 6) (q0 := 0) rfl rfl) rfl hl.1 rfl (Nat.le_of_ble_eq_true rfl) dX7_state_51 ⟨Nat.le_of_ble_eq_true rfl, Nat.le_of_ble_eq_true rfl⟩ (fun r_51 e_51 => ?_)
    obtain rfl : r_51 = nxS ch (fun k => (vp_updL me (tn (h0 + 1) w lx) 0) (tn ((h0 + 1) - 1) (w - 1) k)) lx L := e_51
    refine lv_setl (v := nxS ch (fun k => (tb L lp ch full cap h0 (w - 1) k).1) lx L) (nx_tb hL hh hw hl9 hg (by omega) 0) ?_
    refine lv_lstore (lv' := [(9, .long (nxS ch (fun k => (tb L lp ch full cap h0 (w - 1) k).1) lx L)), (8, .int (lp lx)), (7, .int (nI (tn (h0 + 1) w lx))), (0, .ref a), (1, .int (nI (h0 + 1))), (2, .int (nI w)), (3, .int (nI lx)), (4, .long (pw 10 (h0 + 1))), (6, .int cap)]) hx hb dX7_state_54 hl (by decide) rfl (fun ls hl => ?_)
    have J110 : ∀ (rl : Int32) (H : Heap) (locs : List Loc) (ls : Array Slot), (rl = tbRule (lp lx) full cap (pw 10 (h0 + 1)) (nxS ch (fun k => (tb L lp ch full cap h0 (w - 1) k).1) lx L) (nxS ch (fun k => (tb L lp ch full cap h0 w k).1) lx L) (h0 + 1) w) → va_P D vwCl (wM cI cL cZ a r now full jobs (nI L) pr R lp ch (vp_updL me (tn (h0 + 1) w lx) 0) (upd ru (tn (h0 + 1) w lx) 0) (upd wo (tn (h0 + 1) w lx) 0) co) H → va_D A (wM cI cL cZ a r now full jobs (nI L) pr R lp ch (vp_updL me (tn (h0 + 1) w lx) 0) (upd ru (tn (h0 + 1) w lx) 0) (upd wo (tn (h0 + 1) w lx) 0) co) → va_S A s.heap H locs → lv_has ls 13 [(0, .ref a), (1, .int (nI (h0 + 1))), (2, .int (nI w)), (3, .int (nI lx)), (4, .long (pw 10 (h0 + 1))), (6, .int cap), (7, .int (nI (tn (h0 + 1) w lx))), (8, .int (lp lx)), (9, .long (nxS ch (fun k => (tb L lp ch full cap h0 (w - 1) k).1) lx L))] → W p l e (headSpec wsX7_state ({ frames := 3, cells := 0, slots := 0, locals := 79 } : Room)).room s m ([.ref a, .int (nI (h0 + 1)), .int (nI w), .int (nI lx), .long (pw 10 (h0 + 1)), .int cap] : List Value).toArray below meth c H locs 0 0 QQ (F0 m 110 ls [.int rl]) := by
      intro rl H locs ls hrl hP hD hS hl
      refine lv_istore (lv' := [(11, .int rl), (0, .ref a), (1, .int (nI (h0 + 1))), (2, .int (nI w)), (3, .int (nI lx)), (4, .long (pw 10 (h0 + 1))), (6, .int cap), (7, .int (nI (tn (h0 + 1) w lx))), (8, .int (lp lx)), (9, .long (nxS ch (fun k => (tb L lp ch full cap h0 (w - 1) k).1) lx L))]) hx hb dX7_state_110 hl (by decide) rfl (fun ls hl => ?_)
      refine lv_aload_n hx hb dX7_state_112 rfl (lv_at hl 1 rfl) ?_
      refine va_get (D := D) (cl := vwCl) (ci := 6) (v := .ref (r 28)) (C := RX7) (T := TX7) (N := 35) hx hb hts (fun _ h => List.mem_cons_of_mem _ (List.mem_append_right _ h)) hown hK hP 0 rfl rfl 32 (by decide) (hts (.fieldLink RX7 100 "CheapHoursModel" "rules" "[I") (by decide +kernel)) (fun _ h9 => h9) rfl dX7_state_113 ?_
      refine lv_iload hx hb dX7_state_116 (lv_at hl 7 rfl) ?_
      refine lv_iload hx hb dX7_state_118 (lv_at hl 0 rfl) ?_
      refine n_iast (D := D) (cl := vwCl) (x := (tn (h0 + 1) w lx)) (v := rl) hx hb hK hP hD hS 5 0 (f := (upd ru (tn (h0 + 1) w lx) 0)) rfl rfl (by unfold tn; omega) (Nat.le_of_ble_eq_true rfl) dX7_state_120 (fun H locs hP hD hS => ?_)
      have hP : va_P D vwCl (wM cI cL cZ a r now full jobs (nI L) pr R lp ch (vp_updL me (tn (h0 + 1) w lx) 0) (upd (upd ru (tn (h0 + 1) w lx) 0) (tn (h0 + 1) w lx) rl) (upd wo (tn (h0 + 1) w lx) 0) co) H := hP
      have hD : va_D A (wM cI cL cZ a r now full jobs (nI L) pr R lp ch (vp_updL me (tn (h0 + 1) w lx) 0) (upd (upd ru (tn (h0 + 1) w lx) 0) (tn (h0 + 1) w lx) rl) (upd wo (tn (h0 + 1) w lx) 0) co) := hD
      have J145 : ∀ (py : Int32) (H : Heap) (locs : List Loc) (ls : Array Slot), (py = tbPays (lp lx) full rl) → va_P D vwCl (wM cI cL cZ a r now full jobs (nI L) pr R lp ch (vp_updL me (tn (h0 + 1) w lx) 0) (upd (upd ru (tn (h0 + 1) w lx) 0) (tn (h0 + 1) w lx) rl) (upd wo (tn (h0 + 1) w lx) 0) co) H → va_D A (wM cI cL cZ a r now full jobs (nI L) pr R lp ch (vp_updL me (tn (h0 + 1) w lx) 0) (upd (upd ru (tn (h0 + 1) w lx) 0) (tn (h0 + 1) w lx) rl) (upd wo (tn (h0 + 1) w lx) 0) co) → va_S A s.heap H locs → lv_has ls 13 [(11, .int rl), (0, .ref a), (1, .int (nI (h0 + 1))), (2, .int (nI w)), (3, .int (nI lx)), (4, .long (pw 10 (h0 + 1))), (6, .int cap), (7, .int (nI (tn (h0 + 1) w lx))), (8, .int (lp lx)), (9, .long (nxS ch (fun k => (tb L lp ch full cap h0 (w - 1) k).1) lx L))] → W p l e (headSpec wsX7_state ({ frames := 3, cells := 0, slots := 0, locals := 79 } : Room)).room s m ([.ref a, .int (nI (h0 + 1)), .int (nI w), .int (nI lx), .long (pw 10 (h0 + 1)), .int cap] : List Value).toArray below meth c H locs 0 0 QQ (F0 m 145 ls [.int py]) := by
        intro py H locs ls hpy hP hD hS hl
        refine lv_istore (lv' := [(12, .int py), (11, .int rl), (0, .ref a), (1, .int (nI (h0 + 1))), (2, .int (nI w)), (3, .int (nI lx)), (4, .long (pw 10 (h0 + 1))), (6, .int cap), (7, .int (nI (tn (h0 + 1) w lx))), (8, .int (lp lx)), (9, .long (nxS ch (fun k => (tb L lp ch full cap h0 (w - 1) k).1) lx L))]) hx hb dX7_state_145 hl (by decide) rfl (fun ls hl => ?_)
        refine lv_aload_n hx hb dX7_state_147 rfl (lv_at hl 2 rfl) ?_
        refine va_get (D := D) (cl := vwCl) (ci := 6) (v := .ref (r 27)) (C := RX7) (T := TX7) (N := 35) hx hb hts (fun _ h => List.mem_cons_of_mem _ (List.mem_append_right _ h)) hown hK hP 0 rfl rfl 31 (by decide) (hts (.fieldLink RX7 96 "CheapHoursModel" "means" "[J") (by decide +kernel)) (fun _ h9 => h9) rfl dX7_state_148 ?_
        refine lv_iload hx hb dX7_state_151 (lv_at hl 8 rfl) ?_
        refine lv_iload hx hb dX7_state_153 (lv_at hl 1 rfl) ?_
        refine lv_if_ne (tgt := 168) hx hb dX7_state_155 (by decide) (fun c_155 => ?_) (fun c_155 => ?_)
        · skip
          refine lv_iload hx hb dX7_state_168 (lv_at hl 0 rfl) ?_
          refine lv_i2l (v := py.toInt64) hx hb dX7_state_170 rfl ?_
          refine lv_lload hx hb dX7_state_171 (lv_at hl 6 rfl) ?_
          refine lv_lmul hx hb dX7_state_173 ?_
          refine lv_lload hx hb dX7_state_174 (lv_at hl 10 rfl) ?_
          refine lv_ladd hx hb dX7_state_176 ?_
          refine n_last (D := D) (cl := vwCl) (x := (tn (h0 + 1) w lx)) (v := ((py.toInt64 * (pw 10 (h0 + 1))) + (nxS ch (fun k => (tb L lp ch full cap h0 (w - 1) k).1) lx L))) hx hb hK hP hD hS 4 1 (f := (vp_updL me (tn (h0 + 1) w lx) 0)) rfl rfl (by unfold tn; omega) (Nat.le_of_ble_eq_true rfl) dX7_state_177 (fun H locs hP hD hS => ?_)
          have hP : va_P D vwCl (wM cI cL cZ a r now full jobs (nI L) pr R lp ch (vp_updL (vp_updL me (tn (h0 + 1) w lx) 0) (tn (h0 + 1) w lx) ((py.toInt64 * (pw 10 (h0 + 1))) + (nxS ch (fun k => (tb L lp ch full cap h0 (w - 1) k).1) lx L))) (upd (upd ru (tn (h0 + 1) w lx) 0) (tn (h0 + 1) w lx) rl) (upd wo (tn (h0 + 1) w lx) 0) co) H := hP
          have hD : va_D A (wM cI cL cZ a r now full jobs (nI L) pr R lp ch (vp_updL (vp_updL me (tn (h0 + 1) w lx) 0) (tn (h0 + 1) w lx) ((py.toInt64 * (pw 10 (h0 + 1))) + (nxS ch (fun k => (tb L lp ch full cap h0 (w - 1) k).1) lx L))) (upd (upd ru (tn (h0 + 1) w lx) 0) (tn (h0 + 1) w lx) rl) (upd wo (tn (h0 + 1) w lx) 0) co) := hD
          refine lv_aload_n hx hb dX7_state_178 rfl (lv_at hl 2 rfl) ?_
          refine va_get (D := D) (cl := vwCl) (ci := 6) (v := .ref (r 29)) (C := RX7) (T := TX7) (N := 35) hx hb hts (fun _ h => List.mem_cons_of_mem _ (List.mem_append_right _ h)) hown hK hP 0 rfl rfl 33 (by decide) (hts (.fieldLink RX7 103 "CheapHoursModel" "worsts" "[I") (by decide +kernel)) (fun _ h9 => h9) rfl dX7_state_179 ?_
          refine lv_iload hx hb dX7_state_182 (lv_at hl 8 rfl) ?_
          refine lv_iload hx hb dX7_state_184 (lv_at hl 0 rfl) ?_
          refine lv_aload_n hx hb dX7_state_186 rfl (lv_at hl 2 rfl) ?_
          refine lv_iload_n hx hb dX7_state_187 rfl (lv_at hl 3 rfl) ?_
          refine lv_iload hx hb dX7_state_188 (lv_at hl 1 rfl) ?_
          refine lv_if_ne (tgt := 197) hx hb dX7_state_190 (by decide) (fun c_190 => ?_) (fun c_190 => ?_)
          · skip
            refine lv_iload_n hx hb dX7_state_197 rfl (lv_at hl 4 rfl) ?_
            refine lv_iconst (v := 1) hx hb dX7_state_198 (by decide) ?_
            refine n_isub (x := w) (y := 1) hx hb dX7_state_199 (by omega) ?_
            refine lv_iload_n hx hb dX7_state_200 rfl (lv_at hl 5 rfl) ?_
            refine roVi (As := [.int (nI (h0 + 1)), .int (nI (w - 1)), .int (nI lx)]) (rest := [.int py, .int (nI (tn (h0 + 1) w lx)), .ref (r 29)]) ⟨hx, hb, hml, hown, hts⟩ (c_X7_worstNext l D cI cL cZ cO a r now full jobs pr R lp ch (vp_updL (vp_updL me (tn (h0 + 1) w lx) 0) (tn (h0 + 1) w lx) ((py.toInt64 * (pw 10 (h0 + 1))) + (nxS ch (fun k => (tb L lp ch full cap h0 (w - 1) k).1) lx L))) (upd (upd ru (tn (h0 + 1) w lx) 0) (tn (h0 + 1) w lx) rl) (upd wo (tn (h0 + 1) w lx) 0) co L (h0 + 1) (w - 1) lx hL (by omega) (by omega) hl9) (cwV 3 hts gX7_state_X7_worstNext rfl rfl rfl (by decide +kernel) ⟨Nat.le_of_ble_eq_true rfl, Nat.le_of_ble_eq_true rfl⟩) hO hP (va_recv hK hP (ci := 6) (q0 := 0) rfl rfl) rfl hl.1 rfl (Nat.le_of_ble_eq_true rfl) dX7_state_201 ⟨Nat.le_of_ble_eq_true rfl, Nat.le_of_ble_eq_true rfl⟩ (fun r_201 e_201 => ?_)
            obtain rfl : r_201 = gwS ch (fun k => (upd wo (tn (h0 + 1) w lx) 0) (tn ((h0 + 1) - 1) (w - 1) k)) lx L := e_201
            refine lv_iadd hx hb dX7_state_204 ?_
            refine n_iast (D := D) (cl := vwCl) (x := (tn (h0 + 1) w lx)) (v := (py + (gwS ch (fun k => (upd wo (tn (h0 + 1) w lx) 0) (tn ((h0 + 1) - 1) (w - 1) k)) lx L))) hx hb hK hP hD hS 6 0 (f := (upd wo (tn (h0 + 1) w lx) 0)) rfl rfl (by unfold tn; omega) (Nat.le_of_ble_eq_true rfl) dX7_state_205 (fun H locs hP hD hS => ?_)
            have hP : va_P D vwCl (wM cI cL cZ a r now full jobs (nI L) pr R lp ch (vp_updL (vp_updL me (tn (h0 + 1) w lx) 0) (tn (h0 + 1) w lx) ((py.toInt64 * (pw 10 (h0 + 1))) + (nxS ch (fun k => (tb L lp ch full cap h0 (w - 1) k).1) lx L))) (upd (upd ru (tn (h0 + 1) w lx) 0) (tn (h0 + 1) w lx) rl) (upd (upd wo (tn (h0 + 1) w lx) 0) (tn (h0 + 1) w lx) (py + (gwS ch (fun k => (upd wo (tn (h0 + 1) w lx) 0) (tn ((h0 + 1) - 1) (w - 1) k)) lx L))) co) H := hP
            have hD : va_D A (wM cI cL cZ a r now full jobs (nI L) pr R lp ch (vp_updL (vp_updL me (tn (h0 + 1) w lx) 0) (tn (h0 + 1) w lx) ((py.toInt64 * (pw 10 (h0 + 1))) + (nxS ch (fun k => (tb L lp ch full cap h0 (w - 1) k).1) lx L))) (upd (upd ru (tn (h0 + 1) w lx) 0) (tn (h0 + 1) w lx) rl) (upd (upd wo (tn (h0 + 1) w lx) 0) (tn (h0 + 1) w lx) (py + (gwS ch (fun k => (upd wo (tn (h0 + 1) w lx) 0) (tn ((h0 + 1) - 1) (w - 1) k)) lx L))) co) := hD
            have hT : tb L lp ch full cap (h0 + 1) w lx = (tbMean (lp lx) full (tbRule (lp lx) full cap (pw 10 (h0 + 1)) (nxS ch (fun k => (tb L lp ch full cap h0 (w - 1) k).1) lx L) (nxS ch (fun k => (tb L lp ch full cap h0 w k).1) lx L) (h0 + 1) w) (pw 10 (h0 + 1)) (nxS ch (fun k => (tb L lp ch full cap h0 (w - 1) k).1) lx L) (nxS ch (fun k => (tb L lp ch full cap h0 w k).1) lx L), tbRule (lp lx) full cap (pw 10 (h0 + 1)) (nxS ch (fun k => (tb L lp ch full cap h0 (w - 1) k).1) lx L) (nxS ch (fun k => (tb L lp ch full cap h0 w k).1) lx L) (h0 + 1) w, tbPays (lp lx) full (tbRule (lp lx) full cap (pw 10 (h0 + 1)) (nxS ch (fun k => (tb L lp ch full cap h0 (w - 1) k).1) lx L) (nxS ch (fun k => (tb L lp ch full cap h0 w k).1) lx L) (h0 + 1) w) + gwS ch (fun k => (tb L lp ch full cap h0 (if tbRule (lp lx) full cap (pw 10 (h0 + 1)) (nxS ch (fun k => (tb L lp ch full cap h0 (w - 1) k).1) lx L) (nxS ch (fun k => (tb L lp ch full cap h0 w k).1) lx L) (h0 + 1) w = 0 then w else w - 1) k).2.2) lx L) := by
              rw [tb, if_neg (by omega)]
            rw [← hrl, ← hpy] at hT
            have hw9 : wM cI cL cZ a r now full jobs (nI L) pr R lp ch (vp_updL me (tn (h0 + 1) w lx) (tb L lp ch full cap (h0 + 1) w lx).1) (upd ru (tn (h0 + 1) w lx) (tb L lp ch full cap (h0 + 1) w lx).2.1) (upd wo (tn (h0 + 1) w lx) (tb L lp ch full cap (h0 + 1) w lx).2.2) co = wM cI cL cZ a r now full jobs (nI L) pr R lp ch (vp_updL (vp_updL me (tn (h0 + 1) w lx) 0) (tn (h0 + 1) w lx) ((py.toInt64 * (pw 10 (h0 + 1))) + (nxS ch (fun k => (tb L lp ch full cap h0 (w - 1) k).1) lx L))) (upd (upd ru (tn (h0 + 1) w lx) 0) (tn (h0 + 1) w lx) rl) (upd (upd wo (tn (h0 + 1) w lx) 0) (tn (h0 + 1) w lx) (py + (gwS ch (fun k => (upd wo (tn (h0 + 1) w lx) 0) (tn ((h0 + 1) - 1) (w - 1) k)) lx L))) co := by
              rw [hT]; simp only [tbMean, ← hpy, if_neg c_155, updL_uu, upd_uu]
              rw [← gw_tb hL hh hw hl9 hg (show (w - 1) ≤ h0 by omega) 0]
              rfl
            rw [← hw9] at hP hD
            rw [← hQQ]
            exact W.vret hx hb hr (fun t9 ht9 hW9 => ⟨⟨(), rfl, trivial, by rw [ht9]; exact hP, hD⟩, hS.F ht9⟩) hS.2.2 dX7_state_206
          · skip
            exact absurd c_190 c_155
        · skip
          have hwh : w < h0 + 1 := tbRule_0 (hrl ▸ c_155)
          refine lv_aload_n hx hb dX7_state_158 rfl (lv_at hl 2 rfl) ?_
          refine lv_iload_n hx hb dX7_state_159 rfl (lv_at hl 3 rfl) ?_
          refine lv_iload_n hx hb dX7_state_160 rfl (lv_at hl 4 rfl) ?_
          refine lv_iload_n hx hb dX7_state_161 rfl (lv_at hl 5 rfl) ?_
          refine roVl (As := [.int (nI (h0 + 1)), .int (nI w), .int (nI lx)]) (rest := [.int (nI (tn (h0 + 1) w lx)), .ref (r 27)]) ⟨hx, hb, hml, hown, hts⟩ (c_X7_next l D cI cL cZ cO a r now full jobs pr R lp ch (vp_updL me (tn (h0 + 1) w lx) 0) (upd (upd ru (tn (h0 + 1) w lx) 0) (tn (h0 + 1) w lx) rl) (upd wo (tn (h0 + 1) w lx) 0) co L (h0 + 1) w lx hL (by omega) (by omega) hl9) (cwV 3 hts gX7_state_X7_next rfl rfl rfl (by decide +kernel) ⟨Nat.le_of_ble_eq_true rfl, Nat.le_of_ble_eq_true rfl⟩) hO hP (va_recv hK hP (ci := 6) (q0 := 0) rfl rfl) rfl hl.1 rfl (Nat.le_of_ble_eq_true rfl) dX7_state_162 ⟨Nat.le_of_ble_eq_true rfl, Nat.le_of_ble_eq_true rfl⟩ (fun r_162 e_162 => ?_)
          obtain rfl : r_162 = nxS ch (fun k => (vp_updL me (tn (h0 + 1) w lx) 0) (tn ((h0 + 1) - 1) w k)) lx L := e_162
          refine lv_setl (v := nxS ch (fun k => (tb L lp ch full cap h0 w k).1) lx L) (nx_tb hL hh hw hl9 hg (by omega) 0) ?_
          refine lv_goto (tgt := 177) hx hb dX7_state_165 (by decide) ?_
          refine n_last (D := D) (cl := vwCl) (x := (tn (h0 + 1) w lx)) (v := (nxS ch (fun k => (tb L lp ch full cap h0 w k).1) lx L)) hx hb hK hP hD hS 4 1 (f := (vp_updL me (tn (h0 + 1) w lx) 0)) rfl rfl (by unfold tn; omega) (Nat.le_of_ble_eq_true rfl) dX7_state_177 (fun H locs hP hD hS => ?_)
          have hP : va_P D vwCl (wM cI cL cZ a r now full jobs (nI L) pr R lp ch (vp_updL (vp_updL me (tn (h0 + 1) w lx) 0) (tn (h0 + 1) w lx) (nxS ch (fun k => (tb L lp ch full cap h0 w k).1) lx L)) (upd (upd ru (tn (h0 + 1) w lx) 0) (tn (h0 + 1) w lx) rl) (upd wo (tn (h0 + 1) w lx) 0) co) H := hP
          have hD : va_D A (wM cI cL cZ a r now full jobs (nI L) pr R lp ch (vp_updL (vp_updL me (tn (h0 + 1) w lx) 0) (tn (h0 + 1) w lx) (nxS ch (fun k => (tb L lp ch full cap h0 w k).1) lx L)) (upd (upd ru (tn (h0 + 1) w lx) 0) (tn (h0 + 1) w lx) rl) (upd wo (tn (h0 + 1) w lx) 0) co) := hD
          refine lv_aload_n hx hb dX7_state_178 rfl (lv_at hl 2 rfl) ?_
          refine va_get (D := D) (cl := vwCl) (ci := 6) (v := .ref (r 29)) (C := RX7) (T := TX7) (N := 35) hx hb hts (fun _ h => List.mem_cons_of_mem _ (List.mem_append_right _ h)) hown hK hP 0 rfl rfl 33 (by decide) (hts (.fieldLink RX7 103 "CheapHoursModel" "worsts" "[I") (by decide +kernel)) (fun _ h9 => h9) rfl dX7_state_179 ?_
          refine lv_iload hx hb dX7_state_182 (lv_at hl 8 rfl) ?_
          refine lv_iload hx hb dX7_state_184 (lv_at hl 0 rfl) ?_
          refine lv_aload_n hx hb dX7_state_186 rfl (lv_at hl 2 rfl) ?_
          refine lv_iload_n hx hb dX7_state_187 rfl (lv_at hl 3 rfl) ?_
          refine lv_iload hx hb dX7_state_188 (lv_at hl 1 rfl) ?_
          refine lv_if_ne (tgt := 197) hx hb dX7_state_190 (by decide) (fun c_190 => ?_) (fun c_190 => ?_)
          · skip
            exact absurd c_155 c_190
          · skip
            refine lv_iload_n hx hb dX7_state_193 rfl (lv_at hl 4 rfl) ?_
            refine lv_goto (tgt := 200) hx hb dX7_state_194 (by decide) ?_
            refine lv_iload_n hx hb dX7_state_200 rfl (lv_at hl 5 rfl) ?_
            refine roVi (As := [.int (nI (h0 + 1)), .int (nI w), .int (nI lx)]) (rest := [.int py, .int (nI (tn (h0 + 1) w lx)), .ref (r 29)]) ⟨hx, hb, hml, hown, hts⟩ (c_X7_worstNext l D cI cL cZ cO a r now full jobs pr R lp ch (vp_updL (vp_updL me (tn (h0 + 1) w lx) 0) (tn (h0 + 1) w lx) (nxS ch (fun k => (tb L lp ch full cap h0 w k).1) lx L)) (upd (upd ru (tn (h0 + 1) w lx) 0) (tn (h0 + 1) w lx) rl) (upd wo (tn (h0 + 1) w lx) 0) co L (h0 + 1) w lx hL (by omega) (by omega) hl9) (cwV 3 hts gX7_state_X7_worstNext rfl rfl rfl (by decide +kernel) ⟨Nat.le_of_ble_eq_true rfl, Nat.le_of_ble_eq_true rfl⟩) hO hP (va_recv hK hP (ci := 6) (q0 := 0) rfl rfl) rfl hl.1 rfl (Nat.le_of_ble_eq_true rfl) dX7_state_201 ⟨Nat.le_of_ble_eq_true rfl, Nat.le_of_ble_eq_true rfl⟩ (fun r_201 e_201 => ?_)
            obtain rfl : r_201 = gwS ch (fun k => (upd wo (tn (h0 + 1) w lx) 0) (tn ((h0 + 1) - 1) w k)) lx L := e_201
            refine lv_iadd hx hb dX7_state_204 ?_
            refine n_iast (D := D) (cl := vwCl) (x := (tn (h0 + 1) w lx)) (v := (py + (gwS ch (fun k => (upd wo (tn (h0 + 1) w lx) 0) (tn ((h0 + 1) - 1) w k)) lx L))) hx hb hK hP hD hS 6 0 (f := (upd wo (tn (h0 + 1) w lx) 0)) rfl rfl (by unfold tn; omega) (Nat.le_of_ble_eq_true rfl) dX7_state_205 (fun H locs hP hD hS => ?_)
            have hP : va_P D vwCl (wM cI cL cZ a r now full jobs (nI L) pr R lp ch (vp_updL (vp_updL me (tn (h0 + 1) w lx) 0) (tn (h0 + 1) w lx) (nxS ch (fun k => (tb L lp ch full cap h0 w k).1) lx L)) (upd (upd ru (tn (h0 + 1) w lx) 0) (tn (h0 + 1) w lx) rl) (upd (upd wo (tn (h0 + 1) w lx) 0) (tn (h0 + 1) w lx) (py + (gwS ch (fun k => (upd wo (tn (h0 + 1) w lx) 0) (tn ((h0 + 1) - 1) w k)) lx L))) co) H := hP
            have hD : va_D A (wM cI cL cZ a r now full jobs (nI L) pr R lp ch (vp_updL (vp_updL me (tn (h0 + 1) w lx) 0) (tn (h0 + 1) w lx) (nxS ch (fun k => (tb L lp ch full cap h0 w k).1) lx L)) (upd (upd ru (tn (h0 + 1) w lx) 0) (tn (h0 + 1) w lx) rl) (upd (upd wo (tn (h0 + 1) w lx) 0) (tn (h0 + 1) w lx) (py + (gwS ch (fun k => (upd wo (tn (h0 + 1) w lx) 0) (tn ((h0 + 1) - 1) w k)) lx L))) co) := hD
            have hT : tb L lp ch full cap (h0 + 1) w lx = (tbMean (lp lx) full (tbRule (lp lx) full cap (pw 10 (h0 + 1)) (nxS ch (fun k => (tb L lp ch full cap h0 (w - 1) k).1) lx L) (nxS ch (fun k => (tb L lp ch full cap h0 w k).1) lx L) (h0 + 1) w) (pw 10 (h0 + 1)) (nxS ch (fun k => (tb L lp ch full cap h0 (w - 1) k).1) lx L) (nxS ch (fun k => (tb L lp ch full cap h0 w k).1) lx L), tbRule (lp lx) full cap (pw 10 (h0 + 1)) (nxS ch (fun k => (tb L lp ch full cap h0 (w - 1) k).1) lx L) (nxS ch (fun k => (tb L lp ch full cap h0 w k).1) lx L) (h0 + 1) w, tbPays (lp lx) full (tbRule (lp lx) full cap (pw 10 (h0 + 1)) (nxS ch (fun k => (tb L lp ch full cap h0 (w - 1) k).1) lx L) (nxS ch (fun k => (tb L lp ch full cap h0 w k).1) lx L) (h0 + 1) w) + gwS ch (fun k => (tb L lp ch full cap h0 (if tbRule (lp lx) full cap (pw 10 (h0 + 1)) (nxS ch (fun k => (tb L lp ch full cap h0 (w - 1) k).1) lx L) (nxS ch (fun k => (tb L lp ch full cap h0 w k).1) lx L) (h0 + 1) w = 0 then w else w - 1) k).2.2) lx L) := by
              rw [tb, if_neg (by omega)]
            rw [← hrl, ← hpy] at hT
            have hw9 : wM cI cL cZ a r now full jobs (nI L) pr R lp ch (vp_updL me (tn (h0 + 1) w lx) (tb L lp ch full cap (h0 + 1) w lx).1) (upd ru (tn (h0 + 1) w lx) (tb L lp ch full cap (h0 + 1) w lx).2.1) (upd wo (tn (h0 + 1) w lx) (tb L lp ch full cap (h0 + 1) w lx).2.2) co = wM cI cL cZ a r now full jobs (nI L) pr R lp ch (vp_updL (vp_updL me (tn (h0 + 1) w lx) 0) (tn (h0 + 1) w lx) (nxS ch (fun k => (tb L lp ch full cap h0 w k).1) lx L)) (upd (upd ru (tn (h0 + 1) w lx) 0) (tn (h0 + 1) w lx) rl) (upd (upd wo (tn (h0 + 1) w lx) 0) (tn (h0 + 1) w lx) (py + (gwS ch (fun k => (upd wo (tn (h0 + 1) w lx) 0) (tn ((h0 + 1) - 1) w k)) lx L))) co := by
              rw [hT]; simp only [tbMean, ← hpy, if_pos c_155, updL_uu, upd_uu]
              rw [← gw_tb hL hh hw hl9 hg (show w ≤ h0 by omega) 0]
              rfl
            rw [← hw9] at hP hD
            rw [← hQQ]
            exact W.vret hx hb hr (fun t9 ht9 hW9 => ⟨⟨(), rfl, trivial, by rw [ht9]; exact hP, hD⟩, hS.F ht9⟩) hS.2.2 dX7_state_206
      refine lv_iload hx hb dX7_state_121 (lv_at hl 0 rfl) ?_
      refine lv_if_ne (tgt := 130) hx hb dX7_state_123 (by decide) (fun c_123 => ?_) (fun c_123 => ?_)
      · skip
        refine lv_iload hx hb dX7_state_130 (lv_at hl 0 rfl) ?_
        refine lv_iconst (v := 1) hx hb dX7_state_132 (by decide) ?_
        refine lv_icmp_ne (tgt := 141) hx hb dX7_state_133 (by decide) (fun c_133 => ?_) (fun c_133 => ?_)
        · skip
          refine lv_aload_n hx hb dX7_state_141 rfl (lv_at hl 1 rfl) ?_
          refine va_get (D := D) (cl := vwCl) (ci := 6) (v := .int full) (C := RX7) (T := TX7) (N := 35) hx hb hts (fun _ h => List.mem_cons_of_mem _ (List.mem_append_right _ h)) hown hK hP 0 rfl rfl 1 (by decide) (hts (.fieldLink RX7 7 "CheapHoursModel" "full" "I") (by decide +kernel)) (fun _ h9 => h9) rfl dX7_state_142 ?_
          exact J145 full _ _ _ (by simp only [tbPays, if_neg c_123, if_neg c_133]) hP hD hS (lv_sub hl [0, 1, 2, 3, 4, 5, 6, 7, 8, 9] rfl)
        · skip
          refine lv_iload hx hb dX7_state_136 (lv_at hl 8 rfl) ?_
          refine lv_goto (tgt := 145) hx hb dX7_state_138 (by decide) ?_
          exact J145 (lp lx) _ _ _ (by simp only [tbPays, if_neg c_123, if_pos c_133]) hP hD hS (lv_sub hl [0, 1, 2, 3, 4, 5, 6, 7, 8, 9] rfl)
      · skip
        refine lv_iconst (v := 0) hx hb dX7_state_126 (by decide) ?_
        refine lv_goto (tgt := 145) hx hb dX7_state_127 (by decide) ?_
        exact J145 0 _ _ _ (by simp only [tbPays, if_pos c_123]) hP hD hS (lv_sub hl [0, 1, 2, 3, 4, 5, 6, 7, 8, 9] rfl)
    refine lv_iload hx hb dX7_state_56 (lv_at hl 8 rfl) ?_
    refine lv_iconst (v := (-1)) hx hb dX7_state_58 (by decide) ?_
    refine lv_icmp_ne (tgt := 76) hx hb dX7_state_59 (by decide) (fun c_59 => ?_) (fun c_59 => ?_)
    · skip
      refine lv_iload hx hb dX7_state_76 (lv_at hl 1 rfl) ?_
      refine lv_iload hx hb dX7_state_78 (lv_at hl 8 rfl) ?_
      refine lv_icmp_gt (tgt := 87) hx hb dX7_state_80 (by decide) (fun c_80 => ?_) (fun c_80 => ?_)
      · skip
        refine lv_iload_n hx hb dX7_state_87 rfl (lv_at hl 5 rfl) ?_
        refine lv_iload_n hx hb dX7_state_88 rfl (lv_at hl 4 rfl) ?_
        refine n_icmp_ge (x := w) (y := (h0 + 1)) (tgt := 96) hx hb dX7_state_89 (by decide) (by omega) (by omega) (fun c_89 => ?_) (fun c_89 => ?_)
        · skip
          refine lv_iload hx hb dX7_state_96 (lv_at hl 1 rfl) ?_
          refine lv_aload_n hx hb dX7_state_98 rfl (lv_at hl 3 rfl) ?_
          refine va_get (D := D) (cl := vwCl) (ci := 6) (v := .int full) (C := RX7) (T := TX7) (N := 35) hx hb hts (fun _ h => List.mem_cons_of_mem _ (List.mem_append_right _ h)) hown hK hP 0 rfl rfl 1 (by decide) (hts (.fieldLink RX7 7 "CheapHoursModel" "full" "I") (by decide +kernel)) (fun _ h9 => h9) rfl dX7_state_99 ?_
          refine lv_icmp_gt (tgt := 109) hx hb dX7_state_102 (by decide) (fun c_102 => ?_) (fun c_102 => ?_)
          · skip
            refine lv_iconst (v := 2) hx hb dX7_state_109 (by decide) ?_
            exact J110 2 _ _ _ (by simp only [tbRule, if_neg c_59, if_pos c_80, if_pos c_89, if_pos c_102]) hP hD hS (lv_sub hl [3, 4, 5, 6, 7, 8, 2, 1, 0] rfl)
          · skip
            refine lv_iconst (v := 1) hx hb dX7_state_105 (by decide) ?_
            refine lv_goto (tgt := 110) hx hb dX7_state_106 (by decide) ?_
            exact J110 1 _ _ _ (by simp only [tbRule, if_neg c_59, if_pos c_80, if_pos c_89, if_neg c_102]) hP hD hS (lv_sub hl [3, 4, 5, 6, 7, 8, 2, 1, 0] rfl)
        · skip
          refine lv_iconst (v := 0) hx hb dX7_state_92 (by decide) ?_
          refine lv_goto (tgt := 110) hx hb dX7_state_93 (by decide) ?_
          exact J110 0 _ _ _ (by simp only [tbRule, if_neg c_59, if_pos c_80, if_neg (Nat.not_le.mpr c_89)]) hP hD hS (lv_sub hl [3, 4, 5, 6, 7, 8, 2, 1, 0] rfl)
      · skip
        refine lv_iconst (v := 1) hx hb dX7_state_83 (by decide) ?_
        refine lv_goto (tgt := 110) hx hb dX7_state_84 (by decide) ?_
        exact J110 1 _ _ _ (by simp only [tbRule, if_neg c_59, if_neg c_80]) hP hD hS (lv_sub hl [3, 4, 5, 6, 7, 8, 2, 1, 0] rfl)
    · skip
      refine lv_aload_n hx hb dX7_state_62 rfl (lv_at hl 3 rfl) ?_
      refine lv_iload_n hx hb dX7_state_63 rfl (lv_at hl 4 rfl) ?_
      refine lv_iload_n hx hb dX7_state_64 rfl (lv_at hl 5 rfl) ?_
      refine lv_iload_n hx hb dX7_state_65 rfl (lv_at hl 6 rfl) ?_
      refine lv_lload hx hb dX7_state_66 (lv_at hl 7 rfl) ?_
      refine lv_lload hx hb dX7_state_68 (lv_at hl 0 rfl) ?_
      refine roVi (As := [.int (nI (h0 + 1)), .int (nI w), .int (nI lx), .long (pw 10 (h0 + 1)), .long (nxS ch (fun k => (tb L lp ch full cap h0 (w - 1) k).1) lx L)]) (rest := []) ⟨hx, hb, hml, hown, hts⟩ (c_X7_best l D cI cL cZ cO a r now full jobs pr R lp ch (vp_updL me (tn (h0 + 1) w lx) 0) (upd ru (tn (h0 + 1) w lx) 0) (upd wo (tn (h0 + 1) w lx) 0) co L (h0 + 1) w lx (pw 10 (h0 + 1)) (nxS ch (fun k => (tb L lp ch full cap h0 (w - 1) k).1) lx L) hL (by omega) (by omega) hl9) (cwV 5 hts gX7_state_X7_best rfl rfl rfl (by decide +kernel) ⟨Nat.le_of_ble_eq_true rfl, Nat.le_of_ble_eq_true rfl⟩) hO hP (va_recv hK hP (ci := 6) (q0 := 0) rfl rfl) rfl hl.1 rfl (Nat.le_of_ble_eq_true rfl) dX7_state_70 ⟨Nat.le_of_ble_eq_true rfl, Nat.le_of_ble_eq_true rfl⟩ (fun r_70 e_70 => ?_)
      obtain rfl : r_70 = tbBest ((lp lx).toInt64 * (pw 10 (h0 + 1)) + (nxS ch (fun k => (tb L lp ch full cap h0 (w - 1) k).1) lx L)) (full.toInt64 * (pw 10 (h0 + 1)) + (nxS ch (fun k => (tb L lp ch full cap h0 (w - 1) k).1) lx L)) (nxS ch (fun k => (vp_updL me (tn (h0 + 1) w lx) 0) (tn ((h0 + 1) - 1) w k)) lx L) (h0 + 1) w := e_70
      refine lv_seti (v := tbBest ((lp lx).toInt64 * pw 10 (h0 + 1) + (nxS ch (fun k => (tb L lp ch full cap h0 (w - 1) k).1) lx L)) (full.toInt64 * pw 10 (h0 + 1) + (nxS ch (fun k => (tb L lp ch full cap h0 (w - 1) k).1) lx L)) (nxS ch (fun k => (tb L lp ch full cap h0 w k).1) lx L) (h0 + 1) w) (by rcases Nat.lt_or_ge w (h0 + 1) with q9 | q9; exact congrArg (fun z9 => tbBest _ _ z9 (h0 + 1) w) (nx_tb hL hh hw hl9 hg (by omega) 0); exact tbBest_ge q9) ?_
      refine lv_goto (tgt := 110) hx hb dX7_state_73 (by decide) ?_
      exact J110 (tbBest ((lp lx).toInt64 * pw 10 (h0 + 1) + (nxS ch (fun k => (tb L lp ch full cap h0 (w - 1) k).1) lx L)) (full.toInt64 * pw 10 (h0 + 1) + (nxS ch (fun k => (tb L lp ch full cap h0 (w - 1) k).1) lx L)) (nxS ch (fun k => (tb L lp ch full cap h0 w k).1) lx L) (h0 + 1) w) _ _ _ (by simp only [tbRule, if_pos c_59]) hP hD hS (lv_sub hl [3, 4, 5, 6, 7, 8, 2, 1, 0] rfl)
  · skip
    exact absurd c_33 (by omega)
set_option maxHeartbeats 4000000 in
set_option maxRecDepth 100000 in
theorem c_X7_state (l : Launch) (D : va_G) (cI cL cZ cO : ClassId) (sz : Nat) (a : Nat) (r : Nat → Nat) (now full jobs : Int32) (pr : Nat → Int32) (R : Nat → Nat → Int32) (lp ch : Nat → Int32) (me : Nat → Int64) (ru wo co : Nat → Int32) (L : Nat) (h w lx : Nat) (cap : Int32) (hL : L ≤ 6) (hh : h ≤ 12) (hw : w ≤ h) (hl9 : lx < L) (hg : tGood L lp ch full cap me ru wo h w lx) : Met l yX7_state wsX7_state ({ frames := 3, cells := 0, slots := 0, locals := 79 } : Room) (va_Pc [.ref a, .int (nI h), .int (nI w), .int (nI lx), .long (pw 10 h), .int cap] (Rw D cI cL cZ cO (wM cI cL cZ a r now full jobs (nI L) pr R lp ch me ru wo co) sz)) (va_Qv (fun (u : Unit) => True) (fun (u : Unit) => Wo D (va_A (wM cI cL cZ a r now full jobs (nI L) pr R lp ch me ru wo co) sz) (wM cI cL cZ a r now full jobs (nI L) pr R lp ch (vp_updL me (tn h w lx) (tb L lp ch full cap h w lx).1) (upd ru (tn h w lx) (tb L lp ch full cap h w lx).2.1) (upd wo (tn h w lx) (tb L lp ch full cap h w lx).2.2) co)) (va_A (wM cI cL cZ a r now full jobs (nI L) pr R lp ch me ru wo co) sz)) 0 0 (va_A (wM cI cL cZ a r now full jobs (nI L) pr R lp ch me ru wo co) sz) := by
  rcases Nat.eq_zero_or_pos w with rfl | hw1
  · exact c_X7_state_0 l D cI cL cZ cO sz a r now full jobs pr R lp ch me ru wo co L h lx cap hL hh hl9
  · obtain ⟨h0, rfl⟩ : ∃ h0, h = h0 + 1 := ⟨h - 1, by omega⟩
    exact c_X7_state_s l D cI cL cZ cO sz a r now full jobs pr R lp ch me ru wo co L h0 w lx cap hL hh hw1 hw hl9 hg
set_option maxHeartbeats 4000000 in
set_option maxRecDepth 100000 in
theorem c_X7_makes (l : Launch) (D : va_G) (cI cL cZ cO : ClassId) (sz : Nat) (a : Nat) (r : Nat → Nat) (now full jobs : Int32) (pr : Nat → Int32) (R : Nat → Nat → Int32) (lp ch : Nat → Int32) (me : Nat → Int64) (ru wo co : Nat → Int32) (L : Nat) (mo : Nat) (cap : Int32) (hL : L ≤ 6) (hmo : mo ≤ 12) : Met l yX7_makes wsX7_makes ({ frames := 4, cells := 0, slots := 0, locals := 111 } : Room) (va_Pc [.ref a, .int (nI mo), .int cap] (Rw D cI cL cZ cO (wM cI cL cZ a r now full jobs (nI L) pr R lp ch me ru wo co) sz)) (va_Qv (fun (u : (Nat → Int64) × (Nat → Int32) × (Nat → Int32)) => ∀ h w lx, h ≤ mo → w ≤ h → lx < L → tG L lp ch full cap u.1 u.2.1 u.2.2 h w lx) (fun (u : (Nat → Int64) × (Nat → Int32) × (Nat → Int32)) => Wo D (va_A (wM cI cL cZ a r now full jobs (nI L) pr R lp ch me ru wo co) sz) (wM cI cL cZ a r now full jobs (nI L) pr R lp ch u.1 u.2.1 u.2.2 co)) (va_A (wM cI cL cZ a r now full jobs (nI L) pr R lp ch me ru wo co) sz)) 0 0 (va_A (wM cI cL cZ a r now full jobs (nI L) pr R lp ch me ru wo co) sz) := by
  refine Met.ofW (cc := cX7_makes) (maxL := 8) (ret := none) (by decide) rfl ?_
  intro p e s m args below meth c s₁ B hml hv
  obtain ⟨rfl, hsz, hP, hO, hD0⟩ := hv
  have hx := B.exec
  have hb := B.bytes
  have hr := B.returns
  have hts := atoms_spec (ws := wsX7_makes) B.pre
  have hown : s.vm.findClass RX7 = some m.cls := findClass_of_methodNamed B.named
  have hlocks := B.notSynchronized
  have hK := hO.1
  subst hsz
  have hD := hD0.self (sz := s.heap.size)
  generalize hAe : va_A (wM cI cL cZ a r now full jobs (nI L) pr R lp ch me ru wo co) s.heap.size = A at hD ⊢
  have hA : ∀ q : Nat, s.heap.size ≤ q → A q := fun q h => by rw [← hAe]; exact Or.inr h
  have hS : va_S A s.heap s.heap [] := va_S.rf
  have hl := lv_entry ([.ref a, .int (nI mo), .int cap]) (n := 8) (Nat.le_of_ble_eq_true rfl)
  rw [lg_entry_eq]
  generalize (lg_sl ([.ref a, .int (nI mo), .int cap]) ++ List.replicate (8 - (lg_sl ([.ref a, .int (nI mo), .int cap])).length) Slot.unset).toArray = ls at hl ⊢
  have hl : lv_has ls 8 [(0, .ref a), (1, .int (nI mo)), (2, .int cap)] := hl
  generalize hQQ : MQ below _ _ s _ _ _ = QQ
  refine lv_iconst (v := 0) hx hb dX7_makes_0 (by decide) ?_
  refine lv_istore_n (lv' := [(3, .int 0), (0, .ref a), (1, .int (nI mo)), (2, .int cap)]) hx hb dX7_makes_1 rfl hl (by decide) rfl (fun ls hl => ?_)
  have L2 : ∀ (n0 : Nat) (h : Nat) (me1 : Nat → Int64) (ru1 : Nat → Int32) (wo1 : Nat → Int32) (H : Heap) (locs : List Loc) (ls : Array Slot), mo + 1 - h < n0 → (h ≤ mo + 1) → (tGood L lp ch full cap me1 ru1 wo1 h 0 0) → va_P D vwCl (wM cI cL cZ a r now full jobs (nI L) pr R lp ch me1 ru1 wo1 co) H → va_D A (wM cI cL cZ a r now full jobs (nI L) pr R lp ch me1 ru1 wo1 co) → va_S A s.heap H locs → lv_has ls 8 [(3, .int (nI h)), (0, .ref a), (1, .int (nI mo)), (2, .int cap)] → W p l e (headSpec wsX7_makes ({ frames := 4, cells := 0, slots := 0, locals := 111 } : Room)).room s m ([.ref a, .int (nI mo), .int cap] : List Value).toArray below meth c H locs 0 0 QQ (F0 m 2 ls []) := by
    intro n0
    induction n0 with
    | zero =>
      intro h me1 ru1 wo1 H locs ls hmu
      exact absurd hmu (Nat.not_lt_zero _)
    | succ n0 ih2 =>
      intro h me1 ru1 wo1 H locs ls hmu hh hg hP hD hS hl
      refine lv_iload_n hx hb dX7_makes_2 rfl (lv_at hl 0 rfl) ?_
      refine lv_iload_n hx hb dX7_makes_3 rfl (lv_at hl 2 rfl) ?_
      refine n_icmp_gt (x := h) (y := mo) (tgt := 66) hx hb dX7_makes_4 (by decide) (by omega) (by omega) (fun c_4 => ?_) (fun c_4 => ?_)
      · skip
        rw [← hQQ]
        exact W.vret hx hb hr (fun t9 ht9 hW9 => ⟨⟨(me1, ru1, wo1), rfl, (fun h9 w9 l9 a1 a2 a3 => hg h9 w9 l9 (by omega) a2 a3 (by omega)), by rw [ht9]; exact hP, hD⟩, hS.F ht9⟩) hS.2.2 dX7_makes_66
      · skip
        refine lv_bipush (v := 10) hx hb dX7_makes_7 (by decide) ?_
        refine lv_iload_n hx hb dX7_makes_9 rfl (lv_at hl 0 rfl) ?_
        refine roSl (As := [.int 10, .int (nI h)]) (rest := []) ⟨hx, hb, hml, hown, hts⟩ (c_X7_power l D cI cL cZ cO 10 h (by omega)) (va_cwS 2 hts gX7_makes_X7_power rfl rfl rfl (by decide +kernel) ⟨Nat.le_of_ble_eq_true rfl, Nat.le_of_ble_eq_true rfl⟩) hO (fun k q h => by simp at h) rfl hl.1 rfl (Nat.le_of_ble_eq_true rfl) dX7_makes_10 ⟨Nat.le_of_ble_eq_true rfl, Nat.le_of_ble_eq_true rfl⟩ (fun r_10 e_10 => ?_)
        obtain rfl : r_10 = pw 10 h := e_10
        refine lv_lstore (lv' := [(4, .long (pw 10 h)), (3, .int (nI h)), (0, .ref a), (1, .int (nI mo)), (2, .int cap)]) hx hb dX7_makes_13 hl (by decide) rfl (fun ls hl => ?_)
        refine lv_iconst (v := 0) hx hb dX7_makes_15 (by decide) ?_
        refine lv_istore (lv' := [(6, .int 0), (4, .long (pw 10 h)), (3, .int (nI h)), (0, .ref a), (1, .int (nI mo)), (2, .int cap)]) hx hb dX7_makes_16 hl (by decide) rfl (fun ls hl => ?_)
        have L18 : ∀ (n0 : Nat) (w : Nat) (me1 : Nat → Int64) (ru1 : Nat → Int32) (wo1 : Nat → Int32) (H : Heap) (locs : List Loc) (ls : Array Slot), h + 1 - w < n0 → (w ≤ h + 1) → (tGood L lp ch full cap me1 ru1 wo1 h w 0) → va_P D vwCl (wM cI cL cZ a r now full jobs (nI L) pr R lp ch me1 ru1 wo1 co) H → va_D A (wM cI cL cZ a r now full jobs (nI L) pr R lp ch me1 ru1 wo1 co) → va_S A s.heap H locs → lv_has ls 8 [(6, .int (nI w)), (3, .int (nI h)), (4, .long (pw 10 h)), (0, .ref a), (1, .int (nI mo)), (2, .int cap)] → W p l e (headSpec wsX7_makes ({ frames := 4, cells := 0, slots := 0, locals := 111 } : Room)).room s m ([.ref a, .int (nI mo), .int cap] : List Value).toArray below meth c H locs 0 0 QQ (F0 m 18 ls []) := by
          intro n0
          induction n0 with
          | zero =>
            intro w me1 ru1 wo1 H locs ls hmu
            exact absurd hmu (Nat.not_lt_zero _)
          | succ n0 ih18 =>
            intro w me1 ru1 wo1 H locs ls hmu hw hg2 hP hD hS hl
            refine lv_iload hx hb dX7_makes_18 (lv_at hl 0 rfl) ?_
            refine lv_iload_n hx hb dX7_makes_20 rfl (lv_at hl 1 rfl) ?_
            refine n_icmp_gt (x := w) (y := h) (tgt := 60) hx hb dX7_makes_21 (by decide) (by omega) (by omega) (fun c_21 => ?_) (fun c_21 => ?_)
            · skip
              have hwh : w = h + 1 := by omega
              subst hwh
              refine lv_iinc (v := (nI (h + 1))) (lv' := [(3, .int (nI (h + 1))), (6, .int (nI (h + 1))), (4, .long (pw 10 h)), (0, .ref a), (1, .int (nI mo)), (2, .int cap)]) hx hb dX7_makes_60 hl (k := 1) rfl (nI_add h 1) (by decide) rfl (fun ls hl => ?_)
              refine lv_goto (tgt := 2) hx hb dX7_makes_63 (by decide) ?_
              exact ih2 (h + 1) me1 ru1 wo1 _ _ _ (by omega) (by omega) (tGood_h hg2) hP hD hS (lv_sub hl [0, 3, 4, 5] rfl)
            · skip
              refine lv_iconst (v := 0) hx hb dX7_makes_24 (by decide) ?_
              refine lv_istore (lv' := [(7, .int 0), (6, .int (nI w)), (3, .int (nI h)), (4, .long (pw 10 h)), (0, .ref a), (1, .int (nI mo)), (2, .int cap)]) hx hb dX7_makes_25 hl (by decide) rfl (fun ls hl => ?_)
              have L27 : ∀ (n0 : Nat) (lx : Nat) (me1 : Nat → Int64) (ru1 : Nat → Int32) (wo1 : Nat → Int32) (H : Heap) (locs : List Loc) (ls : Array Slot), L - lx < n0 → (lx ≤ L) → (tGood L lp ch full cap me1 ru1 wo1 h w lx) → va_P D vwCl (wM cI cL cZ a r now full jobs (nI L) pr R lp ch me1 ru1 wo1 co) H → va_D A (wM cI cL cZ a r now full jobs (nI L) pr R lp ch me1 ru1 wo1 co) → va_S A s.heap H locs → lv_has ls 8 [(7, .int (nI lx)), (6, .int (nI w)), (3, .int (nI h)), (4, .long (pw 10 h)), (0, .ref a), (1, .int (nI mo)), (2, .int cap)] → W p l e (headSpec wsX7_makes ({ frames := 4, cells := 0, slots := 0, locals := 111 } : Room)).room s m ([.ref a, .int (nI mo), .int cap] : List Value).toArray below meth c H locs 0 0 QQ (F0 m 27 ls []) := by
                intro n0
                induction n0 with
                | zero =>
                  intro lx me1 ru1 wo1 H locs ls hmu
                  exact absurd hmu (Nat.not_lt_zero _)
                | succ n0 ih27 =>
                  intro lx me1 ru1 wo1 H locs ls hmu hlx hg3 hP hD hS hl
                  refine lv_iload hx hb dX7_makes_27 (lv_at hl 0 rfl) ?_
                  refine lv_aload_n hx hb dX7_makes_29 rfl (lv_at hl 4 rfl) ?_
                  refine va_get (D := D) (cl := vwCl) (ci := 6) (v := .int (nI L)) (C := RX7) (T := TX7) (N := 35) hx hb hts (fun _ h => List.mem_cons_of_mem _ (List.mem_append_right _ h)) hown hK hP 0 rfl rfl 28 (by decide) (hts (.fieldLink RX7 162 "CheapHoursModel" "levels" "I") (List.mem_of_getElem? (i := 1) rfl)) (fun _ h9 => h9) rfl dX7_makes_30 ?_
                  refine n_icmp_ge (x := lx) (y := L) (tgt := 54) hx hb dX7_makes_33 (by decide) (by omega) (by omega) (fun c_33 => ?_) (fun c_33 => ?_)
                  · skip
                    have hlL : lx = L := by omega
                    refine lv_iinc (v := (nI (w + 1))) (lv' := [(6, .int (nI (w + 1))), (7, .int (nI lx)), (3, .int (nI h)), (4, .long (pw 10 h)), (0, .ref a), (1, .int (nI mo)), (2, .int cap)]) hx hb dX7_makes_54 hl (k := 1) rfl (nI_add w 1) (by decide) rfl (fun ls hl => ?_)
                    refine lv_goto (tgt := 18) hx hb dX7_makes_57 (by decide) ?_
                    exact ih18 (w + 1) me1 ru1 wo1 _ _ _ (by omega) (by omega) (tGood_w (hlL ▸ hg3)) hP hD hS (lv_sub hl [0, 2, 3, 4, 5, 6] rfl)
                  · skip
                    refine lv_aload_n hx hb dX7_makes_36 rfl (lv_at hl 4 rfl) ?_
                    refine lv_iload_n hx hb dX7_makes_37 rfl (lv_at hl 2 rfl) ?_
                    refine lv_iload hx hb dX7_makes_38 (lv_at hl 1 rfl) ?_
                    refine lv_iload hx hb dX7_makes_40 (lv_at hl 0 rfl) ?_
                    refine lv_lload hx hb dX7_makes_42 (lv_at hl 3 rfl) ?_
                    refine lv_iload_n hx hb dX7_makes_44 rfl (lv_at hl 6 rfl) ?_
                    refine rwVv (As := [.int (nI h), .int (nI w), .int (nI lx), .long (pw 10 h), .int cap]) (rest := []) ⟨hx, hb, hml, hown, hts⟩ (c_X7_state l D cI cL cZ cO H.size a r now full jobs pr R lp ch me1 ru1 wo1 co L h w lx cap hL (by omega) (by omega) c_33 hg3) (cwV 5 hts gX7_makes_X7_state rfl rfl rfl (by decide +kernel) ⟨Nat.le_of_ble_eq_true rfl, Nat.le_of_ble_eq_true rfl⟩) hO hP hD hS hA (va_recv hK hP (ci := 6) (q0 := 0) rfl rfl) rfl hl.1 rfl (Nat.le_of_ble_eq_true rfl) dX7_makes_45 ⟨Nat.le_of_ble_eq_true rfl, Nat.le_of_ble_eq_true rfl⟩ (fun u_45 H locs e_45 hP hD hS => ?_)
                    have hP : va_P D vwCl (wM cI cL cZ a r now full jobs (nI L) pr R lp ch (vp_updL me1 (tn h w lx) (tb L lp ch full cap h w lx).1) (upd ru1 (tn h w lx) (tb L lp ch full cap h w lx).2.1) (upd wo1 (tn h w lx) (tb L lp ch full cap h w lx).2.2) co) H := hP
                    have hD : va_D A (wM cI cL cZ a r now full jobs (nI L) pr R lp ch (vp_updL me1 (tn h w lx) (tb L lp ch full cap h w lx).1) (upd ru1 (tn h w lx) (tb L lp ch full cap h w lx).2.1) (upd wo1 (tn h w lx) (tb L lp ch full cap h w lx).2.2) co) := hD
                    refine lv_iinc (v := (nI (lx + 1))) (lv' := [(7, .int (nI (lx + 1))), (6, .int (nI w)), (3, .int (nI h)), (4, .long (pw 10 h)), (0, .ref a), (1, .int (nI mo)), (2, .int cap)]) hx hb dX7_makes_48 hl (k := 0) rfl (nI_add lx 1) (by decide) rfl (fun ls hl => ?_)
                    refine lv_goto (tgt := 27) hx hb dX7_makes_51 (by decide) ?_
                    exact ih27 (lx + 1) (vp_updL me1 (tn h w lx) (tb L lp ch full cap h w lx).1) (upd ru1 (tn h w lx) (tb L lp ch full cap h w lx).2.1) (upd wo1 (tn h w lx) (tb L lp ch full cap h w lx).2.2) _ _ _ (by omega) (by omega) (tGood_s hL (by omega) (by omega) c_33 hg3) hP hD hS (lv_sub hl [0, 1, 2, 3, 4, 5, 6] rfl)
              exact L27 _ 0 me1 ru1 wo1 _ _ _ (Nat.lt_succ_self _) (Nat.zero_le _) hg2 hP hD hS (lv_sub hl [0, 1, 2, 3, 4, 5, 6] rfl)
        exact L18 _ 0 me1 ru1 wo1 _ _ _ (Nat.lt_succ_self _) (Nat.zero_le _) hg hP hD hS (lv_sub hl [0, 2, 1, 3, 4, 5] rfl)
  exact L2 _ 0 me ru wo _ _ _ (Nat.lt_succ_self _) (Nat.zero_le _) tGood_0 hP hD hS (lv_sub hl [0, 1, 2, 3] rfl)
set_option maxHeartbeats 4000000 in
set_option maxRecDepth 100000 in
theorem c_X7_table (l : Launch) (D : va_G) (cI cL cZ cO : ClassId) (sz : Nat) (a : Nat) (r : Nat → Nat) (now full jobs : Int32) (pr : Nat → Int32) (R : Nat → Nat → Int32) (lp ch : Nat → Int32) (me : Nat → Int64) (ru wo co : Nat → Int32) (L : Nat) (x y z : Int32) (hL : L ≤ 6) : Met l yX7_table wsX7_table ({ frames := 5, cells := 0, slots := 0, locals := 138 } : Room) (va_Pc [.ref a, .int x, .int y, .int z] (Rw D cI cL cZ cO (wM cI cL cZ a r now full jobs (nI L) pr R lp ch me ru wo co) sz)) (va_Ql (fun (r : Int64) (u : (Nat → Int64) × (Nat → Int32) × (Nat → Int32)) => r = tableV L lp ch full x y z) (fun (u : (Nat → Int64) × (Nat → Int32) × (Nat → Int32)) => Wo D (va_A (wM cI cL cZ a r now full jobs (nI L) pr R lp ch me ru wo co) sz) (wM cI cL cZ a r now full jobs (nI L) pr R lp ch u.1 u.2.1 u.2.2 co)) (va_A (wM cI cL cZ a r now full jobs (nI L) pr R lp ch me ru wo co) sz)) 0 0 (va_A (wM cI cL cZ a r now full jobs (nI L) pr R lp ch me ru wo co) sz) := by
  refine Met.ofW (cc := cX7_table) (maxL := 4) (ret := (some .long)) (by decide) rfl ?_
  intro p e s m args below meth c s₁ B hml hv
  obtain ⟨rfl, hsz, hP, hO, hD0⟩ := hv
  have hx := B.exec
  have hb := B.bytes
  have hr := B.returns
  have hts := atoms_spec (ws := wsX7_table) B.pre
  have hown : s.vm.findClass RX7 = some m.cls := findClass_of_methodNamed B.named
  have hlocks := B.notSynchronized
  have hK := hO.1
  subst hsz
  have hD := hD0.self (sz := s.heap.size)
  generalize hAe : va_A (wM cI cL cZ a r now full jobs (nI L) pr R lp ch me ru wo co) s.heap.size = A at hD ⊢
  have hA : ∀ q : Nat, s.heap.size ≤ q → A q := fun q h => by rw [← hAe]; exact Or.inr h
  have hS : va_S A s.heap s.heap [] := va_S.rf
  have hl := lv_entry ([.ref a, .int x, .int y, .int z]) (n := 4) (Nat.le_of_ble_eq_true rfl)
  rw [lg_entry_eq]
  generalize (lg_sl ([.ref a, .int x, .int y, .int z]) ++ List.replicate (4 - (lg_sl ([.ref a, .int x, .int y, .int z])).length) Slot.unset).toArray = ls at hl ⊢
  have hl : lv_has ls 4 [(0, .ref a), (1, .int x), (2, .int y), (3, .int z)] := hl
  generalize hQQ : MQ below _ _ s _ _ _ = QQ
  refine lv_aload_n hx hb dX7_table_0 rfl (lv_at hl 0 rfl) ?_
  refine lv_iload_n hx hb dX7_table_1 rfl (lv_at hl 1 rfl) ?_
  refine lv_iload_n hx hb dX7_table_2 rfl (lv_at hl 2 rfl) ?_
  refine lv_iload_n hx hb dX7_table_3 rfl (lv_at hl 3 rfl) ?_
  refine roVi (As := [.int x, .int y, .int z]) (rest := []) ⟨hx, hb, hml, hown, hts⟩ (c_X7_isState l D cI cL cZ cO a r now full jobs pr R lp ch me ru wo co L x y z ) (cwV 3 hts gX7_table_X7_isState rfl rfl rfl (by decide +kernel) ⟨Nat.le_of_ble_eq_true rfl, Nat.le_of_ble_eq_true rfl⟩) hO hP (va_recv hK hP (ci := 6) (q0 := 0) rfl rfl) rfl hl.1 rfl (Nat.le_of_ble_eq_true rfl) dX7_table_4 ⟨Nat.le_of_ble_eq_true rfl, Nat.le_of_ble_eq_true rfl⟩ (fun r_4 e_4 => ?_)
  obtain rfl : r_4 = stOk x y z L := e_4
  refine lv_if_ne (tgt := 14) hx hb dX7_table_7 (by decide) (fun c_7 => ?_) (fun c_7 => ?_)
  · skip
    obtain ⟨hh, w, lx, h1, h2, h3, rfl, rfl, rfl⟩ := stOk_nat hL c_7
    refine lv_aload_n hx hb dX7_table_14 rfl (lv_at hl 0 rfl) ?_
    refine lv_iload_n hx hb dX7_table_15 rfl (lv_at hl 1 rfl) ?_
    refine lv_iconst (v := (-1)) hx hb dX7_table_16 (by decide) ?_
    refine rwVv (As := [.int (nI hh), .int (-1)]) (rest := []) ⟨hx, hb, hml, hown, hts⟩ (c_X7_makes l D cI cL cZ cO s.heap.size a r now full jobs pr R lp ch me ru wo co L hh (-1) hL (by omega)) (cwV 2 hts gX7_table_X7_makes rfl rfl rfl (by decide +kernel) ⟨Nat.le_of_ble_eq_true rfl, Nat.le_of_ble_eq_true rfl⟩) hO hP hD hS hA (va_recv hK hP (ci := 6) (q0 := 0) rfl rfl) rfl hl.1 rfl (Nat.le_of_ble_eq_true rfl) dX7_table_17 ⟨Nat.le_of_ble_eq_true rfl, Nat.le_of_ble_eq_true rfl⟩ (fun u_17 H locs e_17 hP hD hS => ?_)
    obtain ⟨me2, ru2, wo2⟩ := u_17
    have hP : va_P D vwCl (wM cI cL cZ a r now full jobs (nI L) pr R lp ch me2 ru2 wo2 co) H := hP
    have hD : va_D A (wM cI cL cZ a r now full jobs (nI L) pr R lp ch me2 ru2 wo2 co) := hD
    refine lv_aload_n hx hb dX7_table_20 rfl (lv_at hl 0 rfl) ?_
    refine va_get (D := D) (cl := vwCl) (ci := 6) (v := .ref (r 27)) (C := RX7) (T := TX7) (N := 35) hx hb hts (fun _ h => List.mem_cons_of_mem _ (List.mem_append_right _ h)) hown hK hP 0 rfl rfl 31 (by decide) (hts (.fieldLink RX7 96 "CheapHoursModel" "means" "[J") (List.mem_of_getElem? (i := 2) rfl)) (fun _ h9 => h9) rfl dX7_table_21 ?_
    refine lv_iload_n hx hb dX7_table_24 rfl (lv_at hl 1 rfl) ?_
    refine lv_iload_n hx hb dX7_table_25 rfl (lv_at hl 2 rfl) ?_
    refine lv_iload_n hx hb dX7_table_26 rfl (lv_at hl 3 rfl) ?_
    refine roSi (As := [.int (nI hh), .int (nI w), .int (nI lx)]) (rest := [.ref (r 27)]) ⟨hx, hb, hml, hown, hts⟩ (c_X7_at l D cI cL cZ cO hh w lx ) (va_cwS 3 hts gX7_table_X7_at rfl rfl rfl (by decide +kernel) ⟨Nat.le_of_ble_eq_true rfl, Nat.le_of_ble_eq_true rfl⟩) hO (fun k q h => by simp at h) rfl hl.1 rfl (Nat.le_of_ble_eq_true rfl) dX7_table_27 ⟨Nat.le_of_ble_eq_true rfl, Nat.le_of_ble_eq_true rfl⟩ (fun r_27 e_27 => ?_)
    obtain rfl : r_27 = nI (tn hh w lx) := e_27
    refine n_lald (D := D) (cl := vwCl) (x := (tn hh w lx)) hx hb hK hP 4 1 (f := me2) rfl rfl (by unfold tn; omega) (Nat.le_of_ble_eq_true rfl) dX7_table_30 ?_
    rw [← hQQ]
    exact W.lret (v := (me2 (tn hh w lx))) hx hb hr (fun t9 ht9 hW9 => ⟨⟨_, (me2, ru2, wo2), rfl, (by rw [tableV, if_neg c_7, nI_clamp (by omega), nI_clamp (by omega), nI_clamp (by omega)]; exact e_17 hh w lx (Nat.le_refl _) h2 h3 |>.1), by rw [ht9]; exact hP, hD⟩, hS.F ht9⟩) hS.2.2 dX7_table_31
  · skip
    refine lv_ldc2 (v := (-1)) hx hb hown (hts (.constantLong RX7 160 (-1)) (List.mem_of_getElem? (i := 1) rfl)) dX7_table_10 ?_
    rw [← hQQ]
    exact W.lret (v := (-1)) hx hb hr (fun t9 ht9 hW9 => ⟨⟨_, (me, ru, wo), rfl, (if_pos c_7).symm, by rw [ht9]; exact hP, hD⟩, hS.F ht9⟩) hS.2.2 dX7_table_13
set_option maxHeartbeats 4000000 in
set_option maxRecDepth 100000 in
theorem c_X7_rule (l : Launch) (D : va_G) (cI cL cZ cO : ClassId) (sz : Nat) (a : Nat) (r : Nat → Nat) (now full jobs : Int32) (pr : Nat → Int32) (R : Nat → Nat → Int32) (lp ch : Nat → Int32) (me : Nat → Int64) (ru wo co : Nat → Int32) (L : Nat) (x y z : Int32) (hL : L ≤ 6) : Met l yX7_rule wsX7_rule ({ frames := 5, cells := 0, slots := 0, locals := 138 } : Room) (va_Pc [.ref a, .int x, .int y, .int z] (Rw D cI cL cZ cO (wM cI cL cZ a r now full jobs (nI L) pr R lp ch me ru wo co) sz)) (va_Qi (fun (r : Int32) (u : (Nat → Int64) × (Nat → Int32) × (Nat → Int32)) => r = ruleV L lp ch full x y z) (fun (u : (Nat → Int64) × (Nat → Int32) × (Nat → Int32)) => Wo D (va_A (wM cI cL cZ a r now full jobs (nI L) pr R lp ch me ru wo co) sz) (wM cI cL cZ a r now full jobs (nI L) pr R lp ch u.1 u.2.1 u.2.2 co)) (va_A (wM cI cL cZ a r now full jobs (nI L) pr R lp ch me ru wo co) sz)) 0 0 (va_A (wM cI cL cZ a r now full jobs (nI L) pr R lp ch me ru wo co) sz) := by
  refine Met.ofW (cc := cX7_rule) (maxL := 4) (ret := (some .int)) (by decide) rfl ?_
  intro p e s m args below meth c s₁ B hml hv
  obtain ⟨rfl, hsz, hP, hO, hD0⟩ := hv
  have hx := B.exec
  have hb := B.bytes
  have hr := B.returns
  have hts := atoms_spec (ws := wsX7_rule) B.pre
  have hown : s.vm.findClass RX7 = some m.cls := findClass_of_methodNamed B.named
  have hlocks := B.notSynchronized
  have hK := hO.1
  subst hsz
  have hD := hD0.self (sz := s.heap.size)
  generalize hAe : va_A (wM cI cL cZ a r now full jobs (nI L) pr R lp ch me ru wo co) s.heap.size = A at hD ⊢
  have hA : ∀ q : Nat, s.heap.size ≤ q → A q := fun q h => by rw [← hAe]; exact Or.inr h
  have hS : va_S A s.heap s.heap [] := va_S.rf
  have hl := lv_entry ([.ref a, .int x, .int y, .int z]) (n := 4) (Nat.le_of_ble_eq_true rfl)
  rw [lg_entry_eq]
  generalize (lg_sl ([.ref a, .int x, .int y, .int z]) ++ List.replicate (4 - (lg_sl ([.ref a, .int x, .int y, .int z])).length) Slot.unset).toArray = ls at hl ⊢
  have hl : lv_has ls 4 [(0, .ref a), (1, .int x), (2, .int y), (3, .int z)] := hl
  generalize hQQ : MQ below _ _ s _ _ _ = QQ
  refine lv_aload_n hx hb dX7_rule_0 rfl (lv_at hl 0 rfl) ?_
  refine lv_iload_n hx hb dX7_rule_1 rfl (lv_at hl 1 rfl) ?_
  refine lv_iload_n hx hb dX7_rule_2 rfl (lv_at hl 2 rfl) ?_
  refine lv_iload_n hx hb dX7_rule_3 rfl (lv_at hl 3 rfl) ?_
  refine roVi (As := [.int x, .int y, .int z]) (rest := []) ⟨hx, hb, hml, hown, hts⟩ (c_X7_isState l D cI cL cZ cO a r now full jobs pr R lp ch me ru wo co L x y z ) (cwV 3 hts gX7_rule_X7_isState rfl rfl rfl (by decide +kernel) ⟨Nat.le_of_ble_eq_true rfl, Nat.le_of_ble_eq_true rfl⟩) hO hP (va_recv hK hP (ci := 6) (q0 := 0) rfl rfl) rfl hl.1 rfl (Nat.le_of_ble_eq_true rfl) dX7_rule_4 ⟨Nat.le_of_ble_eq_true rfl, Nat.le_of_ble_eq_true rfl⟩ (fun r_4 e_4 => ?_)
  obtain rfl : r_4 = stOk x y z L := e_4
  refine lv_if_ne (tgt := 12) hx hb dX7_rule_7 (by decide) (fun c_7 => ?_) (fun c_7 => ?_)
  · skip
    obtain ⟨hh, w, lx, h1, h2, h3, rfl, rfl, rfl⟩ := stOk_nat hL c_7
    refine lv_aload_n hx hb dX7_rule_12 rfl (lv_at hl 0 rfl) ?_
    refine lv_iload_n hx hb dX7_rule_13 rfl (lv_at hl 1 rfl) ?_
    refine lv_iconst (v := (-1)) hx hb dX7_rule_14 (by decide) ?_
    refine rwVv (As := [.int (nI hh), .int (-1)]) (rest := []) ⟨hx, hb, hml, hown, hts⟩ (c_X7_makes l D cI cL cZ cO s.heap.size a r now full jobs pr R lp ch me ru wo co L hh (-1) hL (by omega)) (cwV 2 hts gX7_rule_X7_makes rfl rfl rfl (by decide +kernel) ⟨Nat.le_of_ble_eq_true rfl, Nat.le_of_ble_eq_true rfl⟩) hO hP hD hS hA (va_recv hK hP (ci := 6) (q0 := 0) rfl rfl) rfl hl.1 rfl (Nat.le_of_ble_eq_true rfl) dX7_rule_15 ⟨Nat.le_of_ble_eq_true rfl, Nat.le_of_ble_eq_true rfl⟩ (fun u_15 H locs e_15 hP hD hS => ?_)
    obtain ⟨me2, ru2, wo2⟩ := u_15
    have hP : va_P D vwCl (wM cI cL cZ a r now full jobs (nI L) pr R lp ch me2 ru2 wo2 co) H := hP
    have hD : va_D A (wM cI cL cZ a r now full jobs (nI L) pr R lp ch me2 ru2 wo2 co) := hD
    refine lv_aload_n hx hb dX7_rule_18 rfl (lv_at hl 0 rfl) ?_
    refine va_get (D := D) (cl := vwCl) (ci := 6) (v := .ref (r 28)) (C := RX7) (T := TX7) (N := 35) hx hb hts (fun _ h => List.mem_cons_of_mem _ (List.mem_append_right _ h)) hown hK hP 0 rfl rfl 32 (by decide) (hts (.fieldLink RX7 100 "CheapHoursModel" "rules" "[I") (List.mem_of_getElem? (i := 1) rfl)) (fun _ h9 => h9) rfl dX7_rule_19 ?_
    refine lv_iload_n hx hb dX7_rule_22 rfl (lv_at hl 1 rfl) ?_
    refine lv_iload_n hx hb dX7_rule_23 rfl (lv_at hl 2 rfl) ?_
    refine lv_iload_n hx hb dX7_rule_24 rfl (lv_at hl 3 rfl) ?_
    refine roSi (As := [.int (nI hh), .int (nI w), .int (nI lx)]) (rest := [.ref (r 28)]) ⟨hx, hb, hml, hown, hts⟩ (c_X7_at l D cI cL cZ cO hh w lx ) (va_cwS 3 hts gX7_rule_X7_at rfl rfl rfl (by decide +kernel) ⟨Nat.le_of_ble_eq_true rfl, Nat.le_of_ble_eq_true rfl⟩) hO (fun k q h => by simp at h) rfl hl.1 rfl (Nat.le_of_ble_eq_true rfl) dX7_rule_25 ⟨Nat.le_of_ble_eq_true rfl, Nat.le_of_ble_eq_true rfl⟩ (fun r_25 e_25 => ?_)
    obtain rfl : r_25 = nI (tn hh w lx) := e_25
    refine n_iald (D := D) (cl := vwCl) (x := (tn hh w lx)) hx hb hK hP 5 0 (f := ru2) rfl rfl (by unfold tn; omega) (Nat.le_of_ble_eq_true rfl) dX7_rule_28 ?_
    rw [← hQQ]
    exact W.iret (v := (ru2 (tn hh w lx))) hx hb hr (fun t9 ht9 hW9 => ⟨⟨_, (me2, ru2, wo2), rfl, (by rw [ruleV, if_neg c_7, nI_clamp (by omega), nI_clamp (by omega), nI_clamp (by omega)]; exact (e_15 hh w lx (Nat.le_refl _) h2 h3).2.1), by rw [ht9]; exact hP, hD⟩, hS.F ht9⟩) hS.2.2 dX7_rule_29
  · skip
    refine lv_iconst (v := (-1)) hx hb dX7_rule_10 (by decide) ?_
    rw [← hQQ]
    exact W.iret (v := (-1)) hx hb hr (fun t9 ht9 hW9 => ⟨⟨_, (me, ru, wo), rfl, (if_pos c_7).symm, by rw [ht9]; exact hP, hD⟩, hS.F ht9⟩) hS.2.2 dX7_rule_11
set_option maxHeartbeats 4000000 in
set_option maxRecDepth 100000 in
theorem c_X7_worst (l : Launch) (D : va_G) (cI cL cZ cO : ClassId) (sz : Nat) (a : Nat) (r : Nat → Nat) (now full jobs : Int32) (pr : Nat → Int32) (R : Nat → Nat → Int32) (lp ch : Nat → Int32) (me : Nat → Int64) (ru wo co : Nat → Int32) (L : Nat) (x y z : Int32) (hL : L ≤ 6) : Met l yX7_worst wsX7_worst ({ frames := 5, cells := 0, slots := 0, locals := 138 } : Room) (va_Pc [.ref a, .int x, .int y, .int z] (Rw D cI cL cZ cO (wM cI cL cZ a r now full jobs (nI L) pr R lp ch me ru wo co) sz)) (va_Qi (fun (r : Int32) (u : (Nat → Int64) × (Nat → Int32) × (Nat → Int32)) => r = worstV L lp ch full x y z) (fun (u : (Nat → Int64) × (Nat → Int32) × (Nat → Int32)) => Wo D (va_A (wM cI cL cZ a r now full jobs (nI L) pr R lp ch me ru wo co) sz) (wM cI cL cZ a r now full jobs (nI L) pr R lp ch u.1 u.2.1 u.2.2 co)) (va_A (wM cI cL cZ a r now full jobs (nI L) pr R lp ch me ru wo co) sz)) 0 0 (va_A (wM cI cL cZ a r now full jobs (nI L) pr R lp ch me ru wo co) sz) := by
  refine Met.ofW (cc := cX7_worst) (maxL := 4) (ret := (some .int)) (by decide) rfl ?_
  intro p e s m args below meth c s₁ B hml hv
  obtain ⟨rfl, hsz, hP, hO, hD0⟩ := hv
  have hx := B.exec
  have hb := B.bytes
  have hr := B.returns
  have hts := atoms_spec (ws := wsX7_worst) B.pre
  have hown : s.vm.findClass RX7 = some m.cls := findClass_of_methodNamed B.named
  have hlocks := B.notSynchronized
  have hK := hO.1
  subst hsz
  have hD := hD0.self (sz := s.heap.size)
  generalize hAe : va_A (wM cI cL cZ a r now full jobs (nI L) pr R lp ch me ru wo co) s.heap.size = A at hD ⊢
  have hA : ∀ q : Nat, s.heap.size ≤ q → A q := fun q h => by rw [← hAe]; exact Or.inr h
  have hS : va_S A s.heap s.heap [] := va_S.rf
  have hl := lv_entry ([.ref a, .int x, .int y, .int z]) (n := 4) (Nat.le_of_ble_eq_true rfl)
  rw [lg_entry_eq]
  generalize (lg_sl ([.ref a, .int x, .int y, .int z]) ++ List.replicate (4 - (lg_sl ([.ref a, .int x, .int y, .int z])).length) Slot.unset).toArray = ls at hl ⊢
  have hl : lv_has ls 4 [(0, .ref a), (1, .int x), (2, .int y), (3, .int z)] := hl
  generalize hQQ : MQ below _ _ s _ _ _ = QQ
  refine lv_aload_n hx hb dX7_worst_0 rfl (lv_at hl 0 rfl) ?_
  refine lv_iload_n hx hb dX7_worst_1 rfl (lv_at hl 1 rfl) ?_
  refine lv_iload_n hx hb dX7_worst_2 rfl (lv_at hl 2 rfl) ?_
  refine lv_iload_n hx hb dX7_worst_3 rfl (lv_at hl 3 rfl) ?_
  refine roVi (As := [.int x, .int y, .int z]) (rest := []) ⟨hx, hb, hml, hown, hts⟩ (c_X7_isState l D cI cL cZ cO a r now full jobs pr R lp ch me ru wo co L x y z ) (cwV 3 hts gX7_worst_X7_isState rfl rfl rfl (by decide +kernel) ⟨Nat.le_of_ble_eq_true rfl, Nat.le_of_ble_eq_true rfl⟩) hO hP (va_recv hK hP (ci := 6) (q0 := 0) rfl rfl) rfl hl.1 rfl (Nat.le_of_ble_eq_true rfl) dX7_worst_4 ⟨Nat.le_of_ble_eq_true rfl, Nat.le_of_ble_eq_true rfl⟩ (fun r_4 e_4 => ?_)
  obtain rfl : r_4 = stOk x y z L := e_4
  refine lv_if_ne (tgt := 12) hx hb dX7_worst_7 (by decide) (fun c_7 => ?_) (fun c_7 => ?_)
  · skip
    obtain ⟨hh, w, lx, h1, h2, h3, rfl, rfl, rfl⟩ := stOk_nat hL c_7
    refine lv_aload_n hx hb dX7_worst_12 rfl (lv_at hl 0 rfl) ?_
    refine lv_iload_n hx hb dX7_worst_13 rfl (lv_at hl 1 rfl) ?_
    refine lv_iconst (v := (-1)) hx hb dX7_worst_14 (by decide) ?_
    refine rwVv (As := [.int (nI hh), .int (-1)]) (rest := []) ⟨hx, hb, hml, hown, hts⟩ (c_X7_makes l D cI cL cZ cO s.heap.size a r now full jobs pr R lp ch me ru wo co L hh (-1) hL (by omega)) (cwV 2 hts gX7_worst_X7_makes rfl rfl rfl (by decide +kernel) ⟨Nat.le_of_ble_eq_true rfl, Nat.le_of_ble_eq_true rfl⟩) hO hP hD hS hA (va_recv hK hP (ci := 6) (q0 := 0) rfl rfl) rfl hl.1 rfl (Nat.le_of_ble_eq_true rfl) dX7_worst_15 ⟨Nat.le_of_ble_eq_true rfl, Nat.le_of_ble_eq_true rfl⟩ (fun u_15 H locs e_15 hP hD hS => ?_)
    obtain ⟨me2, ru2, wo2⟩ := u_15
    have hP : va_P D vwCl (wM cI cL cZ a r now full jobs (nI L) pr R lp ch me2 ru2 wo2 co) H := hP
    have hD : va_D A (wM cI cL cZ a r now full jobs (nI L) pr R lp ch me2 ru2 wo2 co) := hD
    refine lv_aload_n hx hb dX7_worst_18 rfl (lv_at hl 0 rfl) ?_
    refine va_get (D := D) (cl := vwCl) (ci := 6) (v := .ref (r 29)) (C := RX7) (T := TX7) (N := 35) hx hb hts (fun _ h => List.mem_cons_of_mem _ (List.mem_append_right _ h)) hown hK hP 0 rfl rfl 33 (by decide) (hts (.fieldLink RX7 103 "CheapHoursModel" "worsts" "[I") (List.mem_of_getElem? (i := 1) rfl)) (fun _ h9 => h9) rfl dX7_worst_19 ?_
    refine lv_iload_n hx hb dX7_worst_22 rfl (lv_at hl 1 rfl) ?_
    refine lv_iload_n hx hb dX7_worst_23 rfl (lv_at hl 2 rfl) ?_
    refine lv_iload_n hx hb dX7_worst_24 rfl (lv_at hl 3 rfl) ?_
    refine roSi (As := [.int (nI hh), .int (nI w), .int (nI lx)]) (rest := [.ref (r 29)]) ⟨hx, hb, hml, hown, hts⟩ (c_X7_at l D cI cL cZ cO hh w lx ) (va_cwS 3 hts gX7_worst_X7_at rfl rfl rfl (by decide +kernel) ⟨Nat.le_of_ble_eq_true rfl, Nat.le_of_ble_eq_true rfl⟩) hO (fun k q h => by simp at h) rfl hl.1 rfl (Nat.le_of_ble_eq_true rfl) dX7_worst_25 ⟨Nat.le_of_ble_eq_true rfl, Nat.le_of_ble_eq_true rfl⟩ (fun r_25 e_25 => ?_)
    obtain rfl : r_25 = nI (tn hh w lx) := e_25
    refine n_iald (D := D) (cl := vwCl) (x := (tn hh w lx)) hx hb hK hP 6 0 (f := wo2) rfl rfl (by unfold tn; omega) (Nat.le_of_ble_eq_true rfl) dX7_worst_28 ?_
    rw [← hQQ]
    exact W.iret (v := (wo2 (tn hh w lx))) hx hb hr (fun t9 ht9 hW9 => ⟨⟨_, (me2, ru2, wo2), rfl, (by rw [worstV, if_neg c_7, nI_clamp (by omega), nI_clamp (by omega), nI_clamp (by omega)]; exact (e_15 hh w lx (Nat.le_refl _) h2 h3).2.2), by rw [ht9]; exact hP, hD⟩, hS.F ht9⟩) hS.2.2 dX7_worst_29
  · skip
    refine lv_iconst (v := (-1)) hx hb dX7_worst_10 (by decide) ?_
    rw [← hQQ]
    exact W.iret (v := (-1)) hx hb hr (fun t9 ht9 hW9 => ⟨⟨_, (me, ru, wo), rfl, (if_pos c_7).symm, by rw [ht9]; exact hP, hD⟩, hS.F ht9⟩) hS.2.2 dX7_worst_11
set_option maxHeartbeats 4000000 in
set_option maxRecDepth 100000 in
theorem c_X7_capped (l : Launch) (D : va_G) (cI cL cZ cO : ClassId) (sz : Nat) (a : Nat) (r : Nat → Nat) (now full jobs : Int32) (pr : Nat → Int32) (R : Nat → Nat → Int32) (lp ch : Nat → Int32) (me : Nat → Int64) (ru wo co : Nat → Int32) (L : Nat) (x y z cp : Int32) (hL : L ≤ 6) : Met l yX7_capped wsX7_capped ({ frames := 5, cells := 0, slots := 0, locals := 138 } : Room) (va_Pc [.ref a, .int x, .int y, .int z, .int cp] (Rw D cI cL cZ cO (wM cI cL cZ a r now full jobs (nI L) pr R lp ch me ru wo co) sz)) (va_Ql (fun (r : Int64) (u : (Nat → Int64) × (Nat → Int32) × (Nat → Int32)) => r = cappedV L lp ch full x y z cp) (fun (u : (Nat → Int64) × (Nat → Int32) × (Nat → Int32)) => Wo D (va_A (wM cI cL cZ a r now full jobs (nI L) pr R lp ch me ru wo co) sz) (wM cI cL cZ a r now full jobs (nI L) pr R lp ch u.1 u.2.1 u.2.2 co)) (va_A (wM cI cL cZ a r now full jobs (nI L) pr R lp ch me ru wo co) sz)) 0 0 (va_A (wM cI cL cZ a r now full jobs (nI L) pr R lp ch me ru wo co) sz) := by
  refine Met.ofW (cc := cX7_capped) (maxL := 5) (ret := (some .long)) (by decide) rfl ?_
  intro p e s m args below meth c s₁ B hml hv
  obtain ⟨rfl, hsz, hP, hO, hD0⟩ := hv
  have hx := B.exec
  have hb := B.bytes
  have hr := B.returns
  have hts := atoms_spec (ws := wsX7_capped) B.pre
  have hown : s.vm.findClass RX7 = some m.cls := findClass_of_methodNamed B.named
  have hlocks := B.notSynchronized
  have hK := hO.1
  subst hsz
  have hD := hD0.self (sz := s.heap.size)
  generalize hAe : va_A (wM cI cL cZ a r now full jobs (nI L) pr R lp ch me ru wo co) s.heap.size = A at hD ⊢
  have hA : ∀ q : Nat, s.heap.size ≤ q → A q := fun q h => by rw [← hAe]; exact Or.inr h
  have hS : va_S A s.heap s.heap [] := va_S.rf
  have hl := lv_entry ([.ref a, .int x, .int y, .int z, .int cp]) (n := 5) (Nat.le_of_ble_eq_true rfl)
  rw [lg_entry_eq]
  generalize (lg_sl ([.ref a, .int x, .int y, .int z, .int cp]) ++ List.replicate (5 - (lg_sl ([.ref a, .int x, .int y, .int z, .int cp])).length) Slot.unset).toArray = ls at hl ⊢
  have hl : lv_has ls 5 [(0, .ref a), (1, .int x), (2, .int y), (3, .int z), (4, .int cp)] := hl
  generalize hQQ : MQ below _ _ s _ _ _ = QQ
  refine lv_aload_n hx hb dX7_capped_0 rfl (lv_at hl 0 rfl) ?_
  refine lv_iload_n hx hb dX7_capped_1 rfl (lv_at hl 1 rfl) ?_
  refine lv_iload_n hx hb dX7_capped_2 rfl (lv_at hl 2 rfl) ?_
  refine lv_iload_n hx hb dX7_capped_3 rfl (lv_at hl 3 rfl) ?_
  refine roVi (As := [.int x, .int y, .int z]) (rest := []) ⟨hx, hb, hml, hown, hts⟩ (c_X7_isState l D cI cL cZ cO a r now full jobs pr R lp ch me ru wo co L x y z ) (cwV 3 hts gX7_capped_X7_isState rfl rfl rfl (by decide +kernel) ⟨Nat.le_of_ble_eq_true rfl, Nat.le_of_ble_eq_true rfl⟩) hO hP (va_recv hK hP (ci := 6) (q0 := 0) rfl rfl) rfl hl.1 rfl (Nat.le_of_ble_eq_true rfl) dX7_capped_4 ⟨Nat.le_of_ble_eq_true rfl, Nat.le_of_ble_eq_true rfl⟩ (fun r_4 e_4 => ?_)
  obtain rfl : r_4 = stOk x y z L := e_4
  refine lv_if_eq (tgt := 22) hx hb dX7_capped_7 (by decide) (fun c_7 => ?_) (fun c_7 => ?_)
  · skip
    refine lv_ldc2 (v := (-1)) hx hb hown (hts (.constantLong RX7 160 (-1)) (List.mem_of_getElem? (i := 1) rfl)) dX7_capped_22 ?_
    rw [← hQQ]
    exact W.lret (v := (-1)) hx hb hr (fun t9 ht9 hW9 => ⟨⟨_, (me, ru, wo), rfl, by simp only [cappedV, if_pos c_7], by rw [ht9]; exact hP, hD⟩, hS.F ht9⟩) hS.2.2 dX7_capped_25
  · skip
    refine lv_iload hx hb dX7_capped_10 (lv_at hl 4 rfl) ?_
    refine lv_iconst (v := 0) hx hb dX7_capped_12 (by decide) ?_
    refine lv_sipush (v := 999) hx hb dX7_capped_13 (by decide) ?_
    refine roSi (As := [.int cp, .int 0, .int 999]) (rest := []) ⟨hx, hb, hml, hown, hts⟩ (c_X7_in l D cI cL cZ cO cp 0 999 ) (va_cwS 3 hts gX7_capped_X7_in rfl rfl rfl (by decide +kernel) ⟨Nat.le_of_ble_eq_true rfl, Nat.le_of_ble_eq_true rfl⟩) hO (fun k q h => by simp at h) rfl hl.1 rfl (Nat.le_of_ble_eq_true rfl) dX7_capped_16 ⟨Nat.le_of_ble_eq_true rfl, Nat.le_of_ble_eq_true rfl⟩ (fun r_16 e_16 => ?_)
    obtain rfl : r_16 = wi cp 0 999 := e_16
    refine lv_if_ne (tgt := 26) hx hb dX7_capped_19 (by decide) (fun c_19 => ?_) (fun c_19 => ?_)
    · skip
      obtain ⟨hh, w, lx, h1, h2, h3, rfl, rfl, rfl⟩ := stOk_nat hL c_7
      refine lv_aload_n hx hb dX7_capped_26 rfl (lv_at hl 0 rfl) ?_
      refine lv_iload_n hx hb dX7_capped_27 rfl (lv_at hl 1 rfl) ?_
      refine lv_iload hx hb dX7_capped_28 (lv_at hl 4 rfl) ?_
      refine rwVv (As := [.int (nI hh), .int cp]) (rest := []) ⟨hx, hb, hml, hown, hts⟩ (c_X7_makes l D cI cL cZ cO s.heap.size a r now full jobs pr R lp ch me ru wo co L hh cp hL (by omega)) (cwV 2 hts gX7_capped_X7_makes rfl rfl rfl (by decide +kernel) ⟨Nat.le_of_ble_eq_true rfl, Nat.le_of_ble_eq_true rfl⟩) hO hP hD hS hA (va_recv hK hP (ci := 6) (q0 := 0) rfl rfl) rfl hl.1 rfl (Nat.le_of_ble_eq_true rfl) dX7_capped_30 ⟨Nat.le_of_ble_eq_true rfl, Nat.le_of_ble_eq_true rfl⟩ (fun u_30 H locs e_30 hP hD hS => ?_)
      obtain ⟨me2, ru2, wo2⟩ := u_30
      have hP : va_P D vwCl (wM cI cL cZ a r now full jobs (nI L) pr R lp ch me2 ru2 wo2 co) H := hP
      have hD : va_D A (wM cI cL cZ a r now full jobs (nI L) pr R lp ch me2 ru2 wo2 co) := hD
      refine lv_aload_n hx hb dX7_capped_33 rfl (lv_at hl 0 rfl) ?_
      refine va_get (D := D) (cl := vwCl) (ci := 6) (v := .ref (r 27)) (C := RX7) (T := TX7) (N := 35) hx hb hts (fun _ h => List.mem_cons_of_mem _ (List.mem_append_right _ h)) hown hK hP 0 rfl rfl 31 (by decide) (hts (.fieldLink RX7 96 "CheapHoursModel" "means" "[J") (List.mem_of_getElem? (i := 2) rfl)) (fun _ h9 => h9) rfl dX7_capped_34 ?_
      refine lv_iload_n hx hb dX7_capped_37 rfl (lv_at hl 1 rfl) ?_
      refine lv_iload_n hx hb dX7_capped_38 rfl (lv_at hl 2 rfl) ?_
      refine lv_iload_n hx hb dX7_capped_39 rfl (lv_at hl 3 rfl) ?_
      refine roSi (As := [.int (nI hh), .int (nI w), .int (nI lx)]) (rest := [.ref (r 27)]) ⟨hx, hb, hml, hown, hts⟩ (c_X7_at l D cI cL cZ cO hh w lx ) (va_cwS 3 hts gX7_capped_X7_at rfl rfl rfl (by decide +kernel) ⟨Nat.le_of_ble_eq_true rfl, Nat.le_of_ble_eq_true rfl⟩) hO (fun k q h => by simp at h) rfl hl.1 rfl (Nat.le_of_ble_eq_true rfl) dX7_capped_40 ⟨Nat.le_of_ble_eq_true rfl, Nat.le_of_ble_eq_true rfl⟩ (fun r_40 e_40 => ?_)
      obtain rfl : r_40 = nI (tn hh w lx) := e_40
      refine n_lald (D := D) (cl := vwCl) (x := (tn hh w lx)) hx hb hK hP 4 1 (f := me2) rfl rfl (by unfold tn; omega) (Nat.le_of_ble_eq_true rfl) dX7_capped_43 ?_
      rw [← hQQ]
      exact W.lret (v := (me2 (tn hh w lx))) hx hb hr (fun t9 ht9 hW9 => ⟨⟨_, (me2, ru2, wo2), rfl, (by rw [cappedV, if_neg c_7, if_neg c_19, nI_clamp (by omega), nI_clamp (by omega), nI_clamp (by omega)]; exact (e_30 hh w lx (Nat.le_refl _) h2 h3).1), by rw [ht9]; exact hP, hD⟩, hS.F ht9⟩) hS.2.2 dX7_capped_44
    · skip
      refine lv_ldc2 (v := (-1)) hx hb hown (hts (.constantLong RX7 160 (-1)) (List.mem_of_getElem? (i := 1) rfl)) dX7_capped_22 ?_
      rw [← hQQ]
      exact W.lret (v := (-1)) hx hb hr (fun t9 ht9 hW9 => ⟨⟨_, (me, ru, wo), rfl, by simp only [cappedV, if_neg c_7, if_pos c_19], by rw [ht9]; exact hP, hD⟩, hS.F ht9⟩) hS.2.2 dX7_capped_25
