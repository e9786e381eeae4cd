/-! THE CLASS: what it would have cost: the pure words -/
def sl (h pl dn : Nat) : Nat := (h % 6 * 5 + pl) * 30 + dn
def smN (a b : Nat) : Nat := min 1000000000 (a + b)
def cstN (pr : Nat → Int32) (full : Int32) (m h : Nat) : Nat := if atV pr full m h = -1 then 1000000000 else (atV pr full m h).toNatClampNeg
def stF (cs : Nat → Nat → Nat) (m h : Nat) : Nat → Nat
  | 0 => 0
  | k + 1 => smN (stF cs m h k) (cs m (h + k))
theorem atV_nat {pr : Nat → Int32} {full : Int32} {m h : Nat} (g : prGood pr full) (hm : m ≤ 3) (hn : ¬ atV pr full m h = -1) : ∃ q, q ≤ 999 ∧ atV pr full m h = nI q := by
  unfold atV at hn ⊢
  by_cases h3 : m = 3
  · rw [if_pos h3]; exact g.2
  · rw [if_neg h3] at hn ⊢
    by_cases h4 : h < 200
    · rw [if_pos h4] at hn ⊢
      rcases g.1 (200 * m + h) (by omega) with q | q
      · exact absurd q hn
      · exact q
    · rw [if_neg h4] at hn; exact absurd rfl hn
theorem stF_le (cs : Nat → Nat → Nat) (m h : Nat) : ∀ k, stF cs m h k ≤ 1000000000
  | 0 => Nat.zero_le _
  | k + 1 => Nat.min_le_left _ _
/-- what is told of a state: past DUE never, done is 0, else what the rows hold -/
def frN (w d : Nat) (G : Nat → Nat → Nat → Nat) (h pl dn : Nat) : Nat := if d < h then 1000000000 else if w ≤ dn then 0 else if h < d then G h pl dn else 1000000000
def frS (w d : Nat) (G : Nat → Nat → Nat → Nat) (h pl dn : Nat) : Nat := min (frN w d G h pl dn) (frN w d G h 4 dn)
def onM (cs : Nat → Nat → Nat) (w d sv : Nat) (G : Nat → Nat → Nat → Nat) (h pl dn : Nat) : Nat := if sv = 0 then smN (stF cs pl h 1) (frS w d G (h + 1) pl (dn + 1)) else min (smN (stF cs pl h 1) (frN w d G (h + 1) pl (dn + 1))) (smN (stF cs pl h sv) (frS w d G (h + sv) pl dn))
def bkN (cs : Nat → Nat → Nat) (w d bg : Nat) (G : Nat → Nat → Nat → Nat) (h pl sd : Nat) : Nat := if sd = 0 then 1000000000 else smN (stF cs pl h bg) (frN w d G (h + bg) pl sd)
def onN (cs : Nat → Nat → Nat) (w d bg : Nat) (G : Nat → Nat → Nat → Nat) (h sd : Nat) : Nat → Nat
  | 0 => frN w d G (h + 1) 4 sd
  | k + 1 => min (onN cs w d bg G h sd k) (min (frN w d G h k 0) (bkN cs w d bg G h k sd))
/-- the rows of one hour hold G -/
def wdw (w d : Nat) (lf : Nat → Int32) (G : Nat → Nat → Nat → Nat) (h pl dn : Nat) : Prop := lf (sl h pl dn) = nI (G h pl dn) ∧ G h pl dn ≤ 1000000000
def wHd (cI : ClassId) (hs pA lt le ta : Nat) (full : Int32) (pr lf : Nat → Int32) (w d mk sv bg : Nat) (bd sp : Int32) (cm : Nat) : va_W :=
  [(hs, .inr (0, [.ref pA, .ref le])), (pA, .inr (3, [.ref lt, .int full])), (lt, .inl (cI, 600, .inl pr)), (le, .inl (cI, 900, .inl lf)), (ta, .inr (4, [.int (nI w), .int (nI d), .int (nI mk), .int (nI sv), .int (nI bg), .int bd, .int sp, .int (nI cm)]))]
theorem frN_le {w d : Nat} {G : Nat → Nat → Nat → Nat} {h pl dn : Nat} (g : h < d → dn < w → G h pl dn ≤ 1000000000) : frN w d G h pl dn ≤ 1000000000 := by
  unfold frN
  split
  · exact Nat.le_refl _
  · split
    · exact Nat.zero_le _
    · split
      · exact g (by assumption) (by omega)
      · exact Nat.le_refl _
theorem smN_le (a b : Nat) : smN a b ≤ 1000000000 := Nat.min_le_left _ _
theorem onM_le (cs : Nat → Nat → Nat) (w d sv : Nat) (G : Nat → Nat → Nat → Nat) (h pl dn : Nat) : onM cs w d sv G h pl dn ≤ 1000000000 := by
  unfold onM
  split
  · exact smN_le _ _
  · exact Nat.le_trans (Nat.min_le_left _ _) (smN_le _ _)
theorem onN_le {cs : Nat → Nat → Nat} {w d bg : Nat} {G : Nat → Nat → Nat → Nat} {h sd : Nat} (g : frN w d G (h + 1) 4 sd ≤ 1000000000) : ∀ k, onN cs w d bg G h sd k ≤ 1000000000
  | 0 => g
  | k + 1 => Nat.le_trans (Nat.min_le_left _ _) (onN_le g k)
set_option maxHeartbeats 4000000 in
set_option maxRecDepth 100000 in
theorem c_X0_sum (l : Launch) (D : va_G) (cI cL cZ cO : ClassId) (x y : Nat) (hx9 : x ≤ 1000000000) (hy9 : y ≤ 1000000000) : Met l yX0_sum wsX0_sum ({ frames := 1, cells := 0, slots := 0, locals := 24 } : Room) (va_Pc [.int (nI x), .int (nI y)] (Ro D cI cL cZ cO ([]))) (vp_Si (fun r => r = nI (smN x y))) 0 0 (fun _ => False) := by
  refine Met.ofW (cc := cX0_sum) (maxL := 2) (ret := (some .int)) (by decide) rfl ?_
  intro p e s m args below meth c s₁ B hml hv
  obtain ⟨rfl, hP, hO⟩ := hv
  have hx := B.exec
  have hb := B.bytes
  have hr := B.returns
  have hts := atoms_spec (ws := wsX0_sum) B.pre
  have hown : s.vm.findClass RX0 = some m.cls := findClass_of_methodNamed B.named
  have hlocks := B.notSynchronized
  have hK := hO.1
  have hl := lv_entry ([.int (nI x), .int (nI y)]) (n := 2) (Nat.le_of_ble_eq_true rfl)
  rw [lg_entry_eq]
  generalize (lg_sl ([.int (nI x), .int (nI y)]) ++ List.replicate (2 - (lg_sl ([.int (nI x), .int (nI y)])).length) Slot.unset).toArray = ls at hl ⊢
  have hl : lv_has ls 2 [(0, .int (nI x)), (1, .int (nI y))] := hl
  generalize hQQ : MQ below _ _ s _ _ _ = QQ
  refine lv_ldc (v := 1000000000) hx hb hown (hts (.constant RX0 74 (1000000000)) (List.mem_of_getElem? (i := 1) rfl)) dX0_sum_0 ?_
  refine lv_iload_n hx hb dX0_sum_2 rfl (lv_at hl 0 rfl) ?_
  refine lv_iload_n hx hb dX0_sum_3 rfl (lv_at hl 1 rfl) ?_
  refine n_iadd (x := x) (y := y) hx hb dX0_sum_4 ?_
  refine va_mmin hx hb (hml.trans hl.1.symm) hown (hts (.methodLink RX0 66 Lib.Math.min.name) (List.mem_of_getElem? (i := 2) rfl)) (hts (.static Lib.Math.min.name) (List.mem_of_getElem? (i := 3) rfl)) (hts (.initialized "java/lang/Math") (List.mem_of_getElem? (i := 4) rfl)) (hts (.code Lib.Math.min.name Lib.Math.min.code 2 (some .int)) (List.mem_of_getElem? (i := 5) rfl)) (Nat.le_of_ble_eq_true rfl) (Nat.le_of_ble_eq_true rfl) (Nat.le_of_ble_eq_true rfl) (Nat.le_of_ble_eq_true rfl) (x := 1000000000) (y := (nI (x + y))) dX0_sum_5 ?_
  refine lv_seti (v := nI (min 1000000000 (x + y))) (n_min (x := 1000000000) (y := (x + y)) (by omega) (by omega)) ?_
  rw [← hQQ]
  exact W.iret (v := (nI (min 1000000000 (x + y)))) hx hb hr (fun t9 ht9 hW9 => ⟨_, rfl, rfl, ht9⟩) (fun q h => by cases h) dX0_sum_8
set_option maxHeartbeats 4000000 in
set_option maxRecDepth 100000 in
theorem c_X0_slotOf (l : Launch) (D : va_G) (cI cL cZ cO : ClassId) (h pq dn : Nat) (hh : h < 200) (hq : pq < 5) (hdn : dn < 30) : Met l yX0_slotOf wsX0_slotOf ({ frames := 0, cells := 0, slots := 0, locals := 0 } : Room) (va_Pc [.int (nI h), .int (nI pq), .int (nI dn)] (Ro D cI cL cZ cO ([]))) (vp_Si (fun r => r = nI (sl h pq dn))) 0 0 (fun _ => False) := by
  refine Met.ofW (cc := cX0_slotOf) (maxL := 4) (ret := (some .int)) (by decide) rfl ?_
  intro p e s m args below meth c s₁ B hml hv
  obtain ⟨rfl, hP, hO⟩ := hv
  have hx := B.exec
  have hb := B.bytes
  have hr := B.returns
  have hts := atoms_spec (ws := wsX0_slotOf) B.pre
  have hown : s.vm.findClass RX0 = some m.cls := findClass_of_methodNamed B.named
  have hlocks := B.notSynchronized
  have hK := hO.1
  have hl := lv_entry ([.int (nI h), .int (nI pq), .int (nI dn)]) (n := 4) (Nat.le_of_ble_eq_true rfl)
  rw [lg_entry_eq]
  generalize (lg_sl ([.int (nI h), .int (nI pq), .int (nI dn)]) ++ List.replicate (4 - (lg_sl ([.int (nI h), .int (nI pq), .int (nI dn)])).length) Slot.unset).toArray = ls at hl ⊢
  have hl : lv_has ls 4 [(0, .int (nI h)), (1, .int (nI pq)), (2, .int (nI dn))] := hl
  generalize hQQ : MQ below _ _ s _ _ _ = QQ
  refine lv_iload_n hx hb dX0_slotOf_0 rfl (lv_at hl 0 rfl) ?_
  refine n_if_lt (x := h) hx hb dX0_slotOf_1 (by omega) ?_
  refine lv_iload_n hx hb dX0_slotOf_4 rfl (lv_at hl 0 rfl) ?_
  refine lv_sipush (v := 200) hx hb dX0_slotOf_5 (by decide) ?_
  refine n_icmp_ge (x := h) (y := 200) (tgt := 34) hx hb dX0_slotOf_8 (by decide) (by omega) (by omega) (fun c_8 => ?_) (fun c_8 => ?_)
  · skip
    exact absurd c_8 (by omega)
  · skip
    refine lv_iload_n hx hb dX0_slotOf_11 rfl (lv_at hl 1 rfl) ?_
    refine n_if_lt (x := pq) hx hb dX0_slotOf_12 (by omega) ?_
    refine lv_iload_n hx hb dX0_slotOf_15 rfl (lv_at hl 1 rfl) ?_
    refine lv_iconst (v := 5) hx hb dX0_slotOf_16 (by decide) ?_
    refine n_icmp_ge (x := pq) (y := 5) (tgt := 34) hx hb dX0_slotOf_17 (by decide) (by omega) (by omega) (fun c_17 => ?_) (fun c_17 => ?_)
    · skip
      exact absurd c_17 (by omega)
    · skip
      refine lv_iload_n hx hb dX0_slotOf_20 rfl (lv_at hl 2 rfl) ?_
      refine n_if_lt (x := dn) hx hb dX0_slotOf_21 (by omega) ?_
      refine lv_iload_n hx hb dX0_slotOf_24 rfl (lv_at hl 2 rfl) ?_
      refine lv_bipush (v := 30) hx hb dX0_slotOf_25 (by decide) ?_
      refine n_icmp_ge (x := dn) (y := 30) (tgt := 34) hx hb dX0_slotOf_27 (by decide) (by omega) (by omega) (fun c_27 => ?_) (fun c_27 => ?_)
      · skip
        exact absurd c_27 (by omega)
      · skip
        refine lv_iconst (v := 1) hx hb dX0_slotOf_30 (by decide) ?_
        refine lv_goto (tgt := 35) hx hb dX0_slotOf_31 (by decide) ?_
        refine lv_istore_n (lv' := [(3, .int 1), (0, .int (nI h)), (1, .int (nI pq)), (2, .int (nI dn))]) hx hb dX0_slotOf_35 rfl hl (by decide) rfl (fun ls hl => ?_)
        refine lv_iload_n hx hb dX0_slotOf_36 rfl (lv_at hl 0 rfl) ?_
        refine lv_if_eq (tgt := 56) hx hb dX0_slotOf_37 (by decide) (fun c_37 => ?_) (fun c_37 => ?_)
        · skip
          exact absurd c_37 (by decide)
        · skip
          refine lv_iload_n hx hb dX0_slotOf_40 rfl (lv_at hl 1 rfl) ?_
          refine lv_bipush (v := 6) hx hb dX0_slotOf_41 (by decide) ?_
          refine n_irem (x := h) (y := 6) hx hb dX0_slotOf_43 (by omega) (by omega) (by omega) ?_
          refine lv_iconst (v := 5) hx hb dX0_slotOf_44 (by decide) ?_
          refine n_imul (x := (h % 6)) (y := 5) hx hb dX0_slotOf_45 ?_
          refine lv_iload_n hx hb dX0_slotOf_46 rfl (lv_at hl 2 rfl) ?_
          refine n_iadd (x := ((h % 6) * 5)) (y := pq) hx hb dX0_slotOf_47 ?_
          refine lv_bipush (v := 30) hx hb dX0_slotOf_48 (by decide) ?_
          refine n_imul (x := (((h % 6) * 5) + pq)) (y := 30) hx hb dX0_slotOf_50 ?_
          refine lv_iload_n hx hb dX0_slotOf_51 rfl (lv_at hl 3 rfl) ?_
          refine n_iadd (x := ((((h % 6) * 5) + pq) * 30)) (y := dn) hx hb dX0_slotOf_52 ?_
          refine lv_goto (tgt := 57) hx hb dX0_slotOf_53 (by decide) ?_
          rw [← hQQ]
          exact W.iret (v := (nI (((((h % 6) * 5) + pq) * 30) + dn))) hx hb hr (fun t9 ht9 hW9 => ⟨_, rfl, rfl, ht9⟩) (fun q h => by cases h) dX0_slotOf_57
set_option maxHeartbeats 4000000 in
set_option maxRecDepth 100000 in
theorem c_X0_stay (l : Launch) (D : va_G) (cI cL cZ cO : ClassId) (hs pA lt le ta : Nat) (full : Int32) (pr lf : Nat → Int32) (w d mk sv bg : Nat) (bd sp : Int32) (cm : Nat) (pq h ho : Nat) (hq : pq ≤ 3) (hh : h < 300) (hho : ho ≤ 5) (hpr : prGood pr full) : Met l yX0_stay wsX0_stay ({ frames := 3, cells := 0, slots := 0, locals := 65 } : Room) (va_Pc [.ref hs, .int (nI pq), .int (nI h), .int (nI ho)] (Ro D cI cL cZ cO (wHd cI hs pA lt le ta full pr lf w d mk sv bg bd sp cm))) (vp_Si (fun r => r = nI (stF (cstN pr full) pq h ho))) 0 0 (fun _ => False) := by
  refine Met.ofW (cc := cX0_stay) (maxL := 7) (ret := (some .int)) (by decide) rfl ?_
  intro p e s m args below meth c s₁ B hml hv
  obtain ⟨rfl, hP, hO⟩ := hv
  have hx := B.exec
  have hb := B.bytes
  have hr := B.returns
  have hts := atoms_spec (ws := wsX0_stay) B.pre
  have hown : s.vm.findClass RX0 = some m.cls := findClass_of_methodNamed B.named
  have hlocks := B.notSynchronized
  have hK := hO.1
  have hl := lv_entry ([.ref hs, .int (nI pq), .int (nI h), .int (nI ho)]) (n := 7) (Nat.le_of_ble_eq_true rfl)
  rw [lg_entry_eq]
  generalize (lg_sl ([.ref hs, .int (nI pq), .int (nI h), .int (nI ho)]) ++ List.replicate (7 - (lg_sl ([.ref hs, .int (nI pq), .int (nI h), .int (nI ho)])).length) Slot.unset).toArray = ls at hl ⊢
  have hl : lv_has ls 7 [(0, .ref hs), (1, .int (nI pq)), (2, .int (nI h)), (3, .int (nI ho))] := hl
  generalize hQQ : MQ below _ _ s _ _ _ = QQ
  refine lv_iconst (v := 0) hx hb dX0_stay_0 (by decide) ?_
  refine lv_istore (lv' := [(4, .int 0), (0, .ref hs), (1, .int (nI pq)), (2, .int (nI h)), (3, .int (nI ho))]) hx hb dX0_stay_1 hl (by decide) rfl (fun ls hl => ?_)
  refine lv_iconst (v := 0) hx hb dX0_stay_3 (by decide) ?_
  refine lv_istore (lv' := [(5, .int 0), (4, .int 0), (0, .ref hs), (1, .int (nI pq)), (2, .int (nI h)), (3, .int (nI ho))]) hx hb dX0_stay_4 hl (by decide) rfl (fun ls hl => ?_)
  have L6 : ∀ (n0 : Nat) (i9 : Nat) (cn : Nat) (ls : Array Slot), ho - i9 < n0 → (i9 ≤ ho) → (cn = stF (cstN pr full) pq h i9) → lv_has ls 7 [(5, .int (nI i9)), (4, .int (nI cn)), (0, .ref hs), (1, .int (nI pq)), (2, .int (nI h)), (3, .int (nI ho))] → W p l e (headSpec wsX0_stay ({ frames := 3, cells := 0, slots := 0, locals := 65 } : Room)).room s m ([.ref hs, .int (nI pq), .int (nI h), .int (nI ho)] : List Value).toArray below meth c s.heap [] 0 0 QQ (F0 m 6 ls []) := by
    intro n0
    induction n0 with
    | zero =>
      intro i9 cn ls hmu
      exact absurd hmu (Nat.not_lt_zero _)
    | succ n0 ih6 =>
      intro i9 cn ls hmu hi hc hl
      have hcl : cn ≤ 1000000000 := by rw [hc]; exact stF_le _ _ _ _
      refine lv_iload hx hb dX0_stay_6 (lv_at hl 0 rfl) ?_
      refine lv_iload_n hx hb dX0_stay_8 rfl (lv_at hl 5 rfl) ?_
      refine n_icmp_ge (x := i9) (y := ho) (tgt := 52) hx hb dX0_stay_9 (by decide) (by omega) (by omega) (fun c_9 => ?_) (fun c_9 => ?_)
      · skip
        refine lv_iload hx hb dX0_stay_52 (lv_at hl 1 rfl) ?_
        rw [← hQQ]
        exact W.iret (v := (nI cn)) hx hb hr (fun t9 ht9 hW9 => ⟨_, rfl, (by rw [hc, show i9 = ho by omega]), ht9⟩) (fun q h => by cases h) dX0_stay_54
      · skip
        refine lv_aload_n hx hb dX0_stay_12 rfl (lv_at hl 2 rfl) ?_
        refine va_get (D := D) (cl := vwCl) (ci := 0) (v := .ref pA) (C := RX0) (T := TX0) (N := 2) hx hb hts (fun _ h => List.mem_cons_of_mem _ (List.mem_append_left _ (List.mem_append_right _ h))) hown hK hP 0 rfl rfl 0 (by decide) (hts (.fieldLink RX0 13 "CheapHours$Hindsight" "prices" "LCheapHours$Prices;") (by decide +kernel)) (fun _ h9 => h9) rfl dX0_stay_13 ?_
        refine lv_iload_n hx hb dX0_stay_16 rfl (lv_at hl 3 rfl) ?_
        refine lv_iload_n hx hb dX0_stay_17 rfl (lv_at hl 4 rfl) ?_
        refine lv_iload hx hb dX0_stay_18 (lv_at hl 0 rfl) ?_
        refine n_iadd (x := h) (y := i9) hx hb dX0_stay_20 ?_
        refine roVi (As := [.int (nI pq), .int (nI (h + i9))]) (rest := []) ⟨hx, hb, hml, hown, hts⟩ (c_X4_at l D cI cL cZ cO pA lt full pr pq (h + i9) (by omega) (by omega)) (cwV 2 hts gX0_stay_X4_at rfl rfl rfl (by decide +kernel) ⟨Nat.le_of_ble_eq_true rfl, Nat.le_of_ble_eq_true rfl⟩) hO (hP.sub (ws' := wP cI pA lt full pr) [1, 2] rfl) (va_recv hK hP (ci := 3) (q0 := 1) rfl rfl) rfl hl.1 rfl (Nat.le_of_ble_eq_true rfl) dX0_stay_21 ⟨Nat.le_of_ble_eq_true rfl, Nat.le_of_ble_eq_true rfl⟩ (fun r_21 e_21 => ?_)
        obtain rfl : r_21 = atV pr full pq (h + i9) := e_21
        refine lv_istore (lv' := [(6, .int (atV pr full pq (h + i9))), (5, .int (nI i9)), (4, .int (nI cn)), (0, .ref hs), (1, .int (nI pq)), (2, .int (nI h)), (3, .int (nI ho))]) hx hb dX0_stay_24 hl (by decide) rfl (fun ls hl => ?_)
        refine lv_iload hx hb dX0_stay_26 (lv_at hl 2 rfl) ?_
        refine lv_iload hx hb dX0_stay_28 (lv_at hl 0 rfl) ?_
        refine lv_iconst (v := (-1)) hx hb dX0_stay_30 (by decide) ?_
        refine lv_icmp_ne (tgt := 39) hx hb dX0_stay_31 (by decide) (fun c_31 => ?_) (fun c_31 => ?_)
        · skip
          obtain ⟨q, hq9, eq9⟩ := atV_nat hpr hq c_31
          refine lv_iload hx hb dX0_stay_39 (lv_at hl 0 rfl) ?_
          refine lv_seti (v := nI q) eq9 ?_
          refine roSi (As := [.int (nI cn), .int (nI q)]) (rest := []) ⟨hx, hb, hml, hown, hts⟩ (c_X0_sum l D cI cL cZ cO cn q (by omega) (by omega)) (va_cwS 2 hts gX0_stay_X0_sum rfl rfl rfl (by decide +kernel) ⟨Nat.le_of_ble_eq_true rfl, Nat.le_of_ble_eq_true rfl⟩) hO (fun k q h => by simp at h) rfl hl.1 rfl (Nat.le_of_ble_eq_true rfl) dX0_stay_41 ⟨Nat.le_of_ble_eq_true rfl, Nat.le_of_ble_eq_true rfl⟩ (fun r_41 e_41 => ?_)
          obtain rfl : r_41 = nI (smN cn q) := e_41
          refine lv_istore (lv' := [(4, .int (nI (smN cn q))), (6, .int (atV pr full pq (h + i9))), (5, .int (nI i9)), (0, .ref hs), (1, .int (nI pq)), (2, .int (nI h)), (3, .int (nI ho))]) hx hb dX0_stay_44 hl (by decide) rfl (fun ls hl => ?_)
          refine lv_iinc (v := (nI (i9 + 1))) (lv' := [(5, .int (nI (i9 + 1))), (4, .int (nI (smN cn q))), (6, .int (atV pr full pq (h + i9))), (0, .ref hs), (1, .int (nI pq)), (2, .int (nI h)), (3, .int (nI ho))]) hx hb dX0_stay_46 hl (k := 2) rfl (nI_add i9 1) (by decide) rfl (fun ls hl => ?_)
          refine lv_goto (tgt := 6) hx hb dX0_stay_49 (by decide) ?_
          exact ih6 (i9 + 1) (smN cn q) _ (by omega) (by omega) (by subst hc; show smN _ q = smN _ _; rw [cstN, if_neg c_31, eq9, nI_clamp (by omega)]) (lv_sub hl [0, 1, 3, 4, 5, 6] rfl)
        · skip
          refine lv_ldc (v := 1000000000) hx hb hown (hts (.constant RX0 74 (1000000000)) (by decide +kernel)) dX0_stay_34 ?_
          refine lv_goto (tgt := 41) hx hb dX0_stay_36 (by decide) ?_
          refine roSi (As := [.int (nI cn), .int 1000000000]) (rest := []) ⟨hx, hb, hml, hown, hts⟩ (c_X0_sum l D cI cL cZ cO cn 1000000000 (by omega) (by omega)) (va_cwS 2 hts gX0_stay_X0_sum rfl rfl rfl (by decide +kernel) ⟨Nat.le_of_ble_eq_true rfl, Nat.le_of_ble_eq_true rfl⟩) hO (fun k q h => by simp at h) rfl hl.1 rfl (Nat.le_of_ble_eq_true rfl) dX0_stay_41 ⟨Nat.le_of_ble_eq_true rfl, Nat.le_of_ble_eq_true rfl⟩ (fun r_41 e_41 => ?_)
          obtain rfl : r_41 = nI (smN cn 1000000000) := e_41
          refine lv_istore (lv' := [(4, .int (nI (smN cn 1000000000))), (6, .int (atV pr full pq (h + i9))), (5, .int (nI i9)), (0, .ref hs), (1, .int (nI pq)), (2, .int (nI h)), (3, .int (nI ho))]) hx hb dX0_stay_44 hl (by decide) rfl (fun ls hl => ?_)
          refine lv_iinc (v := (nI (i9 + 1))) (lv' := [(5, .int (nI (i9 + 1))), (4, .int (nI (smN cn 1000000000))), (6, .int (atV pr full pq (h + i9))), (0, .ref hs), (1, .int (nI pq)), (2, .int (nI h)), (3, .int (nI ho))]) hx hb dX0_stay_46 hl (k := 2) rfl (nI_add i9 1) (by decide) rfl (fun ls hl => ?_)
          refine lv_goto (tgt := 6) hx hb dX0_stay_49 (by decide) ?_
          exact ih6 (i9 + 1) (smN cn 1000000000) _ (by omega) (by omega) (by subst hc; show smN _ 1000000000 = smN _ _; rw [cstN, if_pos c_31]) (lv_sub hl [0, 1, 3, 4, 5, 6] rfl)
  exact L6 _ 0 0 _ (Nat.lt_succ_self _) (Nat.zero_le _) rfl (lv_sub hl [0, 1, 2, 3, 4, 5] rfl)
set_option maxHeartbeats 4000000 in
set_option maxRecDepth 100000 in
theorem c_X0_from (l : Launch) (D : va_G) (cI cL cZ cO : ClassId) (hs pA lt le ta : Nat) (full : Int32) (pr lf : Nat → Int32) (w d mk sv bg : Nat) (bd sp : Int32) (cm : Nat) (G : Nat → Nat → Nat → Nat) (h pq dn : Nat) (hw : 1 ≤ w ∧ w ≤ 30) (hd : d ≤ 200) (hsv : sv ≤ 5) (hbg : bg ≤ 5) (hq : pq < 5) (hh : h < 300) (hdn : dn ≤ 30) (hv : h < d → dn < w → wdw w d lf G h pq dn) : Met l yX0_from wsX0_from ({ frames := 1, cells := 0, slots := 0, locals := 23 } : Room) (va_Pc [.ref hs, .ref ta, .int (nI h), .int (nI pq), .int (nI dn)] (Ro D cI cL cZ cO (wHd cI hs pA lt le ta full pr lf w d mk sv bg bd sp cm))) (vp_Si (fun r => r = nI (frN w d G h pq dn))) 0 0 (fun _ => False) := by
  refine Met.ofW (cc := cX0_from) (maxL := 6) (ret := (some .int)) (by decide) rfl ?_
  intro p e s m args below meth c s₁ B hml hv
  obtain ⟨rfl, hP, hO⟩ := hv
  have hx := B.exec
  have hb := B.bytes
  have hr := B.returns
  have hts := atoms_spec (ws := wsX0_from) B.pre
  have hown : s.vm.findClass RX0 = some m.cls := findClass_of_methodNamed B.named
  have hlocks := B.notSynchronized
  have hK := hO.1
  have hl := lv_entry ([.ref hs, .ref ta, .int (nI h), .int (nI pq), .int (nI dn)]) (n := 6) (Nat.le_of_ble_eq_true rfl)
  rw [lg_entry_eq]
  generalize (lg_sl ([.ref hs, .ref ta, .int (nI h), .int (nI pq), .int (nI dn)]) ++ List.replicate (6 - (lg_sl ([.ref hs, .ref ta, .int (nI h), .int (nI pq), .int (nI dn)])).length) Slot.unset).toArray = ls at hl ⊢
  have hl : lv_has ls 6 [(0, .ref hs), (1, .ref ta), (2, .int (nI h)), (3, .int (nI pq)), (4, .int (nI dn))] := hl
  generalize hQQ : MQ below _ _ s _ _ _ = QQ
  refine lv_iload_n hx hb dX0_from_0 rfl (lv_at hl 2 rfl) ?_
  refine lv_aload_n hx hb dX0_from_1 rfl (lv_at hl 1 rfl) ?_
  refine va_get (D := D) (cl := vwCl) (ci := 4) (v := .int (nI d)) (C := RX5) (T := TX5) (N := 8) hx hb hts (fun _ h => List.mem_cons_of_mem _ (List.mem_append_left _ (List.mem_append_right _ h))) hown hK hP 4 rfl rfl 1 (by decide) (hts (.fieldLink RX0 23 "CheapHours$Terms" "due" "I") (by decide +kernel)) (fun _ h9 => h9) rfl dX0_from_2 ?_
  refine n_icmp_le (x := h) (y := d) (tgt := 11) hx hb dX0_from_5 (by decide) (by omega) (by omega) (fun c_5 => ?_) (fun c_5 => ?_)
  · skip
    refine lv_iload hx hb dX0_from_11 (lv_at hl 4 rfl) ?_
    refine lv_aload_n hx hb dX0_from_13 rfl (lv_at hl 1 rfl) ?_
    refine va_get (D := D) (cl := vwCl) (ci := 4) (v := .int (nI w)) (C := RX5) (T := TX5) (N := 8) hx hb hts (fun _ h => List.mem_cons_of_mem _ (List.mem_append_left _ (List.mem_append_right _ h))) hown hK hP 4 rfl rfl 0 (by decide) (hts (.fieldLink RX0 38 "CheapHours$Terms" "work" "I") (by decide +kernel)) (fun _ h9 => h9) rfl dX0_from_14 ?_
    refine n_icmp_lt (x := dn) (y := w) (tgt := 22) hx hb dX0_from_17 (by decide) (by omega) (by omega) (fun c_17 => ?_) (fun c_17 => ?_)
    · skip
      refine lv_iload_n hx hb dX0_from_22 rfl (lv_at hl 2 rfl) ?_
      refine lv_aload_n hx hb dX0_from_23 rfl (lv_at hl 1 rfl) ?_
      refine va_get (D := D) (cl := vwCl) (ci := 4) (v := .int (nI d)) (C := RX5) (T := TX5) (N := 8) hx hb hts (fun _ h => List.mem_cons_of_mem _ (List.mem_append_left _ (List.mem_append_right _ h))) hown hK hP 4 rfl rfl 1 (by decide) (hts (.fieldLink RX0 23 "CheapHours$Terms" "due" "I") (by decide +kernel)) (fun _ h9 => h9) rfl dX0_from_24 ?_
      refine n_icmp_ge (x := h) (y := d) (tgt := 40) hx hb dX0_from_27 (by decide) (by omega) (by omega) (fun c_27 => ?_) (fun c_27 => ?_)
      · skip
        refine lv_iconst (v := (-1)) hx hb dX0_from_40 (by decide) ?_
        refine lv_istore (lv' := [(5, .int (-1)), (0, .ref hs), (1, .ref ta), (2, .int (nI h)), (3, .int (nI pq)), (4, .int (nI dn))]) hx hb dX0_from_41 hl (by decide) rfl (fun ls hl => ?_)
        refine lv_iload hx hb dX0_from_43 (lv_at hl 0 rfl) ?_
        refine lv_iconst (v := 0) hx hb dX0_from_45 (by decide) ?_
        refine lv_aload_n hx hb dX0_from_46 rfl (lv_at hl 1 rfl) ?_
        refine va_get (D := D) (cl := vwCl) (ci := 0) (v := .ref le) (C := RX0) (T := TX0) (N := 2) hx hb hts (fun _ h => List.mem_cons_of_mem _ (List.mem_append_right _ h)) hown hK hP 0 rfl rfl 1 (by decide) (hts (.fieldLink RX0 19 "CheapHours$Hindsight" "least" "[I") (by decide +kernel)) (fun _ h9 => h9) rfl dX0_from_47 ?_
        refine va_alen (D := D) (cl := vwCl) hx hb hK hP 3 0 rfl rfl (v := 900) (show Int32.ofNat 900 = 900 from rfl) dX0_from_50 ?_
        refine lv_iconst (v := 1) hx hb dX0_from_51 (by decide) ?_
        refine lv_isub hx hb dX0_from_52 ?_
        refine lv_seti (v := 899) (by decide) ?_
        refine roNi (As := [.int (-1), .int 0, .int 899]) (rest := []) ⟨hx, hb, hml, hown, hts⟩ (c_X6_within l D cI cL cZ cO (-1) 0 899 ) ⟨va_cnB 3 hts gX0_from_X6_within_n78 rfl rfl rfl hO.2.2.2.2.2.1 (hts (.initialized RX6) (by decide +kernel)) (by decide +kernel) ⟨Nat.le_of_ble_eq_true rfl, Nat.le_of_ble_eq_true rfl⟩, (hts (.static yX6_within) (by decide +kernel)), trivial⟩ hO (fun k q h => by simp at h) rfl hl.1 rfl (Nat.le_of_ble_eq_true rfl) dX0_from_53 ⟨Nat.le_of_ble_eq_true rfl, Nat.le_of_ble_eq_true rfl⟩ (fun r_53 e_53 => ?_)
        obtain rfl : r_53 = wi (-1) 0 899 := e_53
        refine lv_if_eq (tgt := 69) hx hb dX0_from_56 (by decide) (fun c_56 => ?_) (fun c_56 => ?_)
        · skip
          refine lv_ldc (v := 1000000000) hx hb hown (hts (.constant RX0 74 (1000000000)) (by decide +kernel)) dX0_from_69 ?_
          rw [← hQQ]
          exact W.iret (v := 1000000000) hx hb hr (fun t9 ht9 hW9 => ⟨_, rfl, (by rw [frN, if_neg (by omega), if_neg (by omega), if_neg (by omega)]; rfl), ht9⟩) (fun q h => by cases h) dX0_from_71
        · skip
          exact absurd (by decide) c_56
      · skip
        refine lv_iload_n hx hb dX0_from_30 rfl (lv_at hl 2 rfl) ?_
        refine lv_iload_n hx hb dX0_from_31 rfl (lv_at hl 3 rfl) ?_
        refine lv_iload hx hb dX0_from_32 (lv_at hl 4 rfl) ?_
        refine roSi (As := [.int (nI h), .int (nI pq), .int (nI dn)]) (rest := []) ⟨hx, hb, hml, hown, hts⟩ (c_X0_slotOf l D cI cL cZ cO h pq dn (by omega) (by omega) (by omega)) (va_cwS 3 hts gX0_from_X0_slotOf rfl rfl rfl (by decide +kernel) ⟨Nat.le_of_ble_eq_true rfl, Nat.le_of_ble_eq_true rfl⟩) hO (fun k q h => by simp at h) rfl hl.1 rfl (Nat.le_of_ble_eq_true rfl) dX0_from_34 ⟨Nat.le_of_ble_eq_true rfl, Nat.le_of_ble_eq_true rfl⟩ (fun r_34 e_34 => ?_)
        obtain rfl : r_34 = nI (sl h pq dn) := e_34
        refine lv_goto (tgt := 41) hx hb dX0_from_37 (by decide) ?_
        refine lv_istore (lv' := [(5, .int (nI (sl h pq dn))), (0, .ref hs), (1, .ref ta), (2, .int (nI h)), (3, .int (nI pq)), (4, .int (nI dn))]) hx hb dX0_from_41 hl (by decide) rfl (fun ls hl => ?_)
        refine lv_iload hx hb dX0_from_43 (lv_at hl 0 rfl) ?_
        refine lv_iconst (v := 0) hx hb dX0_from_45 (by decide) ?_
        refine lv_aload_n hx hb dX0_from_46 rfl (lv_at hl 1 rfl) ?_
        refine va_get (D := D) (cl := vwCl) (ci := 0) (v := .ref le) (C := RX0) (T := TX0) (N := 2) hx hb hts (fun _ h => List.mem_cons_of_mem _ (List.mem_append_right _ h)) hown hK hP 0 rfl rfl 1 (by decide) (hts (.fieldLink RX0 19 "CheapHours$Hindsight" "least" "[I") (by decide +kernel)) (fun _ h9 => h9) rfl dX0_from_47 ?_
        refine va_alen (D := D) (cl := vwCl) hx hb hK hP 3 0 rfl rfl (v := 900) (show Int32.ofNat 900 = 900 from rfl) dX0_from_50 ?_
        refine lv_iconst (v := 1) hx hb dX0_from_51 (by decide) ?_
        refine lv_isub hx hb dX0_from_52 ?_
        refine lv_seti (v := 899) (by decide) ?_
        refine roNi (As := [.int (nI (sl h pq dn)), .int 0, .int 899]) (rest := []) ⟨hx, hb, hml, hown, hts⟩ (c_X6_within l D cI cL cZ cO (nI (sl h pq dn)) 0 899 ) ⟨va_cnB 3 hts gX0_from_X6_within_n78 rfl rfl rfl hO.2.2.2.2.2.1 (hts (.initialized RX6) (by decide +kernel)) (by decide +kernel) ⟨Nat.le_of_ble_eq_true rfl, Nat.le_of_ble_eq_true rfl⟩, (hts (.static yX6_within) (by decide +kernel)), trivial⟩ hO (fun k q h => by simp at h) rfl hl.1 rfl (Nat.le_of_ble_eq_true rfl) dX0_from_53 ⟨Nat.le_of_ble_eq_true rfl, Nat.le_of_ble_eq_true rfl⟩ (fun r_53 e_53 => ?_)
        obtain rfl : r_53 = wi (nI (sl h pq dn)) 0 899 := e_53
        refine lv_if_eq (tgt := 69) hx hb dX0_from_56 (by decide) (fun c_56 => ?_) (fun c_56 => ?_)
        · skip
          exact absurd ((wi_n0 (m := sl h pq dn) (b := 899) (by unfold sl; omega) (by decide)).mp c_56) (by unfold sl; omega)
        · skip
          refine lv_aload_n hx hb dX0_from_59 rfl (lv_at hl 1 rfl) ?_
          refine va_get (D := D) (cl := vwCl) (ci := 0) (v := .ref le) (C := RX0) (T := TX0) (N := 2) hx hb hts (fun _ h => List.mem_cons_of_mem _ (List.mem_append_right _ h)) hown hK hP 0 rfl rfl 1 (by decide) (hts (.fieldLink RX0 19 "CheapHours$Hindsight" "least" "[I") (by decide +kernel)) (fun _ h9 => h9) rfl dX0_from_60 ?_
          refine lv_iload hx hb dX0_from_63 (lv_at hl 0 rfl) ?_
          refine n_iald (D := D) (cl := vwCl) (x := (sl h pq dn)) hx hb hK hP 3 0 (f := lf) rfl rfl (by unfold sl; omega) (Nat.le_of_ble_eq_true rfl) dX0_from_65 ?_
          refine lv_goto (tgt := 71) hx hb dX0_from_66 (by decide) ?_
          rw [← hQQ]
          exact W.iret (v := (lf (sl h pq dn))) hx hb hr (fun t9 ht9 hW9 => ⟨_, rfl, (by rw [frN, if_neg (by omega), if_neg (by omega), if_pos c_27]; exact (hv c_27 c_17).1), ht9⟩) (fun q h => by cases h) dX0_from_71
    · skip
      refine lv_iconst (v := 0) hx hb dX0_from_20 (by decide) ?_
      rw [← hQQ]
      exact W.iret (v := 0) hx hb hr (fun t9 ht9 hW9 => ⟨_, rfl, (by rw [frN, if_neg (by omega), if_pos c_17]; rfl), ht9⟩) (fun q h => by cases h) dX0_from_21
  · skip
    refine lv_ldc (v := 1000000000) hx hb hown (hts (.constant RX0 74 (1000000000)) (by decide +kernel)) dX0_from_8 ?_
    rw [← hQQ]
    exact W.iret (v := 1000000000) hx hb hr (fun t9 ht9 hW9 => ⟨_, rfl, (by rw [frN, if_pos c_5]; rfl), ht9⟩) (fun q h => by cases h) dX0_from_10
set_option maxHeartbeats 4000000 in
set_option maxRecDepth 100000 in
theorem c_X0_fromSaved (l : Launch) (D : va_G) (cI cL cZ cO : ClassId) (hs pA lt le ta : Nat) (full : Int32) (pr lf : Nat → Int32) (w d mk sv bg : Nat) (bd sp : Int32) (cm : Nat) (G : Nat → Nat → Nat → Nat) (hb0 h pq dn : Nat) (hw : 1 ≤ w ∧ w ≤ 30) (hd : d ≤ 200) (hsv : sv ≤ 5) (hbg : bg ≤ 5) (hq : pq < 4) (hh : hb0 < h ∧ h < hb0 + 6) (hdh : hb0 < d) (hdn : dn ≤ 30) (hwin : ∀ h1 p1 d1, hb0 < h1 → h1 < hb0 + 6 → h1 < d → p1 < 5 → d1 < w → wdw w d lf G h1 p1 d1) : Met l yX0_fromSaved wsX0_fromSaved ({ frames := 2, cells := 0, slots := 0, locals := 48 } : Room) (va_Pc [.ref hs, .ref ta, .int (nI h), .int (nI pq), .int (nI dn)] (Ro D cI cL cZ cO (wHd cI hs pA lt le ta full pr lf w d mk sv bg bd sp cm))) (vp_Si (fun r => r = nI (frS w d G h pq dn))) 0 0 (fun _ => False) := by
  refine Met.ofW (cc := cX0_fromSaved) (maxL := 5) (ret := (some .int)) (by decide) rfl ?_
  intro p e s m args below meth c s₁ B hml hv
  obtain ⟨rfl, hP, hO⟩ := hv
  have hx := B.exec
  have hb := B.bytes
  have hr := B.returns
  have hts := atoms_spec (ws := wsX0_fromSaved) B.pre
  have hown : s.vm.findClass RX0 = some m.cls := findClass_of_methodNamed B.named
  have hlocks := B.notSynchronized
  have hK := hO.1
  have hl := lv_entry ([.ref hs, .ref ta, .int (nI h), .int (nI pq), .int (nI dn)]) (n := 5) (Nat.le_of_ble_eq_true rfl)
  rw [lg_entry_eq]
  generalize (lg_sl ([.ref hs, .ref ta, .int (nI h), .int (nI pq), .int (nI dn)]) ++ List.replicate (5 - (lg_sl ([.ref hs, .ref ta, .int (nI h), .int (nI pq), .int (nI dn)])).length) Slot.unset).toArray = ls at hl ⊢
  have hl : lv_has ls 5 [(0, .ref hs), (1, .ref ta), (2, .int (nI h)), (3, .int (nI pq)), (4, .int (nI dn))] := hl
  generalize hQQ : MQ below _ _ s _ _ _ = QQ
  refine lv_aload_n hx hb dX0_fromSaved_0 rfl (lv_at hl 0 rfl) ?_
  refine lv_aload_n hx hb dX0_fromSaved_1 rfl (lv_at hl 1 rfl) ?_
  refine lv_iload_n hx hb dX0_fromSaved_2 rfl (lv_at hl 2 rfl) ?_
  refine lv_iload_n hx hb dX0_fromSaved_3 rfl (lv_at hl 3 rfl) ?_
  refine lv_iload hx hb dX0_fromSaved_4 (lv_at hl 4 rfl) ?_
  refine roVi (As := [.ref ta, .int (nI h), .int (nI pq), .int (nI dn)]) (rest := []) ⟨hx, hb, hml, hown, hts⟩ (c_X0_from l D cI cL cZ cO hs pA lt le ta full pr lf w d mk sv bg bd sp cm G h pq dn hw hd hsv hbg (by omega) (by omega) (by omega) (fun a1 a2 => hwin _ _ _ (by omega) (by omega) (by omega) (by omega) a2)) (cwV 4 hts gX0_fromSaved_X0_from rfl rfl rfl (by decide +kernel) ⟨Nat.le_of_ble_eq_true rfl, Nat.le_of_ble_eq_true rfl⟩) hO hP (va_recv hK hP (ci := 0) (q0 := 0) rfl rfl) rfl hl.1 rfl (Nat.le_of_ble_eq_true rfl) dX0_fromSaved_6 ⟨Nat.le_of_ble_eq_true rfl, Nat.le_of_ble_eq_true rfl⟩ (fun r_6 e_6 => ?_)
  obtain rfl : r_6 = nI (frN w d G h pq dn) := e_6
  refine lv_aload_n hx hb dX0_fromSaved_9 rfl (lv_at hl 0 rfl) ?_
  refine lv_aload_n hx hb dX0_fromSaved_10 rfl (lv_at hl 1 rfl) ?_
  refine lv_iload_n hx hb dX0_fromSaved_11 rfl (lv_at hl 2 rfl) ?_
  refine lv_iconst (v := 4) hx hb dX0_fromSaved_12 (by decide) ?_
  refine lv_iload hx hb dX0_fromSaved_13 (lv_at hl 4 rfl) ?_
  refine roVi (As := [.ref ta, .int (nI h), .int 4, .int (nI dn)]) (rest := [.int (nI (frN w d G h pq dn))]) ⟨hx, hb, hml, hown, hts⟩ (c_X0_from l D cI cL cZ cO hs pA lt le ta full pr lf w d mk sv bg bd sp cm G h 4 dn hw hd hsv hbg (by omega) (by omega) (by omega) (fun a1 a2 => hwin _ _ _ (by omega) (by omega) (by omega) (by omega) a2)) (cwV 4 hts gX0_fromSaved_X0_from rfl rfl rfl (by decide +kernel) ⟨Nat.le_of_ble_eq_true rfl, Nat.le_of_ble_eq_true rfl⟩) hO hP (va_recv hK hP (ci := 0) (q0 := 0) rfl rfl) rfl hl.1 rfl (Nat.le_of_ble_eq_true rfl) dX0_fromSaved_15 ⟨Nat.le_of_ble_eq_true rfl, Nat.le_of_ble_eq_true rfl⟩ (fun r_15 e_15 => ?_)
  obtain rfl : r_15 = nI (frN w d G h 4 dn) := e_15
  have hf1 := frN_le (w := w) (d := d) (G := G) (h := h) (pl := pq) (dn := dn) (fun a1 a2 => (hwin _ _ _ (by omega) (by omega) a1 (by omega) a2).2)
  have hf2 := frN_le (w := w) (d := d) (G := G) (h := h) (pl := 4) (dn := dn) (fun a1 a2 => (hwin _ _ _ (by omega) (by omega) a1 (by omega) a2).2)
  refine va_mmin hx hb (hml.trans hl.1.symm) hown (hts (.methodLink RX0 66 Lib.Math.min.name) (by decide +kernel)) (hts (.static Lib.Math.min.name) (by decide +kernel)) (hts (.initialized "java/lang/Math") (by decide +kernel)) (hts (.code Lib.Math.min.name Lib.Math.min.code 2 (some .int)) (by decide +kernel)) (Nat.le_of_ble_eq_true rfl) (Nat.le_of_ble_eq_true rfl) (Nat.le_of_ble_eq_true rfl) (Nat.le_of_ble_eq_true rfl) (x := (nI (frN w d G h pq dn))) (y := (nI (frN w d G h 4 dn))) dX0_fromSaved_18 ?_
  refine lv_seti (v := nI (min (frN w d G h pq dn) (frN w d G h 4 dn))) (n_min (x := (frN w d G h pq dn)) (y := (frN w d G h 4 dn)) (by omega) (by omega)) ?_
  rw [← hQQ]
  exact W.iret (v := (nI (min (frN w d G h pq dn) (frN w d G h 4 dn)))) hx hb hr (fun t9 ht9 hW9 => ⟨_, rfl, rfl, ht9⟩) (fun q h => by cases h) dX0_fromSaved_21
set_option maxHeartbeats 4000000 in
set_option maxRecDepth 100000 in
theorem c_X0_onMachine (l : Launch) (D : va_G) (cI cL cZ cO : ClassId) (hs pA lt le ta : Nat) (full : Int32) (pr lf : Nat → Int32) (w d mk sv bg : Nat) (bd sp : Int32) (cm : Nat) (G : Nat → Nat → Nat → Nat) (h pq dn : Nat) (hw : 1 ≤ w ∧ w ≤ 30) (hd : d ≤ 200) (hsv : sv ≤ 5) (hbg : bg ≤ 5) (hq : pq < 4) (hdh : h < d) (hdn : dn < w) (hpr : prGood pr full) (hwin : ∀ h1 p1 d1, h < h1 → h1 < h + 6 → h1 < d → p1 < 5 → d1 < w → wdw w d lf G h1 p1 d1) : Met l yX0_onMachine wsX0_onMachine ({ frames := 4, cells := 0, slots := 0, locals := 91 } : Room) (va_Pc [.ref hs, .ref ta, .int (nI h), .int (nI pq), .int (nI dn)] (Ro D cI cL cZ cO (wHd cI hs pA lt le ta full pr lf w d mk sv bg bd sp cm))) (vp_Si (fun r => r = nI (onM (cstN pr full) w d sv G h pq dn))) 0 0 (fun _ => False) := by
  refine Met.ofW (cc := cX0_onMachine) (maxL := 8) (ret := (some .int)) (by decide) rfl ?_
  intro p e s m args below meth c s₁ B hml hv
  obtain ⟨rfl, hP, hO⟩ := hv
  have hx := B.exec
  have hb := B.bytes
  have hr := B.returns
  have hts := atoms_spec (ws := wsX0_onMachine) B.pre
  have hown : s.vm.findClass RX0 = some m.cls := findClass_of_methodNamed B.named
  have hlocks := B.notSynchronized
  have hK := hO.1
  have hl := lv_entry ([.ref hs, .ref ta, .int (nI h), .int (nI pq), .int (nI dn)]) (n := 8) (Nat.le_of_ble_eq_true rfl)
  rw [lg_entry_eq]
  generalize (lg_sl ([.ref hs, .ref ta, .int (nI h), .int (nI pq), .int (nI dn)]) ++ List.replicate (8 - (lg_sl ([.ref hs, .ref ta, .int (nI h), .int (nI pq), .int (nI dn)])).length) Slot.unset).toArray = ls at hl ⊢
  have hl : lv_has ls 8 [(0, .ref hs), (1, .ref ta), (2, .int (nI h)), (3, .int (nI pq)), (4, .int (nI dn))] := hl
  generalize hQQ : MQ below _ _ s _ _ _ = QQ
  refine lv_aload_n hx hb dX0_onMachine_0 rfl (lv_at hl 0 rfl) ?_
  refine lv_iload_n hx hb dX0_onMachine_1 rfl (lv_at hl 3 rfl) ?_
  refine lv_iload_n hx hb dX0_onMachine_2 rfl (lv_at hl 2 rfl) ?_
  refine lv_iconst (v := 1) hx hb dX0_onMachine_3 (by decide) ?_
  refine roVi (As := [.int (nI pq), .int (nI h), .int 1]) (rest := []) ⟨hx, hb, hml, hown, hts⟩ (c_X0_stay l D cI cL cZ cO hs pA lt le ta full pr lf w d mk sv bg bd sp cm pq h 1 (by omega) (by omega) (by omega) hpr) (cwV 3 hts gX0_onMachine_X0_stay rfl rfl rfl (by decide +kernel) ⟨Nat.le_of_ble_eq_true rfl, Nat.le_of_ble_eq_true rfl⟩) hO hP (va_recv hK hP (ci := 0) (q0 := 0) rfl rfl) rfl hl.1 rfl (Nat.le_of_ble_eq_true rfl) dX0_onMachine_4 ⟨Nat.le_of_ble_eq_true rfl, Nat.le_of_ble_eq_true rfl⟩ (fun r_4 e_4 => ?_)
  obtain rfl : r_4 = nI (stF (cstN pr full) pq h 1) := e_4
  have hs1 := stF_le (cstN pr full) pq h 1
  refine lv_istore (lv' := [(5, .int (nI (stF (cstN pr full) pq h 1))), (0, .ref hs), (1, .ref ta), (2, .int (nI h)), (3, .int (nI pq)), (4, .int (nI dn))]) hx hb dX0_onMachine_7 hl (by decide) rfl (fun ls hl => ?_)
  refine lv_aload_n hx hb dX0_onMachine_9 rfl (lv_at hl 2 rfl) ?_
  refine va_get (D := D) (cl := vwCl) (ci := 4) (v := .int (nI sv)) (C := RX5) (T := TX5) (N := 8) hx hb hts (fun _ h => List.mem_cons_of_mem _ (List.mem_append_left _ (List.mem_append_left _ (List.mem_append_right _ h)))) hown hK hP 4 rfl rfl 3 (by decide) (hts (.fieldLink RX0 56 "CheapHours$Terms" "save" "I") (List.mem_of_getElem? (i := 1) rfl)) (fun _ h9 => h9) rfl dX0_onMachine_10 ?_
  refine n_if_ne (x := sv) (tgt := 35) hx hb dX0_onMachine_13 (by decide) (by omega) (fun c_13 => ?_) (fun c_13 => ?_)
  · skip
    refine lv_iload hx hb dX0_onMachine_35 (lv_at hl 0 rfl) ?_
    refine lv_aload_n hx hb dX0_onMachine_37 rfl (lv_at hl 1 rfl) ?_
    refine lv_aload_n hx hb dX0_onMachine_38 rfl (lv_at hl 2 rfl) ?_
    refine lv_iload_n hx hb dX0_onMachine_39 rfl (lv_at hl 3 rfl) ?_
    refine lv_iconst (v := 1) hx hb dX0_onMachine_40 (by decide) ?_
    refine n_iadd (x := h) (y := 1) hx hb dX0_onMachine_41 ?_
    refine lv_iload_n hx hb dX0_onMachine_42 rfl (lv_at hl 4 rfl) ?_
    refine lv_iload hx hb dX0_onMachine_43 (lv_at hl 5 rfl) ?_
    refine lv_iconst (v := 1) hx hb dX0_onMachine_45 (by decide) ?_
    refine n_iadd (x := dn) (y := 1) hx hb dX0_onMachine_46 ?_
    refine roVi (As := [.ref ta, .int (nI (h + 1)), .int (nI pq), .int (nI (dn + 1))]) (rest := [.int (nI (stF (cstN pr full) pq h 1))]) ⟨hx, hb, hml, hown, hts⟩ (c_X0_from l D cI cL cZ cO hs pA lt le ta full pr lf w d mk sv bg bd sp cm G (h + 1) pq (dn + 1) hw hd hsv hbg (by omega) (by omega) (by omega) (fun a1 a2 => hwin _ _ _ (by omega) (by omega) (by omega) (by omega) a2)) (cwV 4 hts gX0_onMachine_X0_from rfl rfl rfl (by decide +kernel) ⟨Nat.le_of_ble_eq_true rfl, Nat.le_of_ble_eq_true rfl⟩) hO hP (va_recv hK hP (ci := 0) (q0 := 0) rfl rfl) rfl hl.1 rfl (Nat.le_of_ble_eq_true rfl) dX0_onMachine_47 ⟨Nat.le_of_ble_eq_true rfl, Nat.le_of_ble_eq_true rfl⟩ (fun r_47 e_47 => ?_)
    obtain rfl : r_47 = nI (frN w d G (h + 1) pq (dn + 1)) := e_47
    have hfn : frN w d G (h + 1) pq (dn + 1) ≤ 1000000000 := frN_le (w := w) (d := d) (G := G) (h := h + 1) (pl := pq) (dn := dn + 1) (fun a1 a2 => (hwin _ _ _ (by omega) (by omega) a1 (by omega) a2).2)
    refine roSi (As := [.int (nI (stF (cstN pr full) pq h 1)), .int (nI (frN w d G (h + 1) pq (dn + 1)))]) (rest := []) ⟨hx, hb, hml, hown, hts⟩ (c_X0_sum l D cI cL cZ cO (stF (cstN pr full) pq h 1) (frN w d G (h + 1) pq (dn + 1)) (by omega) (by omega)) (va_cwS 2 hts gX0_onMachine_X0_sum rfl rfl rfl (by decide +kernel) ⟨Nat.le_of_ble_eq_true rfl, Nat.le_of_ble_eq_true rfl⟩) hO (fun k q h => by simp at h) rfl hl.1 rfl (Nat.le_of_ble_eq_true rfl) dX0_onMachine_50 ⟨Nat.le_of_ble_eq_true rfl, Nat.le_of_ble_eq_true rfl⟩ (fun r_50 e_50 => ?_)
    obtain rfl : r_50 = nI (smN (stF (cstN pr full) pq h 1) (frN w d G (h + 1) pq (dn + 1))) := e_50
    refine lv_istore (lv' := [(6, .int (nI (smN (stF (cstN pr full) pq h 1) (frN w d G (h + 1) pq (dn + 1))))), (5, .int (nI (stF (cstN pr full) pq h 1))), (0, .ref hs), (1, .ref ta), (2, .int (nI h)), (3, .int (nI pq)), (4, .int (nI dn))]) hx hb dX0_onMachine_53 hl (by decide) rfl (fun ls hl => ?_)
    refine lv_aload_n hx hb dX0_onMachine_55 rfl (lv_at hl 2 rfl) ?_
    refine lv_iload_n hx hb dX0_onMachine_56 rfl (lv_at hl 5 rfl) ?_
    refine lv_iload_n hx hb dX0_onMachine_57 rfl (lv_at hl 4 rfl) ?_
    refine lv_aload_n hx hb dX0_onMachine_58 rfl (lv_at hl 3 rfl) ?_
    refine va_get (D := D) (cl := vwCl) (ci := 4) (v := .int (nI sv)) (C := RX5) (T := TX5) (N := 8) hx hb hts (fun _ h => List.mem_cons_of_mem _ (List.mem_append_left _ (List.mem_append_left _ (List.mem_append_right _ h)))) hown hK hP 4 rfl rfl 3 (by decide) (hts (.fieldLink RX0 56 "CheapHours$Terms" "save" "I") (List.mem_of_getElem? (i := 1) rfl)) (fun _ h9 => h9) rfl dX0_onMachine_59 ?_
    refine roVi (As := [.int (nI pq), .int (nI h), .int (nI sv)]) (rest := []) ⟨hx, hb, hml, hown, hts⟩ (c_X0_stay l D cI cL cZ cO hs pA lt le ta full pr lf w d mk sv bg bd sp cm pq h sv (by omega) (by omega) (by omega) hpr) (cwV 3 hts gX0_onMachine_X0_stay rfl rfl rfl (by decide +kernel) ⟨Nat.le_of_ble_eq_true rfl, Nat.le_of_ble_eq_true rfl⟩) hO hP (va_recv hK hP (ci := 0) (q0 := 0) rfl rfl) rfl hl.1 rfl (Nat.le_of_ble_eq_true rfl) dX0_onMachine_62 ⟨Nat.le_of_ble_eq_true rfl, Nat.le_of_ble_eq_true rfl⟩ (fun r_62 e_62 => ?_)
    obtain rfl : r_62 = nI (stF (cstN pr full) pq h sv) := e_62
    have hs2 := stF_le (cstN pr full) pq h sv
    refine lv_istore (lv' := [(7, .int (nI (stF (cstN pr full) pq h sv))), (6, .int (nI (smN (stF (cstN pr full) pq h 1) (frN w d G (h + 1) pq (dn + 1))))), (5, .int (nI (stF (cstN pr full) pq h 1))), (0, .ref hs), (1, .ref ta), (2, .int (nI h)), (3, .int (nI pq)), (4, .int (nI dn))]) hx hb dX0_onMachine_65 hl (by decide) rfl (fun ls hl => ?_)
    refine lv_iload hx hb dX0_onMachine_67 (lv_at hl 1 rfl) ?_
    refine lv_iload hx hb dX0_onMachine_69 (lv_at hl 0 rfl) ?_
    refine lv_aload_n hx hb dX0_onMachine_71 rfl (lv_at hl 3 rfl) ?_
    refine lv_aload_n hx hb dX0_onMachine_72 rfl (lv_at hl 4 rfl) ?_
    refine lv_iload_n hx hb dX0_onMachine_73 rfl (lv_at hl 5 rfl) ?_
    refine lv_aload_n hx hb dX0_onMachine_74 rfl (lv_at hl 4 rfl) ?_
    refine va_get (D := D) (cl := vwCl) (ci := 4) (v := .int (nI sv)) (C := RX5) (T := TX5) (N := 8) hx hb hts (fun _ h => List.mem_cons_of_mem _ (List.mem_append_left _ (List.mem_append_left _ (List.mem_append_right _ h)))) hown hK hP 4 rfl rfl 3 (by decide) (hts (.fieldLink RX0 56 "CheapHours$Terms" "save" "I") (List.mem_of_getElem? (i := 1) rfl)) (fun _ h9 => h9) rfl dX0_onMachine_75 ?_
    refine n_iadd (x := h) (y := sv) hx hb dX0_onMachine_78 ?_
    refine lv_iload_n hx hb dX0_onMachine_79 rfl (lv_at hl 6 rfl) ?_
    refine lv_iload hx hb dX0_onMachine_80 (lv_at hl 7 rfl) ?_
    refine roVi (As := [.ref ta, .int (nI (h + sv)), .int (nI pq), .int (nI dn)]) (rest := [.int (nI (stF (cstN pr full) pq h sv)), .int (nI (smN (stF (cstN pr full) pq h 1) (frN w d G (h + 1) pq (dn + 1))))]) ⟨hx, hb, hml, hown, hts⟩ (c_X0_fromSaved l D cI cL cZ cO hs pA lt le ta full pr lf w d mk sv bg bd sp cm G h (h + sv) pq dn hw hd hsv hbg (by omega) (by omega) hdh (by omega) hwin) (cwV 4 hts gX0_onMachine_X0_fromSaved rfl rfl rfl (by decide +kernel) ⟨Nat.le_of_ble_eq_true rfl, Nat.le_of_ble_eq_true rfl⟩) hO hP (va_recv hK hP (ci := 0) (q0 := 0) rfl rfl) rfl hl.1 rfl (Nat.le_of_ble_eq_true rfl) dX0_onMachine_82 ⟨Nat.le_of_ble_eq_true rfl, Nat.le_of_ble_eq_true rfl⟩ (fun r_82 e_82 => ?_)
    obtain rfl : r_82 = nI (frS w d G (h + sv) pq dn) := e_82
    have hfs2 : frS w d G (h + sv) pq dn ≤ 1000000000 := Nat.le_trans (Nat.min_le_left _ _) (frN_le (w := w) (d := d) (G := G) (h := h + sv) (pl := pq) (dn := dn) (fun a1 a2 => (hwin _ _ _ (by omega) (by omega) a1 (by omega) a2).2))
    refine roSi (As := [.int (nI (stF (cstN pr full) pq h sv)), .int (nI (frS w d G (h + sv) pq dn))]) (rest := [.int (nI (smN (stF (cstN pr full) pq h 1) (frN w d G (h + 1) pq (dn + 1))))]) ⟨hx, hb, hml, hown, hts⟩ (c_X0_sum l D cI cL cZ cO (stF (cstN pr full) pq h sv) (frS w d G (h + sv) pq dn) (by omega) (by omega)) (va_cwS 2 hts gX0_onMachine_X0_sum rfl rfl rfl (by decide +kernel) ⟨Nat.le_of_ble_eq_true rfl, Nat.le_of_ble_eq_true rfl⟩) hO (fun k q h => by simp at h) rfl hl.1 rfl (Nat.le_of_ble_eq_true rfl) dX0_onMachine_85 ⟨Nat.le_of_ble_eq_true rfl, Nat.le_of_ble_eq_true rfl⟩ (fun r_85 e_85 => ?_)
    obtain rfl : r_85 = nI (smN (stF (cstN pr full) pq h sv) (frS w d G (h + sv) pq dn)) := e_85
    have hm1 := smN_le (stF (cstN pr full) pq h 1) (frN w d G (h + 1) pq (dn + 1))
    have hm2 := smN_le (stF (cstN pr full) pq h sv) (frS w d G (h + sv) pq dn)
    refine va_mmin hx hb (hml.trans hl.1.symm) hown (hts (.methodLink RX0 66 Lib.Math.min.name) (List.mem_of_getElem? (i := 2) rfl)) (hts (.static Lib.Math.min.name) (List.mem_of_getElem? (i := 3) rfl)) (hts (.initialized "java/lang/Math") (List.mem_of_getElem? (i := 4) rfl)) (hts (.code Lib.Math.min.name Lib.Math.min.code 2 (some .int)) (List.mem_of_getElem? (i := 5) rfl)) (Nat.le_of_ble_eq_true rfl) (Nat.le_of_ble_eq_true rfl) (Nat.le_of_ble_eq_true rfl) (Nat.le_of_ble_eq_true rfl) (x := (nI (smN (stF (cstN pr full) pq h 1) (frN w d G (h + 1) pq (dn + 1))))) (y := (nI (smN (stF (cstN pr full) pq h sv) (frS w d G (h + sv) pq dn)))) dX0_onMachine_88 ?_
    refine lv_seti (v := nI (min (smN (stF (cstN pr full) pq h 1) (frN w d G (h + 1) pq (dn + 1))) (smN (stF (cstN pr full) pq h sv) (frS w d G (h + sv) pq dn)))) (n_min (x := (smN (stF (cstN pr full) pq h 1) (frN w d G (h + 1) pq (dn + 1)))) (y := (smN (stF (cstN pr full) pq h sv) (frS w d G (h + sv) pq dn))) (by omega) (by omega)) ?_
    rw [← hQQ]
    exact W.iret (v := (nI (min (smN (stF (cstN pr full) pq h 1) (frN w d G (h + 1) pq (dn + 1))) (smN (stF (cstN pr full) pq h sv) (frS w d G (h + sv) pq dn))))) hx hb hr (fun t9 ht9 hW9 => ⟨_, rfl, (by rw [onM, if_neg (by omega)]), ht9⟩) (fun q h => by cases h) dX0_onMachine_91
  · skip
    refine lv_iload hx hb dX0_onMachine_16 (lv_at hl 0 rfl) ?_
    refine lv_aload_n hx hb dX0_onMachine_18 rfl (lv_at hl 1 rfl) ?_
    refine lv_aload_n hx hb dX0_onMachine_19 rfl (lv_at hl 2 rfl) ?_
    refine lv_iload_n hx hb dX0_onMachine_20 rfl (lv_at hl 3 rfl) ?_
    refine lv_iconst (v := 1) hx hb dX0_onMachine_21 (by decide) ?_
    refine n_iadd (x := h) (y := 1) hx hb dX0_onMachine_22 ?_
    refine lv_iload_n hx hb dX0_onMachine_23 rfl (lv_at hl 4 rfl) ?_
    refine lv_iload hx hb dX0_onMachine_24 (lv_at hl 5 rfl) ?_
    refine lv_iconst (v := 1) hx hb dX0_onMachine_26 (by decide) ?_
    refine n_iadd (x := dn) (y := 1) hx hb dX0_onMachine_27 ?_
    refine roVi (As := [.ref ta, .int (nI (h + 1)), .int (nI pq), .int (nI (dn + 1))]) (rest := [.int (nI (stF (cstN pr full) pq h 1))]) ⟨hx, hb, hml, hown, hts⟩ (c_X0_fromSaved l D cI cL cZ cO hs pA lt le ta full pr lf w d mk sv bg bd sp cm G h (h + 1) pq (dn + 1) hw hd hsv hbg (by omega) (by omega) hdh (by omega) hwin) (cwV 4 hts gX0_onMachine_X0_fromSaved rfl rfl rfl (by decide +kernel) ⟨Nat.le_of_ble_eq_true rfl, Nat.le_of_ble_eq_true rfl⟩) hO hP (va_recv hK hP (ci := 0) (q0 := 0) rfl rfl) rfl hl.1 rfl (Nat.le_of_ble_eq_true rfl) dX0_onMachine_28 ⟨Nat.le_of_ble_eq_true rfl, Nat.le_of_ble_eq_true rfl⟩ (fun r_28 e_28 => ?_)
    obtain rfl : r_28 = nI (frS w d G (h + 1) pq (dn + 1)) := e_28
    have hfs : frS w d G (h + 1) pq (dn + 1) ≤ 1000000000 := Nat.le_trans (Nat.min_le_left _ _) (frN_le (w := w) (d := d) (G := G) (h := h + 1) (pl := pq) (dn := dn + 1) (fun a1 a2 => (hwin _ _ _ (by omega) (by omega) a1 (by omega) a2).2))
    refine roSi (As := [.int (nI (stF (cstN pr full) pq h 1)), .int (nI (frS w d G (h + 1) pq (dn + 1)))]) (rest := []) ⟨hx, hb, hml, hown, hts⟩ (c_X0_sum l D cI cL cZ cO (stF (cstN pr full) pq h 1) (frS w d G (h + 1) pq (dn + 1)) (by omega) (by omega)) (va_cwS 2 hts gX0_onMachine_X0_sum rfl rfl rfl (by decide +kernel) ⟨Nat.le_of_ble_eq_true rfl, Nat.le_of_ble_eq_true rfl⟩) hO (fun k q h => by simp at h) rfl hl.1 rfl (Nat.le_of_ble_eq_true rfl) dX0_onMachine_31 ⟨Nat.le_of_ble_eq_true rfl, Nat.le_of_ble_eq_true rfl⟩ (fun r_31 e_31 => ?_)
    obtain rfl : r_31 = nI (smN (stF (cstN pr full) pq h 1) (frS w d G (h + 1) pq (dn + 1))) := e_31
    rw [← hQQ]
    exact W.iret (v := (nI (smN (stF (cstN pr full) pq h 1) (frS w d G (h + 1) pq (dn + 1))))) hx hb hr (fun t9 ht9 hW9 => ⟨_, rfl, (by rw [onM, if_pos c_13]), ht9⟩) (fun q h => by cases h) dX0_onMachine_34
set_option maxHeartbeats 4000000 in
set_option maxRecDepth 100000 in
theorem c_X0_onNone (l : Launch) (D : va_G) (cI cL cZ cO : ClassId) (hs pA lt le ta : Nat) (full : Int32) (pr lf : Nat → Int32) (w d mk sv bg : Nat) (bd sp : Int32) (cm : Nat) (G : Nat → Nat → Nat → Nat) (h sd : Nat) (hw : 1 ≤ w ∧ w ≤ 30) (hd : d ≤ 200) (hsv : sv ≤ 5) (hbg : bg ≤ 5) (hdh : h < d) (hsd : sd < w) (hpr : prGood pr full) (hwin : ∀ h1 p1 d1, h < h1 → h1 < h + 6 → h1 < d → p1 < 5 → d1 < w → wdw w d lf G h1 p1 d1) (hrow : ∀ p1 d1, p1 < 4 → d1 < w → wdw w d lf G h p1 d1) : Met l yX0_onNone wsX0_onNone ({ frames := 4, cells := 0, slots := 0, locals := 91 } : Room) (va_Pc [.ref hs, .ref ta, .int (nI h), .int (nI sd)] (Ro D cI cL cZ cO (wHd cI hs pA lt le ta full pr lf w d mk sv bg bd sp cm))) (vp_Si (fun r => r = nI (onN (cstN pr full) w d bg G h sd 4))) 0 0 (fun _ => False) := by
  refine Met.ofW (cc := cX0_onNone) (maxL := 9) (ret := (some .int)) (by decide) rfl ?_
  intro p e s m args below meth c s₁ B hml hv
  obtain ⟨rfl, hP, hO⟩ := hv
  have hx := B.exec
  have hb := B.bytes
  have hr := B.returns
  have hts := atoms_spec (ws := wsX0_onNone) B.pre
  have hown : s.vm.findClass RX0 = some m.cls := findClass_of_methodNamed B.named
  have hlocks := B.notSynchronized
  have hK := hO.1
  have hl := lv_entry ([.ref hs, .ref ta, .int (nI h), .int (nI sd)]) (n := 9) (Nat.le_of_ble_eq_true rfl)
  rw [lg_entry_eq]
  generalize (lg_sl ([.ref hs, .ref ta, .int (nI h), .int (nI sd)]) ++ List.replicate (9 - (lg_sl ([.ref hs, .ref ta, .int (nI h), .int (nI sd)])).length) Slot.unset).toArray = ls at hl ⊢
  have hl : lv_has ls 9 [(0, .ref hs), (1, .ref ta), (2, .int (nI h)), (3, .int (nI sd))] := hl
  generalize hQQ : MQ below _ _ s _ _ _ = QQ
  refine lv_aload_n hx hb dX0_onNone_0 rfl (lv_at hl 0 rfl) ?_
  refine lv_aload_n hx hb dX0_onNone_1 rfl (lv_at hl 1 rfl) ?_
  refine lv_iload_n hx hb dX0_onNone_2 rfl (lv_at hl 2 rfl) ?_
  refine lv_iconst (v := 1) hx hb dX0_onNone_3 (by decide) ?_
  refine n_iadd (x := h) (y := 1) hx hb dX0_onNone_4 ?_
  refine lv_iconst (v := 4) hx hb dX0_onNone_5 (by decide) ?_
  refine lv_iload_n hx hb dX0_onNone_6 rfl (lv_at hl 3 rfl) ?_
  refine roVi (As := [.ref ta, .int (nI (h + 1)), .int 4, .int (nI sd)]) (rest := []) ⟨hx, hb, hml, hown, hts⟩ (c_X0_from l D cI cL cZ cO hs pA lt le ta full pr lf w d mk sv bg bd sp cm G (h + 1) 4 sd hw hd hsv hbg (by omega) (by omega) (by omega) (fun a1 a2 => hwin _ _ _ (by omega) (by omega) a1 (by omega) a2)) (cwV 4 hts gX0_onNone_X0_from rfl rfl rfl (by decide +kernel) ⟨Nat.le_of_ble_eq_true rfl, Nat.le_of_ble_eq_true rfl⟩) hO hP (va_recv hK hP (ci := 0) (q0 := 0) rfl rfl) rfl hl.1 rfl (Nat.le_of_ble_eq_true rfl) dX0_onNone_7 ⟨Nat.le_of_ble_eq_true rfl, Nat.le_of_ble_eq_true rfl⟩ (fun r_7 e_7 => ?_)
  obtain rfl : r_7 = nI (frN w d G (h + 1) 4 sd) := e_7
  have hf0 : frN w d G (h + 1) 4 sd ≤ 1000000000 := frN_le (fun a1 a2 => (hwin _ _ _ (by omega) (by omega) a1 (by omega) a2).2)
  refine lv_istore (lv' := [(4, .int (nI (frN w d G (h + 1) 4 sd))), (0, .ref hs), (1, .ref ta), (2, .int (nI h)), (3, .int (nI sd))]) hx hb dX0_onNone_10 hl (by decide) rfl (fun ls hl => ?_)
  refine lv_iconst (v := 0) hx hb dX0_onNone_12 (by decide) ?_
  refine lv_istore (lv' := [(5, .int 0), (4, .int (nI (frN w d G (h + 1) 4 sd))), (0, .ref hs), (1, .ref ta), (2, .int (nI h)), (3, .int (nI sd))]) hx hb dX0_onNone_13 hl (by decide) rfl (fun ls hl => ?_)
  have L15 : ∀ (n0 : Nat) (pq : Nat) (b : Nat) (ls : Array Slot), 4 - pq < n0 → (pq ≤ 4) → (b = onN (cstN pr full) w d bg G h sd pq) → lv_has ls 9 [(5, .int (nI pq)), (4, .int (nI b)), (0, .ref hs), (1, .ref ta), (2, .int (nI h)), (3, .int (nI sd))] → W p l e (headSpec wsX0_onNone ({ frames := 4, cells := 0, slots := 0, locals := 91 } : Room)).room s m ([.ref hs, .ref ta, .int (nI h), .int (nI sd)] : List Value).toArray below meth c s.heap [] 0 0 QQ (F0 m 15 ls []) := by
    intro n0
    induction n0 with
    | zero =>
      intro pq b ls hmu
      exact absurd hmu (Nat.not_lt_zero _)
    | succ n0 ih15 =>
      intro pq b ls hmu hpq hbe hl
      have hbl : b ≤ 1000000000 := by rw [hbe]; exact onN_le hf0 pq
      refine lv_iload hx hb dX0_onNone_15 (lv_at hl 0 rfl) ?_
      refine lv_iconst (v := 4) hx hb dX0_onNone_17 (by decide) ?_
      refine n_icmp_ge (x := pq) (y := 4) (tgt := 95) hx hb dX0_onNone_18 (by decide) (by omega) (by omega) (fun c_18 => ?_) (fun c_18 => ?_)
      · skip
        refine lv_iload hx hb dX0_onNone_95 (lv_at hl 1 rfl) ?_
        rw [← hQQ]
        exact W.iret (v := (nI b)) hx hb hr (fun t9 ht9 hW9 => ⟨_, rfl, (by rw [hbe, show pq = 4 by omega]), ht9⟩) (fun q h => by cases h) dX0_onNone_97
      · skip
        refine lv_aload_n hx hb dX0_onNone_21 rfl (lv_at hl 2 rfl) ?_
        refine lv_aload_n hx hb dX0_onNone_22 rfl (lv_at hl 3 rfl) ?_
        refine lv_iload_n hx hb dX0_onNone_23 rfl (lv_at hl 4 rfl) ?_
        refine lv_iload hx hb dX0_onNone_24 (lv_at hl 0 rfl) ?_
        refine lv_iconst (v := 0) hx hb dX0_onNone_26 (by decide) ?_
        refine roVi (As := [.ref ta, .int (nI h), .int (nI pq), .int 0]) (rest := []) ⟨hx, hb, hml, hown, hts⟩ (c_X0_from l D cI cL cZ cO hs pA lt le ta full pr lf w d mk sv bg bd sp cm G h pq 0 hw hd hsv hbg (by omega) (by omega) (by omega) (fun a1 a2 => hrow _ _ (by omega) a2)) (cwV 4 hts gX0_onNone_X0_from rfl rfl rfl (by decide +kernel) ⟨Nat.le_of_ble_eq_true rfl, Nat.le_of_ble_eq_true rfl⟩) hO hP (va_recv hK hP (ci := 0) (q0 := 0) rfl rfl) rfl hl.1 rfl (Nat.le_of_ble_eq_true rfl) dX0_onNone_27 ⟨Nat.le_of_ble_eq_true rfl, Nat.le_of_ble_eq_true rfl⟩ (fun r_27 e_27 => ?_)
        obtain rfl : r_27 = nI (frN w d G h pq 0) := e_27
        have hf1 : frN w d G h pq 0 ≤ 1000000000 := frN_le (fun a1 a2 => (hrow _ _ (by omega) a2).2)
        refine lv_istore (lv' := [(6, .int (nI (frN w d G h pq 0))), (5, .int (nI pq)), (4, .int (nI b)), (0, .ref hs), (1, .ref ta), (2, .int (nI h)), (3, .int (nI sd))]) hx hb dX0_onNone_30 hl (by decide) rfl (fun ls hl => ?_)
        refine lv_aload_n hx hb dX0_onNone_32 rfl (lv_at hl 3 rfl) ?_
        refine lv_iload hx hb dX0_onNone_33 (lv_at hl 1 rfl) ?_
        refine lv_iload_n hx hb dX0_onNone_35 rfl (lv_at hl 5 rfl) ?_
        refine lv_aload_n hx hb dX0_onNone_36 rfl (lv_at hl 4 rfl) ?_
        refine va_get (D := D) (cl := vwCl) (ci := 4) (v := .int (nI bg)) (C := RX5) (T := TX5) (N := 8) hx hb hts (fun _ h => List.mem_cons_of_mem _ (List.mem_append_left _ (List.mem_append_left _ (List.mem_append_right _ h)))) hown hK hP 4 rfl rfl 4 (by decide) (hts (.fieldLink RX0 71 "CheapHours$Terms" "bring" "I") (List.mem_of_getElem? (i := 1) rfl)) (fun _ h9 => h9) rfl dX0_onNone_37 ?_
        refine roVi (As := [.int (nI pq), .int (nI h), .int (nI bg)]) (rest := []) ⟨hx, hb, hml, hown, hts⟩ (c_X0_stay l D cI cL cZ cO hs pA lt le ta full pr lf w d mk sv bg bd sp cm pq h bg (by omega) (by omega) (by omega) hpr) (cwV 3 hts gX0_onNone_X0_stay rfl rfl rfl (by decide +kernel) ⟨Nat.le_of_ble_eq_true rfl, Nat.le_of_ble_eq_true rfl⟩) hO hP (va_recv hK hP (ci := 0) (q0 := 0) rfl rfl) rfl hl.1 rfl (Nat.le_of_ble_eq_true rfl) dX0_onNone_40 ⟨Nat.le_of_ble_eq_true rfl, Nat.le_of_ble_eq_true rfl⟩ (fun r_40 e_40 => ?_)
        obtain rfl : r_40 = nI (stF (cstN pr full) pq h bg) := e_40
        have hs2 := stF_le (cstN pr full) pq h bg
        refine lv_istore (lv' := [(7, .int (nI (stF (cstN pr full) pq h bg))), (6, .int (nI (frN w d G h pq 0))), (5, .int (nI pq)), (4, .int (nI b)), (0, .ref hs), (1, .ref ta), (2, .int (nI h)), (3, .int (nI sd))]) hx hb dX0_onNone_43 hl (by decide) rfl (fun ls hl => ?_)
        refine lv_iload_n hx hb dX0_onNone_45 rfl (lv_at hl 7 rfl) ?_
        refine n_if_ne (x := sd) (tgt := 54) hx hb dX0_onNone_46 (by decide) (by omega) (fun c_46 => ?_) (fun c_46 => ?_)
        · skip
          refine lv_iload hx hb dX0_onNone_54 (lv_at hl 0 rfl) ?_
          refine lv_aload_n hx hb dX0_onNone_56 rfl (lv_at hl 4 rfl) ?_
          refine lv_aload_n hx hb dX0_onNone_57 rfl (lv_at hl 5 rfl) ?_
          refine lv_iload_n hx hb dX0_onNone_58 rfl (lv_at hl 6 rfl) ?_
          refine lv_aload_n hx hb dX0_onNone_59 rfl (lv_at hl 5 rfl) ?_
          refine va_get (D := D) (cl := vwCl) (ci := 4) (v := .int (nI bg)) (C := RX5) (T := TX5) (N := 8) hx hb hts (fun _ h => List.mem_cons_of_mem _ (List.mem_append_left _ (List.mem_append_left _ (List.mem_append_right _ h)))) hown hK hP 4 rfl rfl 4 (by decide) (hts (.fieldLink RX0 71 "CheapHours$Terms" "bring" "I") (List.mem_of_getElem? (i := 1) rfl)) (fun _ h9 => h9) rfl dX0_onNone_60 ?_
          refine n_iadd (x := h) (y := bg) hx hb dX0_onNone_63 ?_
          refine lv_iload hx hb dX0_onNone_64 (lv_at hl 2 rfl) ?_
          refine lv_iload_n hx hb dX0_onNone_66 rfl (lv_at hl 7 rfl) ?_
          refine roVi (As := [.ref ta, .int (nI (h + bg)), .int (nI pq), .int (nI sd)]) (rest := [.int (nI (stF (cstN pr full) pq h bg))]) ⟨hx, hb, hml, hown, hts⟩ (c_X0_from l D cI cL cZ cO hs pA lt le ta full pr lf w d mk sv bg bd sp cm G (h + bg) pq sd hw hd hsv hbg (by omega) (by omega) (by omega) (fun a1 a2 => by rcases Nat.eq_zero_or_pos bg with q9 | q9; (subst q9; exact hrow _ _ (by omega) a2); exact hwin _ _ _ (by omega) (by omega) a1 (by omega) a2)) (cwV 4 hts gX0_onNone_X0_from rfl rfl rfl (by decide +kernel) ⟨Nat.le_of_ble_eq_true rfl, Nat.le_of_ble_eq_true rfl⟩) hO hP (va_recv hK hP (ci := 0) (q0 := 0) rfl rfl) rfl hl.1 rfl (Nat.le_of_ble_eq_true rfl) dX0_onNone_67 ⟨Nat.le_of_ble_eq_true rfl, Nat.le_of_ble_eq_true rfl⟩ (fun r_67 e_67 => ?_)
          obtain rfl : r_67 = nI (frN w d G (h + bg) pq sd) := e_67
          have hf2 : frN w d G (h + bg) pq sd ≤ 1000000000 := frN_le (fun a1 a2 => by rcases Nat.eq_zero_or_pos bg with q9 | q9; (subst q9; exact (hrow _ _ (by omega) a2).2); exact (hwin _ _ _ (by omega) (by omega) a1 (by omega) a2).2)
          refine roSi (As := [.int (nI (stF (cstN pr full) pq h bg)), .int (nI (frN w d G (h + bg) pq sd))]) (rest := []) ⟨hx, hb, hml, hown, hts⟩ (c_X0_sum l D cI cL cZ cO (stF (cstN pr full) pq h bg) (frN w d G (h + bg) pq sd) (by omega) (by omega)) (va_cwS 2 hts gX0_onNone_X0_sum rfl rfl rfl (by decide +kernel) ⟨Nat.le_of_ble_eq_true rfl, Nat.le_of_ble_eq_true rfl⟩) hO (fun k q h => by simp at h) rfl hl.1 rfl (Nat.le_of_ble_eq_true rfl) dX0_onNone_70 ⟨Nat.le_of_ble_eq_true rfl, Nat.le_of_ble_eq_true rfl⟩ (fun r_70 e_70 => ?_)
          obtain rfl : r_70 = nI (smN (stF (cstN pr full) pq h bg) (frN w d G (h + bg) pq sd)) := e_70
          have hm1 := smN_le (stF (cstN pr full) pq h bg) (frN w d G (h + bg) pq sd)
          refine lv_istore (lv' := [(8, .int (nI (smN (stF (cstN pr full) pq h bg) (frN w d G (h + bg) pq sd)))), (7, .int (nI (stF (cstN pr full) pq h bg))), (6, .int (nI (frN w d G h pq 0))), (5, .int (nI pq)), (4, .int (nI b)), (0, .ref hs), (1, .ref ta), (2, .int (nI h)), (3, .int (nI sd))]) hx hb dX0_onNone_73 hl (by decide) rfl (fun ls hl => ?_)
          refine lv_iload hx hb dX0_onNone_75 (lv_at hl 4 rfl) ?_
          refine lv_iload hx hb dX0_onNone_77 (lv_at hl 2 rfl) ?_
          refine lv_iload hx hb dX0_onNone_79 (lv_at hl 0 rfl) ?_
          refine va_mmin hx hb (hml.trans hl.1.symm) hown (hts (.methodLink RX0 66 Lib.Math.min.name) (List.mem_of_getElem? (i := 3) rfl)) (hts (.static Lib.Math.min.name) (List.mem_of_getElem? (i := 4) rfl)) (hts (.initialized "java/lang/Math") (List.mem_of_getElem? (i := 5) rfl)) (hts (.code Lib.Math.min.name Lib.Math.min.code 2 (some .int)) (List.mem_of_getElem? (i := 6) rfl)) (Nat.le_of_ble_eq_true rfl) (Nat.le_of_ble_eq_true rfl) (Nat.le_of_ble_eq_true rfl) (Nat.le_of_ble_eq_true rfl) (x := (nI (frN w d G h pq 0))) (y := (nI (smN (stF (cstN pr full) pq h bg) (frN w d G (h + bg) pq sd)))) dX0_onNone_81 ?_
          refine lv_seti (v := nI (min (frN w d G h pq 0) (smN (stF (cstN pr full) pq h bg) (frN w d G (h + bg) pq sd)))) (n_min (x := (frN w d G h pq 0)) (y := (smN (stF (cstN pr full) pq h bg) (frN w d G (h + bg) pq sd))) (by omega) (by omega)) ?_
          refine va_mmin hx hb (hml.trans hl.1.symm) hown (hts (.methodLink RX0 66 Lib.Math.min.name) (List.mem_of_getElem? (i := 3) rfl)) (hts (.static Lib.Math.min.name) (List.mem_of_getElem? (i := 4) rfl)) (hts (.initialized "java/lang/Math") (List.mem_of_getElem? (i := 5) rfl)) (hts (.code Lib.Math.min.name Lib.Math.min.code 2 (some .int)) (List.mem_of_getElem? (i := 6) rfl)) (Nat.le_of_ble_eq_true rfl) (Nat.le_of_ble_eq_true rfl) (Nat.le_of_ble_eq_true rfl) (Nat.le_of_ble_eq_true rfl) (x := (nI b)) (y := (nI (min (frN w d G h pq 0) (smN (stF (cstN pr full) pq h bg) (frN w d G (h + bg) pq sd))))) dX0_onNone_84 ?_
          refine lv_seti (v := nI (min b (min (frN w d G h pq 0) (smN (stF (cstN pr full) pq h bg) (frN w d G (h + bg) pq sd))))) (n_min (x := b) (y := (min (frN w d G h pq 0) (smN (stF (cstN pr full) pq h bg) (frN w d G (h + bg) pq sd)))) (by omega) (by omega)) ?_
          refine lv_istore (lv' := [(4, .int (nI (min b (min (frN w d G h pq 0) (smN (stF (cstN pr full) pq h bg) (frN w d G (h + bg) pq sd)))))), (8, .int (nI (smN (stF (cstN pr full) pq h bg) (frN w d G (h + bg) pq sd)))), (7, .int (nI (stF (cstN pr full) pq h bg))), (6, .int (nI (frN w d G h pq 0))), (5, .int (nI pq)), (0, .ref hs), (1, .ref ta), (2, .int (nI h)), (3, .int (nI sd))]) hx hb dX0_onNone_87 hl (by decide) rfl (fun ls hl => ?_)
          refine lv_iinc (v := (nI (pq + 1))) (lv' := [(5, .int (nI (pq + 1))), (4, .int (nI (min b (min (frN w d G h pq 0) (smN (stF (cstN pr full) pq h bg) (frN w d G (h + bg) pq sd)))))), (8, .int (nI (smN (stF (cstN pr full) pq h bg) (frN w d G (h + bg) pq sd)))), (7, .int (nI (stF (cstN pr full) pq h bg))), (6, .int (nI (frN w d G h pq 0))), (0, .ref hs), (1, .ref ta), (2, .int (nI h)), (3, .int (nI sd))]) hx hb dX0_onNone_89 hl (k := 4) rfl (nI_add pq 1) (by decide) rfl (fun ls hl => ?_)
          refine lv_goto (tgt := 15) hx hb dX0_onNone_92 (by decide) ?_
          exact ih15 (pq + 1) (min b (min (frN w d G h pq 0) (smN (stF (cstN pr full) pq h bg) (frN w d G (h + bg) pq sd)))) _ (by omega) (by omega) (by rw [hbe, onN, bkN, if_neg (by omega)]) (lv_sub hl [0, 1, 5, 6, 7, 8] rfl)
        · skip
          refine lv_ldc (v := 1000000000) hx hb hown (hts (.constant RX0 74 (1000000000)) (List.mem_of_getElem? (i := 2) rfl)) dX0_onNone_49 ?_
          refine lv_goto (tgt := 73) hx hb dX0_onNone_51 (by decide) ?_
          have hm1 := smN_le (stF (cstN pr full) pq h bg) (frN w d G (h + bg) pq sd)
          refine lv_istore (lv' := [(8, .int 1000000000), (7, .int (nI (stF (cstN pr full) pq h bg))), (6, .int (nI (frN w d G h pq 0))), (5, .int (nI pq)), (4, .int (nI b)), (0, .ref hs), (1, .ref ta), (2, .int (nI h)), (3, .int (nI sd))]) hx hb dX0_onNone_73 hl (by decide) rfl (fun ls hl => ?_)
          refine lv_iload hx hb dX0_onNone_75 (lv_at hl 4 rfl) ?_
          refine lv_iload hx hb dX0_onNone_77 (lv_at hl 2 rfl) ?_
          refine lv_iload hx hb dX0_onNone_79 (lv_at hl 0 rfl) ?_
          refine va_mmin hx hb (hml.trans hl.1.symm) hown (hts (.methodLink RX0 66 Lib.Math.min.name) (List.mem_of_getElem? (i := 3) rfl)) (hts (.static Lib.Math.min.name) (List.mem_of_getElem? (i := 4) rfl)) (hts (.initialized "java/lang/Math") (List.mem_of_getElem? (i := 5) rfl)) (hts (.code Lib.Math.min.name Lib.Math.min.code 2 (some .int)) (List.mem_of_getElem? (i := 6) rfl)) (Nat.le_of_ble_eq_true rfl) (Nat.le_of_ble_eq_true rfl) (Nat.le_of_ble_eq_true rfl) (Nat.le_of_ble_eq_true rfl) (x := (nI (frN w d G h pq 0))) (y := 1000000000) dX0_onNone_81 ?_
          refine lv_seti (v := nI (min (frN w d G h pq 0) 1000000000)) (n_min (x := (frN w d G h pq 0)) (y := 1000000000) (by omega) (by omega)) ?_
          refine va_mmin hx hb (hml.trans hl.1.symm) hown (hts (.methodLink RX0 66 Lib.Math.min.name) (List.mem_of_getElem? (i := 3) rfl)) (hts (.static Lib.Math.min.name) (List.mem_of_getElem? (i := 4) rfl)) (hts (.initialized "java/lang/Math") (List.mem_of_getElem? (i := 5) rfl)) (hts (.code Lib.Math.min.name Lib.Math.min.code 2 (some .int)) (List.mem_of_getElem? (i := 6) rfl)) (Nat.le_of_ble_eq_true rfl) (Nat.le_of_ble_eq_true rfl) (Nat.le_of_ble_eq_true rfl) (Nat.le_of_ble_eq_true rfl) (x := (nI b)) (y := (nI (min (frN w d G h pq 0) 1000000000))) dX0_onNone_84 ?_
          refine lv_seti (v := nI (min b (min (frN w d G h pq 0) 1000000000))) (n_min (x := b) (y := (min (frN w d G h pq 0) 1000000000)) (by omega) (by omega)) ?_
          refine lv_istore (lv' := [(4, .int (nI (min b (min (frN w d G h pq 0) 1000000000)))), (8, .int 1000000000), (7, .int (nI (stF (cstN pr full) pq h bg))), (6, .int (nI (frN w d G h pq 0))), (5, .int (nI pq)), (0, .ref hs), (1, .ref ta), (2, .int (nI h)), (3, .int (nI sd))]) hx hb dX0_onNone_87 hl (by decide) rfl (fun ls hl => ?_)
          refine lv_iinc (v := (nI (pq + 1))) (lv' := [(5, .int (nI (pq + 1))), (4, .int (nI (min b (min (frN w d G h pq 0) 1000000000)))), (8, .int 1000000000), (7, .int (nI (stF (cstN pr full) pq h bg))), (6, .int (nI (frN w d G h pq 0))), (0, .ref hs), (1, .ref ta), (2, .int (nI h)), (3, .int (nI sd))]) hx hb dX0_onNone_89 hl (k := 4) rfl (nI_add pq 1) (by decide) rfl (fun ls hl => ?_)
          refine lv_goto (tgt := 15) hx hb dX0_onNone_92 (by decide) ?_
          exact ih15 (pq + 1) (min b (min (frN w d G h pq 0) 1000000000)) _ (by omega) (by omega) (by rw [hbe, onN, bkN, if_pos c_46]) (lv_sub hl [0, 1, 5, 6, 7, 8] rfl)
  exact L15 _ 0 (frN w d G (h + 1) 4 sd) _ (Nat.lt_succ_self _) (Nat.zero_le _) rfl (lv_sub hl [0, 1, 2, 3, 4, 5] rfl)
