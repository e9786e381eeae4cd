def gM (cs : Nat → Nat → Nat) (w d sv : Nat) (G : Nat → Nat → Nat → Nat) (h : Nat) : Nat → Nat → Nat → Nat := fun h1 p1 d1 => if h1 = h ∧ p1 < 4 then onM cs w d sv G h p1 d1 else G h1 p1 d1
def gN (cs : Nat → Nat → Nat) (w d sv bg : Nat) (G : Nat → Nat → Nat → Nat) (h : Nat) : Nat → Nat → Nat → Nat := fun h1 p1 d1 => if h1 = h ∧ p1 = 4 then onN cs w d bg (gM cs w d sv G h) h d1 4 else gM cs w d sv G h h1 p1 d1
theorem frN_congr {w d : Nat} {G G' : Nat → Nat → Nat → Nat} {h pl dn : Nat} (e : G h pl dn = G' h pl dn) : frN w d G h pl dn = frN w d G' h pl dn := by rw [frN, frN, e]
theorem onM_congr {cs : Nat → Nat → Nat} {w d sv : Nat} {G G' : Nat → Nat → Nat → Nat} {h pl dn : Nat} (e : ∀ h1 p1 d1, h < h1 → G h1 p1 d1 = G' h1 p1 d1) : onM cs w d sv G h pl dn = onM cs w d sv G' h pl dn := by
  unfold onM
  by_cases q : sv = 0
  · rw [if_pos q, if_pos q, frS, frS, frN_congr (e _ _ _ (by omega)), frN_congr (e _ 4 _ (by omega))]
  · rw [if_neg q, if_neg q, frS, frS, frN_congr (e _ _ _ (by omega)), frN_congr (e (h + sv) pl dn (by omega)), frN_congr (e _ 4 _ (by omega))]
theorem onN_congr {cs : Nat → Nat → Nat} {w d bg : Nat} {G G' : Nat → Nat → Nat → Nat} {h sd : Nat} (e : ∀ h1 p1 d1, h < h1 → G h1 p1 d1 = G' h1 p1 d1) (e2 : ∀ p1 d1, p1 < 4 → G h p1 d1 = G' h p1 d1) : ∀ k, k ≤ 4 → onN cs w d bg G h sd k = onN cs w d bg G' h sd k
  | 0, _ => frN_congr (e _ _ _ (by omega))
  | k + 1, hk => by
    have e3 : ∀ d1, G (h + bg) k d1 = G' (h + bg) k d1 := by
      intro d1
      rcases Nat.eq_zero_or_pos bg with q | q
      · rw [q]; exact e2 k d1 (by omega)
      · exact e _ _ _ (by omega)
    rw [onN, onN, onN_congr e e2 k (by omega), frN_congr (e2 k 0 (by omega)), bkN, bkN, frN_congr (e3 sd)]
theorem gM_gt {cs : Nat → Nat → Nat} {w d sv : Nat} {G : Nat → Nat → Nat → Nat} {h h1 p1 d1 : Nat} (q : h1 ≠ h) : gM cs w d sv G h h1 p1 d1 = G h1 p1 d1 := if_neg (fun z => q z.1)
theorem gN_gt {cs : Nat → Nat → Nat} {w d sv bg : Nat} {G : Nat → Nat → Nat → Nat} {h h1 p1 d1 : Nat} (q : h1 ≠ h) : gN cs w d sv bg G h h1 p1 d1 = G h1 p1 d1 := (if_neg (fun z => q z.1)).trans (gM_gt q)
theorem gM_at {cs : Nat → Nat → Nat} {w d sv : Nat} {G : Nat → Nat → Nat → Nat} {h p1 d1 : Nat} (q : p1 < 4) : gM cs w d sv G h h p1 d1 = onM cs w d sv G h p1 d1 := if_pos ⟨rfl, q⟩
theorem gN_at {cs : Nat → Nat → Nat} {w d sv bg : Nat} {G : Nat → Nat → Nat → Nat} {h p1 d1 : Nat} (q : p1 < 4) : gN cs w d sv bg G h h p1 d1 = onM cs w d sv G h p1 d1 := (if_neg (by omega)).trans (gM_at q)
theorem gN_4 {cs : Nat → Nat → Nat} {w d sv bg : Nat} {G : Nat → Nat → Nat → Nat} {h d1 : Nat} : gN cs w d sv bg G h h 4 d1 = onN cs w d bg (gM cs w d sv G h) h d1 4 := if_pos ⟨rfl, rfl⟩
/-- the class's own equation -/
def CmpSol (cs : Nat → Nat → Nat) (w d bg sv cm : Nat) (G : Nat → Nat → Nat → Nat) : Prop := ∀ h, cm ≤ h → h < d → (∀ p1 d1, p1 < 4 → d1 < w → G h p1 d1 = onM cs w d sv G h p1 d1) ∧ ∀ d1, d1 < w → G h 4 d1 = onN cs w d bg G h d1 4
theorem CmpSol_s {cs : Nat → Nat → Nat} {w d bg sv h : Nat} {G : Nat → Nat → Nat → Nat} (g : CmpSol cs w d bg sv (h + 1) G) : CmpSol cs w d bg sv h (gN cs w d sv bg G h) := by
  intro h1 a1 a2
  have e : ∀ h2 p2 d2, h < h2 → gN cs w d sv bg G h h2 p2 d2 = G h2 p2 d2 := fun h2 p2 d2 q => gN_gt (by omega)
  by_cases q : h1 = h
  · subst q
    refine ⟨fun p1 d1 b1 b2 => ?_, fun d1 b2 => ?_⟩
    · rw [gN_at b1]; exact (onM_congr (fun h2 p2 d2 c => e h2 p2 d2 c)).symm
    · rw [gN_4]
      exact (onN_congr (fun h2 p2 d2 c => (e h2 p2 d2 c).trans (gM_gt (by omega)).symm) (fun p2 d2 c => (gN_at c).trans (gM_at c).symm) 4 (Nat.le_refl 4)).symm
  · obtain ⟨g1, g2⟩ := g h1 (by omega) a2
    refine ⟨fun p1 d1 b1 b2 => ?_, fun d1 b2 => ?_⟩
    · rw [e h1 p1 d1 (by omega), g1 p1 d1 b1 b2]; exact (onM_congr (fun h2 p2 d2 c => e h2 p2 d2 (by omega))).symm
    · rw [e h1 4 d1 (by omega), g2 d1 b2]
      exact (onN_congr (fun h2 p2 d2 c => e h2 p2 d2 (by omega)) (fun p2 d2 c => e h1 p2 d2 (by omega)) 4 (Nat.le_refl 4)).symm
theorem sl_ne1 {h h1 p p1 dn d1 : Nat} (a : h < h1) (b : h1 < h + 6) (hp : p < 5) (hp1 : p1 < 5) (hd : dn < 30) (hd1 : d1 < 30) : ¬ sl h1 p1 d1 = sl h p dn := by
  unfold sl; omega
theorem sl_ne2 {h p p1 dn d1 : Nat} (hp : p < 5) (hp1 : p1 < 5) (hd : dn < 30) (hd1 : d1 < 30) (q : ¬ (p1 = p ∧ d1 = dn)) : ¬ sl h p1 d1 = sl h p dn := by
  unfold sl; omega
/-- the machines' rows of hour h up to (pl, dn) -/
def rowM (cs : Nat → Nat → Nat) (w d sv : Nat) (G : Nat → Nat → Nat → Nat) (lf : Nat → Int32) (h pl dn : Nat) : Prop := ∀ p1 d1, p1 < 4 → d1 < w → (p1 < pl ∨ (p1 = pl ∧ d1 < dn)) → lf (sl h p1 d1) = nI (onM cs w d sv G h p1 d1)
def winA (w d : Nat) (lf : Nat → Int32) (G : Nat → Nat → Nat → Nat) (h : Nat) : Prop := ∀ h1 p1 d1, h < h1 → h1 < h + 6 → h1 < d → p1 < 5 → d1 < w → wdw w d lf G h1 p1 d1
theorem winA_put {w d : Nat} {lf : Nat → Int32} {G : Nat → Nat → Nat → Nat} {h p dn : Nat} {v : Int32} (hw : w ≤ 30) (hp : p < 5) (hdn : dn < w) (g : winA w d lf G h) : winA w d (upd lf (sl h p dn) v) G h := by
  intro h1 p1 d1 a1 a2 a3 a4 a5
  obtain ⟨b1, b2⟩ := g h1 p1 d1 a1 a2 a3 a4 a5
  exact ⟨by rw [pk_un (sl_ne1 a1 a2 hp a4 (by omega) (by omega))]; exact b1, b2⟩
theorem rowM_s {cs : Nat → Nat → Nat} {w d sv : Nat} {G : Nat → Nat → Nat → Nat} {lf : Nat → Int32} {h pl dn : Nat} (hw : w ≤ 30) (hp : pl < 4) (hdn : dn < w) (g : rowM cs w d sv G lf h pl dn) : rowM cs w d sv G (upd lf (sl h pl dn) (nI (onM cs w d sv G h pl dn))) h pl (dn + 1) := by
  intro p1 d1 a1 a2 a3
  by_cases q : p1 = pl ∧ d1 = dn
  · obtain ⟨rfl, rfl⟩ := q; exact pk_us
  · rw [pk_un (sl_ne2 (by omega) (by omega) (by omega) (by omega) q)]
    exact g p1 d1 a1 a2 (by omega)
theorem rowM_keep {cs : Nat → Nat → Nat} {w d sv : Nat} {G : Nat → Nat → Nat → Nat} {lf : Nat → Int32} {h dn : Nat} {v : Int32} (hw : w ≤ 30) (hdn : dn < w) (g : rowM cs w d sv G lf h 4 0) : rowM cs w d sv G (upd lf (sl h 4 dn) v) h 4 0 := by
  intro p1 d1 a1 a2 a3
  rw [pk_un (sl_ne2 (by omega) (by omega) (by omega) (by omega) (by omega))]
  exact g p1 d1 a1 a2 a3
theorem winM {cs : Nat → Nat → Nat} {w d sv : Nat} {G : Nat → Nat → Nat → Nat} {lf : Nat → Int32} {h : Nat} (g : winA w d lf G h) : winA w d lf (gM cs w d sv G h) h := by
  intro h1 p1 d1 a1 a2 a3 a4 a5
  unfold wdw
  rw [gM_gt (by omega)]
  exact g h1 p1 d1 a1 a2 a3 a4 a5
theorem rowMM {cs : Nat → Nat → Nat} {w d sv : Nat} {G : Nat → Nat → Nat → Nat} {lf : Nat → Int32} {h : Nat} (g : rowM cs w d sv G lf h 4 0) : ∀ p1 d1, p1 < 4 → d1 < w → wdw w d lf (gM cs w d sv G h) h p1 d1 := by
  intro p1 d1 a1 a2
  unfold wdw
  rw [gM_at a1]
  exact ⟨g p1 d1 a1 a2 (by omega), onM_le _ _ _ _ _ _ _ _⟩
theorem winN {cs : Nat → Nat → Nat} {w d sv bg : Nat} {G : Nat → Nat → Nat → Nat} {lf : Nat → Int32} {h sd : Nat} (hw : w ≤ sd) (hd : h < d) (g : winA w d lf G h) (g1 : rowM cs w d sv G lf h 4 0) (g2 : ∀ d1, d1 < sd → lf (sl h 4 d1) = nI (onN cs w d bg (gM cs w d sv G h) h d1 4)) : ∀ h1 p1 d1, h ≤ h1 → h1 < h + 6 → h1 < d → p1 < 5 → d1 < w → wdw w d lf (gN cs w d sv bg G h) h1 p1 d1 := by
  intro h1 p1 d1 a1 a2 a3 a4 a5
  unfold wdw
  by_cases q : h1 = h
  · subst q
    by_cases q2 : p1 < 4
    · rw [gN_at q2]; exact ⟨g1 p1 d1 q2 a5 (by omega), onM_le _ _ _ _ _ _ _ _⟩
    · obtain rfl : p1 = 4 := by omega
      rw [gN_4]
      refine ⟨g2 d1 (by omega), onN_le (frN_le (fun b1 b2 => ?_)) 4⟩
      rw [gM_gt (by omega)]
      exact (g (h1 + 1) 4 d1 (by omega) (by omega) b1 (by omega) b2).2
  · rw [gN_gt q]
    exact g h1 p1 d1 (by omega) a2 a3 a4 a5
def orcC (pr : Nat → Int32) (full : Int32) (w d bg sv cm : Nat) (r : Int32) : Prop := ∃ G, CmpSol (cstN pr full) w d bg sv cm G ∧ r = nI (G cm 4 0)
set_option maxHeartbeats 4000000 in
set_option maxRecDepth 100000 in
theorem c_X0_put (l : Launch) (D : va_G) (cI cL cZ cO : ClassId) (sz : Nat) (hs pA lt le ta : Nat) (full : Int32) (pr lf : Nat → Int32) (w d mk sv bg : Nat) (bd sp : Int32) (cm : Nat) (h pq dn : Nat) (cn : Int32) (hh : h < 200) (hq : pq < 5) (hdn : dn < 30) : Met l yX0_put wsX0_put ({ frames := 1, cells := 0, slots := 0, locals := 23 } : Room) (va_Pc [.ref hs, .int (nI h), .int (nI pq), .int (nI dn), .int cn] (Rw D cI cL cZ cO (wHd cI hs pA lt le ta full pr lf w d mk sv bg bd sp cm) sz)) (va_Qv (fun (u : Unit) => True) (fun (u : Unit) => Wo D (va_A (wHd cI hs pA lt le ta full pr lf w d mk sv bg bd sp cm) sz) (wHd cI hs pA lt le ta full pr (upd lf (sl h pq dn) cn) w d mk sv bg bd sp cm)) (va_A (wHd cI hs pA lt le ta full pr lf w d mk sv bg bd sp cm) sz)) 0 0 (va_A (wHd cI hs pA lt le ta full pr lf w d mk sv bg bd sp cm) sz) := by
  refine Met.ofW (cc := cX0_put) (maxL := 6) (ret := none) (by decide) rfl ?_
  intro p e s m args below meth c s₁ B hml hv
  obtain ⟨rfl, hsz, hP, hO, hD0⟩ := hv
  have hx := B.exec
  have hb := B.bytes
  have hr := B.returns
  have hts := atoms_spec (ws := wsX0_put) B.pre
  have hown : s.vm.findClass RX0 = some m.cls := findClass_of_methodNamed B.named
  have hlocks := B.notSynchronized
  have hK := hO.1
  subst hsz
  have hD := hD0.self (sz := s.heap.size)
  generalize hAe : va_A (wHd cI hs pA lt le ta full pr lf w d mk sv bg bd sp cm) s.heap.size = A at hD ⊢
  have hA : ∀ q : Nat, s.heap.size ≤ q → A q := fun q h => by rw [← hAe]; exact Or.inr h
  have hS : va_S A s.heap s.heap [] := va_S.rf
  have hl := lv_entry ([.ref hs, .int (nI h), .int (nI pq), .int (nI dn), .int cn]) (n := 6) (Nat.le_of_ble_eq_true rfl)
  rw [lg_entry_eq]
  generalize (lg_sl ([.ref hs, .int (nI h), .int (nI pq), .int (nI dn), .int cn]) ++ List.replicate (6 - (lg_sl ([.ref hs, .int (nI h), .int (nI pq), .int (nI dn), .int cn])).length) Slot.unset).toArray = ls at hl ⊢
  have hl : lv_has ls 6 [(0, .ref hs), (1, .int (nI h)), (2, .int (nI pq)), (3, .int (nI dn)), (4, .int cn)] := hl
  generalize hQQ : MQ below _ _ s _ _ _ = QQ
  refine lv_iload_n hx hb dX0_put_0 rfl (lv_at hl 1 rfl) ?_
  refine lv_iload_n hx hb dX0_put_1 rfl (lv_at hl 2 rfl) ?_
  refine lv_iload_n hx hb dX0_put_2 rfl (lv_at hl 3 rfl) ?_
  refine roSi (As := [.int (nI h), .int (nI pq), .int (nI dn)]) (rest := []) ⟨hx, hb, hml, hown, hts⟩ (c_X0_slotOf l D cI cL cZ cO h pq dn (by omega) (by omega) (by omega)) (va_cwS 3 hts gX0_put_X0_slotOf rfl rfl rfl (by decide +kernel) ⟨Nat.le_of_ble_eq_true rfl, Nat.le_of_ble_eq_true rfl⟩) hO (fun k q h => by simp at h) rfl hl.1 rfl (Nat.le_of_ble_eq_true rfl) dX0_put_3 ⟨Nat.le_of_ble_eq_true rfl, Nat.le_of_ble_eq_true rfl⟩ (fun r_3 e_3 => ?_)
  obtain rfl : r_3 = nI (sl h pq dn) := e_3
  refine lv_istore (lv' := [(5, .int (nI (sl h pq dn))), (0, .ref hs), (1, .int (nI h)), (2, .int (nI pq)), (3, .int (nI dn)), (4, .int cn)]) hx hb dX0_put_6 hl (by decide) rfl (fun ls hl => ?_)
  refine lv_iload hx hb dX0_put_8 (lv_at hl 0 rfl) ?_
  refine lv_iconst (v := 0) hx hb dX0_put_10 (by decide) ?_
  refine lv_aload_n hx hb dX0_put_11 rfl (lv_at hl 1 rfl) ?_
  refine va_get (D := D) (cl := vwCl) (ci := 0) (v := .ref le) (C := RX0) (T := TX0) (N := 2) hx hb hts (fun _ h => List.mem_cons_of_mem _ (List.mem_append_right _ h)) hown hK hP 0 rfl rfl 1 (by decide) (hts (.fieldLink RX0 19 "CheapHours$Hindsight" "least" "[I") (by decide +kernel)) (fun _ h9 => h9) rfl dX0_put_12 ?_
  refine va_alen (D := D) (cl := vwCl) hx hb hK hP 3 0 rfl rfl (v := 900) (show Int32.ofNat 900 = 900 from rfl) dX0_put_15 ?_
  refine lv_iconst (v := 1) hx hb dX0_put_16 (by decide) ?_
  refine lv_isub hx hb dX0_put_17 ?_
  refine lv_seti (v := 899) (by decide) ?_
  refine roNi (As := [.int (nI (sl h pq dn)), .int 0, .int 899]) (rest := []) ⟨hx, hb, hml, hown, hts⟩ (c_X6_within l D cI cL cZ cO (nI (sl h pq dn)) 0 899 ) ⟨va_cnB 3 hts gX0_put_X6_within_n78 rfl rfl rfl hO.2.2.2.2.2.1 (hts (.initialized RX6) (by decide +kernel)) (by decide +kernel) ⟨Nat.le_of_ble_eq_true rfl, Nat.le_of_ble_eq_true rfl⟩, (hts (.static yX6_within) (by decide +kernel)), trivial⟩ hO (fun k q h => by simp at h) rfl hl.1 rfl (Nat.le_of_ble_eq_true rfl) dX0_put_18 ⟨Nat.le_of_ble_eq_true rfl, Nat.le_of_ble_eq_true rfl⟩ (fun r_18 e_18 => ?_)
  obtain rfl : r_18 = wi (nI (sl h pq dn)) 0 899 := e_18
  refine lv_if_eq (tgt := 33) hx hb dX0_put_21 (by decide) (fun c_21 => ?_) (fun c_21 => ?_)
  · skip
    exact absurd ((wi_n0 (m := sl h pq dn) (b := 899) (by unfold sl; omega) (by decide)).mp c_21) (by unfold sl; omega)
  · skip
    refine lv_aload_n hx hb dX0_put_24 rfl (lv_at hl 1 rfl) ?_
    refine va_get (D := D) (cl := vwCl) (ci := 0) (v := .ref le) (C := RX0) (T := TX0) (N := 2) hx hb hts (fun _ h => List.mem_cons_of_mem _ (List.mem_append_right _ h)) hown hK hP 0 rfl rfl 1 (by decide) (hts (.fieldLink RX0 19 "CheapHours$Hindsight" "least" "[I") (by decide +kernel)) (fun _ h9 => h9) rfl dX0_put_25 ?_
    refine lv_iload hx hb dX0_put_28 (lv_at hl 0 rfl) ?_
    refine lv_iload hx hb dX0_put_30 (lv_at hl 5 rfl) ?_
    refine n_iast (D := D) (cl := vwCl) (x := (sl h pq dn)) (v := cn) hx hb hK hP hD hS 3 0 (f := lf) rfl rfl (by unfold sl; omega) (Nat.le_of_ble_eq_true rfl) dX0_put_32 (fun H locs hP hD hS => ?_)
    have hP : va_P D vwCl (wHd cI hs pA lt le ta full pr (upd lf (sl h pq dn) cn) w d mk sv bg bd sp cm) H := hP
    have hD : va_D A (wHd cI hs pA lt le ta full pr (upd lf (sl h pq dn) cn) w d mk sv bg bd sp cm) := hD
    rw [← hQQ]
    exact W.vret hx hb hr (fun t9 ht9 hW9 => ⟨⟨(), rfl, trivial, by rw [ht9]; exact hP, hD⟩, hS.F ht9⟩) hS.2.2 dX0_put_33
set_option maxHeartbeats 4000000 in
set_option maxRecDepth 100000 in
theorem c_X0_settleHour (l : Launch) (D : va_G) (cI cL cZ cO : ClassId) (sz : Nat) (hs pA lt le ta : Nat) (full : Int32) (pr lf : Nat → Int32) (w d mk sv bg : Nat) (bd sp : Int32) (cm : Nat) (G : Nat → Nat → Nat → Nat) (h : Nat) (hw : 1 ≤ w ∧ w ≤ 30) (hd : d ≤ 200) (hsv : sv ≤ 5) (hbg : bg ≤ 5) (hdh : h < d) (hpr : prGood pr full) (hwin : winA w d lf G h) : Met l yX0_settleHour wsX0_settleHour ({ frames := 5, cells := 0, slots := 0, locals := 119 } : Room) (va_Pc [.ref hs, .ref ta, .int (nI h)] (Rw D cI cL cZ cO (wHd cI hs pA lt le ta full pr lf w d mk sv bg bd sp cm) sz)) (va_Qv (fun (u : Nat → Int32) => ∀ h1 p1 d1, h ≤ h1 → h1 < h + 6 → h1 < d → p1 < 5 → d1 < w → wdw w d u (gN (cstN pr full) w d sv bg G h) h1 p1 d1) (fun (u : Nat → Int32) => Wo D (va_A (wHd cI hs pA lt le ta full pr lf w d mk sv bg bd sp cm) sz) (wHd cI hs pA lt le ta full pr u w d mk sv bg bd sp cm)) (va_A (wHd cI hs pA lt le ta full pr lf w d mk sv bg bd sp cm) sz)) 0 0 (va_A (wHd cI hs pA lt le ta full pr lf w d mk sv bg bd sp cm) sz) := by
  refine Met.ofW (cc := cX0_settleHour) (maxL := 5) (ret := none) (by decide) rfl ?_
  intro p e s m args below meth c s₁ B hml hv
  obtain ⟨rfl, hsz, hP, hO, hD0⟩ := hv
  have hx := B.exec
  have hb := B.bytes
  have hr := B.returns
  have hts := atoms_spec (ws := wsX0_settleHour) B.pre
  have hown : s.vm.findClass RX0 = some m.cls := findClass_of_methodNamed B.named
  have hlocks := B.notSynchronized
  have hK := hO.1
  subst hsz
  have hD := hD0.self (sz := s.heap.size)
  generalize hAe : va_A (wHd cI hs pA lt le ta full pr lf w d mk sv bg bd sp cm) s.heap.size = A at hD ⊢
  have hA : ∀ q : Nat, s.heap.size ≤ q → A q := fun q h => by rw [← hAe]; exact Or.inr h
  have hS : va_S A s.heap s.heap [] := va_S.rf
  have hl := lv_entry ([.ref hs, .ref ta, .int (nI h)]) (n := 5) (Nat.le_of_ble_eq_true rfl)
  rw [lg_entry_eq]
  generalize (lg_sl ([.ref hs, .ref ta, .int (nI h)]) ++ List.replicate (5 - (lg_sl ([.ref hs, .ref ta, .int (nI h)])).length) Slot.unset).toArray = ls at hl ⊢
  have hl : lv_has ls 5 [(0, .ref hs), (1, .ref ta), (2, .int (nI h))] := hl
  generalize hQQ : MQ below _ _ s _ _ _ = QQ
  refine lv_iconst (v := 0) hx hb dX0_settleHour_0 (by decide) ?_
  refine lv_istore_n (lv' := [(3, .int 0), (0, .ref hs), (1, .ref ta), (2, .int (nI h))]) hx hb dX0_settleHour_1 rfl hl (by decide) rfl (fun ls hl => ?_)
  have L2 : ∀ (n0 : Nat) (pq : Nat) (lf1 : Nat → Int32) (H : Heap) (locs : List Loc) (ls : Array Slot), 4 - pq < n0 → (pq ≤ 4) → (winA w d lf1 G h) → (rowM (cstN pr full) w d sv G lf1 h pq 0) → va_P D vwCl (wHd cI hs pA lt le ta full pr lf1 w d mk sv bg bd sp cm) H → va_D A (wHd cI hs pA lt le ta full pr lf1 w d mk sv bg bd sp cm) → va_S A s.heap H locs → lv_has ls 5 [(3, .int (nI pq)), (0, .ref hs), (1, .ref ta), (2, .int (nI h))] → W p l e (headSpec wsX0_settleHour ({ frames := 5, cells := 0, slots := 0, locals := 119 } : Room)).room s m ([.ref hs, .ref ta, .int (nI h)] : List Value).toArray below meth c H locs 0 0 QQ (F0 m 2 ls []) := by
    intro n0
    induction n0 with
    | zero =>
      intro pq lf1 H locs ls hmu
      exact absurd hmu (Nat.not_lt_zero _)
    | succ n0 ih2 =>
      intro pq lf1 H locs ls hmu hpq hwin hr1 hP hD hS hl
      refine lv_iload_n hx hb dX0_settleHour_2 rfl (lv_at hl 0 rfl) ?_
      refine lv_iconst (v := 4) hx hb dX0_settleHour_3 (by decide) ?_
      refine n_icmp_ge (x := pq) (y := 4) (tgt := 48) hx hb dX0_settleHour_4 (by decide) (by omega) (by omega) (fun c_4 => ?_) (fun c_4 => ?_)
      · skip
        have hp4 : pq = 4 := by omega
        rw [hp4] at hr1
        refine lv_iconst (v := 0) hx hb dX0_settleHour_48 (by decide) ?_
        refine lv_istore_n (lv' := [(3, .int 0), (0, .ref hs), (1, .ref ta), (2, .int (nI h))]) hx hb dX0_settleHour_49 rfl hl (by decide) rfl (fun ls hl => ?_)
        have L50 : ∀ (n0 : Nat) (sd : Nat) (lf1 : Nat → Int32) (H : Heap) (locs : List Loc) (ls : Array Slot), w - sd < n0 → (sd ≤ w) → (winA w d lf1 G h) → (rowM (cstN pr full) w d sv G lf1 h 4 0) → (∀ d1, d1 < sd → lf1 (sl h 4 d1) = nI (onN (cstN pr full) w d bg (gM (cstN pr full) w d sv G h) h d1 4)) → va_P D vwCl (wHd cI hs pA lt le ta full pr lf1 w d mk sv bg bd sp cm) H → va_D A (wHd cI hs pA lt le ta full pr lf1 w d mk sv bg bd sp cm) → va_S A s.heap H locs → lv_has ls 5 [(3, .int (nI sd)), (0, .ref hs), (1, .ref ta), (2, .int (nI h))] → W p l e (headSpec wsX0_settleHour ({ frames := 5, cells := 0, slots := 0, locals := 119 } : Room)).room s m ([.ref hs, .ref ta, .int (nI h)] : List Value).toArray below meth c H locs 0 0 QQ (F0 m 50 ls []) := by
          intro n0
          induction n0 with
          | zero =>
            intro sd lf1 H locs ls hmu
            exact absurd hmu (Nat.not_lt_zero _)
          | succ n0 ih50 =>
            intro sd lf1 H locs ls hmu hsd hwin hr1 hn1 hP hD hS hl
            refine lv_iload_n hx hb dX0_settleHour_50 rfl (lv_at hl 0 rfl) ?_
            refine lv_aload_n hx hb dX0_settleHour_51 rfl (lv_at hl 2 rfl) ?_
            refine va_get (D := D) (cl := vwCl) (ci := 4) (v := .int (nI w)) (C := RX5) (T := TX5) (N := 8) hx hb hts (fun _ h => List.mem_cons_of_mem _ (List.mem_append_left _ (List.mem_append_left _ (List.mem_append_right _ h)))) hown hK hP 4 rfl rfl 0 (by decide) (hts (.fieldLink RX0 38 "CheapHours$Terms" "work" "I") (List.mem_of_getElem? (i := 1) rfl)) (fun _ h9 => h9) rfl dX0_settleHour_52 ?_
            refine n_icmp_ge (x := sd) (y := w) (tgt := 78) hx hb dX0_settleHour_55 (by decide) (by omega) (by omega) (fun c_55 => ?_) (fun c_55 => ?_)
            · skip
              rw [← hQQ]
              exact W.vret hx hb hr (fun t9 ht9 hW9 => ⟨⟨lf1, rfl, (winN (by omega) hdh hwin hr1 hn1), by rw [ht9]; exact hP, hD⟩, hS.F ht9⟩) hS.2.2 dX0_settleHour_78
            · skip
              refine lv_aload_n hx hb dX0_settleHour_58 rfl (lv_at hl 1 rfl) ?_
              refine lv_iload_n hx hb dX0_settleHour_59 rfl (lv_at hl 3 rfl) ?_
              refine lv_iconst (v := 4) hx hb dX0_settleHour_60 (by decide) ?_
              refine lv_iload_n hx hb dX0_settleHour_61 rfl (lv_at hl 0 rfl) ?_
              refine lv_aload_n hx hb dX0_settleHour_62 rfl (lv_at hl 1 rfl) ?_
              refine lv_aload_n hx hb dX0_settleHour_63 rfl (lv_at hl 2 rfl) ?_
              refine lv_iload_n hx hb dX0_settleHour_64 rfl (lv_at hl 3 rfl) ?_
              refine lv_iload_n hx hb dX0_settleHour_65 rfl (lv_at hl 0 rfl) ?_
              refine roVi (As := [.ref ta, .int (nI h), .int (nI sd)]) (rest := [.int (nI sd), .int 4, .int (nI h), .ref hs]) ⟨hx, hb, hml, hown, hts⟩ (c_X0_onNone l D cI cL cZ cO hs pA lt le ta full pr lf1 w d mk sv bg bd sp cm (gM (cstN pr full) w d sv G h) h sd hw hd hsv hbg hdh c_55 hpr (winM hwin) (rowMM hr1)) (cwV 3 hts gX0_settleHour_X0_onNone rfl rfl rfl (by decide +kernel) ⟨Nat.le_of_ble_eq_true rfl, Nat.le_of_ble_eq_true rfl⟩) hO hP (va_recv hK hP (ci := 0) (q0 := 0) rfl rfl) rfl hl.1 rfl (Nat.le_of_ble_eq_true rfl) dX0_settleHour_66 ⟨Nat.le_of_ble_eq_true rfl, Nat.le_of_ble_eq_true rfl⟩ (fun r_66 e_66 => ?_)
              obtain rfl : r_66 = nI (onN (cstN pr full) w d bg (gM (cstN pr full) w d sv G h) h sd 4) := e_66
              refine rwVv (As := [.int (nI h), .int 4, .int (nI sd), .int (nI (onN (cstN pr full) w d bg (gM (cstN pr full) w d sv G h) h sd 4))]) (rest := []) ⟨hx, hb, hml, hown, hts⟩ (c_X0_put l D cI cL cZ cO H.size hs pA lt le ta full pr lf1 w d mk sv bg bd sp cm h 4 sd (nI (onN (cstN pr full) w d bg (gM (cstN pr full) w d sv G h) h sd 4)) (by omega) (by omega) (by omega)) (cwV 4 hts gX0_settleHour_X0_put rfl rfl rfl (by decide +kernel) ⟨Nat.le_of_ble_eq_true rfl, Nat.le_of_ble_eq_true rfl⟩) hO hP hD hS hA (va_recv hK hP (ci := 0) (q0 := 0) rfl rfl) rfl hl.1 rfl (Nat.le_of_ble_eq_true rfl) dX0_settleHour_69 ⟨Nat.le_of_ble_eq_true rfl, Nat.le_of_ble_eq_true rfl⟩ (fun u_69 H locs e_69 hP hD hS => ?_)
              have hP : va_P D vwCl (wHd cI hs pA lt le ta full pr (upd lf1 (sl h 4 sd) (nI (onN (cstN pr full) w d bg (gM (cstN pr full) w d sv G h) h sd 4))) w d mk sv bg bd sp cm) H := hP
              have hD : va_D A (wHd cI hs pA lt le ta full pr (upd lf1 (sl h 4 sd) (nI (onN (cstN pr full) w d bg (gM (cstN pr full) w d sv G h) h sd 4))) w d mk sv bg bd sp cm) := hD
              refine lv_iinc (v := (nI (sd + 1))) (lv' := [(3, .int (nI (sd + 1))), (0, .ref hs), (1, .ref ta), (2, .int (nI h))]) hx hb dX0_settleHour_72 hl (k := 0) rfl (nI_add sd 1) (by decide) rfl (fun ls hl => ?_)
              refine lv_goto (tgt := 50) hx hb dX0_settleHour_75 (by decide) ?_
              exact ih50 (sd + 1) (upd lf1 (sl h 4 sd) (nI (onN (cstN pr full) w d bg (gM (cstN pr full) w d sv G h) h sd 4))) _ _ _ (by omega) (by omega) (winA_put hw.2 (by omega) c_55 hwin) (rowM_keep hw.2 c_55 hr1) (fun d1 a9 => by by_cases z9 : d1 = sd; (subst z9; exact pk_us); (rw [pk_un (sl_ne2 (by omega) (by omega) (by omega) (by omega) (by omega))]; exact hn1 d1 (by omega))) hP hD hS (lv_sub hl [0, 1, 2, 3] rfl)
        exact L50 _ 0 lf1 _ _ _ (Nat.lt_succ_self _) (Nat.zero_le _) hwin hr1 (fun d1 a9 => absurd a9 (Nat.not_lt_zero _)) hP hD hS (lv_sub hl [0, 1, 2, 3] rfl)
      · skip
        refine lv_iconst (v := 0) hx hb dX0_settleHour_7 (by decide) ?_
        refine lv_istore (lv' := [(4, .int 0), (3, .int (nI pq)), (0, .ref hs), (1, .ref ta), (2, .int (nI h))]) hx hb dX0_settleHour_8 hl (by decide) rfl (fun ls hl => ?_)
        have L10 : ∀ (n0 : Nat) (dn : Nat) (lf1 : Nat → Int32) (H : Heap) (locs : List Loc) (ls : Array Slot), w - dn < n0 → (dn ≤ w) → (winA w d lf1 G h) → (rowM (cstN pr full) w d sv G lf1 h pq dn) → va_P D vwCl (wHd cI hs pA lt le ta full pr lf1 w d mk sv bg bd sp cm) H → va_D A (wHd cI hs pA lt le ta full pr lf1 w d mk sv bg bd sp cm) → va_S A s.heap H locs → lv_has ls 5 [(4, .int (nI dn)), (3, .int (nI pq)), (0, .ref hs), (1, .ref ta), (2, .int (nI h))] → W p l e (headSpec wsX0_settleHour ({ frames := 5, cells := 0, slots := 0, locals := 119 } : Room)).room s m ([.ref hs, .ref ta, .int (nI h)] : List Value).toArray below meth c H locs 0 0 QQ (F0 m 10 ls []) := by
          intro n0
          induction n0 with
          | zero =>
            intro dn lf1 H locs ls hmu
            exact absurd hmu (Nat.not_lt_zero _)
          | succ n0 ih10 =>
            intro dn lf1 H locs ls hmu hdn hwin hr2 hP hD hS hl
            refine lv_iload hx hb dX0_settleHour_10 (lv_at hl 0 rfl) ?_
            refine lv_aload_n hx hb dX0_settleHour_12 rfl (lv_at hl 3 rfl) ?_
            refine va_get (D := D) (cl := vwCl) (ci := 4) (v := .int (nI w)) (C := RX5) (T := TX5) (N := 8) hx hb hts (fun _ h => List.mem_cons_of_mem _ (List.mem_append_left _ (List.mem_append_left _ (List.mem_append_right _ h)))) hown hK hP 4 rfl rfl 0 (by decide) (hts (.fieldLink RX0 38 "CheapHours$Terms" "work" "I") (List.mem_of_getElem? (i := 1) rfl)) (fun _ h9 => h9) rfl dX0_settleHour_13 ?_
            refine n_icmp_ge (x := dn) (y := w) (tgt := 42) hx hb dX0_settleHour_16 (by decide) (by omega) (by omega) (fun c_16 => ?_) (fun c_16 => ?_)
            · skip
              have hdw : dn = w := by omega
              refine lv_iinc (v := (nI (pq + 1))) (lv' := [(3, .int (nI (pq + 1))), (4, .int (nI dn)), (0, .ref hs), (1, .ref ta), (2, .int (nI h))]) hx hb dX0_settleHour_42 hl (k := 1) rfl (nI_add pq 1) (by decide) rfl (fun ls hl => ?_)
              refine lv_goto (tgt := 2) hx hb dX0_settleHour_45 (by decide) ?_
              exact ih2 (pq + 1) lf1 _ _ _ (by omega) (by omega) hwin (fun p1 d1 b1 b2 b3 => hr2 p1 d1 b1 b2 (by omega)) hP hD hS (lv_sub hl [0, 2, 3, 4] rfl)
            · skip
              refine lv_aload_n hx hb dX0_settleHour_19 rfl (lv_at hl 2 rfl) ?_
              refine lv_iload_n hx hb dX0_settleHour_20 rfl (lv_at hl 4 rfl) ?_
              refine lv_iload_n hx hb dX0_settleHour_21 rfl (lv_at hl 1 rfl) ?_
              refine lv_iload hx hb dX0_settleHour_22 (lv_at hl 0 rfl) ?_
              refine lv_aload_n hx hb dX0_settleHour_24 rfl (lv_at hl 2 rfl) ?_
              refine lv_aload_n hx hb dX0_settleHour_25 rfl (lv_at hl 3 rfl) ?_
              refine lv_iload_n hx hb dX0_settleHour_26 rfl (lv_at hl 4 rfl) ?_
              refine lv_iload_n hx hb dX0_settleHour_27 rfl (lv_at hl 1 rfl) ?_
              refine lv_iload hx hb dX0_settleHour_28 (lv_at hl 0 rfl) ?_
              refine roVi (As := [.ref ta, .int (nI h), .int (nI pq), .int (nI dn)]) (rest := [.int (nI dn), .int (nI pq), .int (nI h), .ref hs]) ⟨hx, hb, hml, hown, hts⟩ (c_X0_onMachine l D cI cL cZ cO hs pA lt le ta full pr lf1 w d mk sv bg bd sp cm G h pq dn hw hd hsv hbg c_4 hdh c_16 hpr hwin) (cwV 4 hts gX0_settleHour_X0_onMachine rfl rfl rfl (by decide +kernel) ⟨Nat.le_of_ble_eq_true rfl, Nat.le_of_ble_eq_true rfl⟩) hO hP (va_recv hK hP (ci := 0) (q0 := 0) rfl rfl) rfl hl.1 rfl (Nat.le_of_ble_eq_true rfl) dX0_settleHour_30 ⟨Nat.le_of_ble_eq_true rfl, Nat.le_of_ble_eq_true rfl⟩ (fun r_30 e_30 => ?_)
              obtain rfl : r_30 = nI (onM (cstN pr full) w d sv G h pq dn) := e_30
              refine rwVv (As := [.int (nI h), .int (nI pq), .int (nI dn), .int (nI (onM (cstN pr full) w d sv G h pq dn))]) (rest := []) ⟨hx, hb, hml, hown, hts⟩ (c_X0_put l D cI cL cZ cO H.size hs pA lt le ta full pr lf1 w d mk sv bg bd sp cm h pq dn (nI (onM (cstN pr full) w d sv G h pq dn)) (by omega) (by omega) (by omega)) (cwV 4 hts gX0_settleHour_X0_put rfl rfl rfl (by decide +kernel) ⟨Nat.le_of_ble_eq_true rfl, Nat.le_of_ble_eq_true rfl⟩) hO hP hD hS hA (va_recv hK hP (ci := 0) (q0 := 0) rfl rfl) rfl hl.1 rfl (Nat.le_of_ble_eq_true rfl) dX0_settleHour_33 ⟨Nat.le_of_ble_eq_true rfl, Nat.le_of_ble_eq_true rfl⟩ (fun u_33 H locs e_33 hP hD hS => ?_)
              have hP : va_P D vwCl (wHd cI hs pA lt le ta full pr (upd lf1 (sl h pq dn) (nI (onM (cstN pr full) w d sv G h pq dn))) w d mk sv bg bd sp cm) H := hP
              have hD : va_D A (wHd cI hs pA lt le ta full pr (upd lf1 (sl h pq dn) (nI (onM (cstN pr full) w d sv G h pq dn))) w d mk sv bg bd sp cm) := hD
              refine lv_iinc (v := (nI (dn + 1))) (lv' := [(4, .int (nI (dn + 1))), (3, .int (nI pq)), (0, .ref hs), (1, .ref ta), (2, .int (nI h))]) hx hb dX0_settleHour_36 hl (k := 0) rfl (nI_add dn 1) (by decide) rfl (fun ls hl => ?_)
              refine lv_goto (tgt := 10) hx hb dX0_settleHour_39 (by decide) ?_
              exact ih10 (dn + 1) (upd lf1 (sl h pq dn) (nI (onM (cstN pr full) w d sv G h pq dn))) _ _ _ (by omega) (by omega) (winA_put hw.2 (by omega) c_16 hwin) (rowM_s hw.2 c_4 c_16 hr2) hP hD hS (lv_sub hl [0, 1, 2, 3, 4] rfl)
        exact L10 _ 0 lf1 _ _ _ (Nat.lt_succ_self _) (Nat.zero_le _) hwin hr1 hP hD hS (lv_sub hl [0, 1, 2, 3, 4] rfl)
  exact L2 _ 0 lf _ _ _ (Nat.lt_succ_self _) (Nat.zero_le _) hwin (fun p1 d1 _ _ a9 => by omega) hP hD hS (lv_sub hl [0, 1, 2, 3] rfl)
set_option maxHeartbeats 4000000 in
set_option maxRecDepth 100000 in
theorem c_X0_leastSum (l : Launch) (D : va_G) (cI cL cZ cO : ClassId) (sz : Nat) (hs pA lt le ta : Nat) (full : Int32) (pr lf : Nat → Int32) (w d mk sv bg : Nat) (bd sp : Int32) (cm : Nat)  (hw : 1 ≤ w ∧ w ≤ 30) (hd : d ≤ 200) (hsv : sv ≤ 5) (hbg : bg ≤ 5) (hcm : cm + w ≤ d) (hpr : prGood pr full) : Met l yX0_leastSum wsX0_leastSum ({ frames := 6, cells := 0, slots := 0, locals := 143 } : Room) (va_Pc [.ref hs, .ref ta] (Rw D cI cL cZ cO (wHd cI hs pA lt le ta full pr lf w d mk sv bg bd sp cm) sz)) (va_Qi (fun (r : Int32) (u : Nat → Int32) => orcC pr full w d bg sv cm r) (fun (u : Nat → Int32) => Wo D (va_A (wHd cI hs pA lt le ta full pr lf w d mk sv bg bd sp cm) sz) (wHd cI hs pA lt le ta full pr u w d mk sv bg bd sp cm)) (va_A (wHd cI hs pA lt le ta full pr lf w d mk sv bg bd sp cm) sz)) 0 0 (va_A (wHd cI hs pA lt le ta full pr lf w d mk sv bg bd sp cm) sz) := by
  refine Met.ofW (cc := cX0_leastSum) (maxL := 3) (ret := (some .int)) (by decide) rfl ?_
  intro p e s m args below meth c s₁ B hml hv
  obtain ⟨rfl, hsz, hP, hO, hD0⟩ := hv
  have hx := B.exec
  have hb := B.bytes
  have hr := B.returns
  have hts := atoms_spec (ws := wsX0_leastSum) B.pre
  have hown : s.vm.findClass RX0 = some m.cls := findClass_of_methodNamed B.named
  have hlocks := B.notSynchronized
  have hK := hO.1
  subst hsz
  have hD := hD0.self (sz := s.heap.size)
  generalize hAe : va_A (wHd cI hs pA lt le ta full pr lf w d mk sv bg bd sp cm) s.heap.size = A at hD ⊢
  have hA : ∀ q : Nat, s.heap.size ≤ q → A q := fun q h => by rw [← hAe]; exact Or.inr h
  have hS : va_S A s.heap s.heap [] := va_S.rf
  have hl := lv_entry ([.ref hs, .ref ta]) (n := 3) (Nat.le_of_ble_eq_true rfl)
  rw [lg_entry_eq]
  generalize (lg_sl ([.ref hs, .ref ta]) ++ List.replicate (3 - (lg_sl ([.ref hs, .ref ta])).length) Slot.unset).toArray = ls at hl ⊢
  have hl : lv_has ls 3 [(0, .ref hs), (1, .ref ta)] := hl
  generalize hQQ : MQ below _ _ s _ _ _ = QQ
  refine lv_aload_n hx hb dX0_leastSum_0 rfl (lv_at hl 1 rfl) ?_
  refine va_get (D := D) (cl := vwCl) (ci := 4) (v := .int (nI d)) (C := RX5) (T := TX5) (N := 8) hx hb hts (fun _ h => List.mem_cons_of_mem _ (List.mem_append_left _ (List.mem_append_left _ (List.mem_append_right _ h)))) hown hK hP 4 rfl rfl 1 (by decide) (hts (.fieldLink RX0 23 "CheapHours$Terms" "due" "I") (List.mem_of_getElem? (i := 1) rfl)) (fun _ h9 => h9) rfl dX0_leastSum_1 ?_
  refine lv_iconst (v := 1) hx hb dX0_leastSum_4 (by decide) ?_
  refine lv_isub hx hb dX0_leastSum_5 ?_
  refine lv_seti (v := nI d - 1) rfl ?_
  refine lv_istore_n (lv' := [(2, .int (nI d - 1)), (0, .ref hs), (1, .ref ta)]) hx hb dX0_leastSum_6 rfl hl (by decide) rfl (fun ls hl => ?_)
  have L7 : ∀ (n0 : Nat) (k : Nat) (G : Nat → Nat → Nat → Nat) (lf1 : Nat → Int32) (H : Heap) (locs : List Loc) (ls : Array Slot), k < n0 → (cm ≤ k ∧ k ≤ d) → (∀ h1 p1 d1, k ≤ h1 → h1 < k + 6 → h1 < d → p1 < 5 → d1 < w → wdw w d lf1 G h1 p1 d1) → (CmpSol (cstN pr full) w d bg sv k G) → va_P D vwCl (wHd cI hs pA lt le ta full pr lf1 w d mk sv bg bd sp cm) H → va_D A (wHd cI hs pA lt le ta full pr lf1 w d mk sv bg bd sp cm) → va_S A s.heap H locs → lv_has ls 3 [(2, .int (nI k - 1)), (0, .ref hs), (1, .ref ta)] → W p l e (headSpec wsX0_leastSum ({ frames := 6, cells := 0, slots := 0, locals := 143 } : Room)).room s m ([.ref hs, .ref ta] : List Value).toArray below meth c H locs 0 0 QQ (F0 m 7 ls []) := by
    intro n0
    induction n0 with
    | zero =>
      intro k G lf1 H locs ls hmu
      exact absurd hmu (Nat.not_lt_zero _)
    | succ n0 ih7 =>
      intro k G lf1 H locs ls hmu hk hwk hsol hP hD hS hl
      refine lv_iload_n hx hb dX0_leastSum_7 rfl (lv_at hl 0 rfl) ?_
      refine lv_aload_n hx hb dX0_leastSum_8 rfl (lv_at hl 2 rfl) ?_
      refine va_get (D := D) (cl := vwCl) (ci := 4) (v := .int (nI cm)) (C := RX5) (T := TX5) (N := 8) hx hb hts (fun _ h => List.mem_cons_of_mem _ (List.mem_append_left _ (List.mem_append_left _ (List.mem_append_right _ h)))) hown hK hP 4 rfl rfl 7 (by decide) (hts (.fieldLink RX0 27 "CheapHours$Terms" "came" "I") (List.mem_of_getElem? (i := 2) rfl)) (fun _ h9 => h9) rfl dX0_leastSum_9 ?_
      refine lv_icmp_lt (tgt := 27) hx hb dX0_leastSum_12 (by decide) (fun c_12 => ?_) (fun c_12 => ?_)
      · skip
        have hkc : k = cm := by have h9 := (cltm (by omega) (by omega)).mp c_12; omega
        refine lv_aload_n hx hb dX0_leastSum_27 rfl (lv_at hl 1 rfl) ?_
        refine lv_aload_n hx hb dX0_leastSum_28 rfl (lv_at hl 2 rfl) ?_
        refine lv_aload_n hx hb dX0_leastSum_29 rfl (lv_at hl 2 rfl) ?_
        refine va_get (D := D) (cl := vwCl) (ci := 4) (v := .int (nI cm)) (C := RX5) (T := TX5) (N := 8) hx hb hts (fun _ h => List.mem_cons_of_mem _ (List.mem_append_left _ (List.mem_append_left _ (List.mem_append_right _ h)))) hown hK hP 4 rfl rfl 7 (by decide) (hts (.fieldLink RX0 27 "CheapHours$Terms" "came" "I") (List.mem_of_getElem? (i := 2) rfl)) (fun _ h9 => h9) rfl dX0_leastSum_30 ?_
        refine lv_iconst (v := 4) hx hb dX0_leastSum_33 (by decide) ?_
        refine lv_iconst (v := 0) hx hb dX0_leastSum_34 (by decide) ?_
        refine roVi (As := [.ref ta, .int (nI cm), .int 4, .int 0]) (rest := []) ⟨hx, hb, hml, hown, hts⟩ (c_X0_from l D cI cL cZ cO hs pA lt le ta full pr lf1 w d mk sv bg bd sp cm G cm 4 0 hw hd hsv hbg (by omega) (by omega) (by omega) (fun a1 a2 => hwk _ _ _ (by omega) (by omega) a1 (by omega) a2)) (cwV 4 hts gX0_leastSum_X0_from rfl rfl rfl (by decide +kernel) ⟨Nat.le_of_ble_eq_true rfl, Nat.le_of_ble_eq_true rfl⟩) hO hP (va_recv hK hP (ci := 0) (q0 := 0) rfl rfl) rfl hl.1 rfl (Nat.le_of_ble_eq_true rfl) dX0_leastSum_35 ⟨Nat.le_of_ble_eq_true rfl, Nat.le_of_ble_eq_true rfl⟩ (fun r_35 e_35 => ?_)
        obtain rfl : r_35 = nI (frN w d G cm 4 0) := e_35
        rw [← hQQ]
        exact W.iret (v := (nI (frN w d G cm 4 0))) hx hb hr (fun t9 ht9 hW9 => ⟨⟨_, lf1, rfl, ⟨G, hkc ▸ hsol, by rw [frN, if_neg (by omega), if_neg (by omega), if_pos (by omega)]⟩, by rw [ht9]; exact hP, hD⟩, hS.F ht9⟩) hS.2.2 dX0_leastSum_38
      · skip
        have hkc : cm < k := Nat.lt_of_not_le (fun z9 => c_12 ((cltm (by omega) (by omega)).mpr z9))
        obtain ⟨h, rfl⟩ : ∃ h, k = h + 1 := ⟨k - 1, by omega⟩
        rw [nI_pred] at hl
        refine lv_aload_n hx hb dX0_leastSum_15 rfl (lv_at hl 1 rfl) ?_
        refine lv_aload_n hx hb dX0_leastSum_16 rfl (lv_at hl 2 rfl) ?_
        refine lv_iload_n hx hb dX0_leastSum_17 rfl (lv_at hl 0 rfl) ?_
        refine rwVv (As := [.ref ta, .int (nI h)]) (rest := []) ⟨hx, hb, hml, hown, hts⟩ (c_X0_settleHour l D cI cL cZ cO H.size hs pA lt le ta full pr lf1 w d mk sv bg bd sp cm G h hw hd hsv hbg (by omega) hpr (fun h1 p1 d1 a1 a2 a3 a4 a5 => hwk h1 p1 d1 (by omega) (by omega) a3 a4 a5)) (cwV 2 hts gX0_leastSum_X0_settleHour rfl rfl rfl (by decide +kernel) ⟨Nat.le_of_ble_eq_true rfl, Nat.le_of_ble_eq_true rfl⟩) hO hP hD hS hA (va_recv hK hP (ci := 0) (q0 := 0) rfl rfl) rfl hl.1 rfl (Nat.le_of_ble_eq_true rfl) dX0_leastSum_18 ⟨Nat.le_of_ble_eq_true rfl, Nat.le_of_ble_eq_true rfl⟩ (fun u_18 H locs e_18 hP hD hS => ?_)
        have hP : va_P D vwCl (wHd cI hs pA lt le ta full pr u_18 w d mk sv bg bd sp cm) H := hP
        have hD : va_D A (wHd cI hs pA lt le ta full pr u_18 w d mk sv bg bd sp cm) := hD
        refine lv_iinc (v := (nI h - 1)) (lv' := [(2, .int (nI h - 1)), (0, .ref hs), (1, .ref ta)]) hx hb dX0_leastSum_21 hl (k := 0) rfl (n_m1 h) (by decide) rfl (fun ls hl => ?_)
        refine lv_goto (tgt := 7) hx hb dX0_leastSum_24 (by decide) ?_
        exact ih7 h (gN (cstN pr full) w d sv bg G h) u_18 _ _ _ (by omega) (by omega) e_18 (CmpSol_s hsol) hP hD hS (lv_sub hl [0, 1, 2] rfl)
  exact L7 _ d (fun _ _ _ => 0) lf _ _ _ (Nat.lt_succ_self _) (by omega) (fun h1 p1 d1 a1 a2 a3 => absurd a3 (by omega)) (fun h1 a1 a2 => absurd a2 (by omega)) hP hD hS (lv_sub hl [0, 1, 2] rfl)
