/-! LOSSES: tries, spans, means: the pure words, and the contracts of both sides' methods. -/
def ilh (x y : Int32) : Int32 := if wi x 0 2 = 0 then 0 else if wi y 0 199 = 0 then 0 else 1
def tryOk (x y z : Int32) : Int32 := if wi x 1 10 = 0 then 0 else if wi y 0 2 = 0 then 0 else if wi z 2 10 = 0 then 0 else 1
def pw (b : Int32) : Nat → Int64
  | 0 => 1
  | n + 1 => pw b n * b.toInt64
/-- q times (q to the n, less q - 1 to the n), on the line 'al' -/
def tr1 (q n al : Nat) : Int64 := (nI q).toInt64 * (pw (nI q) n - pw (nI (q - 1)) n) * pw (nI (q - 1)) (al - n)
def abF (sv q sp li : Nat) : Nat → Nat → Int64 → Int64
  | 0, _, v => v
  | n + 1, lf, v => if lf = 0 then v else abF sv q sp li n (lf - sp) (v + tr1 q (min sp lf + sv) li)
theorem abF_s {sv q sp li n lf : Nat} {v : Int64} (h : 0 < lf) : abF sv q sp li (n + 1) lf v = abF sv q sp li n (lf - sp) (v + tr1 q (min sp lf + sv) li) := if_neg (by omega)
theorem abF_0 {sv q sp li n lf : Nat} {v : Int64} (h : n = 0 ∨ lf = 0) : abF sv q sp li n lf v = v := by
  cases n with
  | zero => rfl
  | succ n => exact if_pos (by omega)
theorem abF_cut {sp lf : Nat} : lf - min sp lf = lf - sp := by omega
theorem abF_sum {q n al : Nat} : (nI q).toInt64 * (pw (nI q) n - pw (nI (q - 1)) n) * pw (nI (q - 1)) (al - n) = tr1 q n al := rfl
def bsp (f : Nat → Int64) : Nat → Nat → Nat → Nat
  | 0, _, b => b
  | n + 1, k, b => bsp f n (k + 1) (if f b ≤ f k then b else k)
def gV : Nat → Int64 → Int64 → Int64 × Int64
  | 0, a, b => (a, b)
  | n + 1, a, b => if b = 0 then (a, b) else gV n b (a - a / b * b)
theorem gV_s {n : Nat} {a b : Int64} (h : ¬ b = 0) : gV (n + 1) a b = gV n b (a - a / b * b) := if_neg h
theorem gV_z {n : Nat} {a b : Int64} (h : b = 0) : gV n a b = (a, b) := by
  cases n with
  | zero => rfl
  | succ n => exact if_pos h
def spanF (sv q w : Nat) : Nat → Int64 := fun k => abF sv q k (w + sv) w w 0
def spanV (x y z : Int32) : Int32 := if tryOk x y z = 0 then -1 else nI (bsp (spanF y.toNatClampNeg z.toNatClampNeg x.toNatClampNeg) (x.toNatClampNeg - 1) 2 1)
def mnC (w sv q sp : Nat) (wt : Int32) : Int64 := if 0 < (gV 200 (abF sv q sp (sp + sv) w w 0) (pw (nI (q - 1)) (sp + sv))).1 then (if wt = 0 then abF sv q sp (sp + sv) w w 0 else pw (nI (q - 1)) (sp + sv)) / (gV 200 (abF sv q sp (sp + sv) w w 0) (pw (nI (q - 1)) (sp + sv))).1 else -1
def mnM (w sv q sp : Nat) (wt : Int32) : Int64 := (if wt = 0 then abF sv q sp (w + sv) w w 0 else pw (nI (q - 1)) (w + sv)) / (gV 200 (abF sv q sp (w + sv) w w 0) (pw (nI (q - 1)) (w + sv))).1
def meanW (f : Nat → Nat → Nat → Nat → Int32 → Int64) (x y z sp wt : Int32) : Int64 := if tryOk x y z = 0 then -1 else if wi sp 1 x = 0 then -1 else if wi wt 0 1 = 0 then -1 else f x.toNatClampNeg y.toNatClampNeg z.toNatClampNeg sp.toNatClampNeg wt
theorem wi_nat {x : Int32} {a b : Nat} (ha : a < 2 ^ 31) (hb : b < 2 ^ 31) (h : ¬ wi x (nI a) (nI b) = 0) : ∃ n, a ≤ n ∧ n ≤ b ∧ x = nI n := by
  obtain ⟨h1, h2⟩ := wi_t h
  have h3 := Int32.le_iff_toInt_le.mp h1
  have h4 := Int32.le_iff_toInt_le.mp h2
  rw [nI_toInt ha] at h3
  rw [nI_toInt hb] at h4
  obtain ⟨n, hn, rfl⟩ := nI_of (x := x) (by rw [Int32.lt_iff_toInt_lt]; show ¬ _ < 0; omega)
  rw [nI_toInt hn] at h3 h4
  exact ⟨n, by omega, by omega, rfl⟩
theorem tryOk_nat {x y z : Int32} (h : ¬ tryOk x y z = 0) : ∃ w sv q : Nat, (1 ≤ w ∧ w ≤ 10) ∧ sv ≤ 2 ∧ (2 ≤ q ∧ q ≤ 10) ∧ x = nI w ∧ y = nI sv ∧ z = nI q := by
  unfold tryOk at h
  by_cases h1 : wi x 1 10 = 0
  · rw [if_pos h1] at h; exact absurd rfl h
  rw [if_neg h1] at h
  by_cases h2 : wi y 0 2 = 0
  · rw [if_pos h2] at h; exact absurd rfl h
  rw [if_neg h2] at h
  by_cases h3 : wi z 2 10 = 0
  · rw [if_pos h3] at h; exact absurd rfl h
  obtain ⟨w, a1, a2, rfl⟩ := wi_nat (a := 1) (b := 10) (by decide) (by decide) h1
  obtain ⟨sv, b1, b2, rfl⟩ := wi_nat (a := 0) (b := 2) (by decide) (by decide) h2
  obtain ⟨q, c1, c2, rfl⟩ := wi_nat (a := 2) (b := 10) (by decide) (by decide) h3
  exact ⟨w, sv, q, ⟨a1, a2⟩, b2, ⟨c1, c2⟩, rfl, rfl, rfl⟩
theorem nI_cl {n : Nat} (h : n ≤ 1000) : (nI n).toNatClampNeg = n := nI_clamp (by omega)
theorem bsp_t {f : Nat → Int64} {n k b : Nat} (h : f b ≤ f k) : bsp f (n + 1) k b = bsp f n (k + 1) b := by rw [bsp, if_pos h]
theorem bsp_f {f : Nat → Int64} {n k b : Nat} (h : ¬ f b ≤ f k) : bsp f (n + 1) k b = bsp f n (k + 1) k := by rw [bsp, if_neg h]
def mnG (w sv q sp : Nat) : Int64 × Int64 := gV 200 (abF sv q sp (w + sv) w w 0) (pw (nI (q - 1)) (w + sv))
def mnChk (w sv q sp : Nat) : Bool := decide ((mnG w sv q sp).2 = 0) && !decide ((mnG w sv q sp).1 = 0) && decide (mnC w sv q sp 0 = mnM w sv q sp 0) && decide (mnC w sv q sp 1 = mnM w sv q sp 1)
set_option maxRecDepth 100000 in
theorem mn_chk : ((List.range 11).all fun w => (List.range 3).all fun sv => (List.range 11).all fun q => (List.range 11).all fun sp => !(decide (1 ≤ w) && decide (2 ≤ q) && decide (1 ≤ sp) && decide (sp ≤ w)) || mnChk w sv q sp) = true := by decide +kernel
theorem mn_all (w : Nat) (h1 : w < 11) (sv : Nat) (h2 : sv < 3) (q : Nat) (h3 : q < 11) (sp : Nat) (h4 : sp < 11) (h : 1 ≤ w ∧ 2 ≤ q ∧ 1 ≤ sp ∧ sp ≤ w) : ((gV 200 (abF sv q sp (w + sv) w w 0) (pw (nI (q - 1)) (w + sv))).2 = 0 ∧ ¬ (gV 200 (abF sv q sp (w + sv) w w 0) (pw (nI (q - 1)) (w + sv))).1 = 0) ∧ mnC w sv q sp 0 = mnM w sv q sp 0 ∧ mnC w sv q sp 1 = mnM w sv q sp 1 := by
  have a1 := List.all_eq_true.mp mn_chk w (List.mem_range.mpr h1)
  have a2 := List.all_eq_true.mp a1 sv (List.mem_range.mpr h2)
  have a3 := List.all_eq_true.mp a2 q (List.mem_range.mpr h3)
  have a4 := List.all_eq_true.mp a3 sp (List.mem_range.mpr h4)
  obtain ⟨b1, b2, b3, b4⟩ := h
  simp only [b1, b2, b3, b4, decide_true, Bool.and_true, Bool.not_true, Bool.false_or, mnChk, Bool.and_eq_true, decide_eq_true_eq, Bool.not_eq_true', decide_eq_false_iff_not] at a4
  exact ⟨⟨a4.1.1.1, a4.1.1.2⟩, a4.1.2, a4.2⟩
theorem i64_ne {a : Int64} (h : 0 < a) (h2 : a = 0) : False := by subst h2; exact absurd h (by decide)
theorem meanW_eq (x y z sp wt : Int32) : meanW mnC x y z sp wt = meanW mnM x y z sp wt := by
  unfold meanW
  by_cases h1 : tryOk x y z = 0
  · rw [if_pos h1, if_pos h1]
  rw [if_neg h1, if_neg h1]
  by_cases h2 : wi sp 1 x = 0
  · rw [if_pos h2, if_pos h2]
  rw [if_neg h2, if_neg h2]
  by_cases h3 : wi wt 0 1 = 0
  · rw [if_pos h3, if_pos h3]
  rw [if_neg h3, if_neg h3]
  obtain ⟨w, sv, q, hw, hsv, hq, rfl, rfl, rfl⟩ := tryOk_nat h1
  obtain ⟨n, a1, a2, rfl⟩ := wi_nat (a := 1) (b := w) (by decide) (by omega) h2
  obtain ⟨t, b1, b2, rfl⟩ := wi_nat (a := 0) (b := 1) (by decide) (by decide) h3
  rw [nI_cl (by omega), nI_cl (by omega), nI_cl (by omega), nI_cl (by omega)]
  obtain ⟨-, e0, e1⟩ := mn_all w (by omega) sv (by omega) q (by omega) n (by omega) ⟨hw.1, hq.1, a1, a2⟩
  rcases (show t = 0 ∨ t = 1 by omega) with rfl | rfl
  · exact e0
  · exact e1
set_option maxHeartbeats 4000000 in
set_option maxRecDepth 100000 in
theorem c_X6_within (l : Launch) (D : va_G) (cI cL cZ cO : ClassId) (x y z : Int32) : Met l yX6_within wsX6_within ({ frames := 0, cells := 0, slots := 0, locals := 0 } : Room) (va_Pc [.int x, .int y, .int z] (Ro D cI cL cZ cO ([]))) (vp_Si (fun r => r = wi x y z)) 0 0 (fun _ => False) := by
  refine Met.ofW (cc := cX6_within) (maxL := 3) (ret := (some .boolean)) (by decide) rfl ?_
  intro p e s m args below meth c s₁ B hml hv
  obtain ⟨rfl, hP, hO⟩ := hv
  have hx := B.exec
  have hb := B.bytes
  have hr := B.returns
  have hts := atoms_spec (ws := wsX6_within) B.pre
  have hown : s.vm.findClass RX6 = some m.cls := findClass_of_methodNamed B.named
  have hlocks := B.notSynchronized
  have hK := hO.1
  have hl := lv_entry ([.int x, .int y, .int z]) (n := 3) (Nat.le_of_ble_eq_true rfl)
  rw [lg_entry_eq]
  generalize (lg_sl ([.int x, .int y, .int z]) ++ List.replicate (3 - (lg_sl ([.int x, .int y, .int z])).length) Slot.unset).toArray = ls at hl ⊢
  have hl : lv_has ls 3 [(0, .int x), (1, .int y), (2, .int z)] := hl
  generalize hQQ : MQ below _ _ s _ _ _ = QQ
  refine lv_iload_n hx hb dX6_within_0 rfl (lv_at hl 0 rfl) ?_
  refine lv_iload_n hx hb dX6_within_1 rfl (lv_at hl 1 rfl) ?_
  refine lv_icmp_lt (tgt := 14) hx hb dX6_within_2 (by decide) (fun c_2 => ?_) (fun c_2 => ?_)
  · skip
    refine lv_iconst (v := 0) hx hb dX6_within_14 (by decide) ?_
    rw [← hQQ]
    exact W.zret (v := 0) hx hb hr rfl (fun t9 ht9 hW9 => ⟨_, rfl, (wi_0 (fun q => i32_nlt.mpr q.1 c_2)).symm, ht9⟩) (fun q h => by cases h) dX6_within_15
  · skip
    refine lv_iload_n hx hb dX6_within_5 rfl (lv_at hl 0 rfl) ?_
    refine lv_iload_n hx hb dX6_within_6 rfl (lv_at hl 2 rfl) ?_
    refine lv_icmp_gt (tgt := 14) hx hb dX6_within_7 (by decide) (fun c_7 => ?_) (fun c_7 => ?_)
    · skip
      refine lv_iconst (v := 0) hx hb dX6_within_14 (by decide) ?_
      rw [← hQQ]
      exact W.zret (v := 0) hx hb hr rfl (fun t9 ht9 hW9 => ⟨_, rfl, (wi_0 (fun q => i32_nlt.mpr q.2 c_7)).symm, ht9⟩) (fun q h => by cases h) dX6_within_15
    · skip
      refine lv_iconst (v := 1) hx hb dX6_within_10 (by decide) ?_
      refine lv_goto (tgt := 15) hx hb dX6_within_11 (by decide) ?_
      rw [← hQQ]
      exact W.zret (v := 1) hx hb hr rfl (fun t9 ht9 hW9 => ⟨_, rfl, (wi_1 (i32_nlt.mp c_2) (i32_nlt.mp c_7)).symm, ht9⟩) (fun q h => by cases h) dX6_within_15
set_option maxHeartbeats 4000000 in
set_option maxRecDepth 100000 in
theorem c_X7_in (l : Launch) (D : va_G) (cI cL cZ cO : ClassId) (x y z : Int32) : Met l yX7_in wsX7_in ({ frames := 0, cells := 0, slots := 0, locals := 0 } : Room) (va_Pc [.int x, .int y, .int z] (Ro D cI cL cZ cO ([]))) (vp_Si (fun r => r = wi x y z)) 0 0 (fun _ => False) := by
  refine Met.ofW (cc := cX7_in) (maxL := 3) (ret := (some .boolean)) (by decide) rfl ?_
  intro p e s m args below meth c s₁ B hml hv
  obtain ⟨rfl, hP, hO⟩ := hv
  have hx := B.exec
  have hb := B.bytes
  have hr := B.returns
  have hts := atoms_spec (ws := wsX7_in) B.pre
  have hown : s.vm.findClass RX7 = some m.cls := findClass_of_methodNamed B.named
  have hlocks := B.notSynchronized
  have hK := hO.1
  have hl := lv_entry ([.int x, .int y, .int z]) (n := 3) (Nat.le_of_ble_eq_true rfl)
  rw [lg_entry_eq]
  generalize (lg_sl ([.int x, .int y, .int z]) ++ List.replicate (3 - (lg_sl ([.int x, .int y, .int z])).length) Slot.unset).toArray = ls at hl ⊢
  have hl : lv_has ls 3 [(0, .int x), (1, .int y), (2, .int z)] := hl
  generalize hQQ : MQ below _ _ s _ _ _ = QQ
  refine lv_iload_n hx hb dX7_in_0 rfl (lv_at hl 0 rfl) ?_
  refine lv_iload_n hx hb dX7_in_1 rfl (lv_at hl 1 rfl) ?_
  refine lv_icmp_lt (tgt := 14) hx hb dX7_in_2 (by decide) (fun c_2 => ?_) (fun c_2 => ?_)
  · skip
    refine lv_iconst (v := 0) hx hb dX7_in_14 (by decide) ?_
    rw [← hQQ]
    exact W.zret (v := 0) hx hb hr rfl (fun t9 ht9 hW9 => ⟨_, rfl, (wi_0 (fun q => i32_nlt.mpr q.1 c_2)).symm, ht9⟩) (fun q h => by cases h) dX7_in_15
  · skip
    refine lv_iload_n hx hb dX7_in_5 rfl (lv_at hl 0 rfl) ?_
    refine lv_iload_n hx hb dX7_in_6 rfl (lv_at hl 2 rfl) ?_
    refine lv_icmp_gt (tgt := 14) hx hb dX7_in_7 (by decide) (fun c_7 => ?_) (fun c_7 => ?_)
    · skip
      refine lv_iconst (v := 0) hx hb dX7_in_14 (by decide) ?_
      rw [← hQQ]
      exact W.zret (v := 0) hx hb hr rfl (fun t9 ht9 hW9 => ⟨_, rfl, (wi_0 (fun q => i32_nlt.mpr q.2 c_7)).symm, ht9⟩) (fun q h => by cases h) dX7_in_15
    · skip
      refine lv_iconst (v := 1) hx hb dX7_in_10 (by decide) ?_
      refine lv_goto (tgt := 15) hx hb dX7_in_11 (by decide) ?_
      rw [← hQQ]
      exact W.zret (v := 1) hx hb hr rfl (fun t9 ht9 hW9 => ⟨_, rfl, (wi_1 (i32_nlt.mp c_2) (i32_nlt.mp c_7)).symm, ht9⟩) (fun q h => by cases h) dX7_in_15
set_option maxHeartbeats 4000000 in
set_option maxRecDepth 100000 in
theorem c_X4_isLetHour (l : Launch) (D : va_G) (cI cL cZ cO : ClassId) (x y : Int32) : Met l yX4_isLetHour wsX4_isLetHour ({ frames := 1, cells := 0, slots := 0, locals := 22 } : Room) (va_Pc [.int x, .int y] (Ro D cI cL cZ cO ([]))) (vp_Si (fun r => r = ilh x y)) 0 0 (fun _ => False) := by
  refine Met.ofW (cc := cX4_isLetHour) (maxL := 2) (ret := (some .boolean)) (by decide) rfl ?_
  intro p e s m args below meth c s₁ B hml hv
  obtain ⟨rfl, hP, hO⟩ := hv
  have hx := B.exec
  have hb := B.bytes
  have hr := B.returns
  have hts := atoms_spec (ws := wsX4_isLetHour) B.pre
  have hown : s.vm.findClass RX4 = some m.cls := findClass_of_methodNamed B.named
  have hlocks := B.notSynchronized
  have hK := hO.1
  have hl := lv_entry ([.int x, .int y]) (n := 2) (Nat.le_of_ble_eq_true rfl)
  rw [lg_entry_eq]
  generalize (lg_sl ([.int x, .int y]) ++ List.replicate (2 - (lg_sl ([.int x, .int y])).length) Slot.unset).toArray = ls at hl ⊢
  have hl : lv_has ls 2 [(0, .int x), (1, .int y)] := hl
  generalize hQQ : MQ below _ _ s _ _ _ = QQ
  refine lv_iload_n hx hb dX4_isLetHour_0 rfl (lv_at hl 0 rfl) ?_
  refine lv_iconst (v := 0) hx hb dX4_isLetHour_1 (by decide) ?_
  refine lv_iconst (v := 2) hx hb dX4_isLetHour_2 (by decide) ?_
  refine roNi (As := [.int x, .int 0, .int 2]) (rest := []) ⟨hx, hb, hml, hown, hts⟩ (c_X6_within l D cI cL cZ cO x 0 2 ) ⟨va_cnB 3 hts gX4_isLetHour_X6_within_n29 rfl rfl rfl hO.2.1 (hts (.initialized RX6) (List.mem_of_getElem? (i := 2) rfl)) (by decide +kernel) ⟨Nat.le_of_ble_eq_true rfl, Nat.le_of_ble_eq_true rfl⟩, (hts (.static yX6_within) (List.mem_of_getElem? (i := 1) rfl)), trivial⟩ hO (fun k q h => by simp at h) rfl hl.1 rfl (Nat.le_of_ble_eq_true rfl) dX4_isLetHour_3 ⟨Nat.le_of_ble_eq_true rfl, Nat.le_of_ble_eq_true rfl⟩ (fun r_3 e_3 => ?_)
  obtain rfl : r_3 = wi x 0 2 := e_3
  refine lv_if_eq (tgt := 24) hx hb dX4_isLetHour_6 (by decide) (fun c_6 => ?_) (fun c_6 => ?_)
  · skip
    refine lv_iconst (v := 0) hx hb dX4_isLetHour_24 (by decide) ?_
    rw [← hQQ]
    exact W.zret (v := 0) hx hb hr rfl (fun t9 ht9 hW9 => ⟨_, rfl, by simp only [ilh, if_pos c_6], ht9⟩) (fun q h => by cases h) dX4_isLetHour_25
  · skip
    refine lv_iload_n hx hb dX4_isLetHour_9 rfl (lv_at hl 1 rfl) ?_
    refine lv_iconst (v := 0) hx hb dX4_isLetHour_10 (by decide) ?_
    refine lv_sipush (v := 199) hx hb dX4_isLetHour_11 (by decide) ?_
    refine roNi (As := [.int y, .int 0, .int 199]) (rest := []) ⟨hx, hb, hml, hown, hts⟩ (c_X6_within l D cI cL cZ cO y 0 199 ) ⟨va_cnB 3 hts gX4_isLetHour_X6_within_n29 rfl rfl rfl hO.2.1 (hts (.initialized RX6) (List.mem_of_getElem? (i := 2) rfl)) (by decide +kernel) ⟨Nat.le_of_ble_eq_true rfl, Nat.le_of_ble_eq_true rfl⟩, (hts (.static yX6_within) (List.mem_of_getElem? (i := 1) rfl)), trivial⟩ hO (fun k q h => by simp at h) rfl hl.1 rfl (Nat.le_of_ble_eq_true rfl) dX4_isLetHour_14 ⟨Nat.le_of_ble_eq_true rfl, Nat.le_of_ble_eq_true rfl⟩ (fun r_14 e_14 => ?_)
    obtain rfl : r_14 = wi y 0 199 := e_14
    refine lv_if_eq (tgt := 24) hx hb dX4_isLetHour_17 (by decide) (fun c_17 => ?_) (fun c_17 => ?_)
    · skip
      refine lv_iconst (v := 0) hx hb dX4_isLetHour_24 (by decide) ?_
      rw [← hQQ]
      exact W.zret (v := 0) hx hb hr rfl (fun t9 ht9 hW9 => ⟨_, rfl, by simp only [ilh, if_neg c_6, if_pos c_17], ht9⟩) (fun q h => by cases h) dX4_isLetHour_25
    · skip
      refine lv_iconst (v := 1) hx hb dX4_isLetHour_20 (by decide) ?_
      refine lv_goto (tgt := 25) hx hb dX4_isLetHour_21 (by decide) ?_
      rw [← hQQ]
      exact W.zret (v := 1) hx hb hr rfl (fun t9 ht9 hW9 => ⟨_, rfl, by simp only [ilh, if_neg c_6, if_neg c_17], ht9⟩) (fun q h => by cases h) dX4_isLetHour_25
set_option maxHeartbeats 4000000 in
set_option maxRecDepth 100000 in
theorem c_X2_canBe (l : Launch) (D : va_G) (cI cL cZ cO : ClassId) (x y z : Int32) : Met l yX2_canBe wsX2_canBe ({ frames := 1, cells := 0, slots := 0, locals := 22 } : Room) (va_Pc [.int x, .int y, .int z] (Ro D cI cL cZ cO ([]))) (vp_Si (fun r => r = tryOk x y z)) 0 0 (fun _ => False) := by
  refine Met.ofW (cc := cX2_canBe) (maxL := 3) (ret := (some .boolean)) (by decide) rfl ?_
  intro p e s m args below meth c s₁ B hml hv
  obtain ⟨rfl, hP, hO⟩ := hv
  have hx := B.exec
  have hb := B.bytes
  have hr := B.returns
  have hts := atoms_spec (ws := wsX2_canBe) B.pre
  have hown : s.vm.findClass RX2 = some m.cls := findClass_of_methodNamed B.named
  have hlocks := B.notSynchronized
  have hK := hO.1
  have hl := lv_entry ([.int x, .int y, .int z]) (n := 3) (Nat.le_of_ble_eq_true rfl)
  rw [lg_entry_eq]
  generalize (lg_sl ([.int x, .int y, .int z]) ++ List.replicate (3 - (lg_sl ([.int x, .int y, .int z])).length) Slot.unset).toArray = ls at hl ⊢
  have hl : lv_has ls 3 [(0, .int x), (1, .int y), (2, .int z)] := hl
  generalize hQQ : MQ below _ _ s _ _ _ = QQ
  refine lv_iload_n hx hb dX2_canBe_0 rfl (lv_at hl 0 rfl) ?_
  refine lv_iconst (v := 1) hx hb dX2_canBe_1 (by decide) ?_
  refine lv_bipush (v := 10) hx hb dX2_canBe_2 (by decide) ?_
  refine roNi (As := [.int x, .int 1, .int 10]) (rest := []) ⟨hx, hb, hml, hown, hts⟩ (c_X6_within l D cI cL cZ cO x 1 10 ) ⟨va_cnB 3 hts gX2_canBe_X6_within_n7 rfl rfl rfl hO.2.2.2.1 (hts (.initialized RX6) (List.mem_of_getElem? (i := 2) rfl)) (by decide +kernel) ⟨Nat.le_of_ble_eq_true rfl, Nat.le_of_ble_eq_true rfl⟩, (hts (.static yX6_within) (List.mem_of_getElem? (i := 1) rfl)), trivial⟩ hO (fun k q h => by simp at h) rfl hl.1 rfl (Nat.le_of_ble_eq_true rfl) dX2_canBe_4 ⟨Nat.le_of_ble_eq_true rfl, Nat.le_of_ble_eq_true rfl⟩ (fun r_4 e_4 => ?_)
  obtain rfl : r_4 = wi x 1 10 := e_4
  refine lv_if_eq (tgt := 33) hx hb dX2_canBe_7 (by decide) (fun c_7 => ?_) (fun c_7 => ?_)
  · skip
    refine lv_iconst (v := 0) hx hb dX2_canBe_33 (by decide) ?_
    rw [← hQQ]
    exact W.zret (v := 0) hx hb hr rfl (fun t9 ht9 hW9 => ⟨_, rfl, by simp only [tryOk, if_pos c_7], ht9⟩) (fun q h => by cases h) dX2_canBe_34
  · skip
    refine lv_iload_n hx hb dX2_canBe_10 rfl (lv_at hl 1 rfl) ?_
    refine lv_iconst (v := 0) hx hb dX2_canBe_11 (by decide) ?_
    refine lv_iconst (v := 2) hx hb dX2_canBe_12 (by decide) ?_
    refine roNi (As := [.int y, .int 0, .int 2]) (rest := []) ⟨hx, hb, hml, hown, hts⟩ (c_X6_within l D cI cL cZ cO y 0 2 ) ⟨va_cnB 3 hts gX2_canBe_X6_within_n7 rfl rfl rfl hO.2.2.2.1 (hts (.initialized RX6) (List.mem_of_getElem? (i := 2) rfl)) (by decide +kernel) ⟨Nat.le_of_ble_eq_true rfl, Nat.le_of_ble_eq_true rfl⟩, (hts (.static yX6_within) (List.mem_of_getElem? (i := 1) rfl)), trivial⟩ hO (fun k q h => by simp at h) rfl hl.1 rfl (Nat.le_of_ble_eq_true rfl) dX2_canBe_13 ⟨Nat.le_of_ble_eq_true rfl, Nat.le_of_ble_eq_true rfl⟩ (fun r_13 e_13 => ?_)
    obtain rfl : r_13 = wi y 0 2 := e_13
    refine lv_if_eq (tgt := 33) hx hb dX2_canBe_16 (by decide) (fun c_16 => ?_) (fun c_16 => ?_)
    · skip
      refine lv_iconst (v := 0) hx hb dX2_canBe_33 (by decide) ?_
      rw [← hQQ]
      exact W.zret (v := 0) hx hb hr rfl (fun t9 ht9 hW9 => ⟨_, rfl, by simp only [tryOk, if_neg c_7, if_pos c_16], ht9⟩) (fun q h => by cases h) dX2_canBe_34
    · skip
      refine lv_iload_n hx hb dX2_canBe_19 rfl (lv_at hl 2 rfl) ?_
      refine lv_iconst (v := 2) hx hb dX2_canBe_20 (by decide) ?_
      refine lv_bipush (v := 10) hx hb dX2_canBe_21 (by decide) ?_
      refine roNi (As := [.int z, .int 2, .int 10]) (rest := []) ⟨hx, hb, hml, hown, hts⟩ (c_X6_within l D cI cL cZ cO z 2 10 ) ⟨va_cnB 3 hts gX2_canBe_X6_within_n7 rfl rfl rfl hO.2.2.2.1 (hts (.initialized RX6) (List.mem_of_getElem? (i := 2) rfl)) (by decide +kernel) ⟨Nat.le_of_ble_eq_true rfl, Nat.le_of_ble_eq_true rfl⟩, (hts (.static yX6_within) (List.mem_of_getElem? (i := 1) rfl)), trivial⟩ hO (fun k q h => by simp at h) rfl hl.1 rfl (Nat.le_of_ble_eq_true rfl) dX2_canBe_23 ⟨Nat.le_of_ble_eq_true rfl, Nat.le_of_ble_eq_true rfl⟩ (fun r_23 e_23 => ?_)
      obtain rfl : r_23 = wi z 2 10 := e_23
      refine lv_if_eq (tgt := 33) hx hb dX2_canBe_26 (by decide) (fun c_26 => ?_) (fun c_26 => ?_)
      · skip
        refine lv_iconst (v := 0) hx hb dX2_canBe_33 (by decide) ?_
        rw [← hQQ]
        exact W.zret (v := 0) hx hb hr rfl (fun t9 ht9 hW9 => ⟨_, rfl, by simp only [tryOk, if_neg c_7, if_neg c_16, if_pos c_26], ht9⟩) (fun q h => by cases h) dX2_canBe_34
      · skip
        refine lv_iconst (v := 1) hx hb dX2_canBe_29 (by decide) ?_
        refine lv_goto (tgt := 34) hx hb dX2_canBe_30 (by decide) ?_
        rw [← hQQ]
        exact W.zret (v := 1) hx hb hr rfl (fun t9 ht9 hW9 => ⟨_, rfl, by simp only [tryOk, if_neg c_7, if_neg c_16, if_neg c_26], ht9⟩) (fun q h => by cases h) dX2_canBe_34
set_option maxHeartbeats 4000000 in
set_option maxRecDepth 100000 in
theorem c_X7_isTry (l : Launch) (D : va_G) (cI cL cZ cO : ClassId) (x y z : Int32) : Met l yX7_isTry wsX7_isTry ({ frames := 1, cells := 0, slots := 0, locals := 22 } : Room) (va_Pc [.int x, .int y, .int z] (Ro D cI cL cZ cO ([]))) (vp_Si (fun r => r = tryOk x y z)) 0 0 (fun _ => False) := by
  refine Met.ofW (cc := cX7_isTry) (maxL := 3) (ret := (some .boolean)) (by decide) rfl ?_
  intro p e s m args below meth c s₁ B hml hv
  obtain ⟨rfl, hP, hO⟩ := hv
  have hx := B.exec
  have hb := B.bytes
  have hr := B.returns
  have hts := atoms_spec (ws := wsX7_isTry) B.pre
  have hown : s.vm.findClass RX7 = some m.cls := findClass_of_methodNamed B.named
  have hlocks := B.notSynchronized
  have hK := hO.1
  have hl := lv_entry ([.int x, .int y, .int z]) (n := 3) (Nat.le_of_ble_eq_true rfl)
  rw [lg_entry_eq]
  generalize (lg_sl ([.int x, .int y, .int z]) ++ List.replicate (3 - (lg_sl ([.int x, .int y, .int z])).length) Slot.unset).toArray = ls at hl ⊢
  have hl : lv_has ls 3 [(0, .int x), (1, .int y), (2, .int z)] := hl
  generalize hQQ : MQ below _ _ s _ _ _ = QQ
  refine lv_iload_n hx hb dX7_isTry_0 rfl (lv_at hl 0 rfl) ?_
  refine lv_iconst (v := 1) hx hb dX7_isTry_1 (by decide) ?_
  refine lv_bipush (v := 10) hx hb dX7_isTry_2 (by decide) ?_
  refine roSi (As := [.int x, .int 1, .int 10]) (rest := []) ⟨hx, hb, hml, hown, hts⟩ (c_X7_in l D cI cL cZ cO x 1 10 ) (va_cwS 3 hts gX7_isTry_X7_in rfl rfl rfl (by decide +kernel) ⟨Nat.le_of_ble_eq_true rfl, Nat.le_of_ble_eq_true rfl⟩) hO (fun k q h => by simp at h) rfl hl.1 rfl (Nat.le_of_ble_eq_true rfl) dX7_isTry_4 ⟨Nat.le_of_ble_eq_true rfl, Nat.le_of_ble_eq_true rfl⟩ (fun r_4 e_4 => ?_)
  obtain rfl : r_4 = wi x 1 10 := e_4
  refine lv_if_eq (tgt := 33) hx hb dX7_isTry_7 (by decide) (fun c_7 => ?_) (fun c_7 => ?_)
  · skip
    refine lv_iconst (v := 0) hx hb dX7_isTry_33 (by decide) ?_
    rw [← hQQ]
    exact W.zret (v := 0) hx hb hr rfl (fun t9 ht9 hW9 => ⟨_, rfl, by simp only [tryOk, if_pos c_7], ht9⟩) (fun q h => by cases h) dX7_isTry_34
  · skip
    refine lv_iload_n hx hb dX7_isTry_10 rfl (lv_at hl 1 rfl) ?_
    refine lv_iconst (v := 0) hx hb dX7_isTry_11 (by decide) ?_
    refine lv_iconst (v := 2) hx hb dX7_isTry_12 (by decide) ?_
    refine roSi (As := [.int y, .int 0, .int 2]) (rest := []) ⟨hx, hb, hml, hown, hts⟩ (c_X7_in l D cI cL cZ cO y 0 2 ) (va_cwS 3 hts gX7_isTry_X7_in rfl rfl rfl (by decide +kernel) ⟨Nat.le_of_ble_eq_true rfl, Nat.le_of_ble_eq_true rfl⟩) hO (fun k q h => by simp at h) rfl hl.1 rfl (Nat.le_of_ble_eq_true rfl) dX7_isTry_13 ⟨Nat.le_of_ble_eq_true rfl, Nat.le_of_ble_eq_true rfl⟩ (fun r_13 e_13 => ?_)
    obtain rfl : r_13 = wi y 0 2 := e_13
    refine lv_if_eq (tgt := 33) hx hb dX7_isTry_16 (by decide) (fun c_16 => ?_) (fun c_16 => ?_)
    · skip
      refine lv_iconst (v := 0) hx hb dX7_isTry_33 (by decide) ?_
      rw [← hQQ]
      exact W.zret (v := 0) hx hb hr rfl (fun t9 ht9 hW9 => ⟨_, rfl, by simp only [tryOk, if_neg c_7, if_pos c_16], ht9⟩) (fun q h => by cases h) dX7_isTry_34
    · skip
      refine lv_iload_n hx hb dX7_isTry_19 rfl (lv_at hl 2 rfl) ?_
      refine lv_iconst (v := 2) hx hb dX7_isTry_20 (by decide) ?_
      refine lv_bipush (v := 10) hx hb dX7_isTry_21 (by decide) ?_
      refine roSi (As := [.int z, .int 2, .int 10]) (rest := []) ⟨hx, hb, hml, hown, hts⟩ (c_X7_in l D cI cL cZ cO z 2 10 ) (va_cwS 3 hts gX7_isTry_X7_in rfl rfl rfl (by decide +kernel) ⟨Nat.le_of_ble_eq_true rfl, Nat.le_of_ble_eq_true rfl⟩) hO (fun k q h => by simp at h) rfl hl.1 rfl (Nat.le_of_ble_eq_true rfl) dX7_isTry_23 ⟨Nat.le_of_ble_eq_true rfl, Nat.le_of_ble_eq_true rfl⟩ (fun r_23 e_23 => ?_)
      obtain rfl : r_23 = wi z 2 10 := e_23
      refine lv_if_eq (tgt := 33) hx hb dX7_isTry_26 (by decide) (fun c_26 => ?_) (fun c_26 => ?_)
      · skip
        refine lv_iconst (v := 0) hx hb dX7_isTry_33 (by decide) ?_
        rw [← hQQ]
        exact W.zret (v := 0) hx hb hr rfl (fun t9 ht9 hW9 => ⟨_, rfl, by simp only [tryOk, if_neg c_7, if_neg c_16, if_pos c_26], ht9⟩) (fun q h => by cases h) dX7_isTry_34
      · skip
        refine lv_iconst (v := 1) hx hb dX7_isTry_29 (by decide) ?_
        refine lv_goto (tgt := 34) hx hb dX7_isTry_30 (by decide) ?_
        rw [← hQQ]
        exact W.zret (v := 1) hx hb hr rfl (fun t9 ht9 hW9 => ⟨_, rfl, by simp only [tryOk, if_neg c_7, if_neg c_16, if_neg c_26], ht9⟩) (fun q h => by cases h) dX7_isTry_34
set_option maxHeartbeats 4000000 in
set_option maxRecDepth 100000 in
theorem c_X2_power (l : Launch) (D : va_G) (cI cL cZ cO : ClassId) (b : Int32) (t : Nat) (ht : t < 2 ^ 31) : Met l yX2_power wsX2_power ({ frames := 0, cells := 0, slots := 0, locals := 0 } : Room) (va_Pc [.int b, .int (nI t)] (Ro D cI cL cZ cO ([]))) (vp_Sl (fun r => r = pw b t)) 0 0 (fun _ => False) := by
  refine Met.ofW (cc := cX2_power) (maxL := 5) (ret := (some .long)) (by decide) rfl ?_
  intro p e s m args below meth c s₁ B hml hv
  obtain ⟨rfl, hP, hO⟩ := hv
  have hx := B.exec
  have hb := B.bytes
  have hr := B.returns
  have hts := atoms_spec (ws := wsX2_power) B.pre
  have hown : s.vm.findClass RX2 = some m.cls := findClass_of_methodNamed B.named
  have hlocks := B.notSynchronized
  have hK := hO.1
  have hl := lv_entry ([.int b, .int (nI t)]) (n := 5) (Nat.le_of_ble_eq_true rfl)
  rw [lg_entry_eq]
  generalize (lg_sl ([.int b, .int (nI t)]) ++ List.replicate (5 - (lg_sl ([.int b, .int (nI t)])).length) Slot.unset).toArray = ls at hl ⊢
  have hl : lv_has ls 5 [(0, .int b), (1, .int (nI t))] := hl
  generalize hQQ : MQ below _ _ s _ _ _ = QQ
  refine lv_lconst (v := 1) hx hb dX2_power_0 (by decide) ?_
  refine lv_lstore_n (lv' := [(2, .long 1), (0, .int b), (1, .int (nI t))]) hx hb dX2_power_1 rfl hl (by decide) rfl (fun ls hl => ?_)
  refine lv_iconst (v := 0) hx hb dX2_power_2 (by decide) ?_
  refine lv_istore (lv' := [(4, .int 0), (2, .long 1), (0, .int b), (1, .int (nI t))]) hx hb dX2_power_3 hl (by decide) rfl (fun ls hl => ?_)
  have L5 : ∀ (n0 : Nat) (k : Nat) (v : Int64) (ls : Array Slot), t - k < n0 → (k ≤ t) → (v = pw b k) → lv_has ls 5 [(4, .int (nI k)), (2, .long v), (0, .int b), (1, .int (nI t))] → W p l e (headSpec wsX2_power ({ frames := 0, cells := 0, slots := 0, locals := 0 } : Room)).room s m ([.int b, .int (nI t)] : List Value).toArray below meth c s.heap [] 0 0 QQ (F0 m 5 ls []) := by
    intro n0
    induction n0 with
    | zero =>
      intro k v ls hmu
      exact absurd hmu (Nat.not_lt_zero _)
    | succ n0 ih5 =>
      intro k v ls hmu hk hv hl
      refine lv_iload hx hb dX2_power_5 (lv_at hl 0 rfl) ?_
      refine lv_iload_n hx hb dX2_power_7 rfl (lv_at hl 3 rfl) ?_
      refine n_icmp_ge (x := k) (y := t) (tgt := 22) hx hb dX2_power_8 (by decide) (by omega) (by omega) (fun c_8 => ?_) (fun c_8 => ?_)
      · skip
        refine lv_lload_n hx hb dX2_power_22 rfl (lv_at hl 1 rfl) ?_
        rw [← hQQ]
        exact W.lret (v := v) hx hb hr (fun t9 ht9 hW9 => ⟨_, rfl, by rw [hv, show k = t by omega], ht9⟩) (fun q h => by cases h) dX2_power_23
      · skip
        refine lv_lload_n hx hb dX2_power_11 rfl (lv_at hl 1 rfl) ?_
        refine lv_iload_n hx hb dX2_power_12 rfl (lv_at hl 2 rfl) ?_
        refine lv_i2l (v := b.toInt64) hx hb dX2_power_13 rfl ?_
        refine lv_lmul hx hb dX2_power_14 ?_
        refine lv_lstore_n (lv' := [(2, .long (v * b.toInt64)), (4, .int (nI k)), (0, .int b), (1, .int (nI t))]) hx hb dX2_power_15 rfl hl (by decide) rfl (fun ls hl => ?_)
        refine lv_iinc (v := (nI (k + 1))) (lv' := [(4, .int (nI (k + 1))), (2, .long (v * b.toInt64)), (0, .int b), (1, .int (nI t))]) hx hb dX2_power_16 hl (k := 1) rfl (nI_add k 1) (by decide) rfl (fun ls hl => ?_)
        refine lv_goto (tgt := 5) hx hb dX2_power_19 (by decide) ?_
        exact ih5 (k + 1) (v * b.toInt64) _ (by omega) (by omega) (by rw [hv]; rfl) (lv_sub hl [0, 1, 2, 3] rfl)
  exact L5 _ 0 1 _ (Nat.lt_succ_self _) (Nat.zero_le _) rfl (lv_sub hl [0, 1, 2, 3] rfl)
set_option maxHeartbeats 4000000 in
set_option maxRecDepth 100000 in
theorem c_X7_power (l : Launch) (D : va_G) (cI cL cZ cO : ClassId) (b : Int32) (t : Nat) (ht : t < 2 ^ 31) : Met l yX7_power wsX7_power ({ frames := 0, cells := 0, slots := 0, locals := 0 } : Room) (va_Pc [.int b, .int (nI t)] (Ro D cI cL cZ cO ([]))) (vp_Sl (fun r => r = pw b t)) 0 0 (fun _ => False) := by
  refine Met.ofW (cc := cX7_power) (maxL := 5) (ret := (some .long)) (by decide) rfl ?_
  intro p e s m args below meth c s₁ B hml hv
  obtain ⟨rfl, hP, hO⟩ := hv
  have hx := B.exec
  have hb := B.bytes
  have hr := B.returns
  have hts := atoms_spec (ws := wsX7_power) B.pre
  have hown : s.vm.findClass RX7 = some m.cls := findClass_of_methodNamed B.named
  have hlocks := B.notSynchronized
  have hK := hO.1
  have hl := lv_entry ([.int b, .int (nI t)]) (n := 5) (Nat.le_of_ble_eq_true rfl)
  rw [lg_entry_eq]
  generalize (lg_sl ([.int b, .int (nI t)]) ++ List.replicate (5 - (lg_sl ([.int b, .int (nI t)])).length) Slot.unset).toArray = ls at hl ⊢
  have hl : lv_has ls 5 [(0, .int b), (1, .int (nI t))] := hl
  generalize hQQ : MQ below _ _ s _ _ _ = QQ
  refine lv_lconst (v := 1) hx hb dX7_power_0 (by decide) ?_
  refine lv_lstore_n (lv' := [(2, .long 1), (0, .int b), (1, .int (nI t))]) hx hb dX7_power_1 rfl hl (by decide) rfl (fun ls hl => ?_)
  refine lv_iconst (v := 0) hx hb dX7_power_2 (by decide) ?_
  refine lv_istore (lv' := [(4, .int 0), (2, .long 1), (0, .int b), (1, .int (nI t))]) hx hb dX7_power_3 hl (by decide) rfl (fun ls hl => ?_)
  have L5 : ∀ (n0 : Nat) (k : Nat) (v : Int64) (ls : Array Slot), t - k < n0 → (k ≤ t) → (v = pw b k) → lv_has ls 5 [(4, .int (nI k)), (2, .long v), (0, .int b), (1, .int (nI t))] → W p l e (headSpec wsX7_power ({ frames := 0, cells := 0, slots := 0, locals := 0 } : Room)).room s m ([.int b, .int (nI t)] : List Value).toArray below meth c s.heap [] 0 0 QQ (F0 m 5 ls []) := by
    intro n0
    induction n0 with
    | zero =>
      intro k v ls hmu
      exact absurd hmu (Nat.not_lt_zero _)
    | succ n0 ih5 =>
      intro k v ls hmu hk hv hl
      refine lv_iload hx hb dX7_power_5 (lv_at hl 0 rfl) ?_
      refine lv_iload_n hx hb dX7_power_7 rfl (lv_at hl 3 rfl) ?_
      refine n_icmp_ge (x := k) (y := t) (tgt := 22) hx hb dX7_power_8 (by decide) (by omega) (by omega) (fun c_8 => ?_) (fun c_8 => ?_)
      · skip
        refine lv_lload_n hx hb dX7_power_22 rfl (lv_at hl 1 rfl) ?_
        rw [← hQQ]
        exact W.lret (v := v) hx hb hr (fun t9 ht9 hW9 => ⟨_, rfl, by rw [hv, show k = t by omega], ht9⟩) (fun q h => by cases h) dX7_power_23
      · skip
        refine lv_lload_n hx hb dX7_power_11 rfl (lv_at hl 1 rfl) ?_
        refine lv_iload_n hx hb dX7_power_12 rfl (lv_at hl 2 rfl) ?_
        refine lv_i2l (v := b.toInt64) hx hb dX7_power_13 rfl ?_
        refine lv_lmul hx hb dX7_power_14 ?_
        refine lv_lstore_n (lv' := [(2, .long (v * b.toInt64)), (4, .int (nI k)), (0, .int b), (1, .int (nI t))]) hx hb dX7_power_15 rfl hl (by decide) rfl (fun ls hl => ?_)
        refine lv_iinc (v := (nI (k + 1))) (lv' := [(4, .int (nI (k + 1))), (2, .long (v * b.toInt64)), (0, .int b), (1, .int (nI t))]) hx hb dX7_power_16 hl (k := 1) rfl (nI_add k 1) (by decide) rfl (fun ls hl => ?_)
        refine lv_goto (tgt := 5) hx hb dX7_power_19 (by decide) ?_
        exact ih5 (k + 1) (v * b.toInt64) _ (by omega) (by omega) (by rw [hv]; rfl) (lv_sub hl [0, 1, 2, 3] rfl)
  exact L5 _ 0 1 _ (Nat.lt_succ_self _) (Nat.zero_le _) rfl (lv_sub hl [0, 1, 2, 3] rfl)
set_option maxHeartbeats 4000000 in
set_option maxRecDepth 100000 in
theorem c_X2_above (l : Launch) (D : va_G) (cI cL cZ cO : ClassId) (w sv q sp li : Nat) (hw : w ≤ 10) (hsv : sv ≤ 2) (hq : 2 ≤ q ∧ q ≤ 10) (hsp : sp + sv ≤ li) (hli : li < 1000) : Met l yX2_above wsX2_above ({ frames := 1, cells := 0, slots := 0, locals := 24 } : Room) (va_Pc [.int (nI w), .int (nI sv), .int (nI q), .int (nI sp), .int (nI li)] (Ro D cI cL cZ cO ([]))) (vp_Sl (fun r => r = abF sv q sp li w w 0)) 0 0 (fun _ => False) := by
  refine Met.ofW (cc := cX2_above) (maxL := 13) (ret := (some .long)) (by decide) rfl ?_
  intro p e s m args below meth c s₁ B hml hv
  obtain ⟨rfl, hP, hO⟩ := hv
  have hx := B.exec
  have hb := B.bytes
  have hr := B.returns
  have hts := atoms_spec (ws := wsX2_above) B.pre
  have hown : s.vm.findClass RX2 = some m.cls := findClass_of_methodNamed B.named
  have hlocks := B.notSynchronized
  have hK := hO.1
  have hl := lv_entry ([.int (nI w), .int (nI sv), .int (nI q), .int (nI sp), .int (nI li)]) (n := 13) (Nat.le_of_ble_eq_true rfl)
  rw [lg_entry_eq]
  generalize (lg_sl ([.int (nI w), .int (nI sv), .int (nI q), .int (nI sp), .int (nI li)]) ++ List.replicate (13 - (lg_sl ([.int (nI w), .int (nI sv), .int (nI q), .int (nI sp), .int (nI li)])).length) Slot.unset).toArray = ls at hl ⊢
  have hl : lv_has ls 13 [(0, .int (nI w)), (1, .int (nI sv)), (2, .int (nI q)), (3, .int (nI sp)), (4, .int (nI li))] := hl
  generalize hQQ : MQ below _ _ s _ _ _ = QQ
  refine lv_lconst (v := 0) hx hb dX2_above_0 (by decide) ?_
  refine lv_lstore (lv' := [(5, .long 0), (0, .int (nI w)), (1, .int (nI sv)), (2, .int (nI q)), (3, .int (nI sp)), (4, .int (nI li))]) hx hb dX2_above_1 hl (by decide) rfl (fun ls hl => ?_)
  refine lv_iload_n hx hb dX2_above_3 rfl (lv_at hl 1 rfl) ?_
  refine lv_istore (lv' := [(7, .int (nI w)), (5, .long 0), (0, .int (nI w)), (1, .int (nI sv)), (2, .int (nI q)), (3, .int (nI sp)), (4, .int (nI li))]) hx hb dX2_above_4 hl (by decide) rfl (fun ls hl => ?_)
  refine lv_iconst (v := 0) hx hb dX2_above_6 (by decide) ?_
  refine lv_istore (lv' := [(8, .int 0), (7, .int (nI w)), (5, .long 0), (0, .int (nI w)), (1, .int (nI sv)), (2, .int (nI q)), (3, .int (nI sp)), (4, .int (nI li))]) hx hb dX2_above_7 hl (by decide) rfl (fun ls hl => ?_)
  have L9 : ∀ (n0 : Nat) (k : Nat) (lf : Nat) (v : Int64) (ls : Array Slot), w - k < n0 → (k ≤ w) → (lf ≤ w) → (abF sv q sp li (w - k) lf v = abF sv q sp li w w 0) → lv_has ls 13 [(8, .int (nI k)), (7, .int (nI lf)), (5, .long v), (0, .int (nI w)), (1, .int (nI sv)), (2, .int (nI q)), (3, .int (nI sp)), (4, .int (nI li))] → W p l e (headSpec wsX2_above ({ frames := 1, cells := 0, slots := 0, locals := 24 } : Room)).room s m ([.int (nI w), .int (nI sv), .int (nI q), .int (nI sp), .int (nI li)] : List Value).toArray below meth c s.heap [] 0 0 QQ (F0 m 9 ls []) := by
    intro n0
    induction n0 with
    | zero =>
      intro k lf v ls hmu
      exact absurd hmu (Nat.not_lt_zero _)
    | succ n0 ih9 =>
      intro k lf v ls hmu hk hlf hv hl
      refine lv_iload hx hb dX2_above_9 (lv_at hl 0 rfl) ?_
      refine lv_iload_n hx hb dX2_above_11 rfl (lv_at hl 3 rfl) ?_
      refine n_icmp_ge (x := k) (y := w) (tgt := 86) hx hb dX2_above_12 (by decide) (by omega) (by omega) (fun c_12 => ?_) (fun c_12 => ?_)
      · skip
        refine lv_lload hx hb dX2_above_86 (lv_at hl 2 rfl) ?_
        rw [← hQQ]
        exact W.lret (v := v) hx hb hr (fun t9 ht9 hW9 => ⟨_, rfl, (by rw [← hv, abF_0 (by omega)]), ht9⟩) (fun q h => by cases h) dX2_above_88
      · skip
        refine lv_iload hx hb dX2_above_15 (lv_at hl 1 rfl) ?_
        refine n_if_le (x := lf) (tgt := 86) hx hb dX2_above_17 (by decide) (by omega) (fun c_17 => ?_) (fun c_17 => ?_)
        · skip
          refine lv_lload hx hb dX2_above_86 (lv_at hl 2 rfl) ?_
          rw [← hQQ]
          exact W.lret (v := v) hx hb hr (fun t9 ht9 hW9 => ⟨_, rfl, (by rw [← hv, abF_0 (by omega)]), ht9⟩) (fun q h => by cases h) dX2_above_88
        · skip
          refine lv_iload_n hx hb dX2_above_20 rfl (lv_at hl 6 rfl) ?_
          refine lv_iload hx hb dX2_above_21 (lv_at hl 1 rfl) ?_
          refine va_mmin hx hb (hml.trans hl.1.symm) hown (hts (.methodLink RX2 19 Lib.Math.min.name) (List.mem_of_getElem? (i := 1) rfl)) (hts (.static Lib.Math.min.name) (List.mem_of_getElem? (i := 2) rfl)) (hts (.initialized "java/lang/Math") (List.mem_of_getElem? (i := 3) rfl)) (hts (.code Lib.Math.min.name Lib.Math.min.code 2 (some .int)) (List.mem_of_getElem? (i := 4) rfl)) (Nat.le_of_ble_eq_true rfl) (Nat.le_of_ble_eq_true rfl) (Nat.le_of_ble_eq_true rfl) (Nat.le_of_ble_eq_true rfl) (x := (nI sp)) (y := (nI lf)) dX2_above_23 ?_
          refine lv_seti (v := nI (min sp lf)) (n_min (by omega) (by omega)) ?_
          refine lv_istore (lv' := [(9, .int (nI (min sp lf))), (8, .int (nI k)), (7, .int (nI lf)), (5, .long v), (0, .int (nI w)), (1, .int (nI sv)), (2, .int (nI q)), (3, .int (nI sp)), (4, .int (nI li))]) hx hb dX2_above_26 hl (by decide) rfl (fun ls hl => ?_)
          refine lv_iload hx hb dX2_above_28 (lv_at hl 0 rfl) ?_
          refine lv_iload_n hx hb dX2_above_30 rfl (lv_at hl 5 rfl) ?_
          refine n_iadd (x := (min sp lf)) (y := sv) hx hb dX2_above_31 ?_
          refine lv_istore (lv' := [(10, .int (nI ((min sp lf) + sv))), (9, .int (nI (min sp lf))), (8, .int (nI k)), (7, .int (nI lf)), (5, .long v), (0, .int (nI w)), (1, .int (nI sv)), (2, .int (nI q)), (3, .int (nI sp)), (4, .int (nI li))]) hx hb dX2_above_32 hl (by decide) rfl (fun ls hl => ?_)
          refine lv_iload_n hx hb dX2_above_34 rfl (lv_at hl 7 rfl) ?_
          refine lv_iconst (v := 1) hx hb dX2_above_35 (by decide) ?_
          refine n_isub (x := q) (y := 1) hx hb dX2_above_36 (by omega) ?_
          refine lv_iload hx hb dX2_above_37 (lv_at hl 0 rfl) ?_
          refine roSl (As := [.int (nI (q - 1)), .int (nI ((min sp lf) + sv))]) (rest := []) ⟨hx, hb, hml, hown, hts⟩ (c_X2_power l D cI cL cZ cO (nI (q - 1)) ((min sp lf) + sv) (by omega)) (va_cwS 2 hts gX2_above_X2_power rfl rfl rfl (by decide +kernel) ⟨Nat.le_of_ble_eq_true rfl, Nat.le_of_ble_eq_true rfl⟩) hO (fun k q h => by simp at h) rfl hl.1 rfl (Nat.le_of_ble_eq_true rfl) dX2_above_39 ⟨Nat.le_of_ble_eq_true rfl, Nat.le_of_ble_eq_true rfl⟩ (fun r_39 e_39 => ?_)
          obtain rfl : r_39 = pw (nI (q - 1)) ((min sp lf) + sv) := e_39
          refine lv_lstore (lv' := [(11, .long (pw (nI (q - 1)) ((min sp lf) + sv))), (10, .int (nI ((min sp lf) + sv))), (9, .int (nI (min sp lf))), (8, .int (nI k)), (7, .int (nI lf)), (5, .long v), (0, .int (nI w)), (1, .int (nI sv)), (2, .int (nI q)), (3, .int (nI sp)), (4, .int (nI li))]) hx hb dX2_above_42 hl (by decide) rfl (fun ls hl => ?_)
          refine lv_lload hx hb dX2_above_44 (lv_at hl 5 rfl) ?_
          refine lv_iload_n hx hb dX2_above_46 rfl (lv_at hl 8 rfl) ?_
          refine lv_i2l (v := (nI q).toInt64) hx hb dX2_above_47 rfl ?_
          refine lv_iload_n hx hb dX2_above_48 rfl (lv_at hl 8 rfl) ?_
          refine lv_iload hx hb dX2_above_49 (lv_at hl 1 rfl) ?_
          refine roSl (As := [.int (nI q), .int (nI ((min sp lf) + sv))]) (rest := [.long ((nI q).toInt64), .long v]) ⟨hx, hb, hml, hown, hts⟩ (c_X2_power l D cI cL cZ cO (nI q) ((min sp lf) + sv) (by omega)) (va_cwS 2 hts gX2_above_X2_power rfl rfl rfl (by decide +kernel) ⟨Nat.le_of_ble_eq_true rfl, Nat.le_of_ble_eq_true rfl⟩) hO (fun k q h => by simp at h) rfl hl.1 rfl (Nat.le_of_ble_eq_true rfl) dX2_above_51 ⟨Nat.le_of_ble_eq_true rfl, Nat.le_of_ble_eq_true rfl⟩ (fun r_51 e_51 => ?_)
          obtain rfl : r_51 = pw (nI q) ((min sp lf) + sv) := e_51
          refine lv_lload hx hb dX2_above_54 (lv_at hl 0 rfl) ?_
          refine lv_lsub hx hb dX2_above_56 ?_
          refine lv_lmul hx hb dX2_above_57 ?_
          refine lv_iload_n hx hb dX2_above_58 rfl (lv_at hl 8 rfl) ?_
          refine lv_iconst (v := 1) hx hb dX2_above_59 (by decide) ?_
          refine n_isub (x := q) (y := 1) hx hb dX2_above_60 (by omega) ?_
          refine lv_iload hx hb dX2_above_61 (lv_at hl 10 rfl) ?_
          refine lv_iload hx hb dX2_above_63 (lv_at hl 1 rfl) ?_
          refine n_isub (x := li) (y := ((min sp lf) + sv)) hx hb dX2_above_65 (by omega) ?_
          refine roSl (As := [.int (nI (q - 1)), .int (nI (li - ((min sp lf) + sv)))]) (rest := [.long (((nI q).toInt64) * ((pw (nI q) ((min sp lf) + sv)) - (pw (nI (q - 1)) ((min sp lf) + sv)))), .long v]) ⟨hx, hb, hml, hown, hts⟩ (c_X2_power l D cI cL cZ cO (nI (q - 1)) (li - ((min sp lf) + sv)) (by omega)) (va_cwS 2 hts gX2_above_X2_power rfl rfl rfl (by decide +kernel) ⟨Nat.le_of_ble_eq_true rfl, Nat.le_of_ble_eq_true rfl⟩) hO (fun k q h => by simp at h) rfl hl.1 rfl (Nat.le_of_ble_eq_true rfl) dX2_above_66 ⟨Nat.le_of_ble_eq_true rfl, Nat.le_of_ble_eq_true rfl⟩ (fun r_66 e_66 => ?_)
          obtain rfl : r_66 = pw (nI (q - 1)) (li - ((min sp lf) + sv)) := e_66
          refine lv_lmul hx hb dX2_above_69 ?_
          refine lv_ladd hx hb dX2_above_70 ?_
          refine lv_lstore (lv' := [(5, .long (v + ((((nI q).toInt64) * ((pw (nI q) ((min sp lf) + sv)) - (pw (nI (q - 1)) ((min sp lf) + sv)))) * (pw (nI (q - 1)) (li - ((min sp lf) + sv)))))), (11, .long (pw (nI (q - 1)) ((min sp lf) + sv))), (10, .int (nI ((min sp lf) + sv))), (9, .int (nI (min sp lf))), (8, .int (nI k)), (7, .int (nI lf)), (0, .int (nI w)), (1, .int (nI sv)), (2, .int (nI q)), (3, .int (nI sp)), (4, .int (nI li))]) hx hb dX2_above_71 hl (by decide) rfl (fun ls hl => ?_)
          refine lv_iload hx hb dX2_above_73 (lv_at hl 5 rfl) ?_
          refine lv_iload hx hb dX2_above_75 (lv_at hl 3 rfl) ?_
          refine n_isub (x := lf) (y := (min sp lf)) hx hb dX2_above_77 (by omega) ?_
          refine lv_istore (lv' := [(7, .int (nI (lf - (min sp lf)))), (5, .long (v + ((((nI q).toInt64) * ((pw (nI q) ((min sp lf) + sv)) - (pw (nI (q - 1)) ((min sp lf) + sv)))) * (pw (nI (q - 1)) (li - ((min sp lf) + sv)))))), (11, .long (pw (nI (q - 1)) ((min sp lf) + sv))), (10, .int (nI ((min sp lf) + sv))), (9, .int (nI (min sp lf))), (8, .int (nI k)), (0, .int (nI w)), (1, .int (nI sv)), (2, .int (nI q)), (3, .int (nI sp)), (4, .int (nI li))]) hx hb dX2_above_78 hl (by decide) rfl (fun ls hl => ?_)
          refine lv_iinc (v := (nI (k + 1))) (lv' := [(8, .int (nI (k + 1))), (7, .int (nI (lf - (min sp lf)))), (5, .long (v + ((((nI q).toInt64) * ((pw (nI q) ((min sp lf) + sv)) - (pw (nI (q - 1)) ((min sp lf) + sv)))) * (pw (nI (q - 1)) (li - ((min sp lf) + sv)))))), (11, .long (pw (nI (q - 1)) ((min sp lf) + sv))), (10, .int (nI ((min sp lf) + sv))), (9, .int (nI (min sp lf))), (0, .int (nI w)), (1, .int (nI sv)), (2, .int (nI q)), (3, .int (nI sp)), (4, .int (nI li))]) hx hb dX2_above_80 hl (k := 5) rfl (nI_add k 1) (by decide) rfl (fun ls hl => ?_)
          refine lv_goto (tgt := 9) hx hb dX2_above_83 (by decide) ?_
          exact ih9 (k + 1) (lf - (min sp lf)) (v + ((((nI q).toInt64) * ((pw (nI q) ((min sp lf) + sv)) - (pw (nI (q - 1)) ((min sp lf) + sv)))) * (pw (nI (q - 1)) (li - ((min sp lf) + sv))))) _ (by omega) (by omega) (by omega) (by rw [← hv, show w - k = w - (k + 1) + 1 by omega, abF_s c_17, abF_cut, abF_sum]) (lv_sub hl [0, 1, 2, 6, 7, 8, 9, 10] rfl)
  exact L9 _ 0 w 0 _ (Nat.lt_succ_self _) (Nat.zero_le _) (Nat.le_refl _) rfl (lv_sub hl [0, 1, 2, 3, 4, 5, 6, 7] rfl)
set_option maxHeartbeats 4000000 in
set_option maxRecDepth 100000 in
theorem c_X7_tries (l : Launch) (D : va_G) (cI cL cZ cO : ClassId) (n q al : Nat) (hq : 1 ≤ q) (hn : n ≤ al) (hal : al < 1000) : Met l yX7_tries wsX7_tries ({ frames := 1, cells := 0, slots := 0, locals := 24 } : Room) (va_Pc [.int (nI n), .int (nI q), .int (nI al)] (Ro D cI cL cZ cO ([]))) (vp_Sl (fun r => r = tr1 q n al)) 0 0 (fun _ => False) := by
  refine Met.ofW (cc := cX7_tries) (maxL := 3) (ret := (some .long)) (by decide) rfl ?_
  intro p e s m args below meth c s₁ B hml hv
  obtain ⟨rfl, hP, hO⟩ := hv
  have hx := B.exec
  have hb := B.bytes
  have hr := B.returns
  have hts := atoms_spec (ws := wsX7_tries) B.pre
  have hown : s.vm.findClass RX7 = some m.cls := findClass_of_methodNamed B.named
  have hlocks := B.notSynchronized
  have hK := hO.1
  have hl := lv_entry ([.int (nI n), .int (nI q), .int (nI al)]) (n := 3) (Nat.le_of_ble_eq_true rfl)
  rw [lg_entry_eq]
  generalize (lg_sl ([.int (nI n), .int (nI q), .int (nI al)]) ++ List.replicate (3 - (lg_sl ([.int (nI n), .int (nI q), .int (nI al)])).length) Slot.unset).toArray = ls at hl ⊢
  have hl : lv_has ls 3 [(0, .int (nI n)), (1, .int (nI q)), (2, .int (nI al))] := hl
  generalize hQQ : MQ below _ _ s _ _ _ = QQ
  refine lv_iload_n hx hb dX7_tries_0 rfl (lv_at hl 1 rfl) ?_
  refine lv_i2l (v := (nI q).toInt64) hx hb dX7_tries_1 rfl ?_
  refine lv_iload_n hx hb dX7_tries_2 rfl (lv_at hl 1 rfl) ?_
  refine lv_iload_n hx hb dX7_tries_3 rfl (lv_at hl 0 rfl) ?_
  refine roSl (As := [.int (nI q), .int (nI n)]) (rest := [.long ((nI q).toInt64)]) ⟨hx, hb, hml, hown, hts⟩ (c_X7_power l D cI cL cZ cO (nI q) n (by omega)) (va_cwS 2 hts gX7_tries_X7_power rfl rfl rfl (by decide +kernel) ⟨Nat.le_of_ble_eq_true rfl, Nat.le_of_ble_eq_true rfl⟩) hO (fun k q h => by simp at h) rfl hl.1 rfl (Nat.le_of_ble_eq_true rfl) dX7_tries_4 ⟨Nat.le_of_ble_eq_true rfl, Nat.le_of_ble_eq_true rfl⟩ (fun r_4 e_4 => ?_)
  obtain rfl : r_4 = pw (nI q) n := e_4
  refine lv_iload_n hx hb dX7_tries_7 rfl (lv_at hl 1 rfl) ?_
  refine lv_iconst (v := 1) hx hb dX7_tries_8 (by decide) ?_
  refine n_isub (x := q) (y := 1) hx hb dX7_tries_9 (by omega) ?_
  refine lv_iload_n hx hb dX7_tries_10 rfl (lv_at hl 0 rfl) ?_
  refine roSl (As := [.int (nI (q - 1)), .int (nI n)]) (rest := [.long (pw (nI q) n), .long ((nI q).toInt64)]) ⟨hx, hb, hml, hown, hts⟩ (c_X7_power l D cI cL cZ cO (nI (q - 1)) n (by omega)) (va_cwS 2 hts gX7_tries_X7_power rfl rfl rfl (by decide +kernel) ⟨Nat.le_of_ble_eq_true rfl, Nat.le_of_ble_eq_true rfl⟩) hO (fun k q h => by simp at h) rfl hl.1 rfl (Nat.le_of_ble_eq_true rfl) dX7_tries_11 ⟨Nat.le_of_ble_eq_true rfl, Nat.le_of_ble_eq_true rfl⟩ (fun r_11 e_11 => ?_)
  obtain rfl : r_11 = pw (nI (q - 1)) n := e_11
  refine lv_lsub hx hb dX7_tries_14 ?_
  refine lv_lmul hx hb dX7_tries_15 ?_
  refine lv_iload_n hx hb dX7_tries_16 rfl (lv_at hl 1 rfl) ?_
  refine lv_iconst (v := 1) hx hb dX7_tries_17 (by decide) ?_
  refine n_isub (x := q) (y := 1) hx hb dX7_tries_18 (by omega) ?_
  refine lv_iload_n hx hb dX7_tries_19 rfl (lv_at hl 2 rfl) ?_
  refine lv_iload_n hx hb dX7_tries_20 rfl (lv_at hl 0 rfl) ?_
  refine n_isub (x := al) (y := n) hx hb dX7_tries_21 (by omega) ?_
  refine roSl (As := [.int (nI (q - 1)), .int (nI (al - n))]) (rest := [.long (((nI q).toInt64) * ((pw (nI q) n) - (pw (nI (q - 1)) n)))]) ⟨hx, hb, hml, hown, hts⟩ (c_X7_power l D cI cL cZ cO (nI (q - 1)) (al - n) (by omega)) (va_cwS 2 hts gX7_tries_X7_power rfl rfl rfl (by decide +kernel) ⟨Nat.le_of_ble_eq_true rfl, Nat.le_of_ble_eq_true rfl⟩) hO (fun k q h => by simp at h) rfl hl.1 rfl (Nat.le_of_ble_eq_true rfl) dX7_tries_22 ⟨Nat.le_of_ble_eq_true rfl, Nat.le_of_ble_eq_true rfl⟩ (fun r_22 e_22 => ?_)
  obtain rfl : r_22 = pw (nI (q - 1)) (al - n) := e_22
  refine lv_lmul hx hb dX7_tries_25 ?_
  rw [← hQQ]
  exact W.lret (v := ((((nI q).toInt64) * ((pw (nI q) n) - (pw (nI (q - 1)) n))) * (pw (nI (q - 1)) (al - n)))) hx hb hr (fun t9 ht9 hW9 => ⟨_, rfl, rfl, ht9⟩) (fun q h => by cases h) dX7_tries_26
set_option maxHeartbeats 4000000 in
set_option maxRecDepth 100000 in
theorem c_X7_pieces (l : Launch) (D : va_G) (cI cL cZ cO : ClassId) (w sv q sp : Nat) (hw : w ≤ 10) (hsv : sv ≤ 2) (hq : 2 ≤ q ∧ q ≤ 10) (hsp : 1 ≤ sp ∧ sp ≤ w) : Met l yX7_pieces wsX7_pieces ({ frames := 2, cells := 0, slots := 0, locals := 46 } : Room) (va_Pc [.int (nI w), .int (nI sv), .int (nI q), .int (nI sp)] (Ro D cI cL cZ cO ([]))) (vp_Sl (fun r => r = abF sv q sp (w + sv) w w 0)) 0 0 (fun _ => False) := by
  refine Met.ofW (cc := cX7_pieces) (maxL := 8) (ret := (some .long)) (by decide) rfl ?_
  intro p e s m args below meth c s₁ B hml hv
  obtain ⟨rfl, hP, hO⟩ := hv
  have hx := B.exec
  have hb := B.bytes
  have hr := B.returns
  have hts := atoms_spec (ws := wsX7_pieces) B.pre
  have hown : s.vm.findClass RX7 = some m.cls := findClass_of_methodNamed B.named
  have hlocks := B.notSynchronized
  have hK := hO.1
  have hl := lv_entry ([.int (nI w), .int (nI sv), .int (nI q), .int (nI sp)]) (n := 8) (Nat.le_of_ble_eq_true rfl)
  rw [lg_entry_eq]
  generalize (lg_sl ([.int (nI w), .int (nI sv), .int (nI q), .int (nI sp)]) ++ List.replicate (8 - (lg_sl ([.int (nI w), .int (nI sv), .int (nI q), .int (nI sp)])).length) Slot.unset).toArray = ls at hl ⊢
  have hl : lv_has ls 8 [(0, .int (nI w)), (1, .int (nI sv)), (2, .int (nI q)), (3, .int (nI sp))] := hl
  generalize hQQ : MQ below _ _ s _ _ _ = QQ
  refine lv_iload_n hx hb dX7_pieces_0 rfl (lv_at hl 0 rfl) ?_
  refine lv_iload_n hx hb dX7_pieces_1 rfl (lv_at hl 1 rfl) ?_
  refine n_iadd (x := w) (y := sv) hx hb dX7_pieces_2 ?_
  refine lv_istore (lv' := [(4, .int (nI (w + sv))), (0, .int (nI w)), (1, .int (nI sv)), (2, .int (nI q)), (3, .int (nI sp))]) hx hb dX7_pieces_3 hl (by decide) rfl (fun ls hl => ?_)
  refine lv_lconst (v := 0) hx hb dX7_pieces_5 (by decide) ?_
  refine lv_lstore (lv' := [(5, .long 0), (4, .int (nI (w + sv))), (0, .int (nI w)), (1, .int (nI sv)), (2, .int (nI q)), (3, .int (nI sp))]) hx hb dX7_pieces_6 hl (by decide) rfl (fun ls hl => ?_)
  refine lv_iload_n hx hb dX7_pieces_8 rfl (lv_at hl 2 rfl) ?_
  refine lv_istore (lv' := [(7, .int (nI w)), (5, .long 0), (4, .int (nI (w + sv))), (0, .int (nI w)), (1, .int (nI sv)), (2, .int (nI q)), (3, .int (nI sp))]) hx hb dX7_pieces_9 hl (by decide) rfl (fun ls hl => ?_)
  have L11 : ∀ (n0 : Nat) (x : Int32) (k : Nat) (v : Int64) (ls : Array Slot), k < n0 → (∃ lf : Nat, lf ≤ w ∧ lf ≤ k ∧ ((x = nI lf) ∨ (lf = 0 ∧ x ≤ 0)) ∧ abF sv q sp (w + sv) k lf v = abF sv q sp (w + sv) w w 0) → lv_has ls 8 [(7, .int x), (5, .long v), (4, .int (nI (w + sv))), (0, .int (nI w)), (1, .int (nI sv)), (2, .int (nI q)), (3, .int (nI sp))] → W p l e (headSpec wsX7_pieces ({ frames := 2, cells := 0, slots := 0, locals := 46 } : Room)).room s m ([.int (nI w), .int (nI sv), .int (nI q), .int (nI sp)] : List Value).toArray below meth c s.heap [] 0 0 QQ (F0 m 11 ls []) := by
    intro n0
    induction n0 with
    | zero =>
      intro x k v ls hmu
      exact absurd hmu (Nat.not_lt_zero _)
    | succ n0 ih11 =>
      intro x k v ls hmu hx7 hl
      refine lv_iload hx hb dX7_pieces_11 (lv_at hl 0 rfl) ?_
      refine lv_if_le (tgt := 50) hx hb dX7_pieces_13 (by decide) (fun c_13 => ?_) (fun c_13 => ?_)
      · skip
        refine lv_lload hx hb dX7_pieces_50 (lv_at hl 1 rfl) ?_
        rw [← hQQ]
        exact W.lret (v := v) hx hb hr (fun t9 ht9 hW9 => ⟨_, rfl, (by obtain ⟨lf, h1, h2, h3, h4⟩ := hx7; rw [← h4, abF_0]; right; rcases h3 with rfl | ⟨rfl, -⟩; (have := (nI_leI (a := lf) (b := 0) (by omega) (by decide)).mp c_13; omega); rfl), ht9⟩) (fun q h => by cases h) dX7_pieces_52
      · skip
        obtain ⟨lf, h1, h2, h3, h4⟩ := hx7
        have h5 : x = nI lf := by rcases h3 with h | ⟨-, h⟩; exact h; exact absurd h c_13
        subst h5
        have hlf : 0 < lf := Nat.pos_of_ne_zero (fun z => c_13 (by rw [z]; decide))
        refine lv_lload hx hb dX7_pieces_16 (lv_at hl 1 rfl) ?_
        refine lv_iload hx hb dX7_pieces_18 (lv_at hl 0 rfl) ?_
        refine lv_iload_n hx hb dX7_pieces_20 rfl (lv_at hl 6 rfl) ?_
        refine n_icmp_ge (x := lf) (y := sp) (tgt := 29) hx hb dX7_pieces_21 (by decide) (by omega) (by omega) (fun c_21 => ?_) (fun c_21 => ?_)
        · skip
          refine lv_iload_n hx hb dX7_pieces_29 rfl (lv_at hl 6 rfl) ?_
          refine lv_iload_n hx hb dX7_pieces_30 rfl (lv_at hl 4 rfl) ?_
          refine n_iadd (x := sp) (y := sv) hx hb dX7_pieces_31 ?_
          refine lv_iload_n hx hb dX7_pieces_32 rfl (lv_at hl 5 rfl) ?_
          refine lv_iload hx hb dX7_pieces_33 (lv_at hl 2 rfl) ?_
          refine roSl (As := [.int (nI (sp + sv)), .int (nI q), .int (nI (w + sv))]) (rest := [.long v]) ⟨hx, hb, hml, hown, hts⟩ (c_X7_tries l D cI cL cZ cO (sp + sv) q (w + sv) (by omega) (by omega) (by omega)) (va_cwS 3 hts gX7_pieces_X7_tries rfl rfl rfl (by decide +kernel) ⟨Nat.le_of_ble_eq_true rfl, Nat.le_of_ble_eq_true rfl⟩) hO (fun k q h => by simp at h) rfl hl.1 rfl (Nat.le_of_ble_eq_true rfl) dX7_pieces_35 ⟨Nat.le_of_ble_eq_true rfl, Nat.le_of_ble_eq_true rfl⟩ (fun r_35 e_35 => ?_)
          obtain rfl : r_35 = tr1 q (sp + sv) (w + sv) := e_35
          refine lv_ladd hx hb dX7_pieces_38 ?_
          refine lv_lstore (lv' := [(5, .long (v + (tr1 q (sp + sv) (w + sv)))), (7, .int (nI lf)), (4, .int (nI (w + sv))), (0, .int (nI w)), (1, .int (nI sv)), (2, .int (nI q)), (3, .int (nI sp))]) hx hb dX7_pieces_39 hl (by decide) rfl (fun ls hl => ?_)
          refine lv_iload hx hb dX7_pieces_41 (lv_at hl 1 rfl) ?_
          refine lv_iload_n hx hb dX7_pieces_43 rfl (lv_at hl 6 rfl) ?_
          refine lv_isub hx hb dX7_pieces_44 ?_
          refine lv_istore (lv' := [(7, .int ((nI lf) - (nI sp))), (5, .long (v + (tr1 q (sp + sv) (w + sv)))), (4, .int (nI (w + sv))), (0, .int (nI w)), (1, .int (nI sv)), (2, .int (nI q)), (3, .int (nI sp))]) hx hb dX7_pieces_45 hl (by decide) rfl (fun ls hl => ?_)
          refine lv_goto (tgt := 11) hx hb dX7_pieces_47 (by decide) ?_
          exact ih11 ((nI lf) - (nI sp)) (k - 1) (v + (tr1 q (sp + sv) (w + sv))) _ (by omega) ⟨lf - sp, by omega, by omega, (by rcases Nat.lt_or_ge lf sp with h | h; exact Or.inr ⟨by omega, Int32.le_iff_toInt_le.mpr (by rw [pk_sub_toInt (by omega) (by omega)]; show _ ≤ (0 : Int); omega)⟩; exact Or.inl (pk_sub h)), (by rw [← h4, show k = k - 1 + 1 by omega, abF_s hlf, Nat.add_sub_cancel, show min sp lf = sp by omega])⟩ (lv_sub hl [0, 1, 2, 3, 4, 5, 6] rfl)
        · skip
          refine lv_iload hx hb dX7_pieces_24 (lv_at hl 0 rfl) ?_
          refine lv_goto (tgt := 30) hx hb dX7_pieces_26 (by decide) ?_
          refine lv_iload_n hx hb dX7_pieces_30 rfl (lv_at hl 4 rfl) ?_
          refine n_iadd (x := lf) (y := sv) hx hb dX7_pieces_31 ?_
          refine lv_iload_n hx hb dX7_pieces_32 rfl (lv_at hl 5 rfl) ?_
          refine lv_iload hx hb dX7_pieces_33 (lv_at hl 2 rfl) ?_
          refine roSl (As := [.int (nI (lf + sv)), .int (nI q), .int (nI (w + sv))]) (rest := [.long v]) ⟨hx, hb, hml, hown, hts⟩ (c_X7_tries l D cI cL cZ cO (lf + sv) q (w + sv) (by omega) (by omega) (by omega)) (va_cwS 3 hts gX7_pieces_X7_tries rfl rfl rfl (by decide +kernel) ⟨Nat.le_of_ble_eq_true rfl, Nat.le_of_ble_eq_true rfl⟩) hO (fun k q h => by simp at h) rfl hl.1 rfl (Nat.le_of_ble_eq_true rfl) dX7_pieces_35 ⟨Nat.le_of_ble_eq_true rfl, Nat.le_of_ble_eq_true rfl⟩ (fun r_35 e_35 => ?_)
          obtain rfl : r_35 = tr1 q (lf + sv) (w + sv) := e_35
          refine lv_ladd hx hb dX7_pieces_38 ?_
          refine lv_lstore (lv' := [(5, .long (v + (tr1 q (lf + sv) (w + sv)))), (7, .int (nI lf)), (4, .int (nI (w + sv))), (0, .int (nI w)), (1, .int (nI sv)), (2, .int (nI q)), (3, .int (nI sp))]) hx hb dX7_pieces_39 hl (by decide) rfl (fun ls hl => ?_)
          refine lv_iload hx hb dX7_pieces_41 (lv_at hl 1 rfl) ?_
          refine lv_iload_n hx hb dX7_pieces_43 rfl (lv_at hl 6 rfl) ?_
          refine lv_isub hx hb dX7_pieces_44 ?_
          refine lv_istore (lv' := [(7, .int ((nI lf) - (nI sp))), (5, .long (v + (tr1 q (lf + sv) (w + sv)))), (4, .int (nI (w + sv))), (0, .int (nI w)), (1, .int (nI sv)), (2, .int (nI q)), (3, .int (nI sp))]) hx hb dX7_pieces_45 hl (by decide) rfl (fun ls hl => ?_)
          refine lv_goto (tgt := 11) hx hb dX7_pieces_47 (by decide) ?_
          exact ih11 ((nI lf) - (nI sp)) (k - 1) (v + (tr1 q (lf + sv) (w + sv))) _ (by omega) ⟨lf - sp, by omega, by omega, (by rcases Nat.lt_or_ge lf sp with h | h; exact Or.inr ⟨by omega, Int32.le_iff_toInt_le.mpr (by rw [pk_sub_toInt (by omega) (by omega)]; show _ ≤ (0 : Int); omega)⟩; exact Or.inl (pk_sub h)), (by rw [← h4, show k = k - 1 + 1 by omega, abF_s hlf, Nat.add_sub_cancel, show min sp lf = lf by omega])⟩ (lv_sub hl [0, 1, 2, 3, 4, 5, 6] rfl)
  exact L11 _ (nI w) w 0 _ (Nat.lt_succ_self _) ⟨w, Nat.le_refl _, Nat.le_refl _, Or.inl rfl, rfl⟩ (lv_sub hl [0, 1, 2, 3, 4, 5, 6] rfl)
set_option maxHeartbeats 4000000 in
set_option maxRecDepth 100000 in
theorem c_X2_bestSpan (l : Launch) (D : va_G) (cI cL cZ cO : ClassId) (w sv q : Nat) (hw : 1 ≤ w ∧ w ≤ 10) (hsv : sv ≤ 2) (hq : 2 ≤ q ∧ q ≤ 10) : Met l yX2_bestSpan wsX2_bestSpan ({ frames := 2, cells := 0, slots := 0, locals := 56 } : Room) (va_Pc [.int (nI w), .int (nI sv), .int (nI q)] (Ro D cI cL cZ cO ([]))) (vp_Si (fun r => r = nI (bsp (spanF sv q w) (w - 1) 2 1))) 0 0 (fun _ => False) := by
  refine Met.ofW (cc := cX2_bestSpan) (maxL := 9) (ret := (some .int)) (by decide) rfl ?_
  intro p e s m args below meth c s₁ B hml hv
  obtain ⟨rfl, hP, hO⟩ := hv
  have hx := B.exec
  have hb := B.bytes
  have hr := B.returns
  have hts := atoms_spec (ws := wsX2_bestSpan) B.pre
  have hown : s.vm.findClass RX2 = some m.cls := findClass_of_methodNamed B.named
  have hlocks := B.notSynchronized
  have hK := hO.1
  have hl := lv_entry ([.int (nI w), .int (nI sv), .int (nI q)]) (n := 9) (Nat.le_of_ble_eq_true rfl)
  rw [lg_entry_eq]
  generalize (lg_sl ([.int (nI w), .int (nI sv), .int (nI q)]) ++ List.replicate (9 - (lg_sl ([.int (nI w), .int (nI sv), .int (nI q)])).length) Slot.unset).toArray = ls at hl ⊢
  have hl : lv_has ls 9 [(0, .int (nI w)), (1, .int (nI sv)), (2, .int (nI q))] := hl
  generalize hQQ : MQ below _ _ s _ _ _ = QQ
  refine lv_iconst (v := 1) hx hb dX2_bestSpan_0 (by decide) ?_
  refine lv_istore_n (lv' := [(3, .int 1), (0, .int (nI w)), (1, .int (nI sv)), (2, .int (nI q))]) hx hb dX2_bestSpan_1 rfl hl (by decide) rfl (fun ls hl => ?_)
  refine lv_iload_n hx hb dX2_bestSpan_2 rfl (lv_at hl 1 rfl) ?_
  refine lv_iload_n hx hb dX2_bestSpan_3 rfl (lv_at hl 2 rfl) ?_
  refine lv_iload_n hx hb dX2_bestSpan_4 rfl (lv_at hl 3 rfl) ?_
  refine lv_iconst (v := 1) hx hb dX2_bestSpan_5 (by decide) ?_
  refine lv_iload_n hx hb dX2_bestSpan_6 rfl (lv_at hl 1 rfl) ?_
  refine lv_iload_n hx hb dX2_bestSpan_7 rfl (lv_at hl 2 rfl) ?_
  refine n_iadd (x := w) (y := sv) hx hb dX2_bestSpan_8 ?_
  refine roSl (As := [.int (nI w), .int (nI sv), .int (nI q), .int 1, .int (nI (w + sv))]) (rest := []) ⟨hx, hb, hml, hown, hts⟩ (c_X2_above l D cI cL cZ cO w sv q 1 (w + sv) (by omega) (by omega) (by omega) (by omega) (by omega)) (va_cwS 5 hts gX2_bestSpan_X2_above rfl rfl rfl (by decide +kernel) ⟨Nat.le_of_ble_eq_true rfl, Nat.le_of_ble_eq_true rfl⟩) hO (fun k q h => by simp at h) rfl hl.1 rfl (Nat.le_of_ble_eq_true rfl) dX2_bestSpan_9 ⟨Nat.le_of_ble_eq_true rfl, Nat.le_of_ble_eq_true rfl⟩ (fun r_9 e_9 => ?_)
  obtain rfl : r_9 = abF sv q 1 (w + sv) w w 0 := e_9
  refine lv_lstore (lv' := [(4, .long (abF sv q 1 (w + sv) w w 0)), (3, .int 1), (0, .int (nI w)), (1, .int (nI sv)), (2, .int (nI q))]) hx hb dX2_bestSpan_12 hl (by decide) rfl (fun ls hl => ?_)
  refine lv_iconst (v := 2) hx hb dX2_bestSpan_14 (by decide) ?_
  refine lv_istore (lv' := [(6, .int 2), (4, .long (abF sv q 1 (w + sv) w w 0)), (3, .int 1), (0, .int (nI w)), (1, .int (nI sv)), (2, .int (nI q))]) hx hb dX2_bestSpan_15 hl (by decide) rfl (fun ls hl => ?_)
  have L17 : ∀ (n0 : Nat) (b : Nat) (k : Nat) (v : Int64) (ls : Array Slot), w + 1 - k < n0 → (2 ≤ k ∧ k ≤ w + 1) → (1 ≤ b ∧ b ≤ w) → (v = spanF sv q w b) → (bsp (spanF sv q w) (w + 1 - k) k b = bsp (spanF sv q w) (w - 1) 2 1) → lv_has ls 9 [(3, .int (nI b)), (6, .int (nI k)), (4, .long v), (0, .int (nI w)), (1, .int (nI sv)), (2, .int (nI q))] → W p l e (headSpec wsX2_bestSpan ({ frames := 2, cells := 0, slots := 0, locals := 56 } : Room)).room s m ([.int (nI w), .int (nI sv), .int (nI q)] : List Value).toArray below meth c s.heap [] 0 0 QQ (F0 m 17 ls []) := by
    intro n0
    induction n0 with
    | zero =>
      intro b k v ls hmu
      exact absurd hmu (Nat.not_lt_zero _)
    | succ n0 ih17 =>
      intro b k v ls hmu hk hb9 hv he hl
      refine lv_iload hx hb dX2_bestSpan_17 (lv_at hl 1 rfl) ?_
      refine lv_iload_n hx hb dX2_bestSpan_19 rfl (lv_at hl 3 rfl) ?_
      refine n_icmp_gt (x := k) (y := w) (tgt := 57) hx hb dX2_bestSpan_20 (by decide) (by omega) (by omega) (fun c_20 => ?_) (fun c_20 => ?_)
      · skip
        refine lv_iload_n hx hb dX2_bestSpan_57 rfl (lv_at hl 0 rfl) ?_
        rw [← hQQ]
        exact W.iret (v := (nI b)) hx hb hr (fun t9 ht9 hW9 => ⟨_, rfl, (by rw [← he, show w + 1 - k = 0 by omega]; rfl), ht9⟩) (fun q h => by cases h) dX2_bestSpan_58
      · skip
        refine lv_iload_n hx hb dX2_bestSpan_23 rfl (lv_at hl 3 rfl) ?_
        refine lv_iload_n hx hb dX2_bestSpan_24 rfl (lv_at hl 4 rfl) ?_
        refine lv_iload_n hx hb dX2_bestSpan_25 rfl (lv_at hl 5 rfl) ?_
        refine lv_iload hx hb dX2_bestSpan_26 (lv_at hl 1 rfl) ?_
        refine lv_iload_n hx hb dX2_bestSpan_28 rfl (lv_at hl 3 rfl) ?_
        refine lv_iload_n hx hb dX2_bestSpan_29 rfl (lv_at hl 4 rfl) ?_
        refine n_iadd (x := w) (y := sv) hx hb dX2_bestSpan_30 ?_
        refine roSl (As := [.int (nI w), .int (nI sv), .int (nI q), .int (nI k), .int (nI (w + sv))]) (rest := []) ⟨hx, hb, hml, hown, hts⟩ (c_X2_above l D cI cL cZ cO w sv q k (w + sv) (by omega) (by omega) (by omega) (by omega) (by omega)) (va_cwS 5 hts gX2_bestSpan_X2_above rfl rfl rfl (by decide +kernel) ⟨Nat.le_of_ble_eq_true rfl, Nat.le_of_ble_eq_true rfl⟩) hO (fun k q h => by simp at h) rfl hl.1 rfl (Nat.le_of_ble_eq_true rfl) dX2_bestSpan_31 ⟨Nat.le_of_ble_eq_true rfl, Nat.le_of_ble_eq_true rfl⟩ (fun r_31 e_31 => ?_)
        obtain rfl : r_31 = abF sv q k (w + sv) w w 0 := e_31
        refine lv_lstore (lv' := [(7, .long (abF sv q k (w + sv) w w 0)), (3, .int (nI b)), (6, .int (nI k)), (4, .long v), (0, .int (nI w)), (1, .int (nI sv)), (2, .int (nI q))]) hx hb dX2_bestSpan_34 hl (by decide) rfl (fun ls hl => ?_)
        refine lv_lload hx hb dX2_bestSpan_36 (lv_at hl 0 rfl) ?_
        refine lv_lload hx hb dX2_bestSpan_38 (lv_at hl 3 rfl) ?_
        refine W.lcmp hx hb dX2_bestSpan_40 ?_
        refine lv_if_ge (tgt := 51) hx hb dX2_bestSpan_41 (by decide) (fun c_41 => ?_) (fun c_41 => ?_)
        · skip
          refine lv_iinc (v := (nI (k + 1))) (lv' := [(6, .int (nI (k + 1))), (7, .long (abF sv q k (w + sv) w w 0)), (3, .int (nI b)), (4, .long v), (0, .int (nI w)), (1, .int (nI sv)), (2, .int (nI q))]) hx hb dX2_bestSpan_51 hl (k := 2) rfl (nI_add k 1) (by decide) rfl (fun ls hl => ?_)
          refine lv_goto (tgt := 17) hx hb dX2_bestSpan_54 (by decide) ?_
          exact ih17 b (k + 1) v _ (by omega) (by omega) (by omega) hv (by rw [← he, show w + 1 - k = w + 1 - (k + 1) + 1 by omega, bsp_t (f := spanF sv q w) (hv ▸ lgc_ge.mp c_41)]) (lv_sub hl [2, 0, 3, 4, 5, 6] rfl)
        · skip
          refine lv_lload hx hb dX2_bestSpan_44 (lv_at hl 0 rfl) ?_
          refine lv_lstore (lv' := [(4, .long (abF sv q k (w + sv) w w 0)), (7, .long (abF sv q k (w + sv) w w 0)), (3, .int (nI b)), (6, .int (nI k)), (0, .int (nI w)), (1, .int (nI sv)), (2, .int (nI q))]) hx hb dX2_bestSpan_46 hl (by decide) rfl (fun ls hl => ?_)
          refine lv_iload hx hb dX2_bestSpan_48 (lv_at hl 3 rfl) ?_
          refine lv_istore_n (lv' := [(3, .int (nI k)), (4, .long (abF sv q k (w + sv) w w 0)), (7, .long (abF sv q k (w + sv) w w 0)), (6, .int (nI k)), (0, .int (nI w)), (1, .int (nI sv)), (2, .int (nI q))]) hx hb dX2_bestSpan_50 rfl hl (by decide) rfl (fun ls hl => ?_)
          refine lv_iinc (v := (nI (k + 1))) (lv' := [(6, .int (nI (k + 1))), (3, .int (nI k)), (4, .long (abF sv q k (w + sv) w w 0)), (7, .long (abF sv q k (w + sv) w w 0)), (0, .int (nI w)), (1, .int (nI sv)), (2, .int (nI q))]) hx hb dX2_bestSpan_51 hl (k := 3) rfl (nI_add k 1) (by decide) rfl (fun ls hl => ?_)
          refine lv_goto (tgt := 17) hx hb dX2_bestSpan_54 (by decide) ?_
          exact ih17 k (k + 1) (abF sv q k (w + sv) w w 0) _ (by omega) (by omega) (by omega) rfl (by rw [← he, show w + 1 - k = w + 1 - (k + 1) + 1 by omega, bsp_f (f := spanF sv q w) (fun q9 => c_41 (lgc_ge.mpr (hv ▸ q9)))]) (lv_sub hl [1, 0, 2, 4, 5, 6] rfl)
  exact L17 _ 1 2 (abF sv q 1 (w + sv) w w 0) _ (Nat.lt_succ_self _) (by omega) (by omega) rfl (by rw [show w + 1 - 2 = w - 1 by omega]) (lv_sub hl [2, 0, 1, 3, 4, 5] rfl)
set_option maxHeartbeats 4000000 in
set_option maxRecDepth 100000 in
theorem c_X7_span (l : Launch) (D : va_G) (cI cL cZ cO : ClassId) (a : Nat) (x y z : Int32) : Met l yX7_span wsX7_span ({ frames := 3, cells := 0, slots := 0, locals := 73 } : Room) (va_Pc [.ref a, .int x, .int y, .int z] (Ro D cI cL cZ cO ([]))) (vp_Si (fun r => r = spanV x y z)) 0 0 (fun _ => False) := by
  refine Met.ofW (cc := cX7_span) (maxL := 6) (ret := (some .int)) (by decide) rfl ?_
  intro p e s m args below meth c s₁ B hml hv
  obtain ⟨rfl, hP, hO⟩ := hv
  have hx := B.exec
  have hb := B.bytes
  have hr := B.returns
  have hts := atoms_spec (ws := wsX7_span) B.pre
  have hown : s.vm.findClass RX7 = some m.cls := findClass_of_methodNamed B.named
  have hlocks := B.notSynchronized
  have hK := hO.1
  have hl := lv_entry ([.ref a, .int x, .int y, .int z]) (n := 6) (Nat.le_of_ble_eq_true rfl)
  rw [lg_entry_eq]
  generalize (lg_sl ([.ref a, .int x, .int y, .int z]) ++ List.replicate (6 - (lg_sl ([.ref a, .int x, .int y, .int z])).length) Slot.unset).toArray = ls at hl ⊢
  have hl : lv_has ls 6 [(0, .ref a), (1, .int x), (2, .int y), (3, .int z)] := hl
  generalize hQQ : MQ below _ _ s _ _ _ = QQ
  refine lv_iload_n hx hb dX7_span_0 rfl (lv_at hl 1 rfl) ?_
  refine lv_iload_n hx hb dX7_span_1 rfl (lv_at hl 2 rfl) ?_
  refine lv_iload_n hx hb dX7_span_2 rfl (lv_at hl 3 rfl) ?_
  refine roSi (As := [.int x, .int y, .int z]) (rest := []) ⟨hx, hb, hml, hown, hts⟩ (c_X7_isTry l D cI cL cZ cO x y z ) (va_cwS 3 hts gX7_span_X7_isTry rfl rfl rfl (by decide +kernel) ⟨Nat.le_of_ble_eq_true rfl, Nat.le_of_ble_eq_true rfl⟩) hO (fun k q h => by simp at h) rfl hl.1 rfl (Nat.le_of_ble_eq_true rfl) dX7_span_3 ⟨Nat.le_of_ble_eq_true rfl, Nat.le_of_ble_eq_true rfl⟩ (fun r_3 e_3 => ?_)
  obtain rfl : r_3 = tryOk x y z := e_3
  refine lv_if_ne (tgt := 11) hx hb dX7_span_6 (by decide) (fun c_6 => ?_) (fun c_6 => ?_)
  · skip
    obtain ⟨w, sv, q, hw, hsv, hq, rfl, rfl, rfl⟩ := tryOk_nat c_6
    refine lv_iconst (v := 1) hx hb dX7_span_11 (by decide) ?_
    refine lv_istore (lv' := [(4, .int 1), (0, .ref a), (1, .int (nI w)), (2, .int (nI sv)), (3, .int (nI q))]) hx hb dX7_span_12 hl (by decide) rfl (fun ls hl => ?_)
    refine lv_iconst (v := 2) hx hb dX7_span_14 (by decide) ?_
    refine lv_istore (lv' := [(5, .int 2), (4, .int 1), (0, .ref a), (1, .int (nI w)), (2, .int (nI sv)), (3, .int (nI q))]) hx hb dX7_span_15 hl (by decide) rfl (fun ls hl => ?_)
    have L17 : ∀ (n0 : Nat) (b : Nat) (k : Nat) (ls : Array Slot), w + 1 - k < n0 → (2 ≤ k ∧ k ≤ w + 1) → (1 ≤ b ∧ b ≤ w) → (bsp (spanF sv q w) (w + 1 - k) k b = bsp (spanF sv q w) (w - 1) 2 1) → lv_has ls 6 [(4, .int (nI b)), (5, .int (nI k)), (0, .ref a), (1, .int (nI w)), (2, .int (nI sv)), (3, .int (nI q))] → W p l e (headSpec wsX7_span ({ frames := 3, cells := 0, slots := 0, locals := 73 } : Room)).room s m ([.ref a, .int (nI w), .int (nI sv), .int (nI q)] : List Value).toArray below meth c s.heap [] 0 0 QQ (F0 m 17 ls []) := by
      intro n0
      induction n0 with
      | zero =>
        intro b k ls hmu
        exact absurd hmu (Nat.not_lt_zero _)
      | succ n0 ih17 =>
        intro b k ls hmu hk hb9 he hl
        refine lv_iload hx hb dX7_span_17 (lv_at hl 1 rfl) ?_
        refine lv_iload_n hx hb dX7_span_19 rfl (lv_at hl 3 rfl) ?_
        refine n_icmp_gt (x := k) (y := w) (tgt := 53) hx hb dX7_span_20 (by decide) (by omega) (by omega) (fun c_20 => ?_) (fun c_20 => ?_)
        · skip
          refine lv_iload hx hb dX7_span_53 (lv_at hl 0 rfl) ?_
          rw [← hQQ]
          exact W.iret (v := (nI b)) hx hb hr (fun t9 ht9 hW9 => ⟨_, rfl, (by rw [spanV, if_neg c_6, nI_cl (by omega), nI_cl (by omega), nI_cl (by omega), ← he, show w + 1 - k = 0 by omega]; rfl), ht9⟩) (fun q h => by cases h) dX7_span_55
        · skip
          refine lv_iload_n hx hb dX7_span_23 rfl (lv_at hl 3 rfl) ?_
          refine lv_iload_n hx hb dX7_span_24 rfl (lv_at hl 4 rfl) ?_
          refine lv_iload_n hx hb dX7_span_25 rfl (lv_at hl 5 rfl) ?_
          refine lv_iload hx hb dX7_span_26 (lv_at hl 1 rfl) ?_
          refine roSl (As := [.int (nI w), .int (nI sv), .int (nI q), .int (nI k)]) (rest := []) ⟨hx, hb, hml, hown, hts⟩ (c_X7_pieces l D cI cL cZ cO w sv q k (by omega) (by omega) (by omega) (by omega)) (va_cwS 4 hts gX7_span_X7_pieces rfl rfl rfl (by decide +kernel) ⟨Nat.le_of_ble_eq_true rfl, Nat.le_of_ble_eq_true rfl⟩) hO (fun k q h => by simp at h) rfl hl.1 rfl (Nat.le_of_ble_eq_true rfl) dX7_span_28 ⟨Nat.le_of_ble_eq_true rfl, Nat.le_of_ble_eq_true rfl⟩ (fun r_28 e_28 => ?_)
          obtain rfl : r_28 = abF sv q k (w + sv) w w 0 := e_28
          refine lv_iload_n hx hb dX7_span_31 rfl (lv_at hl 3 rfl) ?_
          refine lv_iload_n hx hb dX7_span_32 rfl (lv_at hl 4 rfl) ?_
          refine lv_iload_n hx hb dX7_span_33 rfl (lv_at hl 5 rfl) ?_
          refine lv_iload hx hb dX7_span_34 (lv_at hl 0 rfl) ?_
          refine roSl (As := [.int (nI w), .int (nI sv), .int (nI q), .int (nI b)]) (rest := [.long (abF sv q k (w + sv) w w 0)]) ⟨hx, hb, hml, hown, hts⟩ (c_X7_pieces l D cI cL cZ cO w sv q b (by omega) (by omega) (by omega) (by omega)) (va_cwS 4 hts gX7_span_X7_pieces rfl rfl rfl (by decide +kernel) ⟨Nat.le_of_ble_eq_true rfl, Nat.le_of_ble_eq_true rfl⟩) hO (fun k q h => by simp at h) rfl hl.1 rfl (Nat.le_of_ble_eq_true rfl) dX7_span_36 ⟨Nat.le_of_ble_eq_true rfl, Nat.le_of_ble_eq_true rfl⟩ (fun r_36 e_36 => ?_)
          obtain rfl : r_36 = abF sv q b (w + sv) w w 0 := e_36
          refine W.lcmp hx hb dX7_span_39 ?_
          refine lv_if_ge (tgt := 47) hx hb dX7_span_40 (by decide) (fun c_40 => ?_) (fun c_40 => ?_)
          · skip
            refine lv_iinc (v := (nI (k + 1))) (lv' := [(5, .int (nI (k + 1))), (4, .int (nI b)), (0, .ref a), (1, .int (nI w)), (2, .int (nI sv)), (3, .int (nI q))]) hx hb dX7_span_47 hl (k := 1) rfl (nI_add k 1) (by decide) rfl (fun ls hl => ?_)
            refine lv_goto (tgt := 17) hx hb dX7_span_50 (by decide) ?_
            exact ih17 b (k + 1) _ (by omega) (by omega) (by omega) (by rw [← he, show w + 1 - k = w + 1 - (k + 1) + 1 by omega, bsp_t (f := spanF sv q w) (lgc_ge.mp c_40)]) (lv_sub hl [1, 0, 2, 3, 4, 5] rfl)
          · skip
            refine lv_iload hx hb dX7_span_43 (lv_at hl 1 rfl) ?_
            refine lv_istore (lv' := [(4, .int (nI k)), (5, .int (nI k)), (0, .ref a), (1, .int (nI w)), (2, .int (nI sv)), (3, .int (nI q))]) hx hb dX7_span_45 hl (by decide) rfl (fun ls hl => ?_)
            refine lv_iinc (v := (nI (k + 1))) (lv' := [(5, .int (nI (k + 1))), (4, .int (nI k)), (0, .ref a), (1, .int (nI w)), (2, .int (nI sv)), (3, .int (nI q))]) hx hb dX7_span_47 hl (k := 1) rfl (nI_add k 1) (by decide) rfl (fun ls hl => ?_)
            refine lv_goto (tgt := 17) hx hb dX7_span_50 (by decide) ?_
            exact ih17 k (k + 1) _ (by omega) (by omega) (by omega) (by rw [← he, show w + 1 - k = w + 1 - (k + 1) + 1 by omega, bsp_f (f := spanF sv q w) (fun q9 => c_40 (lgc_ge.mpr q9))]) (lv_sub hl [1, 0, 2, 3, 4, 5] rfl)
    exact L17 _ 1 2 _ (Nat.lt_succ_self _) (by omega) (by omega) (by rw [show w + 1 - 2 = w - 1 by omega]) (lv_sub hl [1, 0, 2, 3, 4, 5] rfl)
  · skip
    refine lv_iconst (v := (-1)) hx hb dX7_span_9 (by decide) ?_
    rw [← hQQ]
    exact W.iret (v := (-1)) hx hb hr (fun t9 ht9 hW9 => ⟨_, rfl, (if_pos c_6).symm, ht9⟩) (fun q h => by cases h) dX7_span_10
set_option maxHeartbeats 4000000 in
set_option maxRecDepth 100000 in
theorem c_X6_span (l : Launch) (D : va_G) (cI cL cZ cO : ClassId) (o : Nat) (x y z : Int32) : Met l yX6_span wsX6_span ({ frames := 3, cells := 0, slots := 0, locals := 84 } : Room) (va_Pc [.ref o, .int x, .int y, .int z] (Ro D cI cL cZ cO ([]))) (vp_Si (fun r => r = spanV x y z)) 0 0 (fun _ => False) := by
  refine Met.ofW (cc := cX6_span) (maxL := 4) (ret := (some .int)) (by decide) rfl ?_
  intro p e s m args below meth c s₁ B hml hv
  obtain ⟨rfl, hP, hO⟩ := hv
  have hx := B.exec
  have hb := B.bytes
  have hr := B.returns
  have hts := atoms_spec (ws := wsX6_span) B.pre
  have hown : s.vm.findClass RX6 = some m.cls := findClass_of_methodNamed B.named
  have hlocks := B.notSynchronized
  have hK := hO.1
  have hl := lv_entry ([.ref o, .int x, .int y, .int z]) (n := 4) (Nat.le_of_ble_eq_true rfl)
  rw [lg_entry_eq]
  generalize (lg_sl ([.ref o, .int x, .int y, .int z]) ++ List.replicate (4 - (lg_sl ([.ref o, .int x, .int y, .int z])).length) Slot.unset).toArray = ls at hl ⊢
  have hl : lv_has ls 4 [(0, .ref o), (1, .int x), (2, .int y), (3, .int z)] := hl
  generalize hQQ : MQ below _ _ s _ _ _ = QQ
  refine lv_iload_n hx hb dX6_span_0 rfl (lv_at hl 1 rfl) ?_
  refine lv_iload_n hx hb dX6_span_1 rfl (lv_at hl 2 rfl) ?_
  refine lv_iload_n hx hb dX6_span_2 rfl (lv_at hl 3 rfl) ?_
  refine roSi (As := [.int x, .int y, .int z]) (rest := []) ⟨hx, hb, hml, hown, hts⟩ (c_X2_canBe l D cI cL cZ cO x y z ) (va_cwS 3 hts gX6_span_X2_canBe rfl rfl rfl (by decide +kernel) ⟨Nat.le_of_ble_eq_true rfl, Nat.le_of_ble_eq_true rfl⟩) hO (fun k q h => by simp at h) rfl hl.1 rfl (Nat.le_of_ble_eq_true rfl) dX6_span_3 ⟨Nat.le_of_ble_eq_true rfl, Nat.le_of_ble_eq_true rfl⟩ (fun r_3 e_3 => ?_)
  obtain rfl : r_3 = tryOk x y z := e_3
  refine lv_if_eq (tgt := 18) hx hb dX6_span_6 (by decide) (fun c_6 => ?_) (fun c_6 => ?_)
  · skip
    refine lv_iconst (v := (-1)) hx hb dX6_span_18 (by decide) ?_
    rw [← hQQ]
    exact W.iret (v := (-1)) hx hb hr (fun t9 ht9 hW9 => ⟨_, rfl, (if_pos c_6).symm, ht9⟩) (fun q h => by cases h) dX6_span_19
  · skip
    obtain ⟨w, sv, q, hw, hsv, hq, rfl, rfl, rfl⟩ := tryOk_nat c_6
    refine lv_iload_n hx hb dX6_span_9 rfl (lv_at hl 1 rfl) ?_
    refine lv_iload_n hx hb dX6_span_10 rfl (lv_at hl 2 rfl) ?_
    refine lv_iload_n hx hb dX6_span_11 rfl (lv_at hl 3 rfl) ?_
    refine roSi (As := [.int (nI w), .int (nI sv), .int (nI q)]) (rest := []) ⟨hx, hb, hml, hown, hts⟩ (c_X2_bestSpan l D cI cL cZ cO w sv q (by omega) (by omega) (by omega)) (va_cwS 3 hts gX6_span_X2_bestSpan rfl rfl rfl (by decide +kernel) ⟨Nat.le_of_ble_eq_true rfl, Nat.le_of_ble_eq_true rfl⟩) hO (fun k q h => by simp at h) rfl hl.1 rfl (Nat.le_of_ble_eq_true rfl) dX6_span_12 ⟨Nat.le_of_ble_eq_true rfl, Nat.le_of_ble_eq_true rfl⟩ (fun r_12 e_12 => ?_)
    obtain rfl : r_12 = nI (bsp (spanF sv q w) (w - 1) 2 1) := e_12
    refine lv_goto (tgt := 19) hx hb dX6_span_15 (by decide) ?_
    rw [← hQQ]
    exact W.iret (v := (nI (bsp (spanF sv q w) (w - 1) 2 1))) hx hb hr (fun t9 ht9 hW9 => ⟨_, rfl, (by rw [spanV, if_neg c_6, nI_cl (by omega), nI_cl (by omega), nI_cl (by omega)]), ht9⟩) (fun q h => by cases h) dX6_span_19
set_option maxHeartbeats 4000000 in
set_option maxRecDepth 100000 in
theorem c_X2_commonDivisor (l : Launch) (D : va_G) (cI cL cZ cO : ClassId) (x y : Int64) : Met l yX2_commonDivisor wsX2_commonDivisor ({ frames := 0, cells := 0, slots := 0, locals := 0 } : Room) (va_Pc [.long x, .long y] (Ro D cI cL cZ cO ([]))) (vp_Sl (fun r => r = (gV 200 x y).1)) 0 0 (fun _ => False) := by
  refine Met.ofW (cc := cX2_commonDivisor) (maxL := 11) (ret := (some .long)) (by decide) rfl ?_
  intro p e s m args below meth c s₁ B hml hv
  obtain ⟨rfl, hP, hO⟩ := hv
  have hx := B.exec
  have hb := B.bytes
  have hr := B.returns
  have hts := atoms_spec (ws := wsX2_commonDivisor) B.pre
  have hown : s.vm.findClass RX2 = some m.cls := findClass_of_methodNamed B.named
  have hlocks := B.notSynchronized
  have hK := hO.1
  have hl := lv_entry ([.long x, .long y]) (n := 11) (Nat.le_of_ble_eq_true rfl)
  rw [lg_entry_eq]
  generalize (lg_sl ([.long x, .long y]) ++ List.replicate (11 - (lg_sl ([.long x, .long y])).length) Slot.unset).toArray = ls at hl ⊢
  have hl : lv_has ls 11 [(0, .long x), (2, .long y)] := hl
  generalize hQQ : MQ below _ _ s _ _ _ = QQ
  refine lv_lload_n hx hb dX2_commonDivisor_0 rfl (lv_at hl 0 rfl) ?_
  refine lv_lstore (lv' := [(4, .long x), (0, .long x), (2, .long y)]) hx hb dX2_commonDivisor_1 hl (by decide) rfl (fun ls hl => ?_)
  refine lv_lload_n hx hb dX2_commonDivisor_3 rfl (lv_at hl 2 rfl) ?_
  refine lv_lstore (lv' := [(6, .long y), (4, .long x), (0, .long x), (2, .long y)]) hx hb dX2_commonDivisor_4 hl (by decide) rfl (fun ls hl => ?_)
  refine lv_iconst (v := 0) hx hb dX2_commonDivisor_6 (by decide) ?_
  refine lv_istore (lv' := [(8, .int 0), (6, .long y), (4, .long x), (0, .long x), (2, .long y)]) hx hb dX2_commonDivisor_7 hl (by decide) rfl (fun ls hl => ?_)
  have L9 : ∀ (n0 : Nat) (k : Nat) (a : Int64) (b : Int64) (ls : Array Slot), 200 - k < n0 → (k ≤ 200) → (gV (200 - k) a b = gV 200 x y) → lv_has ls 11 [(8, .int (nI k)), (4, .long a), (6, .long b), (0, .long x), (2, .long y)] → W p l e (headSpec wsX2_commonDivisor ({ frames := 0, cells := 0, slots := 0, locals := 0 } : Room)).room s m ([.long x, .long y] : List Value).toArray below meth c s.heap [] 0 0 QQ (F0 m 9 ls []) := by
    intro n0
    induction n0 with
    | zero =>
      intro k a b ls hmu
      exact absurd hmu (Nat.not_lt_zero _)
    | succ n0 ih9 =>
      intro k a b ls hmu hk he hl
      refine lv_iload hx hb dX2_commonDivisor_9 (lv_at hl 0 rfl) ?_
      refine lv_sipush (v := 200) hx hb dX2_commonDivisor_11 (by decide) ?_
      refine n_icmp_ge (x := k) (y := 200) (tgt := 45) hx hb dX2_commonDivisor_14 (by decide) (by omega) (by omega) (fun c_14 => ?_) (fun c_14 => ?_)
      · skip
        refine lv_lload hx hb dX2_commonDivisor_45 (lv_at hl 1 rfl) ?_
        rw [← hQQ]
        exact W.lret (v := a) hx hb hr (fun t9 ht9 hW9 => ⟨_, rfl, (by rw [← he, show 200 - k = 0 by omega]; rfl), ht9⟩) (fun q h => by cases h) dX2_commonDivisor_47
      · skip
        refine lv_lload hx hb dX2_commonDivisor_17 (lv_at hl 2 rfl) ?_
        refine lv_lconst (v := 0) hx hb dX2_commonDivisor_19 (by decide) ?_
        refine W.lcmp hx hb dX2_commonDivisor_20 ?_
        refine lv_if_eq (tgt := 45) hx hb dX2_commonDivisor_21 (by decide) (fun c_21 => ?_) (fun c_21 => ?_)
        · skip
          refine lv_lload hx hb dX2_commonDivisor_45 (lv_at hl 1 rfl) ?_
          rw [← hQQ]
          exact W.lret (v := a) hx hb hr (fun t9 ht9 hW9 => ⟨_, rfl, (by rw [← he, gV_z (lgc_eq.mp c_21)]), ht9⟩) (fun q h => by cases h) dX2_commonDivisor_47
        · skip
          refine lv_lload hx hb dX2_commonDivisor_24 (lv_at hl 1 rfl) ?_
          refine lv_lload hx hb dX2_commonDivisor_26 (lv_at hl 2 rfl) ?_
          refine lv_lrem hx hb dX2_commonDivisor_28 (fun q9 => c_21 (lgc_eq.mpr q9)) ?_
          refine lv_lstore (lv' := [(9, .long (a - a / b * b)), (8, .int (nI k)), (4, .long a), (6, .long b), (0, .long x), (2, .long y)]) hx hb dX2_commonDivisor_29 hl (by decide) rfl (fun ls hl => ?_)
          refine lv_lload hx hb dX2_commonDivisor_31 (lv_at hl 3 rfl) ?_
          refine lv_lstore (lv' := [(4, .long b), (9, .long (a - a / b * b)), (8, .int (nI k)), (6, .long b), (0, .long x), (2, .long y)]) hx hb dX2_commonDivisor_33 hl (by decide) rfl (fun ls hl => ?_)
          refine lv_lload hx hb dX2_commonDivisor_35 (lv_at hl 1 rfl) ?_
          refine lv_lstore (lv' := [(6, .long (a - a / b * b)), (4, .long b), (9, .long (a - a / b * b)), (8, .int (nI k)), (0, .long x), (2, .long y)]) hx hb dX2_commonDivisor_37 hl (by decide) rfl (fun ls hl => ?_)
          refine lv_iinc (v := (nI (k + 1))) (lv' := [(8, .int (nI (k + 1))), (6, .long (a - a / b * b)), (4, .long b), (9, .long (a - a / b * b)), (0, .long x), (2, .long y)]) hx hb dX2_commonDivisor_39 hl (k := 3) rfl (nI_add k 1) (by decide) rfl (fun ls hl => ?_)
          refine lv_goto (tgt := 9) hx hb dX2_commonDivisor_42 (by decide) ?_
          exact ih9 (k + 1) b (a - a / b * b) _ (by omega) (by omega) (by rw [← he, show 200 - k = 200 - (k + 1) + 1 by omega, gV_s (fun q9 => c_21 (lgc_eq.mpr q9))]) (lv_sub hl [0, 2, 1, 4, 5] rfl)
  exact L9 _ 0 x y _ (Nat.lt_succ_self _) (by omega) rfl (lv_sub hl [0, 2, 1, 3, 4] rfl)
set_option maxHeartbeats 4000000 in
set_option maxRecDepth 100000 in
theorem c_X6_mean (l : Launch) (D : va_G) (cI cL cZ cO : ClassId) (o : Nat) (x y z spx wt : Int32) : Met l yX6_mean wsX6_mean ({ frames := 2, cells := 0, slots := 0, locals := 56 } : Room) (va_Pc [.ref o, .int x, .int y, .int z, .int spx, .int wt] (Ro D cI cL cZ cO ([]))) (vp_Sl (fun r => r = meanW mnC x y z spx wt)) 0 0 (fun _ => False) := by
  refine Met.ofW (cc := cX6_mean) (maxL := 12) (ret := (some .long)) (by decide) rfl ?_
  intro p e s m args below meth c s₁ B hml hv
  obtain ⟨rfl, hP, hO⟩ := hv
  have hx := B.exec
  have hb := B.bytes
  have hr := B.returns
  have hts := atoms_spec (ws := wsX6_mean) B.pre
  have hown : s.vm.findClass RX6 = some m.cls := findClass_of_methodNamed B.named
  have hlocks := B.notSynchronized
  have hK := hO.1
  have hl := lv_entry ([.ref o, .int x, .int y, .int z, .int spx, .int wt]) (n := 12) (Nat.le_of_ble_eq_true rfl)
  rw [lg_entry_eq]
  generalize (lg_sl ([.ref o, .int x, .int y, .int z, .int spx, .int wt]) ++ List.replicate (12 - (lg_sl ([.ref o, .int x, .int y, .int z, .int spx, .int wt])).length) Slot.unset).toArray = ls at hl ⊢
  have hl : lv_has ls 12 [(0, .ref o), (1, .int x), (2, .int y), (3, .int z), (4, .int spx), (5, .int wt)] := hl
  generalize hQQ : MQ below _ _ s _ _ _ = QQ
  refine lv_iload_n hx hb dX6_mean_0 rfl (lv_at hl 1 rfl) ?_
  refine lv_iload_n hx hb dX6_mean_1 rfl (lv_at hl 2 rfl) ?_
  refine lv_iload_n hx hb dX6_mean_2 rfl (lv_at hl 3 rfl) ?_
  refine roSi (As := [.int x, .int y, .int z]) (rest := []) ⟨hx, hb, hml, hown, hts⟩ (c_X2_canBe l D cI cL cZ cO x y z ) (va_cwS 3 hts gX6_mean_X2_canBe rfl rfl rfl (by decide +kernel) ⟨Nat.le_of_ble_eq_true rfl, Nat.le_of_ble_eq_true rfl⟩) hO (fun k q h => by simp at h) rfl hl.1 rfl (Nat.le_of_ble_eq_true rfl) dX6_mean_3 ⟨Nat.le_of_ble_eq_true rfl, Nat.le_of_ble_eq_true rfl⟩ (fun r_3 e_3 => ?_)
  obtain rfl : r_3 = tryOk x y z := e_3
  refine lv_if_eq (tgt := 29) hx hb dX6_mean_6 (by decide) (fun c_6 => ?_) (fun c_6 => ?_)
  · skip
    refine lv_ldc2 (v := (-1)) hx hb hown (hts (.constantLong RX6 96 (-1)) (List.mem_of_getElem? (i := 1) rfl)) dX6_mean_29 ?_
    rw [← hQQ]
    exact W.lret (v := (-1)) hx hb hr (fun t9 ht9 hW9 => ⟨_, rfl, by simp only [meanW, if_pos c_6], ht9⟩) (fun q h => by cases h) dX6_mean_32
  · skip
    refine lv_iload hx hb dX6_mean_9 (lv_at hl 4 rfl) ?_
    refine lv_iconst (v := 1) hx hb dX6_mean_11 (by decide) ?_
    refine lv_iload_n hx hb dX6_mean_12 rfl (lv_at hl 1 rfl) ?_
    refine roSi (As := [.int spx, .int 1, .int x]) (rest := []) ⟨hx, hb, hml, hown, hts⟩ (c_X6_within l D cI cL cZ cO spx 1 x ) (va_cwS 3 hts gX6_mean_X6_within rfl rfl rfl (by decide +kernel) ⟨Nat.le_of_ble_eq_true rfl, Nat.le_of_ble_eq_true rfl⟩) hO (fun k q h => by simp at h) rfl hl.1 rfl (Nat.le_of_ble_eq_true rfl) dX6_mean_13 ⟨Nat.le_of_ble_eq_true rfl, Nat.le_of_ble_eq_true rfl⟩ (fun r_13 e_13 => ?_)
    obtain rfl : r_13 = wi spx 1 x := e_13
    refine lv_if_eq (tgt := 29) hx hb dX6_mean_16 (by decide) (fun c_16 => ?_) (fun c_16 => ?_)
    · skip
      refine lv_ldc2 (v := (-1)) hx hb hown (hts (.constantLong RX6 96 (-1)) (List.mem_of_getElem? (i := 1) rfl)) dX6_mean_29 ?_
      rw [← hQQ]
      exact W.lret (v := (-1)) hx hb hr (fun t9 ht9 hW9 => ⟨_, rfl, by simp only [meanW, if_neg c_6, if_pos c_16], ht9⟩) (fun q h => by cases h) dX6_mean_32
    · skip
      refine lv_iload hx hb dX6_mean_19 (lv_at hl 5 rfl) ?_
      refine lv_iconst (v := 0) hx hb dX6_mean_21 (by decide) ?_
      refine lv_iconst (v := 1) hx hb dX6_mean_22 (by decide) ?_
      refine roSi (As := [.int wt, .int 0, .int 1]) (rest := []) ⟨hx, hb, hml, hown, hts⟩ (c_X6_within l D cI cL cZ cO wt 0 1 ) (va_cwS 3 hts gX6_mean_X6_within rfl rfl rfl (by decide +kernel) ⟨Nat.le_of_ble_eq_true rfl, Nat.le_of_ble_eq_true rfl⟩) hO (fun k q h => by simp at h) rfl hl.1 rfl (Nat.le_of_ble_eq_true rfl) dX6_mean_23 ⟨Nat.le_of_ble_eq_true rfl, Nat.le_of_ble_eq_true rfl⟩ (fun r_23 e_23 => ?_)
      obtain rfl : r_23 = wi wt 0 1 := e_23
      refine lv_if_ne (tgt := 33) hx hb dX6_mean_26 (by decide) (fun c_26 => ?_) (fun c_26 => ?_)
      · skip
        obtain ⟨w, sv, q, hw, hsv, hq, rfl, rfl, rfl⟩ := tryOk_nat c_6
        obtain ⟨sp, hs1, hs2, rfl⟩ := wi_nat (a := 1) (b := w) (by decide) (by omega) c_16
        refine lv_iload_n hx hb dX6_mean_33 rfl (lv_at hl 3 rfl) ?_
        refine lv_iconst (v := 1) hx hb dX6_mean_34 (by decide) ?_
        refine n_isub (x := q) (y := 1) hx hb dX6_mean_35 (by omega) ?_
        refine lv_iload hx hb dX6_mean_36 (lv_at hl 4 rfl) ?_
        refine lv_iload_n hx hb dX6_mean_38 rfl (lv_at hl 2 rfl) ?_
        refine n_iadd (x := sp) (y := sv) hx hb dX6_mean_39 ?_
        refine roSl (As := [.int (nI (q - 1)), .int (nI (sp + sv))]) (rest := []) ⟨hx, hb, hml, hown, hts⟩ (c_X2_power l D cI cL cZ cO (nI (q - 1)) (sp + sv) (by omega)) (va_cwS 2 hts gX6_mean_X2_power rfl rfl rfl (by decide +kernel) ⟨Nat.le_of_ble_eq_true rfl, Nat.le_of_ble_eq_true rfl⟩) hO (fun k q h => by simp at h) rfl hl.1 rfl (Nat.le_of_ble_eq_true rfl) dX6_mean_40 ⟨Nat.le_of_ble_eq_true rfl, Nat.le_of_ble_eq_true rfl⟩ (fun r_40 e_40 => ?_)
        obtain rfl : r_40 = pw (nI (q - 1)) (sp + sv) := e_40
        refine lv_lstore (lv' := [(6, .long (pw (nI (q - 1)) (sp + sv))), (0, .ref o), (1, .int (nI w)), (2, .int (nI sv)), (3, .int (nI q)), (4, .int (nI sp)), (5, .int wt)]) hx hb dX6_mean_43 hl (by decide) rfl (fun ls hl => ?_)
        refine lv_iload_n hx hb dX6_mean_45 rfl (lv_at hl 2 rfl) ?_
        refine lv_iload_n hx hb dX6_mean_46 rfl (lv_at hl 3 rfl) ?_
        refine lv_iload_n hx hb dX6_mean_47 rfl (lv_at hl 4 rfl) ?_
        refine lv_iload hx hb dX6_mean_48 (lv_at hl 5 rfl) ?_
        refine lv_iload hx hb dX6_mean_50 (lv_at hl 5 rfl) ?_
        refine lv_iload_n hx hb dX6_mean_52 rfl (lv_at hl 3 rfl) ?_
        refine n_iadd (x := sp) (y := sv) hx hb dX6_mean_53 ?_
        refine roSl (As := [.int (nI w), .int (nI sv), .int (nI q), .int (nI sp), .int (nI (sp + sv))]) (rest := []) ⟨hx, hb, hml, hown, hts⟩ (c_X2_above l D cI cL cZ cO w sv q sp (sp + sv) (by omega) (by omega) (by omega) (by omega) (by omega)) (va_cwS 5 hts gX6_mean_X2_above rfl rfl rfl (by decide +kernel) ⟨Nat.le_of_ble_eq_true rfl, Nat.le_of_ble_eq_true rfl⟩) hO (fun k q h => by simp at h) rfl hl.1 rfl (Nat.le_of_ble_eq_true rfl) dX6_mean_54 ⟨Nat.le_of_ble_eq_true rfl, Nat.le_of_ble_eq_true rfl⟩ (fun r_54 e_54 => ?_)
        obtain rfl : r_54 = abF sv q sp (sp + sv) w w 0 := e_54
        refine lv_lstore (lv' := [(8, .long (abF sv q sp (sp + sv) w w 0)), (6, .long (pw (nI (q - 1)) (sp + sv))), (0, .ref o), (1, .int (nI w)), (2, .int (nI sv)), (3, .int (nI q)), (4, .int (nI sp)), (5, .int wt)]) hx hb dX6_mean_57 hl (by decide) rfl (fun ls hl => ?_)
        refine lv_lload hx hb dX6_mean_59 (lv_at hl 0 rfl) ?_
        refine lv_lload hx hb dX6_mean_61 (lv_at hl 1 rfl) ?_
        refine roSl (As := [.long (abF sv q sp (sp + sv) w w 0), .long (pw (nI (q - 1)) (sp + sv))]) (rest := []) ⟨hx, hb, hml, hown, hts⟩ (c_X2_commonDivisor l D cI cL cZ cO (abF sv q sp (sp + sv) w w 0) (pw (nI (q - 1)) (sp + sv)) ) (va_cwS 2 hts gX6_mean_X2_commonDivisor rfl rfl rfl (by decide +kernel) ⟨Nat.le_of_ble_eq_true rfl, Nat.le_of_ble_eq_true rfl⟩) hO (fun k q h => by simp at h) rfl hl.1 rfl (Nat.le_of_ble_eq_true rfl) dX6_mean_63 ⟨Nat.le_of_ble_eq_true rfl, Nat.le_of_ble_eq_true rfl⟩ (fun r_63 e_63 => ?_)
        obtain rfl : r_63 = (gV 200 (abF sv q sp (sp + sv) w w 0) (pw (nI (q - 1)) (sp + sv))).1 := e_63
        refine lv_lstore (lv' := [(10, .long ((gV 200 (abF sv q sp (sp + sv) w w 0) (pw (nI (q - 1)) (sp + sv))).1)), (8, .long (abF sv q sp (sp + sv) w w 0)), (6, .long (pw (nI (q - 1)) (sp + sv))), (0, .ref o), (1, .int (nI w)), (2, .int (nI sv)), (3, .int (nI q)), (4, .int (nI sp)), (5, .int wt)]) hx hb dX6_mean_66 hl (by decide) rfl (fun ls hl => ?_)
        refine lv_lload hx hb dX6_mean_68 (lv_at hl 0 rfl) ?_
        refine lv_lconst (v := 0) hx hb dX6_mean_70 (by decide) ?_
        refine W.lcmp hx hb dX6_mean_71 ?_
        refine lv_if_gt (tgt := 79) hx hb dX6_mean_72 (by decide) (fun c_72 => ?_) (fun c_72 => ?_)
        · skip
          refine lv_iload hx hb dX6_mean_79 (lv_at hl 8 rfl) ?_
          refine lv_if_ne (tgt := 89) hx hb dX6_mean_81 (by decide) (fun c_81 => ?_) (fun c_81 => ?_)
          · skip
            refine lv_lload hx hb dX6_mean_89 (lv_at hl 2 rfl) ?_
            refine lv_lload hx hb dX6_mean_91 (lv_at hl 0 rfl) ?_
            refine lv_ldiv hx hb dX6_mean_93 (fun q9 => i64_ne (lgc_gt.mp c_72) q9) ?_
            rw [← hQQ]
            exact W.lret (v := ((pw (nI (q - 1)) (sp + sv)) / ((gV 200 (abF sv q sp (sp + sv) w w 0) (pw (nI (q - 1)) (sp + sv))).1))) hx hb hr (fun t9 ht9 hW9 => ⟨_, rfl, (by rw [meanW, if_neg c_6, if_neg c_16, if_neg c_26, nI_cl (by omega), nI_cl (by omega), nI_cl (by omega), nI_cl (by omega)]; rw [mnC, if_pos (lgc_gt.mp c_72), if_neg c_81]), ht9⟩) (fun q h => by cases h) dX6_mean_94
          · skip
            refine lv_lload hx hb dX6_mean_84 (lv_at hl 1 rfl) ?_
            refine lv_goto (tgt := 91) hx hb dX6_mean_86 (by decide) ?_
            refine lv_lload hx hb dX6_mean_91 (lv_at hl 0 rfl) ?_
            refine lv_ldiv hx hb dX6_mean_93 (fun q9 => i64_ne (lgc_gt.mp c_72) q9) ?_
            rw [← hQQ]
            exact W.lret (v := ((abF sv q sp (sp + sv) w w 0) / ((gV 200 (abF sv q sp (sp + sv) w w 0) (pw (nI (q - 1)) (sp + sv))).1))) hx hb hr (fun t9 ht9 hW9 => ⟨_, rfl, (by rw [meanW, if_neg c_6, if_neg c_16, if_neg c_26, nI_cl (by omega), nI_cl (by omega), nI_cl (by omega), nI_cl (by omega)]; rw [mnC, if_pos (lgc_gt.mp c_72), if_pos c_81]), ht9⟩) (fun q h => by cases h) dX6_mean_94
        · skip
          refine lv_ldc2 (v := (-1)) hx hb hown (hts (.constantLong RX6 96 (-1)) (List.mem_of_getElem? (i := 1) rfl)) dX6_mean_75 ?_
          rw [← hQQ]
          exact W.lret (v := (-1)) hx hb hr (fun t9 ht9 hW9 => ⟨_, rfl, (by rw [meanW, if_neg c_6, if_neg c_16, if_neg c_26, nI_cl (by omega), nI_cl (by omega), nI_cl (by omega), nI_cl (by omega)]; rw [mnC, if_neg (fun q9 => c_72 (lgc_gt.mpr q9))]), ht9⟩) (fun q h => by cases h) dX6_mean_78
      · skip
        refine lv_ldc2 (v := (-1)) hx hb hown (hts (.constantLong RX6 96 (-1)) (List.mem_of_getElem? (i := 1) rfl)) dX6_mean_29 ?_
        rw [← hQQ]
        exact W.lret (v := (-1)) hx hb hr (fun t9 ht9 hW9 => ⟨_, rfl, by simp only [meanW, if_neg c_6, if_neg c_16, if_pos c_26], ht9⟩) (fun q h => by cases h) dX6_mean_32
set_option maxHeartbeats 4000000 in
set_option maxRecDepth 100000 in
theorem c_X7_mean (l : Launch) (D : va_G) (cI cL cZ cO : ClassId) (a : Nat) (x y z spx wt : Int32) : Met l yX7_mean wsX7_mean ({ frames := 3, cells := 0, slots := 0, locals := 73 } : Room) (va_Pc [.ref a, .int x, .int y, .int z, .int spx, .int wt] (Ro D cI cL cZ cO ([]))) (vp_Sl (fun r => r = meanW mnM x y z spx wt)) 0 0 (fun _ => False) := by
  refine Met.ofW (cc := cX7_mean) (maxL := 16) (ret := (some .long)) (by decide) rfl ?_
  intro p e s m args below meth c s₁ B hml hv
  obtain ⟨rfl, hP, hO⟩ := hv
  have hx := B.exec
  have hb := B.bytes
  have hr := B.returns
  have hts := atoms_spec (ws := wsX7_mean) B.pre
  have hown : s.vm.findClass RX7 = some m.cls := findClass_of_methodNamed B.named
  have hlocks := B.notSynchronized
  have hK := hO.1
  have hl := lv_entry ([.ref a, .int x, .int y, .int z, .int spx, .int wt]) (n := 16) (Nat.le_of_ble_eq_true rfl)
  rw [lg_entry_eq]
  generalize (lg_sl ([.ref a, .int x, .int y, .int z, .int spx, .int wt]) ++ List.replicate (16 - (lg_sl ([.ref a, .int x, .int y, .int z, .int spx, .int wt])).length) Slot.unset).toArray = ls at hl ⊢
  have hl : lv_has ls 16 [(0, .ref a), (1, .int x), (2, .int y), (3, .int z), (4, .int spx), (5, .int wt)] := hl
  generalize hQQ : MQ below _ _ s _ _ _ = QQ
  refine lv_iload_n hx hb dX7_mean_0 rfl (lv_at hl 1 rfl) ?_
  refine lv_iload_n hx hb dX7_mean_1 rfl (lv_at hl 2 rfl) ?_
  refine lv_iload_n hx hb dX7_mean_2 rfl (lv_at hl 3 rfl) ?_
  refine roSi (As := [.int x, .int y, .int z]) (rest := []) ⟨hx, hb, hml, hown, hts⟩ (c_X7_isTry l D cI cL cZ cO x y z ) (va_cwS 3 hts gX7_mean_X7_isTry rfl rfl rfl (by decide +kernel) ⟨Nat.le_of_ble_eq_true rfl, Nat.le_of_ble_eq_true rfl⟩) hO (fun k q h => by simp at h) rfl hl.1 rfl (Nat.le_of_ble_eq_true rfl) dX7_mean_3 ⟨Nat.le_of_ble_eq_true rfl, Nat.le_of_ble_eq_true rfl⟩ (fun r_3 e_3 => ?_)
  obtain rfl : r_3 = tryOk x y z := e_3
  refine lv_if_eq (tgt := 29) hx hb dX7_mean_6 (by decide) (fun c_6 => ?_) (fun c_6 => ?_)
  · skip
    refine lv_ldc2 (v := (-1)) hx hb hown (hts (.constantLong RX7 160 (-1)) (List.mem_of_getElem? (i := 1) rfl)) dX7_mean_29 ?_
    rw [← hQQ]
    exact W.lret (v := (-1)) hx hb hr (fun t9 ht9 hW9 => ⟨_, rfl, by simp only [meanW, if_pos c_6], ht9⟩) (fun q h => by cases h) dX7_mean_32
  · skip
    refine lv_iload hx hb dX7_mean_9 (lv_at hl 4 rfl) ?_
    refine lv_iconst (v := 1) hx hb dX7_mean_11 (by decide) ?_
    refine lv_iload_n hx hb dX7_mean_12 rfl (lv_at hl 1 rfl) ?_
    refine roSi (As := [.int spx, .int 1, .int x]) (rest := []) ⟨hx, hb, hml, hown, hts⟩ (c_X7_in l D cI cL cZ cO spx 1 x ) (va_cwS 3 hts gX7_mean_X7_in rfl rfl rfl (by decide +kernel) ⟨Nat.le_of_ble_eq_true rfl, Nat.le_of_ble_eq_true rfl⟩) hO (fun k q h => by simp at h) rfl hl.1 rfl (Nat.le_of_ble_eq_true rfl) dX7_mean_13 ⟨Nat.le_of_ble_eq_true rfl, Nat.le_of_ble_eq_true rfl⟩ (fun r_13 e_13 => ?_)
    obtain rfl : r_13 = wi spx 1 x := e_13
    refine lv_if_eq (tgt := 29) hx hb dX7_mean_16 (by decide) (fun c_16 => ?_) (fun c_16 => ?_)
    · skip
      refine lv_ldc2 (v := (-1)) hx hb hown (hts (.constantLong RX7 160 (-1)) (List.mem_of_getElem? (i := 1) rfl)) dX7_mean_29 ?_
      rw [← hQQ]
      exact W.lret (v := (-1)) hx hb hr (fun t9 ht9 hW9 => ⟨_, rfl, by simp only [meanW, if_neg c_6, if_pos c_16], ht9⟩) (fun q h => by cases h) dX7_mean_32
    · skip
      refine lv_iload hx hb dX7_mean_19 (lv_at hl 5 rfl) ?_
      refine lv_iconst (v := 0) hx hb dX7_mean_21 (by decide) ?_
      refine lv_iconst (v := 1) hx hb dX7_mean_22 (by decide) ?_
      refine roSi (As := [.int wt, .int 0, .int 1]) (rest := []) ⟨hx, hb, hml, hown, hts⟩ (c_X7_in l D cI cL cZ cO wt 0 1 ) (va_cwS 3 hts gX7_mean_X7_in rfl rfl rfl (by decide +kernel) ⟨Nat.le_of_ble_eq_true rfl, Nat.le_of_ble_eq_true rfl⟩) hO (fun k q h => by simp at h) rfl hl.1 rfl (Nat.le_of_ble_eq_true rfl) dX7_mean_23 ⟨Nat.le_of_ble_eq_true rfl, Nat.le_of_ble_eq_true rfl⟩ (fun r_23 e_23 => ?_)
      obtain rfl : r_23 = wi wt 0 1 := e_23
      refine lv_if_ne (tgt := 33) hx hb dX7_mean_26 (by decide) (fun c_26 => ?_) (fun c_26 => ?_)
      · skip
        obtain ⟨w, sv, q, hw, hsv, hq, rfl, rfl, rfl⟩ := tryOk_nat c_6
        obtain ⟨sp, hs1, hs2, rfl⟩ := wi_nat (a := 1) (b := w) (by decide) (by omega) c_16
        obtain ⟨⟨hg2, hg1⟩, -, -⟩ := mn_all w (by omega) sv (by omega) q (by omega) sp (by omega) ⟨hw.1, hq.1, hs1, hs2⟩
        refine lv_iload_n hx hb dX7_mean_33 rfl (lv_at hl 1 rfl) ?_
        refine lv_iload_n hx hb dX7_mean_34 rfl (lv_at hl 2 rfl) ?_
        refine lv_iload_n hx hb dX7_mean_35 rfl (lv_at hl 3 rfl) ?_
        refine lv_iload hx hb dX7_mean_36 (lv_at hl 4 rfl) ?_
        refine roSl (As := [.int (nI w), .int (nI sv), .int (nI q), .int (nI sp)]) (rest := []) ⟨hx, hb, hml, hown, hts⟩ (c_X7_pieces l D cI cL cZ cO w sv q sp (by omega) (by omega) (by omega) (by omega)) (va_cwS 4 hts gX7_mean_X7_pieces rfl rfl rfl (by decide +kernel) ⟨Nat.le_of_ble_eq_true rfl, Nat.le_of_ble_eq_true rfl⟩) hO (fun k q h => by simp at h) rfl hl.1 rfl (Nat.le_of_ble_eq_true rfl) dX7_mean_38 ⟨Nat.le_of_ble_eq_true rfl, Nat.le_of_ble_eq_true rfl⟩ (fun r_38 e_38 => ?_)
        obtain rfl : r_38 = abF sv q sp (w + sv) w w 0 := e_38
        refine lv_lstore (lv' := [(6, .long (abF sv q sp (w + sv) w w 0)), (0, .ref a), (1, .int (nI w)), (2, .int (nI sv)), (3, .int (nI q)), (4, .int (nI sp)), (5, .int wt)]) hx hb dX7_mean_41 hl (by decide) rfl (fun ls hl => ?_)
        refine lv_iload_n hx hb dX7_mean_43 rfl (lv_at hl 4 rfl) ?_
        refine lv_iconst (v := 1) hx hb dX7_mean_44 (by decide) ?_
        refine n_isub (x := q) (y := 1) hx hb dX7_mean_45 (by omega) ?_
        refine lv_iload_n hx hb dX7_mean_46 rfl (lv_at hl 2 rfl) ?_
        refine lv_iload_n hx hb dX7_mean_47 rfl (lv_at hl 3 rfl) ?_
        refine n_iadd (x := w) (y := sv) hx hb dX7_mean_48 ?_
        refine roSl (As := [.int (nI (q - 1)), .int (nI (w + sv))]) (rest := []) ⟨hx, hb, hml, hown, hts⟩ (c_X7_power l D cI cL cZ cO (nI (q - 1)) (w + sv) (by omega)) (va_cwS 2 hts gX7_mean_X7_power rfl rfl rfl (by decide +kernel) ⟨Nat.le_of_ble_eq_true rfl, Nat.le_of_ble_eq_true rfl⟩) hO (fun k q h => by simp at h) rfl hl.1 rfl (Nat.le_of_ble_eq_true rfl) dX7_mean_49 ⟨Nat.le_of_ble_eq_true rfl, Nat.le_of_ble_eq_true rfl⟩ (fun r_49 e_49 => ?_)
        obtain rfl : r_49 = pw (nI (q - 1)) (w + sv) := e_49
        refine lv_lstore (lv' := [(8, .long (pw (nI (q - 1)) (w + sv))), (6, .long (abF sv q sp (w + sv) w w 0)), (0, .ref a), (1, .int (nI w)), (2, .int (nI sv)), (3, .int (nI q)), (4, .int (nI sp)), (5, .int wt)]) hx hb dX7_mean_52 hl (by decide) rfl (fun ls hl => ?_)
        refine lv_lload hx hb dX7_mean_54 (lv_at hl 1 rfl) ?_
        refine lv_lstore (lv' := [(10, .long (abF sv q sp (w + sv) w w 0)), (8, .long (pw (nI (q - 1)) (w + sv))), (6, .long (abF sv q sp (w + sv) w w 0)), (0, .ref a), (1, .int (nI w)), (2, .int (nI sv)), (3, .int (nI q)), (4, .int (nI sp)), (5, .int wt)]) hx hb dX7_mean_56 hl (by decide) rfl (fun ls hl => ?_)
        refine lv_lload hx hb dX7_mean_58 (lv_at hl 1 rfl) ?_
        refine lv_lstore (lv' := [(12, .long (pw (nI (q - 1)) (w + sv))), (10, .long (abF sv q sp (w + sv) w w 0)), (8, .long (pw (nI (q - 1)) (w + sv))), (6, .long (abF sv q sp (w + sv) w w 0)), (0, .ref a), (1, .int (nI w)), (2, .int (nI sv)), (3, .int (nI q)), (4, .int (nI sp)), (5, .int wt)]) hx hb dX7_mean_60 hl (by decide) rfl (fun ls hl => ?_)
        have L62 : ∀ (n0 : Nat) (k : Nat) (ga : Int64) (gb : Int64) (ls : Array Slot), k < n0 → (gV k ga gb = gV 200 (abF sv q sp (w + sv) w w 0) (pw (nI (q - 1)) (w + sv))) → lv_has ls 16 [(10, .long ga), (12, .long gb), (0, .ref a), (1, .int (nI w)), (2, .int (nI sv)), (3, .int (nI q)), (4, .int (nI sp)), (5, .int wt), (6, .long (abF sv q sp (w + sv) w w 0)), (8, .long (pw (nI (q - 1)) (w + sv)))] → W p l e (headSpec wsX7_mean ({ frames := 3, cells := 0, slots := 0, locals := 73 } : Room)).room s m ([.ref a, .int (nI w), .int (nI sv), .int (nI q), .int (nI sp), .int wt] : List Value).toArray below meth c s.heap [] 0 0 QQ (F0 m 62 ls []) := by
          intro n0
          induction n0 with
          | zero =>
            intro k ga gb ls hmu
            exact absurd hmu (Nat.not_lt_zero _)
          | succ n0 ih62 =>
            intro k ga gb ls hmu he hl
            refine lv_lload hx hb dX7_mean_62 (lv_at hl 1 rfl) ?_
            refine lv_lconst (v := 0) hx hb dX7_mean_64 (by decide) ?_
            refine W.lcmp hx hb dX7_mean_65 ?_
            refine lv_if_eq (tgt := 87) hx hb dX7_mean_66 (by decide) (fun c_66 => ?_) (fun c_66 => ?_)
            · skip
              have hga : ¬ ga = 0 := fun z9 => hg1 (by rw [← he, gV_z (lgc_eq.mp c_66)]; exact z9)
              refine lv_iload hx hb dX7_mean_87 (lv_at hl 7 rfl) ?_
              refine lv_if_ne (tgt := 100) hx hb dX7_mean_89 (by decide) (fun c_89 => ?_) (fun c_89 => ?_)
              · skip
                refine lv_lload hx hb dX7_mean_100 (lv_at hl 9 rfl) ?_
                refine lv_lload hx hb dX7_mean_102 (lv_at hl 0 rfl) ?_
                refine lv_ldiv hx hb dX7_mean_104 hga ?_
                rw [← hQQ]
                exact W.lret (v := ((pw (nI (q - 1)) (w + sv)) / ga)) hx hb hr (fun t9 ht9 hW9 => ⟨_, rfl, (by rw [meanW, if_neg c_6, if_neg c_16, if_neg c_26, nI_cl (by omega), nI_cl (by omega), nI_cl (by omega), nI_cl (by omega)]; rw [mnM, if_neg c_89, ← he, gV_z (lgc_eq.mp c_66)]), ht9⟩) (fun q h => by cases h) dX7_mean_105
              · skip
                refine lv_lload hx hb dX7_mean_92 (lv_at hl 8 rfl) ?_
                refine lv_lload hx hb dX7_mean_94 (lv_at hl 0 rfl) ?_
                refine lv_ldiv hx hb dX7_mean_96 hga ?_
                refine lv_goto (tgt := 105) hx hb dX7_mean_97 (by decide) ?_
                rw [← hQQ]
                exact W.lret (v := ((abF sv q sp (w + sv) w w 0) / ga)) hx hb hr (fun t9 ht9 hW9 => ⟨_, rfl, (by rw [meanW, if_neg c_6, if_neg c_16, if_neg c_26, nI_cl (by omega), nI_cl (by omega), nI_cl (by omega), nI_cl (by omega)]; rw [mnM, if_pos c_89, ← he, gV_z (lgc_eq.mp c_66)]), ht9⟩) (fun q h => by cases h) dX7_mean_105
            · skip
              have hk0 : 0 < k := Nat.pos_of_ne_zero (fun z9 => by subst z9; exact c_66 (lgc_eq.mpr (by rw [← hg2, ← he]; rfl)))
              refine lv_lload hx hb dX7_mean_69 (lv_at hl 0 rfl) ?_
              refine lv_lload hx hb dX7_mean_71 (lv_at hl 1 rfl) ?_
              refine lv_lrem hx hb dX7_mean_73 (fun q9 => c_66 (lgc_eq.mpr q9)) ?_
              refine lv_lstore (lv' := [(14, .long (ga - ga / gb * gb)), (10, .long ga), (12, .long gb), (0, .ref a), (1, .int (nI w)), (2, .int (nI sv)), (3, .int (nI q)), (4, .int (nI sp)), (5, .int wt), (6, .long (abF sv q sp (w + sv) w w 0)), (8, .long (pw (nI (q - 1)) (w + sv)))]) hx hb dX7_mean_74 hl (by decide) rfl (fun ls hl => ?_)
              refine lv_lload hx hb dX7_mean_76 (lv_at hl 2 rfl) ?_
              refine lv_lstore (lv' := [(10, .long gb), (14, .long (ga - ga / gb * gb)), (12, .long gb), (0, .ref a), (1, .int (nI w)), (2, .int (nI sv)), (3, .int (nI q)), (4, .int (nI sp)), (5, .int wt), (6, .long (abF sv q sp (w + sv) w w 0)), (8, .long (pw (nI (q - 1)) (w + sv)))]) hx hb dX7_mean_78 hl (by decide) rfl (fun ls hl => ?_)
              refine lv_lload hx hb dX7_mean_80 (lv_at hl 1 rfl) ?_
              refine lv_lstore (lv' := [(12, .long (ga - ga / gb * gb)), (10, .long gb), (14, .long (ga - ga / gb * gb)), (0, .ref a), (1, .int (nI w)), (2, .int (nI sv)), (3, .int (nI q)), (4, .int (nI sp)), (5, .int wt), (6, .long (abF sv q sp (w + sv) w w 0)), (8, .long (pw (nI (q - 1)) (w + sv)))]) hx hb dX7_mean_82 hl (by decide) rfl (fun ls hl => ?_)
              refine lv_goto (tgt := 62) hx hb dX7_mean_84 (by decide) ?_
              exact ih62 (k - 1) gb (ga - ga / gb * gb) _ (by omega) (by rw [← he, show k = k - 1 + 1 by omega, gV_s (fun q9 => c_66 (lgc_eq.mpr q9)), Nat.add_sub_cancel]) (lv_sub hl [1, 0, 3, 4, 5, 6, 7, 8, 9, 10] rfl)
        exact L62 _ 200 (abF sv q sp (w + sv) w w 0) (pw (nI (q - 1)) (w + sv)) _ (Nat.lt_succ_self _) rfl (lv_sub hl [1, 0, 4, 5, 6, 7, 8, 9, 3, 2] rfl)
      · skip
        refine lv_ldc2 (v := (-1)) hx hb hown (hts (.constantLong RX7 160 (-1)) (List.mem_of_getElem? (i := 1) rfl)) dX7_mean_29 ?_
        rw [← hQQ]
        exact W.lret (v := (-1)) hx hb hr (fun t9 ht9 hW9 => ⟨_, rfl, by simp only [meanW, if_neg c_6, if_neg c_16, if_pos c_26], ht9⟩) (fun q h => by cases h) dX7_mean_32
