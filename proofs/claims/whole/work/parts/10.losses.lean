/-! LOSSES: tries, spans, means: the pure words, and the contracts of both sides' methods. -/
def ilh (x y : Int32) : Int32 := if wi x 0 2 = 0 then 0 else if wi y 0 199 = 0 then 0 else 1
def tryOk (x y z : Int32) : Int32 := if wi x 1 10 = 0 then 0 else if wi y 0 2 = 0 then 0 else if wi z 2 10 = 0 then 0 else 1
def pw (b : Int32) : Nat → Int64
  | 0 => 1
  | n + 1 => pw b n * b.toInt64
/-- q times (q to the n, less q - 1 to the n), on the line 'al' -/
def tr1 (q n al : Nat) : Int64 := (nI q).toInt64 * (pw (nI q) n - pw (nI (q - 1)) n) * pw (nI (q - 1)) (al - n)
def abF (sv q sp li : Nat) : Nat → Nat → Int64 → Int64
  | 0, _, v => v
  | n + 1, lf, v => if lf = 0 then v else abF sv q sp li n (lf - sp) (v + tr1 q (min sp lf + sv) li)
theorem abF_s {sv q sp li n lf : Nat} {v : Int64} (h : 0 < lf) : abF sv q sp li (n + 1) lf v = abF sv q sp li n (lf - sp) (v + tr1 q (min sp lf + sv) li) := if_neg (by omega)
theorem abF_0 {sv q sp li n lf : Nat} {v : Int64} (h : n = 0 ∨ lf = 0) : abF sv q sp li n lf v = v := by
  cases n with
  | zero => rfl
  | succ n => exact if_pos (by omega)
theorem abF_cut {sp lf : Nat} : lf - min sp lf = lf - sp := by omega
theorem abF_sum {q n al : Nat} : (nI q).toInt64 * (pw (nI q) n - pw (nI (q - 1)) n) * pw (nI (q - 1)) (al - n) = tr1 q n al := rfl
set_option maxHeartbeats 4000000 in
set_option maxRecDepth 100000 in
theorem c_X6_within (l : Launch) (D : va_G) (cI cL cZ cO : ClassId) (x y z : Int32) : Met l yX6_within wsX6_within ({ frames := 0, cells := 0, slots := 0, locals := 0 } : Room) (va_Pc [.int x, .int y, .int z] (Ro D cI cL cZ cO ([]))) (vp_Si (fun r => r = wi x y z)) 0 0 (fun _ => False) := by
  refine Met.ofW (cc := cX6_within) (maxL := 3) (ret := (some .boolean)) (by decide) rfl ?_
  intro p e s m args below meth c s₁ B hml hv
  obtain ⟨rfl, hP, hO⟩ := hv
  have hx := B.exec
  have hb := B.bytes
  have hr := B.returns
  have hts := atoms_spec (ws := wsX6_within) B.pre
  have hown : s.vm.findClass RX6 = some m.cls := findClass_of_methodNamed B.named
  have hlocks := B.notSynchronized
  have hK := hO.1
  have hl := lv_entry ([.int x, .int y, .int z]) (n := 3) (Nat.le_of_ble_eq_true rfl)
  rw [lg_entry_eq]
  generalize (lg_sl ([.int x, .int y, .int z]) ++ List.replicate (3 - (lg_sl ([.int x, .int y, .int z])).length) Slot.unset).toArray = ls at hl ⊢
  have hl : lv_has ls 3 [(0, .int x), (1, .int y), (2, .int z)] := hl
  generalize hQQ : MQ below _ _ s _ _ _ = QQ
  refine lv_iload_n hx hb dX6_within_0 rfl (lv_at hl 0 rfl) ?_
  refine lv_iload_n hx hb dX6_within_1 rfl (lv_at hl 1 rfl) ?_
  refine lv_icmp_lt (tgt := 14) hx hb dX6_within_2 (by decide) (fun c_2 => ?_) (fun c_2 => ?_)
  · skip
    refine lv_iconst (v := 0) hx hb dX6_within_14 (by decide) ?_
    rw [← hQQ]
    exact W.zret (v := 0) hx hb hr rfl (fun t ht hW => ⟨_, rfl, (wi_0 (fun q => i32_nlt.mpr q.1 c_2)).symm, ht⟩) (fun q h => by cases h) dX6_within_15
  · skip
    refine lv_iload_n hx hb dX6_within_5 rfl (lv_at hl 0 rfl) ?_
    refine lv_iload_n hx hb dX6_within_6 rfl (lv_at hl 2 rfl) ?_
    refine lv_icmp_gt (tgt := 14) hx hb dX6_within_7 (by decide) (fun c_7 => ?_) (fun c_7 => ?_)
    · skip
      refine lv_iconst (v := 0) hx hb dX6_within_14 (by decide) ?_
      rw [← hQQ]
      exact W.zret (v := 0) hx hb hr rfl (fun t ht hW => ⟨_, rfl, (wi_0 (fun q => i32_nlt.mpr q.2 c_7)).symm, ht⟩) (fun q h => by cases h) dX6_within_15
    · skip
      refine lv_iconst (v := 1) hx hb dX6_within_10 (by decide) ?_
      refine lv_goto (tgt := 15) hx hb dX6_within_11 (by decide) ?_
      rw [← hQQ]
      exact W.zret (v := 1) hx hb hr rfl (fun t ht hW => ⟨_, rfl, (wi_1 (i32_nlt.mp c_2) (i32_nlt.mp c_7)).symm, ht⟩) (fun q h => by cases h) dX6_within_15
set_option maxHeartbeats 4000000 in
set_option maxRecDepth 100000 in
theorem c_X7_in (l : Launch) (D : va_G) (cI cL cZ cO : ClassId) (x y z : Int32) : Met l yX7_in wsX7_in ({ frames := 0, cells := 0, slots := 0, locals := 0 } : Room) (va_Pc [.int x, .int y, .int z] (Ro D cI cL cZ cO ([]))) (vp_Si (fun r => r = wi x y z)) 0 0 (fun _ => False) := by
  refine Met.ofW (cc := cX7_in) (maxL := 3) (ret := (some .boolean)) (by decide) rfl ?_
  intro p e s m args below meth c s₁ B hml hv
  obtain ⟨rfl, hP, hO⟩ := hv
  have hx := B.exec
  have hb := B.bytes
  have hr := B.returns
  have hts := atoms_spec (ws := wsX7_in) B.pre
  have hown : s.vm.findClass RX7 = some m.cls := findClass_of_methodNamed B.named
  have hlocks := B.notSynchronized
  have hK := hO.1
  have hl := lv_entry ([.int x, .int y, .int z]) (n := 3) (Nat.le_of_ble_eq_true rfl)
  rw [lg_entry_eq]
  generalize (lg_sl ([.int x, .int y, .int z]) ++ List.replicate (3 - (lg_sl ([.int x, .int y, .int z])).length) Slot.unset).toArray = ls at hl ⊢
  have hl : lv_has ls 3 [(0, .int x), (1, .int y), (2, .int z)] := hl
  generalize hQQ : MQ below _ _ s _ _ _ = QQ
  refine lv_iload_n hx hb dX7_in_0 rfl (lv_at hl 0 rfl) ?_
  refine lv_iload_n hx hb dX7_in_1 rfl (lv_at hl 1 rfl) ?_
  refine lv_icmp_lt (tgt := 14) hx hb dX7_in_2 (by decide) (fun c_2 => ?_) (fun c_2 => ?_)
  · skip
    refine lv_iconst (v := 0) hx hb dX7_in_14 (by decide) ?_
    rw [← hQQ]
    exact W.zret (v := 0) hx hb hr rfl (fun t ht hW => ⟨_, rfl, (wi_0 (fun q => i32_nlt.mpr q.1 c_2)).symm, ht⟩) (fun q h => by cases h) dX7_in_15
  · skip
    refine lv_iload_n hx hb dX7_in_5 rfl (lv_at hl 0 rfl) ?_
    refine lv_iload_n hx hb dX7_in_6 rfl (lv_at hl 2 rfl) ?_
    refine lv_icmp_gt (tgt := 14) hx hb dX7_in_7 (by decide) (fun c_7 => ?_) (fun c_7 => ?_)
    · skip
      refine lv_iconst (v := 0) hx hb dX7_in_14 (by decide) ?_
      rw [← hQQ]
      exact W.zret (v := 0) hx hb hr rfl (fun t ht hW => ⟨_, rfl, (wi_0 (fun q => i32_nlt.mpr q.2 c_7)).symm, ht⟩) (fun q h => by cases h) dX7_in_15
    · skip
      refine lv_iconst (v := 1) hx hb dX7_in_10 (by decide) ?_
      refine lv_goto (tgt := 15) hx hb dX7_in_11 (by decide) ?_
      rw [← hQQ]
      exact W.zret (v := 1) hx hb hr rfl (fun t ht hW => ⟨_, rfl, (wi_1 (i32_nlt.mp c_2) (i32_nlt.mp c_7)).symm, ht⟩) (fun q h => by cases h) dX7_in_15
set_option maxHeartbeats 4000000 in
set_option maxRecDepth 100000 in
theorem c_X4_isLetHour (l : Launch) (D : va_G) (cI cL cZ cO : ClassId) (x y : Int32) : Met l yX4_isLetHour wsX4_isLetHour ({ frames := 1, cells := 0, slots := 0, locals := 22 } : Room) (va_Pc [.int x, .int y] (Ro D cI cL cZ cO ([]))) (vp_Si (fun r => r = ilh x y)) 0 0 (fun _ => False) := by
  refine Met.ofW (cc := cX4_isLetHour) (maxL := 2) (ret := (some .boolean)) (by decide) rfl ?_
  intro p e s m args below meth c s₁ B hml hv
  obtain ⟨rfl, hP, hO⟩ := hv
  have hx := B.exec
  have hb := B.bytes
  have hr := B.returns
  have hts := atoms_spec (ws := wsX4_isLetHour) B.pre
  have hown : s.vm.findClass RX4 = some m.cls := findClass_of_methodNamed B.named
  have hlocks := B.notSynchronized
  have hK := hO.1
  have hl := lv_entry ([.int x, .int y]) (n := 2) (Nat.le_of_ble_eq_true rfl)
  rw [lg_entry_eq]
  generalize (lg_sl ([.int x, .int y]) ++ List.replicate (2 - (lg_sl ([.int x, .int y])).length) Slot.unset).toArray = ls at hl ⊢
  have hl : lv_has ls 2 [(0, .int x), (1, .int y)] := hl
  generalize hQQ : MQ below _ _ s _ _ _ = QQ
  refine lv_iload_n hx hb dX4_isLetHour_0 rfl (lv_at hl 0 rfl) ?_
  refine lv_iconst (v := 0) hx hb dX4_isLetHour_1 (by decide) ?_
  refine lv_iconst (v := 2) hx hb dX4_isLetHour_2 (by decide) ?_
  refine roNi (As := [.int x, .int 0, .int 2]) (rest := []) ⟨hx, hb, hml, hown, hts⟩ (c_X6_within l D cI cL cZ cO x 0 2 ) ⟨va_cnB 3 hts gX4_isLetHour_X6_within_n29 rfl rfl rfl hO.2.1 (hts (.initialized RX6) (List.mem_of_getElem? (i := 2) rfl)) (by decide +kernel) ⟨Nat.le_of_ble_eq_true rfl, Nat.le_of_ble_eq_true rfl⟩, (hts (.static yX6_within) (List.mem_of_getElem? (i := 1) rfl)), trivial⟩ hO (fun k q h => by simp at h) rfl hl.1 rfl (Nat.le_of_ble_eq_true rfl) dX4_isLetHour_3 ⟨Nat.le_of_ble_eq_true rfl, Nat.le_of_ble_eq_true rfl⟩ (fun r_3 e_3 => ?_)
  obtain rfl : r_3 = wi x 0 2 := e_3
  refine lv_if_eq (tgt := 24) hx hb dX4_isLetHour_6 (by decide) (fun c_6 => ?_) (fun c_6 => ?_)
  · skip
    refine lv_iconst (v := 0) hx hb dX4_isLetHour_24 (by decide) ?_
    rw [← hQQ]
    exact W.zret (v := 0) hx hb hr rfl (fun t ht hW => ⟨_, rfl, by simp only [ilh, *]; try decide, ht⟩) (fun q h => by cases h) dX4_isLetHour_25
  · skip
    refine lv_iload_n hx hb dX4_isLetHour_9 rfl (lv_at hl 1 rfl) ?_
    refine lv_iconst (v := 0) hx hb dX4_isLetHour_10 (by decide) ?_
    refine lv_sipush (v := 199) hx hb dX4_isLetHour_11 (by decide) ?_
    refine roNi (As := [.int y, .int 0, .int 199]) (rest := []) ⟨hx, hb, hml, hown, hts⟩ (c_X6_within l D cI cL cZ cO y 0 199 ) ⟨va_cnB 3 hts gX4_isLetHour_X6_within_n29 rfl rfl rfl hO.2.1 (hts (.initialized RX6) (List.mem_of_getElem? (i := 2) rfl)) (by decide +kernel) ⟨Nat.le_of_ble_eq_true rfl, Nat.le_of_ble_eq_true rfl⟩, (hts (.static yX6_within) (List.mem_of_getElem? (i := 1) rfl)), trivial⟩ hO (fun k q h => by simp at h) rfl hl.1 rfl (Nat.le_of_ble_eq_true rfl) dX4_isLetHour_14 ⟨Nat.le_of_ble_eq_true rfl, Nat.le_of_ble_eq_true rfl⟩ (fun r_14 e_14 => ?_)
    obtain rfl : r_14 = wi y 0 199 := e_14
    refine lv_if_eq (tgt := 24) hx hb dX4_isLetHour_17 (by decide) (fun c_17 => ?_) (fun c_17 => ?_)
    · skip
      refine lv_iconst (v := 0) hx hb dX4_isLetHour_24 (by decide) ?_
      rw [← hQQ]
      exact W.zret (v := 0) hx hb hr rfl (fun t ht hW => ⟨_, rfl, by simp only [ilh, *]; try decide, ht⟩) (fun q h => by cases h) dX4_isLetHour_25
    · skip
      refine lv_iconst (v := 1) hx hb dX4_isLetHour_20 (by decide) ?_
      refine lv_goto (tgt := 25) hx hb dX4_isLetHour_21 (by decide) ?_
      rw [← hQQ]
      exact W.zret (v := 1) hx hb hr rfl (fun t ht hW => ⟨_, rfl, by simp only [ilh, *]; try decide, ht⟩) (fun q h => by cases h) dX4_isLetHour_25
set_option maxHeartbeats 4000000 in
set_option maxRecDepth 100000 in
theorem c_X2_canBe (l : Launch) (D : va_G) (cI cL cZ cO : ClassId) (x y z : Int32) : Met l yX2_canBe wsX2_canBe ({ frames := 1, cells := 0, slots := 0, locals := 22 } : Room) (va_Pc [.int x, .int y, .int z] (Ro D cI cL cZ cO ([]))) (vp_Si (fun r => r = tryOk x y z)) 0 0 (fun _ => False) := by
  refine Met.ofW (cc := cX2_canBe) (maxL := 3) (ret := (some .boolean)) (by decide) rfl ?_
  intro p e s m args below meth c s₁ B hml hv
  obtain ⟨rfl, hP, hO⟩ := hv
  have hx := B.exec
  have hb := B.bytes
  have hr := B.returns
  have hts := atoms_spec (ws := wsX2_canBe) B.pre
  have hown : s.vm.findClass RX2 = some m.cls := findClass_of_methodNamed B.named
  have hlocks := B.notSynchronized
  have hK := hO.1
  have hl := lv_entry ([.int x, .int y, .int z]) (n := 3) (Nat.le_of_ble_eq_true rfl)
  rw [lg_entry_eq]
  generalize (lg_sl ([.int x, .int y, .int z]) ++ List.replicate (3 - (lg_sl ([.int x, .int y, .int z])).length) Slot.unset).toArray = ls at hl ⊢
  have hl : lv_has ls 3 [(0, .int x), (1, .int y), (2, .int z)] := hl
  generalize hQQ : MQ below _ _ s _ _ _ = QQ
  refine lv_iload_n hx hb dX2_canBe_0 rfl (lv_at hl 0 rfl) ?_
  refine lv_iconst (v := 1) hx hb dX2_canBe_1 (by decide) ?_
  refine lv_bipush (v := 10) hx hb dX2_canBe_2 (by decide) ?_
  refine roNi (As := [.int x, .int 1, .int 10]) (rest := []) ⟨hx, hb, hml, hown, hts⟩ (c_X6_within l D cI cL cZ cO x 1 10 ) ⟨va_cnB 3 hts gX2_canBe_X6_within_n7 rfl rfl rfl hO.2.2.2.1 (hts (.initialized RX6) (List.mem_of_getElem? (i := 2) rfl)) (by decide +kernel) ⟨Nat.le_of_ble_eq_true rfl, Nat.le_of_ble_eq_true rfl⟩, (hts (.static yX6_within) (List.mem_of_getElem? (i := 1) rfl)), trivial⟩ hO (fun k q h => by simp at h) rfl hl.1 rfl (Nat.le_of_ble_eq_true rfl) dX2_canBe_4 ⟨Nat.le_of_ble_eq_true rfl, Nat.le_of_ble_eq_true rfl⟩ (fun r_4 e_4 => ?_)
  obtain rfl : r_4 = wi x 1 10 := e_4
  refine lv_if_eq (tgt := 33) hx hb dX2_canBe_7 (by decide) (fun c_7 => ?_) (fun c_7 => ?_)
  · skip
    refine lv_iconst (v := 0) hx hb dX2_canBe_33 (by decide) ?_
    rw [← hQQ]
    exact W.zret (v := 0) hx hb hr rfl (fun t ht hW => ⟨_, rfl, by simp only [tryOk, *]; try decide, ht⟩) (fun q h => by cases h) dX2_canBe_34
  · skip
    refine lv_iload_n hx hb dX2_canBe_10 rfl (lv_at hl 1 rfl) ?_
    refine lv_iconst (v := 0) hx hb dX2_canBe_11 (by decide) ?_
    refine lv_iconst (v := 2) hx hb dX2_canBe_12 (by decide) ?_
    refine roNi (As := [.int y, .int 0, .int 2]) (rest := []) ⟨hx, hb, hml, hown, hts⟩ (c_X6_within l D cI cL cZ cO y 0 2 ) ⟨va_cnB 3 hts gX2_canBe_X6_within_n7 rfl rfl rfl hO.2.2.2.1 (hts (.initialized RX6) (List.mem_of_getElem? (i := 2) rfl)) (by decide +kernel) ⟨Nat.le_of_ble_eq_true rfl, Nat.le_of_ble_eq_true rfl⟩, (hts (.static yX6_within) (List.mem_of_getElem? (i := 1) rfl)), trivial⟩ hO (fun k q h => by simp at h) rfl hl.1 rfl (Nat.le_of_ble_eq_true rfl) dX2_canBe_13 ⟨Nat.le_of_ble_eq_true rfl, Nat.le_of_ble_eq_true rfl⟩ (fun r_13 e_13 => ?_)
    obtain rfl : r_13 = wi y 0 2 := e_13
    refine lv_if_eq (tgt := 33) hx hb dX2_canBe_16 (by decide) (fun c_16 => ?_) (fun c_16 => ?_)
    · skip
      refine lv_iconst (v := 0) hx hb dX2_canBe_33 (by decide) ?_
      rw [← hQQ]
      exact W.zret (v := 0) hx hb hr rfl (fun t ht hW => ⟨_, rfl, by simp only [tryOk, *]; try decide, ht⟩) (fun q h => by cases h) dX2_canBe_34
    · skip
      refine lv_iload_n hx hb dX2_canBe_19 rfl (lv_at hl 2 rfl) ?_
      refine lv_iconst (v := 2) hx hb dX2_canBe_20 (by decide) ?_
      refine lv_bipush (v := 10) hx hb dX2_canBe_21 (by decide) ?_
      refine roNi (As := [.int z, .int 2, .int 10]) (rest := []) ⟨hx, hb, hml, hown, hts⟩ (c_X6_within l D cI cL cZ cO z 2 10 ) ⟨va_cnB 3 hts gX2_canBe_X6_within_n7 rfl rfl rfl hO.2.2.2.1 (hts (.initialized RX6) (List.mem_of_getElem? (i := 2) rfl)) (by decide +kernel) ⟨Nat.le_of_ble_eq_true rfl, Nat.le_of_ble_eq_true rfl⟩, (hts (.static yX6_within) (List.mem_of_getElem? (i := 1) rfl)), trivial⟩ hO (fun k q h => by simp at h) rfl hl.1 rfl (Nat.le_of_ble_eq_true rfl) dX2_canBe_23 ⟨Nat.le_of_ble_eq_true rfl, Nat.le_of_ble_eq_true rfl⟩ (fun r_23 e_23 => ?_)
      obtain rfl : r_23 = wi z 2 10 := e_23
      refine lv_if_eq (tgt := 33) hx hb dX2_canBe_26 (by decide) (fun c_26 => ?_) (fun c_26 => ?_)
      · skip
        refine lv_iconst (v := 0) hx hb dX2_canBe_33 (by decide) ?_
        rw [← hQQ]
        exact W.zret (v := 0) hx hb hr rfl (fun t ht hW => ⟨_, rfl, by simp only [tryOk, *]; try decide, ht⟩) (fun q h => by cases h) dX2_canBe_34
      · skip
        refine lv_iconst (v := 1) hx hb dX2_canBe_29 (by decide) ?_
        refine lv_goto (tgt := 34) hx hb dX2_canBe_30 (by decide) ?_
        rw [← hQQ]
        exact W.zret (v := 1) hx hb hr rfl (fun t ht hW => ⟨_, rfl, by simp only [tryOk, *]; try decide, ht⟩) (fun q h => by cases h) dX2_canBe_34
set_option maxHeartbeats 4000000 in
set_option maxRecDepth 100000 in
theorem c_X7_isTry (l : Launch) (D : va_G) (cI cL cZ cO : ClassId) (x y z : Int32) : Met l yX7_isTry wsX7_isTry ({ frames := 1, cells := 0, slots := 0, locals := 22 } : Room) (va_Pc [.int x, .int y, .int z] (Ro D cI cL cZ cO ([]))) (vp_Si (fun r => r = tryOk x y z)) 0 0 (fun _ => False) := by
  refine Met.ofW (cc := cX7_isTry) (maxL := 3) (ret := (some .boolean)) (by decide) rfl ?_
  intro p e s m args below meth c s₁ B hml hv
  obtain ⟨rfl, hP, hO⟩ := hv
  have hx := B.exec
  have hb := B.bytes
  have hr := B.returns
  have hts := atoms_spec (ws := wsX7_isTry) B.pre
  have hown : s.vm.findClass RX7 = some m.cls := findClass_of_methodNamed B.named
  have hlocks := B.notSynchronized
  have hK := hO.1
  have hl := lv_entry ([.int x, .int y, .int z]) (n := 3) (Nat.le_of_ble_eq_true rfl)
  rw [lg_entry_eq]
  generalize (lg_sl ([.int x, .int y, .int z]) ++ List.replicate (3 - (lg_sl ([.int x, .int y, .int z])).length) Slot.unset).toArray = ls at hl ⊢
  have hl : lv_has ls 3 [(0, .int x), (1, .int y), (2, .int z)] := hl
  generalize hQQ : MQ below _ _ s _ _ _ = QQ
  refine lv_iload_n hx hb dX7_isTry_0 rfl (lv_at hl 0 rfl) ?_
  refine lv_iconst (v := 1) hx hb dX7_isTry_1 (by decide) ?_
  refine lv_bipush (v := 10) hx hb dX7_isTry_2 (by decide) ?_
  refine roSi (As := [.int x, .int 1, .int 10]) (rest := []) ⟨hx, hb, hml, hown, hts⟩ (c_X7_in l D cI cL cZ cO x 1 10 ) (va_cwS 3 hts gX7_isTry_X7_in rfl rfl rfl (by decide +kernel) ⟨Nat.le_of_ble_eq_true rfl, Nat.le_of_ble_eq_true rfl⟩) hO (fun k q h => by simp at h) rfl hl.1 rfl (Nat.le_of_ble_eq_true rfl) dX7_isTry_4 ⟨Nat.le_of_ble_eq_true rfl, Nat.le_of_ble_eq_true rfl⟩ (fun r_4 e_4 => ?_)
  obtain rfl : r_4 = wi x 1 10 := e_4
  refine lv_if_eq (tgt := 33) hx hb dX7_isTry_7 (by decide) (fun c_7 => ?_) (fun c_7 => ?_)
  · skip
    refine lv_iconst (v := 0) hx hb dX7_isTry_33 (by decide) ?_
    rw [← hQQ]
    exact W.zret (v := 0) hx hb hr rfl (fun t ht hW => ⟨_, rfl, by simp only [tryOk, *]; try decide, ht⟩) (fun q h => by cases h) dX7_isTry_34
  · skip
    refine lv_iload_n hx hb dX7_isTry_10 rfl (lv_at hl 1 rfl) ?_
    refine lv_iconst (v := 0) hx hb dX7_isTry_11 (by decide) ?_
    refine lv_iconst (v := 2) hx hb dX7_isTry_12 (by decide) ?_
    refine roSi (As := [.int y, .int 0, .int 2]) (rest := []) ⟨hx, hb, hml, hown, hts⟩ (c_X7_in l D cI cL cZ cO y 0 2 ) (va_cwS 3 hts gX7_isTry_X7_in rfl rfl rfl (by decide +kernel) ⟨Nat.le_of_ble_eq_true rfl, Nat.le_of_ble_eq_true rfl⟩) hO (fun k q h => by simp at h) rfl hl.1 rfl (Nat.le_of_ble_eq_true rfl) dX7_isTry_13 ⟨Nat.le_of_ble_eq_true rfl, Nat.le_of_ble_eq_true rfl⟩ (fun r_13 e_13 => ?_)
    obtain rfl : r_13 = wi y 0 2 := e_13
    refine lv_if_eq (tgt := 33) hx hb dX7_isTry_16 (by decide) (fun c_16 => ?_) (fun c_16 => ?_)
    · skip
      refine lv_iconst (v := 0) hx hb dX7_isTry_33 (by decide) ?_
      rw [← hQQ]
      exact W.zret (v := 0) hx hb hr rfl (fun t ht hW => ⟨_, rfl, by simp only [tryOk, *]; try decide, ht⟩) (fun q h => by cases h) dX7_isTry_34
    · skip
      refine lv_iload_n hx hb dX7_isTry_19 rfl (lv_at hl 2 rfl) ?_
      refine lv_iconst (v := 2) hx hb dX7_isTry_20 (by decide) ?_
      refine lv_bipush (v := 10) hx hb dX7_isTry_21 (by decide) ?_
      refine roSi (As := [.int z, .int 2, .int 10]) (rest := []) ⟨hx, hb, hml, hown, hts⟩ (c_X7_in l D cI cL cZ cO z 2 10 ) (va_cwS 3 hts gX7_isTry_X7_in rfl rfl rfl (by decide +kernel) ⟨Nat.le_of_ble_eq_true rfl, Nat.le_of_ble_eq_true rfl⟩) hO (fun k q h => by simp at h) rfl hl.1 rfl (Nat.le_of_ble_eq_true rfl) dX7_isTry_23 ⟨Nat.le_of_ble_eq_true rfl, Nat.le_of_ble_eq_true rfl⟩ (fun r_23 e_23 => ?_)
      obtain rfl : r_23 = wi z 2 10 := e_23
      refine lv_if_eq (tgt := 33) hx hb dX7_isTry_26 (by decide) (fun c_26 => ?_) (fun c_26 => ?_)
      · skip
        refine lv_iconst (v := 0) hx hb dX7_isTry_33 (by decide) ?_
        rw [← hQQ]
        exact W.zret (v := 0) hx hb hr rfl (fun t ht hW => ⟨_, rfl, by simp only [tryOk, *]; try decide, ht⟩) (fun q h => by cases h) dX7_isTry_34
      · skip
        refine lv_iconst (v := 1) hx hb dX7_isTry_29 (by decide) ?_
        refine lv_goto (tgt := 34) hx hb dX7_isTry_30 (by decide) ?_
        rw [← hQQ]
        exact W.zret (v := 1) hx hb hr rfl (fun t ht hW => ⟨_, rfl, by simp only [tryOk, *]; try decide, ht⟩) (fun q h => by cases h) dX7_isTry_34
set_option maxHeartbeats 4000000 in
set_option maxRecDepth 100000 in
theorem c_X2_power (l : Launch) (D : va_G) (cI cL cZ cO : ClassId) (b : Int32) (t : Nat) (ht : t < 2 ^ 31) : Met l yX2_power wsX2_power ({ frames := 0, cells := 0, slots := 0, locals := 0 } : Room) (va_Pc [.int b, .int (nI t)] (Ro D cI cL cZ cO ([]))) (vp_Sl (fun r => r = pw b t)) 0 0 (fun _ => False) := by
  refine Met.ofW (cc := cX2_power) (maxL := 5) (ret := (some .long)) (by decide) rfl ?_
  intro p e s m args below meth c s₁ B hml hv
  obtain ⟨rfl, hP, hO⟩ := hv
  have hx := B.exec
  have hb := B.bytes
  have hr := B.returns
  have hts := atoms_spec (ws := wsX2_power) B.pre
  have hown : s.vm.findClass RX2 = some m.cls := findClass_of_methodNamed B.named
  have hlocks := B.notSynchronized
  have hK := hO.1
  have hl := lv_entry ([.int b, .int (nI t)]) (n := 5) (Nat.le_of_ble_eq_true rfl)
  rw [lg_entry_eq]
  generalize (lg_sl ([.int b, .int (nI t)]) ++ List.replicate (5 - (lg_sl ([.int b, .int (nI t)])).length) Slot.unset).toArray = ls at hl ⊢
  have hl : lv_has ls 5 [(0, .int b), (1, .int (nI t))] := hl
  generalize hQQ : MQ below _ _ s _ _ _ = QQ
  refine lv_lconst (v := 1) hx hb dX2_power_0 (by decide) ?_
  refine lv_lstore_n (lv' := [(2, .long 1), (0, .int b), (1, .int (nI t))]) hx hb dX2_power_1 rfl hl (by decide) rfl (fun ls hl => ?_)
  refine lv_iconst (v := 0) hx hb dX2_power_2 (by decide) ?_
  refine lv_istore (lv' := [(4, .int 0), (2, .long 1), (0, .int b), (1, .int (nI t))]) hx hb dX2_power_3 hl (by decide) rfl (fun ls hl => ?_)
  have L5 : ∀ (n0 : Nat) (k : Nat) (v : Int64) (ls : Array Slot), t - k < n0 → (k ≤ t) → (v = pw b k) → lv_has ls 5 [(4, .int (nI k)), (2, .long v), (0, .int b), (1, .int (nI t))] → W p l e (headSpec wsX2_power ({ frames := 0, cells := 0, slots := 0, locals := 0 } : Room)).room s m ([.int b, .int (nI t)] : List Value).toArray below meth c s.heap [] 0 0 QQ (F0 m 5 ls []) := by
    intro n0
    induction n0 with
    | zero =>
      intro k v ls hmu
      exact absurd hmu (Nat.not_lt_zero _)
    | succ n0 ih5 =>
      intro k v ls hmu hk hv hl
      refine lv_iload hx hb dX2_power_5 (lv_at hl 0 rfl) ?_
      refine lv_iload_n hx hb dX2_power_7 rfl (lv_at hl 3 rfl) ?_
      refine n_icmp_ge (x := k) (y := t) (tgt := 22) hx hb dX2_power_8 (by decide) (by omega) (by omega) (fun c_8 => ?_) (fun c_8 => ?_)
      · skip
        refine lv_lload_n hx hb dX2_power_22 rfl (lv_at hl 1 rfl) ?_
        rw [← hQQ]
        exact W.lret (v := v) hx hb hr (fun t ht hW => ⟨_, rfl, by rw [hv, show k = t by omega], ht⟩) (fun q h => by cases h) dX2_power_23
      · skip
        refine lv_lload_n hx hb dX2_power_11 rfl (lv_at hl 1 rfl) ?_
        refine lv_iload_n hx hb dX2_power_12 rfl (lv_at hl 2 rfl) ?_
        refine lv_i2l (v := b.toInt64) hx hb dX2_power_13 rfl ?_
        refine lv_lmul hx hb dX2_power_14 ?_
        refine lv_lstore_n (lv' := [(2, .long (v * b.toInt64)), (4, .int (nI k)), (0, .int b), (1, .int (nI t))]) hx hb dX2_power_15 rfl hl (by decide) rfl (fun ls hl => ?_)
        refine lv_iinc (v := (nI (k + 1))) (lv' := [(4, .int (nI (k + 1))), (2, .long (v * b.toInt64)), (0, .int b), (1, .int (nI t))]) hx hb dX2_power_16 hl (k := 1) rfl (nI_add k 1) (by decide) rfl (fun ls hl => ?_)
        refine lv_goto (tgt := 5) hx hb dX2_power_19 (by decide) ?_
        exact ih5 (k + 1) (v * b.toInt64) _ (by omega) (by omega) (by rw [hv]; rfl) (lv_sub hl [0, 1, 2, 3] rfl)
  exact L5 _ 0 1 _ (Nat.lt_succ_self _) (Nat.zero_le _) rfl (lv_sub hl [0, 1, 2, 3] rfl)
set_option maxHeartbeats 4000000 in
set_option maxRecDepth 100000 in
theorem c_X7_power (l : Launch) (D : va_G) (cI cL cZ cO : ClassId) (b : Int32) (t : Nat) (ht : t < 2 ^ 31) : Met l yX7_power wsX7_power ({ frames := 0, cells := 0, slots := 0, locals := 0 } : Room) (va_Pc [.int b, .int (nI t)] (Ro D cI cL cZ cO ([]))) (vp_Sl (fun r => r = pw b t)) 0 0 (fun _ => False) := by
  refine Met.ofW (cc := cX7_power) (maxL := 5) (ret := (some .long)) (by decide) rfl ?_
  intro p e s m args below meth c s₁ B hml hv
  obtain ⟨rfl, hP, hO⟩ := hv
  have hx := B.exec
  have hb := B.bytes
  have hr := B.returns
  have hts := atoms_spec (ws := wsX7_power) B.pre
  have hown : s.vm.findClass RX7 = some m.cls := findClass_of_methodNamed B.named
  have hlocks := B.notSynchronized
  have hK := hO.1
  have hl := lv_entry ([.int b, .int (nI t)]) (n := 5) (Nat.le_of_ble_eq_true rfl)
  rw [lg_entry_eq]
  generalize (lg_sl ([.int b, .int (nI t)]) ++ List.replicate (5 - (lg_sl ([.int b, .int (nI t)])).length) Slot.unset).toArray = ls at hl ⊢
  have hl : lv_has ls 5 [(0, .int b), (1, .int (nI t))] := hl
  generalize hQQ : MQ below _ _ s _ _ _ = QQ
  refine lv_lconst (v := 1) hx hb dX7_power_0 (by decide) ?_
  refine lv_lstore_n (lv' := [(2, .long 1), (0, .int b), (1, .int (nI t))]) hx hb dX7_power_1 rfl hl (by decide) rfl (fun ls hl => ?_)
  refine lv_iconst (v := 0) hx hb dX7_power_2 (by decide) ?_
  refine lv_istore (lv' := [(4, .int 0), (2, .long 1), (0, .int b), (1, .int (nI t))]) hx hb dX7_power_3 hl (by decide) rfl (fun ls hl => ?_)
  have L5 : ∀ (n0 : Nat) (k : Nat) (v : Int64) (ls : Array Slot), t - k < n0 → (k ≤ t) → (v = pw b k) → lv_has ls 5 [(4, .int (nI k)), (2, .long v), (0, .int b), (1, .int (nI t))] → W p l e (headSpec wsX7_power ({ frames := 0, cells := 0, slots := 0, locals := 0 } : Room)).room s m ([.int b, .int (nI t)] : List Value).toArray below meth c s.heap [] 0 0 QQ (F0 m 5 ls []) := by
    intro n0
    induction n0 with
    | zero =>
      intro k v ls hmu
      exact absurd hmu (Nat.not_lt_zero _)
    | succ n0 ih5 =>
      intro k v ls hmu hk hv hl
      refine lv_iload hx hb dX7_power_5 (lv_at hl 0 rfl) ?_
      refine lv_iload_n hx hb dX7_power_7 rfl (lv_at hl 3 rfl) ?_
      refine n_icmp_ge (x := k) (y := t) (tgt := 22) hx hb dX7_power_8 (by decide) (by omega) (by omega) (fun c_8 => ?_) (fun c_8 => ?_)
      · skip
        refine lv_lload_n hx hb dX7_power_22 rfl (lv_at hl 1 rfl) ?_
        rw [← hQQ]
        exact W.lret (v := v) hx hb hr (fun t ht hW => ⟨_, rfl, by rw [hv, show k = t by omega], ht⟩) (fun q h => by cases h) dX7_power_23
      · skip
        refine lv_lload_n hx hb dX7_power_11 rfl (lv_at hl 1 rfl) ?_
        refine lv_iload_n hx hb dX7_power_12 rfl (lv_at hl 2 rfl) ?_
        refine lv_i2l (v := b.toInt64) hx hb dX7_power_13 rfl ?_
        refine lv_lmul hx hb dX7_power_14 ?_
        refine lv_lstore_n (lv' := [(2, .long (v * b.toInt64)), (4, .int (nI k)), (0, .int b), (1, .int (nI t))]) hx hb dX7_power_15 rfl hl (by decide) rfl (fun ls hl => ?_)
        refine lv_iinc (v := (nI (k + 1))) (lv' := [(4, .int (nI (k + 1))), (2, .long (v * b.toInt64)), (0, .int b), (1, .int (nI t))]) hx hb dX7_power_16 hl (k := 1) rfl (nI_add k 1) (by decide) rfl (fun ls hl => ?_)
        refine lv_goto (tgt := 5) hx hb dX7_power_19 (by decide) ?_
        exact ih5 (k + 1) (v * b.toInt64) _ (by omega) (by omega) (by rw [hv]; rfl) (lv_sub hl [0, 1, 2, 3] rfl)
  exact L5 _ 0 1 _ (Nat.lt_succ_self _) (Nat.zero_le _) rfl (lv_sub hl [0, 1, 2, 3] rfl)
set_option maxHeartbeats 4000000 in
set_option maxRecDepth 100000 in
theorem c_X2_above (l : Launch) (D : va_G) (cI cL cZ cO : ClassId) (w sv q sp li : Nat) (hw : w ≤ 10) (hsv : sv ≤ 2) (hq : 2 ≤ q ∧ q ≤ 10) (hsp : sp + sv ≤ li) (hli : li < 1000) : Met l yX2_above wsX2_above ({ frames := 1, cells := 0, slots := 0, locals := 24 } : Room) (va_Pc [.int (nI w), .int (nI sv), .int (nI q), .int (nI sp), .int (nI li)] (Ro D cI cL cZ cO ([]))) (vp_Sl (fun r => r = abF sv q sp li w w 0)) 0 0 (fun _ => False) := by
  refine Met.ofW (cc := cX2_above) (maxL := 13) (ret := (some .long)) (by decide) rfl ?_
  intro p e s m args below meth c s₁ B hml hv
  obtain ⟨rfl, hP, hO⟩ := hv
  have hx := B.exec
  have hb := B.bytes
  have hr := B.returns
  have hts := atoms_spec (ws := wsX2_above) B.pre
  have hown : s.vm.findClass RX2 = some m.cls := findClass_of_methodNamed B.named
  have hlocks := B.notSynchronized
  have hK := hO.1
  have hl := lv_entry ([.int (nI w), .int (nI sv), .int (nI q), .int (nI sp), .int (nI li)]) (n := 13) (Nat.le_of_ble_eq_true rfl)
  rw [lg_entry_eq]
  generalize (lg_sl ([.int (nI w), .int (nI sv), .int (nI q), .int (nI sp), .int (nI li)]) ++ List.replicate (13 - (lg_sl ([.int (nI w), .int (nI sv), .int (nI q), .int (nI sp), .int (nI li)])).length) Slot.unset).toArray = ls at hl ⊢
  have hl : lv_has ls 13 [(0, .int (nI w)), (1, .int (nI sv)), (2, .int (nI q)), (3, .int (nI sp)), (4, .int (nI li))] := hl
  generalize hQQ : MQ below _ _ s _ _ _ = QQ
  refine lv_lconst (v := 0) hx hb dX2_above_0 (by decide) ?_
  refine lv_lstore (lv' := [(5, .long 0), (0, .int (nI w)), (1, .int (nI sv)), (2, .int (nI q)), (3, .int (nI sp)), (4, .int (nI li))]) hx hb dX2_above_1 hl (by decide) rfl (fun ls hl => ?_)
  refine lv_iload_n hx hb dX2_above_3 rfl (lv_at hl 1 rfl) ?_
  refine lv_istore (lv' := [(7, .int (nI w)), (5, .long 0), (0, .int (nI w)), (1, .int (nI sv)), (2, .int (nI q)), (3, .int (nI sp)), (4, .int (nI li))]) hx hb dX2_above_4 hl (by decide) rfl (fun ls hl => ?_)
  refine lv_iconst (v := 0) hx hb dX2_above_6 (by decide) ?_
  refine lv_istore (lv' := [(8, .int 0), (7, .int (nI w)), (5, .long 0), (0, .int (nI w)), (1, .int (nI sv)), (2, .int (nI q)), (3, .int (nI sp)), (4, .int (nI li))]) hx hb dX2_above_7 hl (by decide) rfl (fun ls hl => ?_)
  have L9 : ∀ (n0 : Nat) (k : Nat) (lf : Nat) (v : Int64) (ls : Array Slot), w - k < n0 → (k ≤ w) → (lf ≤ w) → (abF sv q sp li (w - k) lf v = abF sv q sp li w w 0) → lv_has ls 13 [(8, .int (nI k)), (7, .int (nI lf)), (5, .long v), (0, .int (nI w)), (1, .int (nI sv)), (2, .int (nI q)), (3, .int (nI sp)), (4, .int (nI li))] → W p l e (headSpec wsX2_above ({ frames := 1, cells := 0, slots := 0, locals := 24 } : Room)).room s m ([.int (nI w), .int (nI sv), .int (nI q), .int (nI sp), .int (nI li)] : List Value).toArray below meth c s.heap [] 0 0 QQ (F0 m 9 ls []) := by
    intro n0
    induction n0 with
    | zero =>
      intro k lf v ls hmu
      exact absurd hmu (Nat.not_lt_zero _)
    | succ n0 ih9 =>
      intro k lf v ls hmu hk hlf hv hl
      refine lv_iload hx hb dX2_above_9 (lv_at hl 0 rfl) ?_
      refine lv_iload_n hx hb dX2_above_11 rfl (lv_at hl 3 rfl) ?_
      refine n_icmp_ge (x := k) (y := w) (tgt := 86) hx hb dX2_above_12 (by decide) (by omega) (by omega) (fun c_12 => ?_) (fun c_12 => ?_)
      · skip
        refine lv_lload hx hb dX2_above_86 (lv_at hl 2 rfl) ?_
        rw [← hQQ]
        exact W.lret (v := v) hx hb hr (fun t ht hW => ⟨_, rfl, (by rw [← hv, abF_0 (by omega)]), ht⟩) (fun q h => by cases h) dX2_above_88
      · skip
        refine lv_iload hx hb dX2_above_15 (lv_at hl 1 rfl) ?_
        refine n_if_le (x := lf) (tgt := 86) hx hb dX2_above_17 (by decide) (by omega) (fun c_17 => ?_) (fun c_17 => ?_)
        · skip
          refine lv_lload hx hb dX2_above_86 (lv_at hl 2 rfl) ?_
          rw [← hQQ]
          exact W.lret (v := v) hx hb hr (fun t ht hW => ⟨_, rfl, (by rw [← hv, abF_0 (by omega)]), ht⟩) (fun q h => by cases h) dX2_above_88
        · skip
          refine lv_iload_n hx hb dX2_above_20 rfl (lv_at hl 6 rfl) ?_
          refine lv_iload hx hb dX2_above_21 (lv_at hl 1 rfl) ?_
          refine va_mmin hx hb (hml.trans hl.1.symm) hown (hts (.methodLink RX2 19 Lib.Math.min.name) (List.mem_of_getElem? (i := 1) rfl)) (hts (.static Lib.Math.min.name) (List.mem_of_getElem? (i := 2) rfl)) (hts (.initialized "java/lang/Math") (List.mem_of_getElem? (i := 3) rfl)) (hts (.code Lib.Math.min.name Lib.Math.min.code 2 (some .int)) (List.mem_of_getElem? (i := 4) rfl)) (Nat.le_of_ble_eq_true rfl) (Nat.le_of_ble_eq_true rfl) (Nat.le_of_ble_eq_true rfl) (Nat.le_of_ble_eq_true rfl) (x := (nI sp)) (y := (nI lf)) dX2_above_23 ?_
          refine lv_seti (v := nI (min sp lf)) (n_min (by omega) (by omega)) ?_
          refine lv_istore (lv' := [(9, .int (nI (min sp lf))), (8, .int (nI k)), (7, .int (nI lf)), (5, .long v), (0, .int (nI w)), (1, .int (nI sv)), (2, .int (nI q)), (3, .int (nI sp)), (4, .int (nI li))]) hx hb dX2_above_26 hl (by decide) rfl (fun ls hl => ?_)
          refine lv_iload hx hb dX2_above_28 (lv_at hl 0 rfl) ?_
          refine lv_iload_n hx hb dX2_above_30 rfl (lv_at hl 5 rfl) ?_
          refine n_iadd (x := (min sp lf)) (y := sv) hx hb dX2_above_31 ?_
          refine lv_istore (lv' := [(10, .int (nI ((min sp lf) + sv))), (9, .int (nI (min sp lf))), (8, .int (nI k)), (7, .int (nI lf)), (5, .long v), (0, .int (nI w)), (1, .int (nI sv)), (2, .int (nI q)), (3, .int (nI sp)), (4, .int (nI li))]) hx hb dX2_above_32 hl (by decide) rfl (fun ls hl => ?_)
          refine lv_iload_n hx hb dX2_above_34 rfl (lv_at hl 7 rfl) ?_
          refine lv_iconst (v := 1) hx hb dX2_above_35 (by decide) ?_
          refine n_isub (x := q) (y := 1) hx hb dX2_above_36 (by omega) ?_
          refine lv_iload hx hb dX2_above_37 (lv_at hl 0 rfl) ?_
          refine roSl (As := [.int (nI (q - 1)), .int (nI ((min sp lf) + sv))]) (rest := []) ⟨hx, hb, hml, hown, hts⟩ (c_X2_power l D cI cL cZ cO (nI (q - 1)) ((min sp lf) + sv) (by omega)) (va_cwS 2 hts gX2_above_X2_power rfl rfl rfl (by decide +kernel) ⟨Nat.le_of_ble_eq_true rfl, Nat.le_of_ble_eq_true rfl⟩) hO (fun k q h => by simp at h) rfl hl.1 rfl (Nat.le_of_ble_eq_true rfl) dX2_above_39 ⟨Nat.le_of_ble_eq_true rfl, Nat.le_of_ble_eq_true rfl⟩ (fun r_39 e_39 => ?_)
          obtain rfl : r_39 = pw (nI (q - 1)) ((min sp lf) + sv) := e_39
          refine lv_lstore (lv' := [(11, .long (pw (nI (q - 1)) ((min sp lf) + sv))), (10, .int (nI ((min sp lf) + sv))), (9, .int (nI (min sp lf))), (8, .int (nI k)), (7, .int (nI lf)), (5, .long v), (0, .int (nI w)), (1, .int (nI sv)), (2, .int (nI q)), (3, .int (nI sp)), (4, .int (nI li))]) hx hb dX2_above_42 hl (by decide) rfl (fun ls hl => ?_)
          refine lv_lload hx hb dX2_above_44 (lv_at hl 5 rfl) ?_
          refine lv_iload_n hx hb dX2_above_46 rfl (lv_at hl 8 rfl) ?_
          refine lv_i2l (v := (nI q).toInt64) hx hb dX2_above_47 rfl ?_
          refine lv_iload_n hx hb dX2_above_48 rfl (lv_at hl 8 rfl) ?_
          refine lv_iload hx hb dX2_above_49 (lv_at hl 1 rfl) ?_
          refine roSl (As := [.int (nI q), .int (nI ((min sp lf) + sv))]) (rest := [.long ((nI q).toInt64), .long v]) ⟨hx, hb, hml, hown, hts⟩ (c_X2_power l D cI cL cZ cO (nI q) ((min sp lf) + sv) (by omega)) (va_cwS 2 hts gX2_above_X2_power rfl rfl rfl (by decide +kernel) ⟨Nat.le_of_ble_eq_true rfl, Nat.le_of_ble_eq_true rfl⟩) hO (fun k q h => by simp at h) rfl hl.1 rfl (Nat.le_of_ble_eq_true rfl) dX2_above_51 ⟨Nat.le_of_ble_eq_true rfl, Nat.le_of_ble_eq_true rfl⟩ (fun r_51 e_51 => ?_)
          obtain rfl : r_51 = pw (nI q) ((min sp lf) + sv) := e_51
          refine lv_lload hx hb dX2_above_54 (lv_at hl 0 rfl) ?_
          refine lv_lsub hx hb dX2_above_56 ?_
          refine lv_lmul hx hb dX2_above_57 ?_
          refine lv_iload_n hx hb dX2_above_58 rfl (lv_at hl 8 rfl) ?_
          refine lv_iconst (v := 1) hx hb dX2_above_59 (by decide) ?_
          refine n_isub (x := q) (y := 1) hx hb dX2_above_60 (by omega) ?_
          refine lv_iload hx hb dX2_above_61 (lv_at hl 10 rfl) ?_
          refine lv_iload hx hb dX2_above_63 (lv_at hl 1 rfl) ?_
          refine n_isub (x := li) (y := ((min sp lf) + sv)) hx hb dX2_above_65 (by omega) ?_
          refine roSl (As := [.int (nI (q - 1)), .int (nI (li - ((min sp lf) + sv)))]) (rest := [.long (((nI q).toInt64) * ((pw (nI q) ((min sp lf) + sv)) - (pw (nI (q - 1)) ((min sp lf) + sv)))), .long v]) ⟨hx, hb, hml, hown, hts⟩ (c_X2_power l D cI cL cZ cO (nI (q - 1)) (li - ((min sp lf) + sv)) (by omega)) (va_cwS 2 hts gX2_above_X2_power rfl rfl rfl (by decide +kernel) ⟨Nat.le_of_ble_eq_true rfl, Nat.le_of_ble_eq_true rfl⟩) hO (fun k q h => by simp at h) rfl hl.1 rfl (Nat.le_of_ble_eq_true rfl) dX2_above_66 ⟨Nat.le_of_ble_eq_true rfl, Nat.le_of_ble_eq_true rfl⟩ (fun r_66 e_66 => ?_)
          obtain rfl : r_66 = pw (nI (q - 1)) (li - ((min sp lf) + sv)) := e_66
          refine lv_lmul hx hb dX2_above_69 ?_
          refine lv_ladd hx hb dX2_above_70 ?_
          refine lv_lstore (lv' := [(5, .long (v + ((((nI q).toInt64) * ((pw (nI q) ((min sp lf) + sv)) - (pw (nI (q - 1)) ((min sp lf) + sv)))) * (pw (nI (q - 1)) (li - ((min sp lf) + sv)))))), (11, .long (pw (nI (q - 1)) ((min sp lf) + sv))), (10, .int (nI ((min sp lf) + sv))), (9, .int (nI (min sp lf))), (8, .int (nI k)), (7, .int (nI lf)), (0, .int (nI w)), (1, .int (nI sv)), (2, .int (nI q)), (3, .int (nI sp)), (4, .int (nI li))]) hx hb dX2_above_71 hl (by decide) rfl (fun ls hl => ?_)
          refine lv_iload hx hb dX2_above_73 (lv_at hl 5 rfl) ?_
          refine lv_iload hx hb dX2_above_75 (lv_at hl 3 rfl) ?_
          refine n_isub (x := lf) (y := (min sp lf)) hx hb dX2_above_77 (by omega) ?_
          refine lv_istore (lv' := [(7, .int (nI (lf - (min sp lf)))), (5, .long (v + ((((nI q).toInt64) * ((pw (nI q) ((min sp lf) + sv)) - (pw (nI (q - 1)) ((min sp lf) + sv)))) * (pw (nI (q - 1)) (li - ((min sp lf) + sv)))))), (11, .long (pw (nI (q - 1)) ((min sp lf) + sv))), (10, .int (nI ((min sp lf) + sv))), (9, .int (nI (min sp lf))), (8, .int (nI k)), (0, .int (nI w)), (1, .int (nI sv)), (2, .int (nI q)), (3, .int (nI sp)), (4, .int (nI li))]) hx hb dX2_above_78 hl (by decide) rfl (fun ls hl => ?_)
          refine lv_iinc (v := (nI (k + 1))) (lv' := [(8, .int (nI (k + 1))), (7, .int (nI (lf - (min sp lf)))), (5, .long (v + ((((nI q).toInt64) * ((pw (nI q) ((min sp lf) + sv)) - (pw (nI (q - 1)) ((min sp lf) + sv)))) * (pw (nI (q - 1)) (li - ((min sp lf) + sv)))))), (11, .long (pw (nI (q - 1)) ((min sp lf) + sv))), (10, .int (nI ((min sp lf) + sv))), (9, .int (nI (min sp lf))), (0, .int (nI w)), (1, .int (nI sv)), (2, .int (nI q)), (3, .int (nI sp)), (4, .int (nI li))]) hx hb dX2_above_80 hl (k := 5) rfl (nI_add k 1) (by decide) rfl (fun ls hl => ?_)
          refine lv_goto (tgt := 9) hx hb dX2_above_83 (by decide) ?_
          exact ih9 (k + 1) (lf - (min sp lf)) (v + ((((nI q).toInt64) * ((pw (nI q) ((min sp lf) + sv)) - (pw (nI (q - 1)) ((min sp lf) + sv)))) * (pw (nI (q - 1)) (li - ((min sp lf) + sv))))) _ (by omega) (by omega) (by omega) (by rw [← hv, show w - k = w - (k + 1) + 1 by omega, abF_s c_17, abF_cut, abF_sum]) (lv_sub hl [0, 1, 2, 6, 7, 8, 9, 10] rfl)
  exact L9 _ 0 w 0 _ (Nat.lt_succ_self _) (Nat.zero_le _) (Nat.le_refl _) rfl (lv_sub hl [0, 1, 2, 3, 4, 5, 6, 7] rfl)
set_option maxHeartbeats 4000000 in
set_option maxRecDepth 100000 in
theorem c_X7_tries (l : Launch) (D : va_G) (cI cL cZ cO : ClassId) (n q al : Nat) (hq : 1 ≤ q) (hn : n ≤ al) (hal : al < 1000) : Met l yX7_tries wsX7_tries ({ frames := 1, cells := 0, slots := 0, locals := 24 } : Room) (va_Pc [.int (nI n), .int (nI q), .int (nI al)] (Ro D cI cL cZ cO ([]))) (vp_Sl (fun r => r = tr1 q n al)) 0 0 (fun _ => False) := by
  refine Met.ofW (cc := cX7_tries) (maxL := 3) (ret := (some .long)) (by decide) rfl ?_
  intro p e s m args below meth c s₁ B hml hv
  obtain ⟨rfl, hP, hO⟩ := hv
  have hx := B.exec
  have hb := B.bytes
  have hr := B.returns
  have hts := atoms_spec (ws := wsX7_tries) B.pre
  have hown : s.vm.findClass RX7 = some m.cls := findClass_of_methodNamed B.named
  have hlocks := B.notSynchronized
  have hK := hO.1
  have hl := lv_entry ([.int (nI n), .int (nI q), .int (nI al)]) (n := 3) (Nat.le_of_ble_eq_true rfl)
  rw [lg_entry_eq]
  generalize (lg_sl ([.int (nI n), .int (nI q), .int (nI al)]) ++ List.replicate (3 - (lg_sl ([.int (nI n), .int (nI q), .int (nI al)])).length) Slot.unset).toArray = ls at hl ⊢
  have hl : lv_has ls 3 [(0, .int (nI n)), (1, .int (nI q)), (2, .int (nI al))] := hl
  generalize hQQ : MQ below _ _ s _ _ _ = QQ
  refine lv_iload_n hx hb dX7_tries_0 rfl (lv_at hl 1 rfl) ?_
  refine lv_i2l (v := (nI q).toInt64) hx hb dX7_tries_1 rfl ?_
  refine lv_iload_n hx hb dX7_tries_2 rfl (lv_at hl 1 rfl) ?_
  refine lv_iload_n hx hb dX7_tries_3 rfl (lv_at hl 0 rfl) ?_
  refine roSl (As := [.int (nI q), .int (nI n)]) (rest := [.long ((nI q).toInt64)]) ⟨hx, hb, hml, hown, hts⟩ (c_X7_power l D cI cL cZ cO (nI q) n (by omega)) (va_cwS 2 hts gX7_tries_X7_power rfl rfl rfl (by decide +kernel) ⟨Nat.le_of_ble_eq_true rfl, Nat.le_of_ble_eq_true rfl⟩) hO (fun k q h => by simp at h) rfl hl.1 rfl (Nat.le_of_ble_eq_true rfl) dX7_tries_4 ⟨Nat.le_of_ble_eq_true rfl, Nat.le_of_ble_eq_true rfl⟩ (fun r_4 e_4 => ?_)
  obtain rfl : r_4 = pw (nI q) n := e_4
  refine lv_iload_n hx hb dX7_tries_7 rfl (lv_at hl 1 rfl) ?_
  refine lv_iconst (v := 1) hx hb dX7_tries_8 (by decide) ?_
  refine n_isub (x := q) (y := 1) hx hb dX7_tries_9 (by omega) ?_
  refine lv_iload_n hx hb dX7_tries_10 rfl (lv_at hl 0 rfl) ?_
  refine roSl (As := [.int (nI (q - 1)), .int (nI n)]) (rest := [.long (pw (nI q) n), .long ((nI q).toInt64)]) ⟨hx, hb, hml, hown, hts⟩ (c_X7_power l D cI cL cZ cO (nI (q - 1)) n (by omega)) (va_cwS 2 hts gX7_tries_X7_power rfl rfl rfl (by decide +kernel) ⟨Nat.le_of_ble_eq_true rfl, Nat.le_of_ble_eq_true rfl⟩) hO (fun k q h => by simp at h) rfl hl.1 rfl (Nat.le_of_ble_eq_true rfl) dX7_tries_11 ⟨Nat.le_of_ble_eq_true rfl, Nat.le_of_ble_eq_true rfl⟩ (fun r_11 e_11 => ?_)
  obtain rfl : r_11 = pw (nI (q - 1)) n := e_11
  refine lv_lsub hx hb dX7_tries_14 ?_
  refine lv_lmul hx hb dX7_tries_15 ?_
  refine lv_iload_n hx hb dX7_tries_16 rfl (lv_at hl 1 rfl) ?_
  refine lv_iconst (v := 1) hx hb dX7_tries_17 (by decide) ?_
  refine n_isub (x := q) (y := 1) hx hb dX7_tries_18 (by omega) ?_
  refine lv_iload_n hx hb dX7_tries_19 rfl (lv_at hl 2 rfl) ?_
  refine lv_iload_n hx hb dX7_tries_20 rfl (lv_at hl 0 rfl) ?_
  refine n_isub (x := al) (y := n) hx hb dX7_tries_21 (by omega) ?_
  refine roSl (As := [.int (nI (q - 1)), .int (nI (al - n))]) (rest := [.long (((nI q).toInt64) * ((pw (nI q) n) - (pw (nI (q - 1)) n)))]) ⟨hx, hb, hml, hown, hts⟩ (c_X7_power l D cI cL cZ cO (nI (q - 1)) (al - n) (by omega)) (va_cwS 2 hts gX7_tries_X7_power rfl rfl rfl (by decide +kernel) ⟨Nat.le_of_ble_eq_true rfl, Nat.le_of_ble_eq_true rfl⟩) hO (fun k q h => by simp at h) rfl hl.1 rfl (Nat.le_of_ble_eq_true rfl) dX7_tries_22 ⟨Nat.le_of_ble_eq_true rfl, Nat.le_of_ble_eq_true rfl⟩ (fun r_22 e_22 => ?_)
  obtain rfl : r_22 = pw (nI (q - 1)) (al - n) := e_22
  refine lv_lmul hx hb dX7_tries_25 ?_
  rw [← hQQ]
  exact W.lret (v := ((((nI q).toInt64) * ((pw (nI q) n) - (pw (nI (q - 1)) n))) * (pw (nI (q - 1)) (al - n)))) hx hb hr (fun t ht hW => ⟨_, rfl, rfl, ht⟩) (fun q h => by cases h) dX7_tries_26
