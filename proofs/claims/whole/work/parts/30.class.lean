/-! THE CLASS: jobs, prices -/
def jobFs (t : Nat) (x : Nat → Int32) : List Value := [.ref t, .int (x 15), .int (x 8), .int (x 9), .int (x 10), .int (x 11), .int (x 12), .int (x 13), .int (x 14), .int (x 16), .int (x 17), .int (x 18), .int (x 19), .int (x 23), .int (x 20), .int (x 21)]
def teFs (x : Nat → Int32) : List Value := [.int (x 0), .int (x 1), .int (x 2), .int (x 5), .int (x 6), .int (x 3), .int (x 4), .int (x 7)]
def wJ (ja ta : Nat) (x : Nat → Int32) : va_W := [(ja, .inr (1, jobFs ta x)), (ta, .inr (4, teFs x))]
def wP (cI : ClassId) (pA lt : Nat) (full : Int32) (pr : Nat → Int32) : va_W := [(pA, .inr (3, [.ref lt, .int full])), (lt, .inl (cI, 600, .inl pr))]
def wJP (cI : ClassId) (ja ta : Nat) (x : Nat → Int32) (pA lt : Nat) (full : Int32) (pr : Nat → Int32) : va_W := [(ja, .inr (1, jobFs ta x)), (ta, .inr (4, teFs x)), (pA, .inr (3, [.ref lt, .int full])), (lt, .inl (cI, 600, .inl pr))]
def rReady (x : Nat → Int32) : Int32 := if x 18 = -1 then 0 else 1
def rBring (x : Nat → Int32) : Nat → Int32 := rInc 12 (rDec 20 x)
def rSave (x : Nat → Int32) : Nat → Int32 := rMkS (rInc 13 (rDec 21 x))
def rWork (x : Nat → Int32) : Nat → Int32 := rMkW (rInc 22 (rInc 9 (rInc 11 x)))
def rCome (x : Nat → Int32) : Nat → Int32 := rFullB (va_up (rLose x) 17 2)
theorem rFull1_f {x : Nat → Int32} (h : ¬ x 17 = 2) : rFull1 x = rCome x := if_neg h
theorem rFull1_t {x : Nat → Int32} (h : x 17 = 2) : rFull1 x = x := if_pos h
/-- what holds of a job's row between calls -/
def jInv (x : Nat → Int32) : Prop := x 22 = x 9 ∧ (¬ x 17 = 1 → x 9 = 0) ∧ (x 18 = -1 → x 8 < x 0)
def rHourC (full p : Int32) (nw : Nat) (row : Nat → Int32) : Nat → Int32 := if row 18 = -1 then rHour full p nw row else row
def atV (pr : Nat → Int32) (full : Int32) (m h : Nat) : Int32 := if m = 3 then full else if h < 200 then pr (200 * m + h) else -1
theorem wi_n0 {m b : Nat} (hm : m < 2 ^ 31) (hb : b < 2 ^ 31) : wi (nI m) (nI 0) (nI b) = 0 ↔ b < m := by
  constructor
  · intro h
    rcases Nat.lt_or_ge b m with q | q
    · exact q
    · exfalso
      exact wi_f h ⟨(nI_leI (by decide) hm).mpr (Nat.zero_le _), (nI_leI hm hb).mpr q⟩
  · intro h
    exact wi_0 (fun q => absurd ((nI_leI hm hb).mp q.2) (by omega))
theorem ilh_nat {m h : Nat} (hm : m < 2 ^ 31) (hh : h < 2 ^ 31) : ilh (nI m) (nI h) = 0 ↔ ¬ (m < 3 ∧ h < 200) := by
  unfold ilh
  by_cases h1 : wi (nI m) 0 2 = 0
  · rw [if_pos h1]
    have := (wi_n0 (b := 2) hm (by decide)).mp h1
    exact ⟨fun _ => by omega, fun _ => rfl⟩
  · rw [if_neg h1]
    have g1 : ¬ 2 < m := fun q => h1 ((wi_n0 (b := 2) hm (by decide)).mpr q)
    by_cases h2 : wi (nI h) 0 199 = 0
    · rw [if_pos h2]
      have := (wi_n0 (b := 199) hh (by decide)).mp h2
      exact ⟨fun _ => by omega, fun _ => rfl⟩
    · rw [if_neg h2]
      have g2 : ¬ 199 < h := fun q => h2 ((wi_n0 (b := 199) hh (by decide)).mpr q)
      exact ⟨fun q => absurd q (by decide), fun q => absurd (show m < 3 ∧ h < 200 by omega) q⟩
section SubCalls
variable {p : Program} {l : Launch} {e : Env} {R : Room} {s : State} {m : MethodId} {args : Array Value} {below : List Frame} {meth : Method} {c : Code} {H : Heap} {locs : List Loc} {cells slots : Nat} {Q : State → Prop}
variable {pc : Nat} {ls : Array Slot} {rest st0 As : List Value} {A0 : Nat → Prop} {H0 : Heap} {mc ms : Nat}
variable {y : MethodName} {bytes cc : ByteArray} {maxL nL n index : Nat} {ret : Option FieldType} {wy : List Cond} {rm : Room} {Ts : List Cond} {own C host : String} {b : Addr} {D : va_G} {cI cL cZ cO : ClassId} {w wc wr : va_W}
/-- a call that writes a part of the world -/
theorem rwVvS {S1 : Type} {post : S1 → Prop} {Wf : S1 → va_W} (isC isR : List Nat) (hC : isC.map (fun i => w[i]?) = wc.map some) (hR : isR.map (fun i => w[i]?) = wr.map some) (hnd : va_nd isR = true) (hdis : ∀ i ∈ isR, i ∉ isC) (S : CallFix p m c cc nL s args Ts own) (hM : Met l y wy rm (va_Pc (.ref b :: As) (Rw D cI cL cZ cO wc H.size)) (va_Qv post (fun u => Wo D (va_A wc H.size) (Wf u)) (va_A wc H.size)) mc ms (va_A wc H.size)) (cw : CallW R s args own C index y bytes maxL ret wy rm mc ms n) (hO : Okk D cI cL cZ cO s) (hP : va_P D vwCl w H) (hD : va_D A0 w) (hPc : va_P D vwCl wc H) (hDc : va_D A0 wc) (hS : va_S A0 H0 H locs) (hA : ∀ q, H0.size ≤ q → A0 q) (hv : Recv s H C b) (hn : As.length = n) (hsize : ls.size = nL) (hst : st0 = As.reverse ++ .ref b :: rest) (hW : (rest.map fun v => v.category).sum ≤ 8) (hdg : decode cc pc = .ok (.invokevirtual index, 3)) (hcl : cells + mc ≤ R.cells ∧ slots + ms ≤ R.slots)
    (kk : ∀ (u : S1) (H1 : Heap) (locs1 : List Loc), post u → va_P D vwCl (wr ++ Wf u) H1 → va_D A0 (wr ++ Wf u) → va_S A0 H0 H1 locs1 → W p l e R s m args below meth c H1 locs1 (cells + mc) (slots + ms) Q (F0 m (pc + 3) ls rest)) : W p l e R s m args below meth c H locs cells slots Q (F0 m pc ls st0) := by
  have hF := va_free (wc := wc) hD hS hA isC hC
  refine va_callv (va_runV (g := F0 m pc ls st0) S hM cw ⟨Rw.blind, hv, fun U hU hW => ⟨rfl, by rw [hU], by rw [hU]; exact hPc, hO.warm hW, hDc.weaken (fun _ _ _ _ => trivial)⟩⟩ rfl hn hsize hst (lv_room hW) hdg hcl) hS (fun q _ h => hF q h) hF (fun u t H1 locs1 ht _ hw hB _ hk1 hS1 => ?_)
  obtain ⟨h1, h2⟩ := va_join (wr := wr) (w1 := Wf u) hP hD isC isR hC hR hnd hdis hk1 hF (ht ▸ hB.1) hB.2
  exact kk u H1 locs1 hw h1 h2 hS1
end SubCalls
set_option maxHeartbeats 4000000 in
set_option maxRecDepth 100000 in
theorem c_X1_isReady (l : Launch) (D : va_G) (cI cL cZ cO : ClassId) (ja ta : Nat) (row : Nat → Int32) : Met l yX1_isReady wsX1_isReady ({ frames := 0, cells := 0, slots := 0, locals := 0 } : Room) (va_Pc [.ref ja] (Ro D cI cL cZ cO (wJ ja ta row))) (vp_Si (fun r => r = rReady row)) 0 0 (fun _ => False) := by
  refine Met.ofW (cc := cX1_isReady) (maxL := 1) (ret := (some .boolean)) (by decide) rfl ?_
  intro p e s m args below meth c s₁ B hml hv
  obtain ⟨rfl, hP, hO⟩ := hv
  have hx := B.exec
  have hb := B.bytes
  have hr := B.returns
  have hts := atoms_spec (ws := wsX1_isReady) B.pre
  have hown : s.vm.findClass RX1 = some m.cls := findClass_of_methodNamed B.named
  have hlocks := B.notSynchronized
  have hK := hO.1
  have hl := lv_entry ([.ref ja]) (n := 1) (Nat.le_of_ble_eq_true rfl)
  rw [lg_entry_eq]
  generalize (lg_sl ([.ref ja]) ++ List.replicate (1 - (lg_sl ([.ref ja])).length) Slot.unset).toArray = ls at hl ⊢
  have hl : lv_has ls 1 [(0, .ref ja)] := hl
  generalize hQQ : MQ below _ _ s _ _ _ = QQ
  refine lv_aload_n hx hb dX1_isReady_0 rfl (lv_at hl 0 rfl) ?_
  refine va_get (D := D) (cl := vwCl) (ci := 1) (v := .int (row 18)) (C := RX1) (T := TX1) (N := 16) hx hb hts (fun _ h => List.mem_cons_of_mem _ (List.mem_append_right _ h)) hown hK hP 0 rfl rfl 11 (by decide) (hts (.fieldLink RX1 19 "CheapHours$Job" "readyAt" "I") (List.mem_of_getElem? (i := 1) rfl)) (fun _ h9 => h9) rfl dX1_isReady_1 ?_
  refine lv_iconst (v := (-1)) hx hb dX1_isReady_4 (by decide) ?_
  refine lv_icmp_eq (tgt := 12) hx hb dX1_isReady_5 (by decide) (fun c_5 => ?_) (fun c_5 => ?_)
  · skip
    refine lv_iconst (v := 0) hx hb dX1_isReady_12 (by decide) ?_
    rw [← hQQ]
    exact W.zret (v := 0) hx hb hr rfl (fun t9 ht9 hW9 => ⟨_, rfl, by simp only [rReady, if_pos c_5], ht9⟩) (fun q h => by cases h) dX1_isReady_13
  · skip
    refine lv_iconst (v := 1) hx hb dX1_isReady_8 (by decide) ?_
    refine lv_goto (tgt := 13) hx hb dX1_isReady_9 (by decide) ?_
    rw [← hQQ]
    exact W.zret (v := 1) hx hb hr rfl (fun t9 ht9 hW9 => ⟨_, rfl, by simp only [rReady, if_neg c_5], ht9⟩) (fun q h => by cases h) dX1_isReady_13
set_option maxHeartbeats 4000000 in
set_option maxRecDepth 100000 in
theorem c_X1_need (l : Launch) (D : va_G) (cI cL cZ cO : ClassId) (ja ta : Nat) (row : Nat → Int32) : Met l yX1_need wsX1_need ({ frames := 0, cells := 0, slots := 0, locals := 0 } : Room) (va_Pc [.ref ja] (Ro D cI cL cZ cO (wJ ja ta row))) (vp_Si (fun r => r = rNeed row)) 0 0 (fun _ => False) := by
  refine Met.ofW (cc := cX1_need) (maxL := 1) (ret := (some .int)) (by decide) rfl ?_
  intro p e s m args below meth c s₁ B hml hv
  obtain ⟨rfl, hP, hO⟩ := hv
  have hx := B.exec
  have hb := B.bytes
  have hr := B.returns
  have hts := atoms_spec (ws := wsX1_need) B.pre
  have hown : s.vm.findClass RX1 = some m.cls := findClass_of_methodNamed B.named
  have hlocks := B.notSynchronized
  have hK := hO.1
  have hl := lv_entry ([.ref ja]) (n := 1) (Nat.le_of_ble_eq_true rfl)
  rw [lg_entry_eq]
  generalize (lg_sl ([.ref ja]) ++ List.replicate (1 - (lg_sl ([.ref ja])).length) Slot.unset).toArray = ls at hl ⊢
  have hl : lv_has ls 1 [(0, .ref ja)] := hl
  generalize hQQ : MQ below _ _ s _ _ _ = QQ
  refine lv_aload_n hx hb dX1_need_0 rfl (lv_at hl 0 rfl) ?_
  refine va_get (D := D) (cl := vwCl) (ci := 1) (v := .int (row 8)) (C := RX1) (T := TX1) (N := 16) hx hb hts (fun _ h => List.mem_cons_of_mem _ (List.mem_append_left _ (List.mem_append_right _ h))) hown hK hP 0 rfl rfl 2 (by decide) (hts (.fieldLink RX1 22 "CheapHours$Job" "saved" "I") (List.mem_of_getElem? (i := 1) rfl)) (fun _ h9 => h9) rfl dX1_need_1 ?_
  refine lv_aload_n hx hb dX1_need_4 rfl (lv_at hl 0 rfl) ?_
  refine va_get (D := D) (cl := vwCl) (ci := 1) (v := .ref ta) (C := RX1) (T := TX1) (N := 16) hx hb hts (fun _ h => List.mem_cons_of_mem _ (List.mem_append_left _ (List.mem_append_right _ h))) hown hK hP 0 rfl rfl 0 (by decide) (hts (.fieldLink RX1 9 "CheapHours$Job" "terms" "LCheapHours$Terms;") (List.mem_of_getElem? (i := 2) rfl)) (fun _ h9 => h9) rfl dX1_need_5 ?_
  refine va_get (D := D) (cl := vwCl) (ci := 4) (v := .int (row 6)) (C := RX5) (T := TX5) (N := 8) hx hb hts (fun _ h => List.mem_cons_of_mem _ (List.mem_append_right _ h)) hown hK hP 1 rfl rfl 4 (by decide) (hts (.fieldLink RX1 97 "CheapHours$Terms" "bring" "I") (List.mem_of_getElem? (i := 3) rfl)) (fun _ h9 => h9) rfl dX1_need_8 ?_
  refine lv_icmp_le (tgt := 37) hx hb dX1_need_11 (by decide) (fun c_11 => ?_) (fun c_11 => ?_)
  · skip
    refine lv_aload_n hx hb dX1_need_37 rfl (lv_at hl 0 rfl) ?_
    refine va_get (D := D) (cl := vwCl) (ci := 1) (v := .ref ta) (C := RX1) (T := TX1) (N := 16) hx hb hts (fun _ h => List.mem_cons_of_mem _ (List.mem_append_left _ (List.mem_append_right _ h))) hown hK hP 0 rfl rfl 0 (by decide) (hts (.fieldLink RX1 9 "CheapHours$Job" "terms" "LCheapHours$Terms;") (List.mem_of_getElem? (i := 2) rfl)) (fun _ h9 => h9) rfl dX1_need_38 ?_
    refine va_get (D := D) (cl := vwCl) (ci := 4) (v := .int (row 0)) (C := RX5) (T := TX5) (N := 8) hx hb hts (fun _ h => List.mem_cons_of_mem _ (List.mem_append_right _ h)) hown hK hP 1 rfl rfl 0 (by decide) (hts (.fieldLink RX1 94 "CheapHours$Terms" "work" "I") (List.mem_of_getElem? (i := 4) rfl)) (fun _ h9 => h9) rfl dX1_need_41 ?_
    rw [← hQQ]
    exact W.iret (v := (row 0)) hx hb hr (fun t9 ht9 hW9 => ⟨_, rfl, (if_neg (fun q => i32_nlt.mpr c_11 q)).symm, ht9⟩) (fun q h => by cases h) dX1_need_44
  · skip
    refine lv_aload_n hx hb dX1_need_14 rfl (lv_at hl 0 rfl) ?_
    refine va_get (D := D) (cl := vwCl) (ci := 1) (v := .ref ta) (C := RX1) (T := TX1) (N := 16) hx hb hts (fun _ h => List.mem_cons_of_mem _ (List.mem_append_left _ (List.mem_append_right _ h))) hown hK hP 0 rfl rfl 0 (by decide) (hts (.fieldLink RX1 9 "CheapHours$Job" "terms" "LCheapHours$Terms;") (List.mem_of_getElem? (i := 2) rfl)) (fun _ h9 => h9) rfl dX1_need_15 ?_
    refine va_get (D := D) (cl := vwCl) (ci := 4) (v := .int (row 0)) (C := RX5) (T := TX5) (N := 8) hx hb hts (fun _ h => List.mem_cons_of_mem _ (List.mem_append_right _ h)) hown hK hP 1 rfl rfl 0 (by decide) (hts (.fieldLink RX1 94 "CheapHours$Terms" "work" "I") (List.mem_of_getElem? (i := 4) rfl)) (fun _ h9 => h9) rfl dX1_need_18 ?_
    refine lv_aload_n hx hb dX1_need_21 rfl (lv_at hl 0 rfl) ?_
    refine va_get (D := D) (cl := vwCl) (ci := 1) (v := .int (row 8)) (C := RX1) (T := TX1) (N := 16) hx hb hts (fun _ h => List.mem_cons_of_mem _ (List.mem_append_left _ (List.mem_append_right _ h))) hown hK hP 0 rfl rfl 2 (by decide) (hts (.fieldLink RX1 22 "CheapHours$Job" "saved" "I") (List.mem_of_getElem? (i := 1) rfl)) (fun _ h9 => h9) rfl dX1_need_22 ?_
    refine lv_isub hx hb dX1_need_25 ?_
    refine lv_aload_n hx hb dX1_need_26 rfl (lv_at hl 0 rfl) ?_
    refine va_get (D := D) (cl := vwCl) (ci := 1) (v := .ref ta) (C := RX1) (T := TX1) (N := 16) hx hb hts (fun _ h => List.mem_cons_of_mem _ (List.mem_append_left _ (List.mem_append_right _ h))) hown hK hP 0 rfl rfl 0 (by decide) (hts (.fieldLink RX1 9 "CheapHours$Job" "terms" "LCheapHours$Terms;") (List.mem_of_getElem? (i := 2) rfl)) (fun _ h9 => h9) rfl dX1_need_27 ?_
    refine va_get (D := D) (cl := vwCl) (ci := 4) (v := .int (row 6)) (C := RX5) (T := TX5) (N := 8) hx hb hts (fun _ h => List.mem_cons_of_mem _ (List.mem_append_right _ h)) hown hK hP 1 rfl rfl 4 (by decide) (hts (.fieldLink RX1 97 "CheapHours$Terms" "bring" "I") (List.mem_of_getElem? (i := 3) rfl)) (fun _ h9 => h9) rfl dX1_need_30 ?_
    refine lv_iadd hx hb dX1_need_33 ?_
    refine lv_goto (tgt := 44) hx hb dX1_need_34 (by decide) ?_
    rw [← hQQ]
    exact W.iret (v := (((row 0) - (row 8)) + (row 6))) hx hb hr (fun t9 ht9 hW9 => ⟨_, rfl, (if_pos (i32_nle.mp c_11)).symm, ht9⟩) (fun q h => by cases h) dX1_need_44
set_option maxHeartbeats 4000000 in
set_option maxRecDepth 100000 in
theorem c_X1_tell (l : Launch) (D : va_G) (cI cL cZ cO : ClassId) (ja ta : Nat) (row : Nat → Int32) (y : Int32) : Met l yX1_tell wsX1_tell ({ frames := 1, cells := 0, slots := 0, locals := 20 } : Room) (va_Pc [.ref ja, .int y] (Ro D cI cL cZ cO (wJ ja ta row))) (vp_Si (fun r => r = tellV row y)) 0 0 (fun _ => False) := by
  refine Met.ofW (cc := cX1_tell) (maxL := 2) (ret := (some .int)) (by decide) rfl ?_
  intro p e s m args below meth c s₁ B hml hv
  obtain ⟨rfl, hP, hO⟩ := hv
  have hx := B.exec
  have hb := B.bytes
  have hr := B.returns
  have hts := atoms_spec (ws := wsX1_tell) B.pre
  have hown : s.vm.findClass RX1 = some m.cls := findClass_of_methodNamed B.named
  have hlocks := B.notSynchronized
  have hK := hO.1
  have hl := lv_entry ([.ref ja, .int y]) (n := 2) (Nat.le_of_ble_eq_true rfl)
  rw [lg_entry_eq]
  generalize (lg_sl ([.ref ja, .int y]) ++ List.replicate (2 - (lg_sl ([.ref ja, .int y])).length) Slot.unset).toArray = ls at hl ⊢
  have hl : lv_has ls 2 [(0, .ref ja), (1, .int y)] := hl
  generalize hQQ : MQ below _ _ s _ _ _ = QQ
  refine lv_iload_n hx hb dX1_tell_0 rfl (lv_at hl 1 rfl) ?_
  by_cases sw_1_0 : y = 0
  · skip
    refine lv_tableIn (tgt := 68) hx hb dX1_tell_1 (by rw [sw_1_0]; decide) (by rw [sw_1_0]; decide) (by rw [sw_1_0]; rfl) (by decide) ?_
    refine lv_aload_n hx hb dX1_tell_68 rfl (lv_at hl 0 rfl) ?_
    refine va_get (D := D) (cl := vwCl) (ci := 1) (v := .int (row 8)) (C := RX1) (T := TX1) (N := 16) hx hb hts (fun _ h => List.mem_cons_of_mem _ (List.mem_append_left _ (List.mem_append_right _ h))) hown hK hP 0 rfl rfl 2 (by decide) (hts (.fieldLink RX1 22 "CheapHours$Job" "saved" "I") (List.mem_of_getElem? (i := 1) rfl)) (fun _ h9 => h9) rfl dX1_tell_69 ?_
    rw [← hQQ]
    exact W.iret (v := (row 8)) hx hb hr (fun t9 ht9 hW9 => ⟨_, rfl, (by simp only [tellV, if_pos sw_1_0]), ht9⟩) (fun q h => by cases h) dX1_tell_72
  by_cases sw_1_1 : y = 1
  · skip
    refine lv_tableIn (tgt := 73) hx hb dX1_tell_1 (by rw [sw_1_1]; decide) (by rw [sw_1_1]; decide) (by rw [sw_1_1]; rfl) (by decide) ?_
    refine lv_aload_n hx hb dX1_tell_73 rfl (lv_at hl 0 rfl) ?_
    refine va_get (D := D) (cl := vwCl) (ci := 1) (v := .int (row 9)) (C := RX1) (T := TX1) (N := 16) hx hb hts (fun _ h => List.mem_cons_of_mem _ (List.mem_append_left _ (List.mem_append_right _ h))) hown hK hP 0 rfl rfl 3 (by decide) (hts (.fieldLink RX1 25 "CheapHours$Job" "unsaved" "I") (List.mem_of_getElem? (i := 2) rfl)) (fun _ h9 => h9) rfl dX1_tell_74 ?_
    rw [← hQQ]
    exact W.iret (v := (row 9)) hx hb hr (fun t9 ht9 hW9 => ⟨_, rfl, (by simp only [tellV, if_neg sw_1_0, if_pos sw_1_1]), ht9⟩) (fun q h => by cases h) dX1_tell_77
  by_cases sw_1_2 : y = 2
  · skip
    refine lv_tableIn (tgt := 78) hx hb dX1_tell_1 (by rw [sw_1_2]; decide) (by rw [sw_1_2]; decide) (by rw [sw_1_2]; rfl) (by decide) ?_
    refine lv_aload_n hx hb dX1_tell_78 rfl (lv_at hl 0 rfl) ?_
    refine va_get (D := D) (cl := vwCl) (ci := 1) (v := .int (row 10)) (C := RX1) (T := TX1) (N := 16) hx hb hts (fun _ h => List.mem_cons_of_mem _ (List.mem_append_left _ (List.mem_append_right _ h))) hown hK hP 0 rfl rfl 4 (by decide) (hts (.fieldLink RX1 28 "CheapHours$Job" "lost" "I") (List.mem_of_getElem? (i := 3) rfl)) (fun _ h9 => h9) rfl dX1_tell_79 ?_
    rw [← hQQ]
    exact W.iret (v := (row 10)) hx hb hr (fun t9 ht9 hW9 => ⟨_, rfl, (by simp only [tellV, if_neg sw_1_0, if_neg sw_1_1, if_pos sw_1_2]), ht9⟩) (fun q h => by cases h) dX1_tell_82
  by_cases sw_1_3 : y = 3
  · skip
    refine lv_tableIn (tgt := 83) hx hb dX1_tell_1 (by rw [sw_1_3]; decide) (by rw [sw_1_3]; decide) (by rw [sw_1_3]; rfl) (by decide) ?_
    refine lv_aload_n hx hb dX1_tell_83 rfl (lv_at hl 0 rfl) ?_
    refine va_get (D := D) (cl := vwCl) (ci := 1) (v := .int (row 11)) (C := RX1) (T := TX1) (N := 16) hx hb hts (fun _ h => List.mem_cons_of_mem _ (List.mem_append_left _ (List.mem_append_right _ h))) hown hK hP 0 rfl rfl 5 (by decide) (hts (.fieldLink RX1 31 "CheapHours$Job" "workHours" "I") (List.mem_of_getElem? (i := 4) rfl)) (fun _ h9 => h9) rfl dX1_tell_84 ?_
    rw [← hQQ]
    exact W.iret (v := (row 11)) hx hb hr (fun t9 ht9 hW9 => ⟨_, rfl, (by simp only [tellV, if_neg sw_1_0, if_neg sw_1_1, if_neg sw_1_2, if_pos sw_1_3]), ht9⟩) (fun q h => by cases h) dX1_tell_87
  by_cases sw_1_4 : y = 4
  · skip
    refine lv_tableIn (tgt := 88) hx hb dX1_tell_1 (by rw [sw_1_4]; decide) (by rw [sw_1_4]; decide) (by rw [sw_1_4]; rfl) (by decide) ?_
    refine lv_aload_n hx hb dX1_tell_88 rfl (lv_at hl 0 rfl) ?_
    refine va_get (D := D) (cl := vwCl) (ci := 1) (v := .int (row 12)) (C := RX1) (T := TX1) (N := 16) hx hb hts (fun _ h => List.mem_cons_of_mem _ (List.mem_append_left _ (List.mem_append_right _ h))) hown hK hP 0 rfl rfl 6 (by decide) (hts (.fieldLink RX1 34 "CheapHours$Job" "bringHours" "I") (List.mem_of_getElem? (i := 5) rfl)) (fun _ h9 => h9) rfl dX1_tell_89 ?_
    rw [← hQQ]
    exact W.iret (v := (row 12)) hx hb hr (fun t9 ht9 hW9 => ⟨_, rfl, (by simp only [tellV, if_neg sw_1_0, if_neg sw_1_1, if_neg sw_1_2, if_neg sw_1_3, if_pos sw_1_4]), ht9⟩) (fun q h => by cases h) dX1_tell_92
  by_cases sw_1_5 : y = 5
  · skip
    refine lv_tableIn (tgt := 93) hx hb dX1_tell_1 (by rw [sw_1_5]; decide) (by rw [sw_1_5]; decide) (by rw [sw_1_5]; rfl) (by decide) ?_
    refine lv_aload_n hx hb dX1_tell_93 rfl (lv_at hl 0 rfl) ?_
    refine va_get (D := D) (cl := vwCl) (ci := 1) (v := .int (row 13)) (C := RX1) (T := TX1) (N := 16) hx hb hts (fun _ h => List.mem_cons_of_mem _ (List.mem_append_left _ (List.mem_append_right _ h))) hown hK hP 0 rfl rfl 7 (by decide) (hts (.fieldLink RX1 37 "CheapHours$Job" "saveHours" "I") (List.mem_of_getElem? (i := 6) rfl)) (fun _ h9 => h9) rfl dX1_tell_94 ?_
    rw [← hQQ]
    exact W.iret (v := (row 13)) hx hb hr (fun t9 ht9 hW9 => ⟨_, rfl, (by simp only [tellV, if_neg sw_1_0, if_neg sw_1_1, if_neg sw_1_2, if_neg sw_1_3, if_neg sw_1_4, if_pos sw_1_5]), ht9⟩) (fun q h => by cases h) dX1_tell_97
  by_cases sw_1_6 : y = 6
  · skip
    refine lv_tableIn (tgt := 98) hx hb dX1_tell_1 (by rw [sw_1_6]; decide) (by rw [sw_1_6]; decide) (by rw [sw_1_6]; rfl) (by decide) ?_
    refine lv_aload_n hx hb dX1_tell_98 rfl (lv_at hl 0 rfl) ?_
    refine va_get (D := D) (cl := vwCl) (ci := 1) (v := .int (row 14)) (C := RX1) (T := TX1) (N := 16) hx hb hts (fun _ h => List.mem_cons_of_mem _ (List.mem_append_left _ (List.mem_append_right _ h))) hown hK hP 0 rfl rfl 8 (by decide) (hts (.fieldLink RX1 40 "CheapHours$Job" "waitHours" "I") (List.mem_of_getElem? (i := 7) rfl)) (fun _ h9 => h9) rfl dX1_tell_99 ?_
    rw [← hQQ]
    exact W.iret (v := (row 14)) hx hb hr (fun t9 ht9 hW9 => ⟨_, rfl, (by simp only [tellV, if_neg sw_1_0, if_neg sw_1_1, if_neg sw_1_2, if_neg sw_1_3, if_neg sw_1_4, if_neg sw_1_5, if_pos sw_1_6]), ht9⟩) (fun q h => by cases h) dX1_tell_102
  by_cases sw_1_7 : y = 7
  · skip
    refine lv_tableIn (tgt := 103) hx hb dX1_tell_1 (by rw [sw_1_7]; decide) (by rw [sw_1_7]; decide) (by rw [sw_1_7]; rfl) (by decide) ?_
    refine lv_aload_n hx hb dX1_tell_103 rfl (lv_at hl 0 rfl) ?_
    refine va_get (D := D) (cl := vwCl) (ci := 1) (v := .int (row 15)) (C := RX1) (T := TX1) (N := 16) hx hb hts (fun _ h => List.mem_cons_of_mem _ (List.mem_append_left _ (List.mem_append_right _ h))) hown hK hP 0 rfl rfl 1 (by decide) (hts (.fieldLink RX1 43 "CheapHours$Job" "paid" "I") (List.mem_of_getElem? (i := 8) rfl)) (fun _ h9 => h9) rfl dX1_tell_104 ?_
    rw [← hQQ]
    exact W.iret (v := (row 15)) hx hb hr (fun t9 ht9 hW9 => ⟨_, rfl, (by simp only [tellV, if_neg sw_1_0, if_neg sw_1_1, if_neg sw_1_2, if_neg sw_1_3, if_neg sw_1_4, if_neg sw_1_5, if_neg sw_1_6, if_pos sw_1_7]), ht9⟩) (fun q h => by cases h) dX1_tell_107
  by_cases sw_1_8 : y = 8
  · skip
    refine lv_tableIn (tgt := 108) hx hb dX1_tell_1 (by rw [sw_1_8]; decide) (by rw [sw_1_8]; decide) (by rw [sw_1_8]; rfl) (by decide) ?_
    refine lv_aload_n hx hb dX1_tell_108 rfl (lv_at hl 0 rfl) ?_
    refine va_get (D := D) (cl := vwCl) (ci := 1) (v := .int (row 16)) (C := RX1) (T := TX1) (N := 16) hx hb hts (fun _ h => List.mem_cons_of_mem _ (List.mem_append_left _ (List.mem_append_right _ h))) hown hK hP 0 rfl rfl 9 (by decide) (hts (.fieldLink RX1 46 "CheapHours$Job" "fullHours" "I") (List.mem_of_getElem? (i := 9) rfl)) (fun _ h9 => h9) rfl dX1_tell_109 ?_
    rw [← hQQ]
    exact W.iret (v := (row 16)) hx hb hr (fun t9 ht9 hW9 => ⟨_, rfl, (by simp only [tellV, if_neg sw_1_0, if_neg sw_1_1, if_neg sw_1_2, if_neg sw_1_3, if_neg sw_1_4, if_neg sw_1_5, if_neg sw_1_6, if_neg sw_1_7, if_pos sw_1_8]), ht9⟩) (fun q h => by cases h) dX1_tell_112
  by_cases sw_1_9 : y = 9
  · skip
    refine lv_tableIn (tgt := 113) hx hb dX1_tell_1 (by rw [sw_1_9]; decide) (by rw [sw_1_9]; decide) (by rw [sw_1_9]; rfl) (by decide) ?_
    refine lv_aload_n hx hb dX1_tell_113 rfl (lv_at hl 0 rfl) ?_
    refine va_get (D := D) (cl := vwCl) (ci := 1) (v := .int (row 17)) (C := RX1) (T := TX1) (N := 16) hx hb hts (fun _ h => List.mem_cons_of_mem _ (List.mem_append_left _ (List.mem_append_right _ h))) hown hK hP 0 rfl rfl 10 (by decide) (hts (.fieldLink RX1 15 "CheapHours$Job" "place" "I") (List.mem_of_getElem? (i := 10) rfl)) (fun _ h9 => h9) rfl dX1_tell_114 ?_
    rw [← hQQ]
    exact W.iret (v := (row 17)) hx hb hr (fun t9 ht9 hW9 => ⟨_, rfl, (by simp only [tellV, if_neg sw_1_0, if_neg sw_1_1, if_neg sw_1_2, if_neg sw_1_3, if_neg sw_1_4, if_neg sw_1_5, if_neg sw_1_6, if_neg sw_1_7, if_neg sw_1_8, if_pos sw_1_9]), ht9⟩) (fun q h => by cases h) dX1_tell_117
  by_cases sw_1_10 : y = 10
  · skip
    refine lv_tableIn (tgt := 118) hx hb dX1_tell_1 (by rw [sw_1_10]; decide) (by rw [sw_1_10]; decide) (by rw [sw_1_10]; rfl) (by decide) ?_
    refine lv_aload_n hx hb dX1_tell_118 rfl (lv_at hl 0 rfl) ?_
    refine va_get (D := D) (cl := vwCl) (ci := 1) (v := .int (row 18)) (C := RX1) (T := TX1) (N := 16) hx hb hts (fun _ h => List.mem_cons_of_mem _ (List.mem_append_left _ (List.mem_append_right _ h))) hown hK hP 0 rfl rfl 11 (by decide) (hts (.fieldLink RX1 19 "CheapHours$Job" "readyAt" "I") (List.mem_of_getElem? (i := 11) rfl)) (fun _ h9 => h9) rfl dX1_tell_119 ?_
    rw [← hQQ]
    exact W.iret (v := (row 18)) hx hb hr (fun t9 ht9 hW9 => ⟨_, rfl, (by simp only [tellV, if_neg sw_1_0, if_neg sw_1_1, if_neg sw_1_2, if_neg sw_1_3, if_neg sw_1_4, if_neg sw_1_5, if_neg sw_1_6, if_neg sw_1_7, if_neg sw_1_8, if_neg sw_1_9, if_pos sw_1_10]), ht9⟩) (fun q h => by cases h) dX1_tell_122
  by_cases sw_1_11 : y = 11
  · skip
    refine lv_tableIn (tgt := 123) hx hb dX1_tell_1 (by rw [sw_1_11]; decide) (by rw [sw_1_11]; decide) (by rw [sw_1_11]; rfl) (by decide) ?_
    refine lv_aload_n hx hb dX1_tell_123 rfl (lv_at hl 0 rfl) ?_
    refine roVi (As := []) (rest := []) ⟨hx, hb, hml, hown, hts⟩ (c_X1_need l D cI cL cZ cO ja ta row ) (cwV 0 hts gX1_tell_X1_need rfl rfl rfl (by decide +kernel) ⟨Nat.le_of_ble_eq_true rfl, Nat.le_of_ble_eq_true rfl⟩) hO hP (va_recv hK hP (ci := 1) (q0 := 0) rfl rfl) rfl hl.1 rfl (Nat.le_of_ble_eq_true rfl) dX1_tell_124 ⟨Nat.le_of_ble_eq_true rfl, Nat.le_of_ble_eq_true rfl⟩ (fun r_124 e_124 => ?_)
    obtain rfl : r_124 = rNeed row := e_124
    rw [← hQQ]
    exact W.iret (v := (rNeed row)) hx hb hr (fun t9 ht9 hW9 => ⟨_, rfl, (by simp only [tellV, if_neg sw_1_0, if_neg sw_1_1, if_neg sw_1_2, if_neg sw_1_3, if_neg sw_1_4, if_neg sw_1_5, if_neg sw_1_6, if_neg sw_1_7, if_neg sw_1_8, if_neg sw_1_9, if_neg sw_1_10, if_pos sw_1_11]), ht9⟩) (fun q h => by cases h) dX1_tell_127
  by_cases sw_1_12 : y = 12
  · skip
    refine lv_tableIn (tgt := 128) hx hb dX1_tell_1 (by rw [sw_1_12]; decide) (by rw [sw_1_12]; decide) (by rw [sw_1_12]; rfl) (by decide) ?_
    refine lv_aload_n hx hb dX1_tell_128 rfl (lv_at hl 0 rfl) ?_
    refine va_get (D := D) (cl := vwCl) (ci := 1) (v := .int (row 19)) (C := RX1) (T := TX1) (N := 16) hx hb hts (fun _ h => List.mem_cons_of_mem _ (List.mem_append_left _ (List.mem_append_right _ h))) hown hK hP 0 rfl rfl 12 (by decide) (hts (.fieldLink RX1 53 "CheapHours$Job" "taken" "I") (List.mem_of_getElem? (i := 12) rfl)) (fun _ h9 => h9) rfl dX1_tell_129 ?_
    rw [← hQQ]
    exact W.iret (v := (row 19)) hx hb hr (fun t9 ht9 hW9 => ⟨_, rfl, (by simp only [tellV, if_neg sw_1_0, if_neg sw_1_1, if_neg sw_1_2, if_neg sw_1_3, if_neg sw_1_4, if_neg sw_1_5, if_neg sw_1_6, if_neg sw_1_7, if_neg sw_1_8, if_neg sw_1_9, if_neg sw_1_10, if_neg sw_1_11, if_pos sw_1_12]), ht9⟩) (fun q h => by cases h) dX1_tell_132
  refine lv_tableOut (tgt := 133) hx hb dX1_tell_1 (sw_out13_0 sw_1_0 sw_1_1 sw_1_2 sw_1_3 sw_1_4 sw_1_5 sw_1_6 sw_1_7 sw_1_8 sw_1_9 sw_1_10 sw_1_11 sw_1_12) (by decide) ?_
  refine lv_iconst (v := (-1)) hx hb dX1_tell_133 (by decide) ?_
  rw [← hQQ]
  exact W.iret (v := (-1)) hx hb hr (fun t9 ht9 hW9 => ⟨_, rfl, (by simp only [tellV, if_neg sw_1_0, if_neg sw_1_1, if_neg sw_1_2, if_neg sw_1_3, if_neg sw_1_4, if_neg sw_1_5, if_neg sw_1_6, if_neg sw_1_7, if_neg sw_1_8, if_neg sw_1_9, if_neg sw_1_10, if_neg sw_1_11, if_neg sw_1_12]), ht9⟩) (fun q h => by cases h) dX1_tell_134
set_option maxHeartbeats 4000000 in
set_option maxRecDepth 100000 in
theorem c_X1_loseUnsaved (l : Launch) (D : va_G) (cI cL cZ cO : ClassId) (sz : Nat) (ja ta : Nat) (row : Nat → Int32) : Met l yX1_loseUnsaved wsX1_loseUnsaved ({ frames := 0, cells := 0, slots := 0, locals := 0 } : Room) (va_Pc [.ref ja] (Rw D cI cL cZ cO (wJ ja ta row) sz)) (va_Qv (fun (u : Unit) => True) (fun (u : Unit) => Wo D (va_A (wJ ja ta row) sz) (wJ ja ta (rLose row))) (va_A (wJ ja ta row) sz)) 0 0 (va_A (wJ ja ta row) sz) := by
  refine Met.ofW (cc := cX1_loseUnsaved) (maxL := 1) (ret := none) (by decide) rfl ?_
  intro p e s m args below meth c s₁ B hml hv
  obtain ⟨rfl, hsz, hP, hO, hD0⟩ := hv
  have hx := B.exec
  have hb := B.bytes
  have hr := B.returns
  have hts := atoms_spec (ws := wsX1_loseUnsaved) B.pre
  have hown : s.vm.findClass RX1 = some m.cls := findClass_of_methodNamed B.named
  have hlocks := B.notSynchronized
  have hK := hO.1
  subst hsz
  have hD := hD0.self (sz := s.heap.size)
  generalize hAe : va_A (wJ ja ta row) s.heap.size = A at hD ⊢
  have hA : ∀ q : Nat, s.heap.size ≤ q → A q := fun q h => by rw [← hAe]; exact Or.inr h
  have hS : va_S A s.heap s.heap [] := va_S.rf
  have hl := lv_entry ([.ref ja]) (n := 1) (Nat.le_of_ble_eq_true rfl)
  rw [lg_entry_eq]
  generalize (lg_sl ([.ref ja]) ++ List.replicate (1 - (lg_sl ([.ref ja])).length) Slot.unset).toArray = ls at hl ⊢
  have hl : lv_has ls 1 [(0, .ref ja)] := hl
  generalize hQQ : MQ below _ _ s _ _ _ = QQ
  refine lv_aload_n hx hb dX1_loseUnsaved_0 rfl (lv_at hl 0 rfl) ?_
  refine lv_dup hx hb dX1_loseUnsaved_1 rfl ?_
  refine va_get (D := D) (cl := vwCl) (ci := 1) (v := .int (row 10)) (C := RX1) (T := TX1) (N := 16) hx hb hts (fun _ h => List.mem_cons_of_mem _ (List.mem_append_right _ h)) hown hK hP 0 rfl rfl 4 (by decide) (hts (.fieldLink RX1 28 "CheapHours$Job" "lost" "I") (List.mem_of_getElem? (i := 1) rfl)) (fun _ h9 => h9) rfl dX1_loseUnsaved_2 ?_
  refine lv_aload_n hx hb dX1_loseUnsaved_5 rfl (lv_at hl 0 rfl) ?_
  refine va_get (D := D) (cl := vwCl) (ci := 1) (v := .int (row 9)) (C := RX1) (T := TX1) (N := 16) hx hb hts (fun _ h => List.mem_cons_of_mem _ (List.mem_append_right _ h)) hown hK hP 0 rfl rfl 3 (by decide) (hts (.fieldLink RX1 25 "CheapHours$Job" "unsaved" "I") (List.mem_of_getElem? (i := 2) rfl)) (fun _ h9 => h9) rfl dX1_loseUnsaved_6 ?_
  refine lv_iadd hx hb dX1_loseUnsaved_9 ?_
  refine va_put (D := D) (cl := vwCl) (ci := 1) (v := .int ((row 10) + (row 9))) (ty := .int) (C := RX1) (T := TX1) (N := 16) hx hb hts (fun _ h => List.mem_cons_of_mem _ (List.mem_append_right _ h)) tyX1 tyX1_ok nmX1 hown hK hP hD hS 0 rfl rfl 4 (by decide) (hts (.fieldLink RX1 28 "CheapHours$Job" "lost" "I") (List.mem_of_getElem? (i := 1) rfl)) (fun _ h9 => h9) rfl (by decide +kernel) rfl rfl (Nat.le_of_ble_eq_true rfl) dX1_loseUnsaved_10 (fun H locs hP hD hS => ?_)
  obtain ⟨x10, ex10⟩ : ∃ z : Nat → Int32, z = va_up row 10 ((row 10) + (row 9)) := ⟨_, rfl⟩
  have hP : va_P D vwCl (wJ ja ta x10) H := by rw [ex10]; exact hP
  have hD : va_D A (wJ ja ta x10) := by rw [ex10]; exact hD
  refine lv_aload_n hx hb dX1_loseUnsaved_13 rfl (lv_at hl 0 rfl) ?_
  refine lv_iconst (v := 0) hx hb dX1_loseUnsaved_14 (by decide) ?_
  refine va_put (D := D) (cl := vwCl) (ci := 1) (v := .int 0) (ty := .int) (C := RX1) (T := TX1) (N := 16) hx hb hts (fun _ h => List.mem_cons_of_mem _ (List.mem_append_right _ h)) tyX1 tyX1_ok nmX1 hown hK hP hD hS 0 rfl rfl 3 (by decide) (hts (.fieldLink RX1 25 "CheapHours$Job" "unsaved" "I") (List.mem_of_getElem? (i := 2) rfl)) (fun _ h9 => h9) rfl (by decide +kernel) rfl rfl (Nat.le_of_ble_eq_true rfl) dX1_loseUnsaved_15 (fun H locs hP hD hS => ?_)
  obtain ⟨x15, ex15⟩ : ∃ z : Nat → Int32, z = va_up x10 9 0 := ⟨_, rfl⟩
  have hP : va_P D vwCl (wJ ja ta x15) H := by rw [ex15]; exact hP
  have hD : va_D A (wJ ja ta x15) := by rw [ex15]; exact hD
  refine lv_aload_n hx hb dX1_loseUnsaved_18 rfl (lv_at hl 0 rfl) ?_
  refine lv_iconst (v := 0) hx hb dX1_loseUnsaved_19 (by decide) ?_
  refine va_put (D := D) (cl := vwCl) (ci := 1) (v := .int 0) (ty := .int) (C := RX1) (T := TX1) (N := 16) hx hb hts (fun _ h => List.mem_cons_of_mem _ (List.mem_append_right _ h)) tyX1 tyX1_ok nmX1 hown hK hP hD hS 0 rfl rfl 14 (by decide) (hts (.fieldLink RX1 103 "CheapHours$Job" "bringLeft" "I") (List.mem_of_getElem? (i := 3) rfl)) (fun _ h9 => h9) rfl (by decide +kernel) rfl rfl (Nat.le_of_ble_eq_true rfl) dX1_loseUnsaved_20 (fun H locs hP hD hS => ?_)
  obtain ⟨x20, ex20⟩ : ∃ z : Nat → Int32, z = va_up x15 20 0 := ⟨_, rfl⟩
  have hP : va_P D vwCl (wJ ja ta x20) H := by rw [ex20]; exact hP
  have hD : va_D A (wJ ja ta x20) := by rw [ex20]; exact hD
  refine lv_aload_n hx hb dX1_loseUnsaved_23 rfl (lv_at hl 0 rfl) ?_
  refine lv_iconst (v := 0) hx hb dX1_loseUnsaved_24 (by decide) ?_
  refine va_put (D := D) (cl := vwCl) (ci := 1) (v := .int 0) (ty := .int) (C := RX1) (T := TX1) (N := 16) hx hb hts (fun _ h => List.mem_cons_of_mem _ (List.mem_append_right _ h)) tyX1 tyX1_ok nmX1 hown hK hP hD hS 0 rfl rfl 15 (by decide) (hts (.fieldLink RX1 112 "CheapHours$Job" "saveLeft" "I") (List.mem_of_getElem? (i := 4) rfl)) (fun _ h9 => h9) rfl (by decide +kernel) rfl rfl (Nat.le_of_ble_eq_true rfl) dX1_loseUnsaved_25 (fun H locs hP hD hS => ?_)
  obtain ⟨x25, ex25⟩ : ∃ z : Nat → Int32, z = va_up x20 21 0 := ⟨_, rfl⟩
  have hP : va_P D vwCl (wJ ja ta x25) H := by rw [ex25]; exact hP
  have hD : va_D A (wJ ja ta x25) := by rw [ex25]; exact hD
  have hP : va_P D vwCl (wJ ja ta (rLose row)) H := by subst_vars; exact hP
  have hD : va_D A (wJ ja ta (rLose row)) := by subst_vars; exact hD
  rw [← hQQ]
  exact W.vret hx hb hr (fun t9 ht9 hW9 => ⟨⟨(), rfl, trivial, by rw [ht9]; exact hP, hD⟩, hS.F ht9⟩) hS.2.2 dX1_loseUnsaved_28
set_option maxHeartbeats 4000000 in
set_option maxRecDepth 100000 in
theorem c_X1_keepAll (l : Launch) (D : va_G) (cI cL cZ cO : ClassId) (sz : Nat) (ja ta : Nat) (row : Nat → Int32) : Met l yX1_keepAll wsX1_keepAll ({ frames := 0, cells := 0, slots := 0, locals := 0 } : Room) (va_Pc [.ref ja] (Rw D cI cL cZ cO (wJ ja ta row) sz)) (va_Qv (fun (u : Unit) => True) (fun (u : Unit) => Wo D (va_A (wJ ja ta row) sz) (wJ ja ta (rKeep row))) (va_A (wJ ja ta row) sz)) 0 0 (va_A (wJ ja ta row) sz) := by
  refine Met.ofW (cc := cX1_keepAll) (maxL := 1) (ret := none) (by decide) rfl ?_
  intro p e s m args below meth c s₁ B hml hv
  obtain ⟨rfl, hsz, hP, hO, hD0⟩ := hv
  have hx := B.exec
  have hb := B.bytes
  have hr := B.returns
  have hts := atoms_spec (ws := wsX1_keepAll) B.pre
  have hown : s.vm.findClass RX1 = some m.cls := findClass_of_methodNamed B.named
  have hlocks := B.notSynchronized
  have hK := hO.1
  subst hsz
  have hD := hD0.self (sz := s.heap.size)
  generalize hAe : va_A (wJ ja ta row) s.heap.size = A at hD ⊢
  have hA : ∀ q : Nat, s.heap.size ≤ q → A q := fun q h => by rw [← hAe]; exact Or.inr h
  have hS : va_S A s.heap s.heap [] := va_S.rf
  have hl := lv_entry ([.ref ja]) (n := 1) (Nat.le_of_ble_eq_true rfl)
  rw [lg_entry_eq]
  generalize (lg_sl ([.ref ja]) ++ List.replicate (1 - (lg_sl ([.ref ja])).length) Slot.unset).toArray = ls at hl ⊢
  have hl : lv_has ls 1 [(0, .ref ja)] := hl
  generalize hQQ : MQ below _ _ s _ _ _ = QQ
  refine lv_aload_n hx hb dX1_keepAll_0 rfl (lv_at hl 0 rfl) ?_
  refine lv_dup hx hb dX1_keepAll_1 rfl ?_
  refine va_get (D := D) (cl := vwCl) (ci := 1) (v := .int (row 8)) (C := RX1) (T := TX1) (N := 16) hx hb hts (fun _ h => List.mem_cons_of_mem _ (List.mem_append_right _ h)) hown hK hP 0 rfl rfl 2 (by decide) (hts (.fieldLink RX1 22 "CheapHours$Job" "saved" "I") (List.mem_of_getElem? (i := 1) rfl)) (fun _ h9 => h9) rfl dX1_keepAll_2 ?_
  refine lv_aload_n hx hb dX1_keepAll_5 rfl (lv_at hl 0 rfl) ?_
  refine va_get (D := D) (cl := vwCl) (ci := 1) (v := .int (row 9)) (C := RX1) (T := TX1) (N := 16) hx hb hts (fun _ h => List.mem_cons_of_mem _ (List.mem_append_right _ h)) hown hK hP 0 rfl rfl 3 (by decide) (hts (.fieldLink RX1 25 "CheapHours$Job" "unsaved" "I") (List.mem_of_getElem? (i := 2) rfl)) (fun _ h9 => h9) rfl dX1_keepAll_6 ?_
  refine lv_iadd hx hb dX1_keepAll_9 ?_
  refine va_put (D := D) (cl := vwCl) (ci := 1) (v := .int ((row 8) + (row 9))) (ty := .int) (C := RX1) (T := TX1) (N := 16) hx hb hts (fun _ h => List.mem_cons_of_mem _ (List.mem_append_right _ h)) tyX1 tyX1_ok nmX1 hown hK hP hD hS 0 rfl rfl 2 (by decide) (hts (.fieldLink RX1 22 "CheapHours$Job" "saved" "I") (List.mem_of_getElem? (i := 1) rfl)) (fun _ h9 => h9) rfl (by decide +kernel) rfl rfl (Nat.le_of_ble_eq_true rfl) dX1_keepAll_10 (fun H locs hP hD hS => ?_)
  obtain ⟨x10, ex10⟩ : ∃ z : Nat → Int32, z = va_up row 8 ((row 8) + (row 9)) := ⟨_, rfl⟩
  have hP : va_P D vwCl (wJ ja ta x10) H := by rw [ex10]; exact hP
  have hD : va_D A (wJ ja ta x10) := by rw [ex10]; exact hD
  refine lv_aload_n hx hb dX1_keepAll_13 rfl (lv_at hl 0 rfl) ?_
  refine lv_iconst (v := 0) hx hb dX1_keepAll_14 (by decide) ?_
  refine va_put (D := D) (cl := vwCl) (ci := 1) (v := .int 0) (ty := .int) (C := RX1) (T := TX1) (N := 16) hx hb hts (fun _ h => List.mem_cons_of_mem _ (List.mem_append_right _ h)) tyX1 tyX1_ok nmX1 hown hK hP hD hS 0 rfl rfl 3 (by decide) (hts (.fieldLink RX1 25 "CheapHours$Job" "unsaved" "I") (List.mem_of_getElem? (i := 2) rfl)) (fun _ h9 => h9) rfl (by decide +kernel) rfl rfl (Nat.le_of_ble_eq_true rfl) dX1_keepAll_15 (fun H locs hP hD hS => ?_)
  obtain ⟨x15, ex15⟩ : ∃ z : Nat → Int32, z = va_up x10 9 0 := ⟨_, rfl⟩
  have hP : va_P D vwCl (wJ ja ta x15) H := by rw [ex15]; exact hP
  have hD : va_D A (wJ ja ta x15) := by rw [ex15]; exact hD
  have hP : va_P D vwCl (wJ ja ta (rKeep row)) H := by subst_vars; exact hP
  have hD : va_D A (wJ ja ta (rKeep row)) := by subst_vars; exact hD
  rw [← hQQ]
  exact W.vret hx hb hr (fun t9 ht9 hW9 => ⟨⟨(), rfl, trivial, by rw [ht9]; exact hP, hD⟩, hS.F ht9⟩) hS.2.2 dX1_keepAll_18
set_option maxHeartbeats 4000000 in
set_option maxRecDepth 100000 in
theorem c_X1_bringOn (l : Launch) (D : va_G) (cI cL cZ cO : ClassId) (sz : Nat) (ja ta : Nat) (row : Nat → Int32) : Met l yX1_bringOn wsX1_bringOn ({ frames := 0, cells := 0, slots := 0, locals := 0 } : Room) (va_Pc [.ref ja] (Rw D cI cL cZ cO (wJ ja ta row) sz)) (va_Qv (fun (u : Unit) => True) (fun (u : Unit) => Wo D (va_A (wJ ja ta row) sz) (wJ ja ta (rBring row))) (va_A (wJ ja ta row) sz)) 0 0 (va_A (wJ ja ta row) sz) := by
  refine Met.ofW (cc := cX1_bringOn) (maxL := 1) (ret := none) (by decide) rfl ?_
  intro p e s m args below meth c s₁ B hml hv
  obtain ⟨rfl, hsz, hP, hO, hD0⟩ := hv
  have hx := B.exec
  have hb := B.bytes
  have hr := B.returns
  have hts := atoms_spec (ws := wsX1_bringOn) B.pre
  have hown : s.vm.findClass RX1 = some m.cls := findClass_of_methodNamed B.named
  have hlocks := B.notSynchronized
  have hK := hO.1
  subst hsz
  have hD := hD0.self (sz := s.heap.size)
  generalize hAe : va_A (wJ ja ta row) s.heap.size = A at hD ⊢
  have hA : ∀ q : Nat, s.heap.size ≤ q → A q := fun q h => by rw [← hAe]; exact Or.inr h
  have hS : va_S A s.heap s.heap [] := va_S.rf
  have hl := lv_entry ([.ref ja]) (n := 1) (Nat.le_of_ble_eq_true rfl)
  rw [lg_entry_eq]
  generalize (lg_sl ([.ref ja]) ++ List.replicate (1 - (lg_sl ([.ref ja])).length) Slot.unset).toArray = ls at hl ⊢
  have hl : lv_has ls 1 [(0, .ref ja)] := hl
  generalize hQQ : MQ below _ _ s _ _ _ = QQ
  refine lv_aload_n hx hb dX1_bringOn_0 rfl (lv_at hl 0 rfl) ?_
  refine lv_dup hx hb dX1_bringOn_1 rfl ?_
  refine va_get (D := D) (cl := vwCl) (ci := 1) (v := .int (row 20)) (C := RX1) (T := TX1) (N := 16) hx hb hts (fun _ h => List.mem_cons_of_mem _ (List.mem_append_right _ h)) hown hK hP 0 rfl rfl 14 (by decide) (hts (.fieldLink RX1 103 "CheapHours$Job" "bringLeft" "I") (List.mem_of_getElem? (i := 1) rfl)) (fun _ h9 => h9) rfl dX1_bringOn_2 ?_
  refine lv_iconst (v := 1) hx hb dX1_bringOn_5 (by decide) ?_
  refine lv_isub hx hb dX1_bringOn_6 ?_
  refine va_put (D := D) (cl := vwCl) (ci := 1) (v := .int ((row 20) - 1)) (ty := .int) (C := RX1) (T := TX1) (N := 16) hx hb hts (fun _ h => List.mem_cons_of_mem _ (List.mem_append_right _ h)) tyX1 tyX1_ok nmX1 hown hK hP hD hS 0 rfl rfl 14 (by decide) (hts (.fieldLink RX1 103 "CheapHours$Job" "bringLeft" "I") (List.mem_of_getElem? (i := 1) rfl)) (fun _ h9 => h9) rfl (by decide +kernel) rfl rfl (Nat.le_of_ble_eq_true rfl) dX1_bringOn_7 (fun H locs hP hD hS => ?_)
  obtain ⟨x7, ex7⟩ : ∃ z : Nat → Int32, z = va_up row 20 ((row 20) - 1) := ⟨_, rfl⟩
  have hP : va_P D vwCl (wJ ja ta x7) H := by rw [ex7]; exact hP
  have hD : va_D A (wJ ja ta x7) := by rw [ex7]; exact hD
  refine lv_aload_n hx hb dX1_bringOn_10 rfl (lv_at hl 0 rfl) ?_
  refine lv_dup hx hb dX1_bringOn_11 rfl ?_
  refine va_get (D := D) (cl := vwCl) (ci := 1) (v := .int (x7 12)) (C := RX1) (T := TX1) (N := 16) hx hb hts (fun _ h => List.mem_cons_of_mem _ (List.mem_append_right _ h)) hown hK hP 0 rfl rfl 6 (by decide) (hts (.fieldLink RX1 34 "CheapHours$Job" "bringHours" "I") (List.mem_of_getElem? (i := 2) rfl)) (fun _ h9 => h9) rfl dX1_bringOn_12 ?_
  refine lv_iconst (v := 1) hx hb dX1_bringOn_15 (by decide) ?_
  refine lv_iadd hx hb dX1_bringOn_16 ?_
  refine va_put (D := D) (cl := vwCl) (ci := 1) (v := .int ((x7 12) + 1)) (ty := .int) (C := RX1) (T := TX1) (N := 16) hx hb hts (fun _ h => List.mem_cons_of_mem _ (List.mem_append_right _ h)) tyX1 tyX1_ok nmX1 hown hK hP hD hS 0 rfl rfl 6 (by decide) (hts (.fieldLink RX1 34 "CheapHours$Job" "bringHours" "I") (List.mem_of_getElem? (i := 2) rfl)) (fun _ h9 => h9) rfl (by decide +kernel) rfl rfl (Nat.le_of_ble_eq_true rfl) dX1_bringOn_17 (fun H locs hP hD hS => ?_)
  obtain ⟨x17, ex17⟩ : ∃ z : Nat → Int32, z = va_up x7 12 ((x7 12) + 1) := ⟨_, rfl⟩
  have hP : va_P D vwCl (wJ ja ta x17) H := by rw [ex17]; exact hP
  have hD : va_D A (wJ ja ta x17) := by rw [ex17]; exact hD
  have hrow : rBring row = x17 := by
    subst_vars
    simp only [rBring, rInc, rDec]
  rw [← hrow] at hP hD
  rw [← hQQ]
  exact W.vret hx hb hr (fun t9 ht9 hW9 => ⟨⟨(), rfl, trivial, by rw [ht9]; exact hP, hD⟩, hS.F ht9⟩) hS.2.2 dX1_bringOn_20
set_option maxHeartbeats 4000000 in
set_option maxRecDepth 100000 in
theorem c_X1_saveOn (l : Launch) (D : va_G) (cI cL cZ cO : ClassId) (sz : Nat) (ja ta : Nat) (row : Nat → Int32) : Met l yX1_saveOn wsX1_saveOn ({ frames := 1, cells := 0, slots := 0, locals := 20 } : Room) (va_Pc [.ref ja] (Rw D cI cL cZ cO (wJ ja ta row) sz)) (va_Qv (fun (u : Unit) => True) (fun (u : Unit) => Wo D (va_A (wJ ja ta row) sz) (wJ ja ta (rSave row))) (va_A (wJ ja ta row) sz)) 0 0 (va_A (wJ ja ta row) sz) := by
  refine Met.ofW (cc := cX1_saveOn) (maxL := 1) (ret := none) (by decide) rfl ?_
  intro p e s m args below meth c s₁ B hml hv
  obtain ⟨rfl, hsz, hP, hO, hD0⟩ := hv
  have hx := B.exec
  have hb := B.bytes
  have hr := B.returns
  have hts := atoms_spec (ws := wsX1_saveOn) B.pre
  have hown : s.vm.findClass RX1 = some m.cls := findClass_of_methodNamed B.named
  have hlocks := B.notSynchronized
  have hK := hO.1
  subst hsz
  have hD := hD0.self (sz := s.heap.size)
  generalize hAe : va_A (wJ ja ta row) s.heap.size = A at hD ⊢
  have hA : ∀ q : Nat, s.heap.size ≤ q → A q := fun q h => by rw [← hAe]; exact Or.inr h
  have hS : va_S A s.heap s.heap [] := va_S.rf
  have hl := lv_entry ([.ref ja]) (n := 1) (Nat.le_of_ble_eq_true rfl)
  rw [lg_entry_eq]
  generalize (lg_sl ([.ref ja]) ++ List.replicate (1 - (lg_sl ([.ref ja])).length) Slot.unset).toArray = ls at hl ⊢
  have hl : lv_has ls 1 [(0, .ref ja)] := hl
  generalize hQQ : MQ below _ _ s _ _ _ = QQ
  refine lv_aload_n hx hb dX1_saveOn_0 rfl (lv_at hl 0 rfl) ?_
  refine lv_dup hx hb dX1_saveOn_1 rfl ?_
  refine va_get (D := D) (cl := vwCl) (ci := 1) (v := .int (row 21)) (C := RX1) (T := TX1) (N := 16) hx hb hts (fun _ h => List.mem_cons_of_mem _ (List.mem_append_right _ h)) hown hK hP 0 rfl rfl 15 (by decide) (hts (.fieldLink RX1 112 "CheapHours$Job" "saveLeft" "I") (List.mem_of_getElem? (i := 1) rfl)) (fun _ h9 => h9) rfl dX1_saveOn_2 ?_
  refine lv_iconst (v := 1) hx hb dX1_saveOn_5 (by decide) ?_
  refine lv_isub hx hb dX1_saveOn_6 ?_
  refine va_put (D := D) (cl := vwCl) (ci := 1) (v := .int ((row 21) - 1)) (ty := .int) (C := RX1) (T := TX1) (N := 16) hx hb hts (fun _ h => List.mem_cons_of_mem _ (List.mem_append_right _ h)) tyX1 tyX1_ok nmX1 hown hK hP hD hS 0 rfl rfl 15 (by decide) (hts (.fieldLink RX1 112 "CheapHours$Job" "saveLeft" "I") (List.mem_of_getElem? (i := 1) rfl)) (fun _ h9 => h9) rfl (by decide +kernel) rfl rfl (Nat.le_of_ble_eq_true rfl) dX1_saveOn_7 (fun H locs hP hD hS => ?_)
  obtain ⟨x7, ex7⟩ : ∃ z : Nat → Int32, z = va_up row 21 ((row 21) - 1) := ⟨_, rfl⟩
  have hP : va_P D vwCl (wJ ja ta x7) H := by rw [ex7]; exact hP
  have hD : va_D A (wJ ja ta x7) := by rw [ex7]; exact hD
  refine lv_aload_n hx hb dX1_saveOn_10 rfl (lv_at hl 0 rfl) ?_
  refine lv_dup hx hb dX1_saveOn_11 rfl ?_
  refine va_get (D := D) (cl := vwCl) (ci := 1) (v := .int (x7 13)) (C := RX1) (T := TX1) (N := 16) hx hb hts (fun _ h => List.mem_cons_of_mem _ (List.mem_append_right _ h)) hown hK hP 0 rfl rfl 7 (by decide) (hts (.fieldLink RX1 37 "CheapHours$Job" "saveHours" "I") (List.mem_of_getElem? (i := 2) rfl)) (fun _ h9 => h9) rfl dX1_saveOn_12 ?_
  refine lv_iconst (v := 1) hx hb dX1_saveOn_15 (by decide) ?_
  refine lv_iadd hx hb dX1_saveOn_16 ?_
  refine va_put (D := D) (cl := vwCl) (ci := 1) (v := .int ((x7 13) + 1)) (ty := .int) (C := RX1) (T := TX1) (N := 16) hx hb hts (fun _ h => List.mem_cons_of_mem _ (List.mem_append_right _ h)) tyX1 tyX1_ok nmX1 hown hK hP hD hS 0 rfl rfl 7 (by decide) (hts (.fieldLink RX1 37 "CheapHours$Job" "saveHours" "I") (List.mem_of_getElem? (i := 2) rfl)) (fun _ h9 => h9) rfl (by decide +kernel) rfl rfl (Nat.le_of_ble_eq_true rfl) dX1_saveOn_17 (fun H locs hP hD hS => ?_)
  obtain ⟨x17, ex17⟩ : ∃ z : Nat → Int32, z = va_up x7 13 ((x7 13) + 1) := ⟨_, rfl⟩
  have hP : va_P D vwCl (wJ ja ta x17) H := by rw [ex17]; exact hP
  have hD : va_D A (wJ ja ta x17) := by rw [ex17]; exact hD
  refine lv_aload_n hx hb dX1_saveOn_20 rfl (lv_at hl 0 rfl) ?_
  refine va_get (D := D) (cl := vwCl) (ci := 1) (v := .int (x17 21)) (C := RX1) (T := TX1) (N := 16) hx hb hts (fun _ h => List.mem_cons_of_mem _ (List.mem_append_right _ h)) hown hK hP 0 rfl rfl 15 (by decide) (hts (.fieldLink RX1 112 "CheapHours$Job" "saveLeft" "I") (List.mem_of_getElem? (i := 1) rfl)) (fun _ h9 => h9) rfl dX1_saveOn_21 ?_
  refine lv_if_ne (tgt := 31) hx hb dX1_saveOn_24 (by decide) (fun c_24 => ?_) (fun c_24 => ?_)
  · skip
    have hrow : rSave row = x17 := by
      subst_vars
      try simp only [rSave, rInc, rDec]
      try simp only [rMkS, if_neg c_24]
      done
    rw [← hrow] at hP hD
    rw [← hQQ]
    exact W.vret hx hb hr (fun t9 ht9 hW9 => ⟨⟨(), rfl, trivial, by rw [ht9]; exact hP, hD⟩, hS.F ht9⟩) hS.2.2 dX1_saveOn_31
  · skip
    refine lv_aload_n hx hb dX1_saveOn_27 rfl (lv_at hl 0 rfl) ?_
    refine rwVv (As := []) (rest := []) ⟨hx, hb, hml, hown, hts⟩ (c_X1_keepAll l D cI cL cZ cO H.size ja ta x17 ) (cwV 0 hts gX1_saveOn_X1_keepAll rfl rfl rfl (by decide +kernel) ⟨Nat.le_of_ble_eq_true rfl, Nat.le_of_ble_eq_true rfl⟩) hO hP hD hS hA (va_recv hK hP (ci := 1) (q0 := 0) rfl rfl) rfl hl.1 rfl (Nat.le_of_ble_eq_true rfl) dX1_saveOn_28 ⟨Nat.le_of_ble_eq_true rfl, Nat.le_of_ble_eq_true rfl⟩ (fun u_28 H locs e_28 hP hD hS => ?_)
    have hP : va_P D vwCl (wJ ja ta (rKeep x17)) H := hP
    have hD : va_D A (wJ ja ta (rKeep x17)) := hD
    have hrow : rSave row = rKeep x17 := by
      subst_vars
      try simp only [rSave, rInc, rDec]
      try simp only [rMkS, if_pos c_24]
      done
    rw [← hrow] at hP hD
    rw [← hQQ]
    exact W.vret hx hb hr (fun t9 ht9 hW9 => ⟨⟨(), rfl, trivial, by rw [ht9]; exact hP, hD⟩, hS.F ht9⟩) hS.2.2 dX1_saveOn_31
set_option maxHeartbeats 4000000 in
set_option maxRecDepth 100000 in
theorem c_X1_workOn (l : Launch) (D : va_G) (cI cL cZ cO : ClassId) (sz : Nat) (ja ta : Nat) (row : Nat → Int32) (h22 : row 22 = row 9) : Met l yX1_workOn wsX1_workOn ({ frames := 1, cells := 0, slots := 0, locals := 20 } : Room) (va_Pc [.ref ja] (Rw D cI cL cZ cO (wJ ja ta row) sz)) (va_Qv (fun (u : Unit) => True) (fun (u : Unit) => Wo D (va_A (wJ ja ta row) sz) (wJ ja ta (rWork row))) (va_A (wJ ja ta row) sz)) 0 0 (va_A (wJ ja ta row) sz) := by
  refine Met.ofW (cc := cX1_workOn) (maxL := 1) (ret := none) (by decide) rfl ?_
  intro p e s m args below meth c s₁ B hml hv
  obtain ⟨rfl, hsz, hP, hO, hD0⟩ := hv
  have hx := B.exec
  have hb := B.bytes
  have hr := B.returns
  have hts := atoms_spec (ws := wsX1_workOn) B.pre
  have hown : s.vm.findClass RX1 = some m.cls := findClass_of_methodNamed B.named
  have hlocks := B.notSynchronized
  have hK := hO.1
  subst hsz
  have hD := hD0.self (sz := s.heap.size)
  generalize hAe : va_A (wJ ja ta row) s.heap.size = A at hD ⊢
  have hA : ∀ q : Nat, s.heap.size ≤ q → A q := fun q h => by rw [← hAe]; exact Or.inr h
  have hS : va_S A s.heap s.heap [] := va_S.rf
  have hl := lv_entry ([.ref ja]) (n := 1) (Nat.le_of_ble_eq_true rfl)
  rw [lg_entry_eq]
  generalize (lg_sl ([.ref ja]) ++ List.replicate (1 - (lg_sl ([.ref ja])).length) Slot.unset).toArray = ls at hl ⊢
  have hl : lv_has ls 1 [(0, .ref ja)] := hl
  generalize hQQ : MQ below _ _ s _ _ _ = QQ
  refine lv_aload_n hx hb dX1_workOn_0 rfl (lv_at hl 0 rfl) ?_
  refine lv_dup hx hb dX1_workOn_1 rfl ?_
  refine va_get (D := D) (cl := vwCl) (ci := 1) (v := .int (row 11)) (C := RX1) (T := TX1) (N := 16) hx hb hts (fun _ h => List.mem_cons_of_mem _ (List.mem_append_left _ (List.mem_append_right _ h))) hown hK hP 0 rfl rfl 5 (by decide) (hts (.fieldLink RX1 31 "CheapHours$Job" "workHours" "I") (List.mem_of_getElem? (i := 1) rfl)) (fun _ h9 => h9) rfl dX1_workOn_2 ?_
  refine lv_iconst (v := 1) hx hb dX1_workOn_5 (by decide) ?_
  refine lv_iadd hx hb dX1_workOn_6 ?_
  refine va_put (D := D) (cl := vwCl) (ci := 1) (v := .int ((row 11) + 1)) (ty := .int) (C := RX1) (T := TX1) (N := 16) hx hb hts (fun _ h => List.mem_cons_of_mem _ (List.mem_append_left _ (List.mem_append_right _ h))) tyX1 tyX1_ok nmX1 hown hK hP hD hS 0 rfl rfl 5 (by decide) (hts (.fieldLink RX1 31 "CheapHours$Job" "workHours" "I") (List.mem_of_getElem? (i := 1) rfl)) (fun _ h9 => h9) rfl (by decide +kernel) rfl rfl (Nat.le_of_ble_eq_true rfl) dX1_workOn_7 (fun H locs hP hD hS => ?_)
  obtain ⟨x7, ex7⟩ : ∃ z : Nat → Int32, z = va_up row 11 ((row 11) + 1) := ⟨_, rfl⟩
  have hP : va_P D vwCl (wJ ja ta x7) H := by rw [ex7]; exact hP
  have hD : va_D A (wJ ja ta x7) := by rw [ex7]; exact hD
  refine lv_aload_n hx hb dX1_workOn_10 rfl (lv_at hl 0 rfl) ?_
  refine lv_dup hx hb dX1_workOn_11 rfl ?_
  refine va_get (D := D) (cl := vwCl) (ci := 1) (v := .int (x7 9)) (C := RX1) (T := TX1) (N := 16) hx hb hts (fun _ h => List.mem_cons_of_mem _ (List.mem_append_left _ (List.mem_append_right _ h))) hown hK hP 0 rfl rfl 3 (by decide) (hts (.fieldLink RX1 25 "CheapHours$Job" "unsaved" "I") (List.mem_of_getElem? (i := 2) rfl)) (fun _ h9 => h9) rfl dX1_workOn_12 ?_
  refine lv_iconst (v := 1) hx hb dX1_workOn_15 (by decide) ?_
  refine lv_iadd hx hb dX1_workOn_16 ?_
  refine va_put (D := D) (cl := vwCl) (ci := 1) (v := .int ((x7 9) + 1)) (ty := .int) (C := RX1) (T := TX1) (N := 16) hx hb hts (fun _ h => List.mem_cons_of_mem _ (List.mem_append_left _ (List.mem_append_right _ h))) tyX1 tyX1_ok nmX1 hown hK hP hD hS 0 rfl rfl 3 (by decide) (hts (.fieldLink RX1 25 "CheapHours$Job" "unsaved" "I") (List.mem_of_getElem? (i := 2) rfl)) (fun _ h9 => h9) rfl (by decide +kernel) rfl rfl (Nat.le_of_ble_eq_true rfl) dX1_workOn_17 (fun H locs hP hD hS => ?_)
  obtain ⟨x17, ex17⟩ : ∃ z : Nat → Int32, z = va_up x7 9 ((x7 9) + 1) := ⟨_, rfl⟩
  have hP : va_P D vwCl (wJ ja ta x17) H := by rw [ex17]; exact hP
  have hD : va_D A (wJ ja ta x17) := by rw [ex17]; exact hD
  obtain ⟨y20, ey20⟩ : ∃ z : Nat → Int32, z = va_up x17 22 (x17 22 + 1) := ⟨_, rfl⟩
  have hP : va_P D vwCl (wJ ja ta y20) H := by rw [ey20]; exact hP
  have hD : va_D A (wJ ja ta y20) := by rw [ey20]; exact hD
  have h29 : y20 22 = y20 9 := by subst_vars; show row 22 + 1 = row 9 + 1; rw [h22]
  refine lv_aload_n hx hb dX1_workOn_20 rfl (lv_at hl 0 rfl) ?_
  refine va_get (D := D) (cl := vwCl) (ci := 1) (v := .int (y20 9)) (C := RX1) (T := TX1) (N := 16) hx hb hts (fun _ h => List.mem_cons_of_mem _ (List.mem_append_left _ (List.mem_append_right _ h))) hown hK hP 0 rfl rfl 3 (by decide) (hts (.fieldLink RX1 25 "CheapHours$Job" "unsaved" "I") (List.mem_of_getElem? (i := 2) rfl)) (fun _ h9 => h9) rfl dX1_workOn_21 ?_
  refine lv_aload_n hx hb dX1_workOn_24 rfl (lv_at hl 0 rfl) ?_
  refine va_get (D := D) (cl := vwCl) (ci := 1) (v := .ref ta) (C := RX1) (T := TX1) (N := 16) hx hb hts (fun _ h => List.mem_cons_of_mem _ (List.mem_append_left _ (List.mem_append_right _ h))) hown hK hP 0 rfl rfl 0 (by decide) (hts (.fieldLink RX1 9 "CheapHours$Job" "terms" "LCheapHours$Terms;") (List.mem_of_getElem? (i := 3) rfl)) (fun _ h9 => h9) rfl dX1_workOn_25 ?_
  refine va_get (D := D) (cl := vwCl) (ci := 4) (v := .int (y20 4)) (C := RX5) (T := TX5) (N := 8) hx hb hts (fun _ h => List.mem_cons_of_mem _ (List.mem_append_right _ h)) hown hK hP 1 rfl rfl 6 (by decide) (hts (.fieldLink RX1 124 "CheapHours$Terms" "span" "I") (List.mem_of_getElem? (i := 4) rfl)) (fun _ h9 => h9) rfl dX1_workOn_28 ?_
  refine lv_icmp_ge (tgt := 54) hx hb dX1_workOn_31 (by decide) (fun c_31 => ?_) (fun c_31 => ?_)
  · skip
    have h31 : y20 4 ≤ y20 22 := h29 ▸ c_31
    refine lv_aload_n hx hb dX1_workOn_54 rfl (lv_at hl 0 rfl) ?_
    refine lv_aload_n hx hb dX1_workOn_55 rfl (lv_at hl 0 rfl) ?_
    refine va_get (D := D) (cl := vwCl) (ci := 1) (v := .ref ta) (C := RX1) (T := TX1) (N := 16) hx hb hts (fun _ h => List.mem_cons_of_mem _ (List.mem_append_left _ (List.mem_append_right _ h))) hown hK hP 0 rfl rfl 0 (by decide) (hts (.fieldLink RX1 9 "CheapHours$Job" "terms" "LCheapHours$Terms;") (List.mem_of_getElem? (i := 3) rfl)) (fun _ h9 => h9) rfl dX1_workOn_56 ?_
    refine va_get (D := D) (cl := vwCl) (ci := 4) (v := .int (y20 5)) (C := RX5) (T := TX5) (N := 8) hx hb hts (fun _ h => List.mem_cons_of_mem _ (List.mem_append_right _ h)) hown hK hP 1 rfl rfl 3 (by decide) (hts (.fieldLink RX1 127 "CheapHours$Terms" "save" "I") (List.mem_of_getElem? (i := 7) rfl)) (fun _ h9 => h9) rfl dX1_workOn_59 ?_
    refine va_put (D := D) (cl := vwCl) (ci := 1) (v := .int (y20 5)) (ty := .int) (C := RX1) (T := TX1) (N := 16) hx hb hts (fun _ h => List.mem_cons_of_mem _ (List.mem_append_left _ (List.mem_append_right _ h))) tyX1 tyX1_ok nmX1 hown hK hP hD hS 0 rfl rfl 15 (by decide) (hts (.fieldLink RX1 112 "CheapHours$Job" "saveLeft" "I") (List.mem_of_getElem? (i := 8) rfl)) (fun _ h9 => h9) rfl (by decide +kernel) rfl rfl (Nat.le_of_ble_eq_true rfl) dX1_workOn_62 (fun H locs hP hD hS => ?_)
    obtain ⟨x62, ex62⟩ : ∃ z : Nat → Int32, z = va_up y20 21 (y20 5) := ⟨_, rfl⟩
    have hP : va_P D vwCl (wJ ja ta x62) H := by rw [ex62]; exact hP
    have hD : va_D A (wJ ja ta x62) := by rw [ex62]; exact hD
    refine lv_aload_n hx hb dX1_workOn_65 rfl (lv_at hl 0 rfl) ?_
    refine va_get (D := D) (cl := vwCl) (ci := 1) (v := .int (x62 21)) (C := RX1) (T := TX1) (N := 16) hx hb hts (fun _ h => List.mem_cons_of_mem _ (List.mem_append_left _ (List.mem_append_right _ h))) hown hK hP 0 rfl rfl 15 (by decide) (hts (.fieldLink RX1 112 "CheapHours$Job" "saveLeft" "I") (List.mem_of_getElem? (i := 8) rfl)) (fun _ h9 => h9) rfl dX1_workOn_66 ?_
    refine lv_if_ne (tgt := 76) hx hb dX1_workOn_69 (by decide) (fun c_69 => ?_) (fun c_69 => ?_)
    · skip
      have hrow : rWork row = x62 := by
        subst_vars
        try simp only [rWork, rInc]
        try simp only [rMkW, if_pos h31, if_neg c_69]
        try simp only [rMkS, if_pos h31, if_neg c_69]
        done
      rw [← hrow] at hP hD
      rw [← hQQ]
      exact W.vret hx hb hr (fun t9 ht9 hW9 => ⟨⟨(), rfl, trivial, by rw [ht9]; exact hP, hD⟩, hS.F ht9⟩) hS.2.2 dX1_workOn_76
    · skip
      refine lv_aload_n hx hb dX1_workOn_72 rfl (lv_at hl 0 rfl) ?_
      refine rwVv (As := []) (rest := []) ⟨hx, hb, hml, hown, hts⟩ (c_X1_keepAll l D cI cL cZ cO H.size ja ta x62 ) (cwV 0 hts gX1_workOn_X1_keepAll rfl rfl rfl (by decide +kernel) ⟨Nat.le_of_ble_eq_true rfl, Nat.le_of_ble_eq_true rfl⟩) hO hP hD hS hA (va_recv hK hP (ci := 1) (q0 := 0) rfl rfl) rfl hl.1 rfl (Nat.le_of_ble_eq_true rfl) dX1_workOn_73 ⟨Nat.le_of_ble_eq_true rfl, Nat.le_of_ble_eq_true rfl⟩ (fun u_73 H locs e_73 hP hD hS => ?_)
      have hP : va_P D vwCl (wJ ja ta (rKeep x62)) H := hP
      have hD : va_D A (wJ ja ta (rKeep x62)) := hD
      have hrow : rWork row = rKeep x62 := by
        subst_vars
        try simp only [rWork, rInc]
        try simp only [rMkW, if_pos h31, if_pos c_69]
        try simp only [rMkS, if_pos h31, if_pos c_69]
        done
      rw [← hrow] at hP hD
      rw [← hQQ]
      exact W.vret hx hb hr (fun t9 ht9 hW9 => ⟨⟨(), rfl, trivial, by rw [ht9]; exact hP, hD⟩, hS.F ht9⟩) hS.2.2 dX1_workOn_76
  · skip
    have h31 : ¬ y20 4 ≤ y20 22 := h29 ▸ c_31
    refine lv_aload_n hx hb dX1_workOn_34 rfl (lv_at hl 0 rfl) ?_
    refine va_get (D := D) (cl := vwCl) (ci := 1) (v := .int (y20 8)) (C := RX1) (T := TX1) (N := 16) hx hb hts (fun _ h => List.mem_cons_of_mem _ (List.mem_append_left _ (List.mem_append_right _ h))) hown hK hP 0 rfl rfl 2 (by decide) (hts (.fieldLink RX1 22 "CheapHours$Job" "saved" "I") (List.mem_of_getElem? (i := 5) rfl)) (fun _ h9 => h9) rfl dX1_workOn_35 ?_
    refine lv_aload_n hx hb dX1_workOn_38 rfl (lv_at hl 0 rfl) ?_
    refine va_get (D := D) (cl := vwCl) (ci := 1) (v := .int (y20 9)) (C := RX1) (T := TX1) (N := 16) hx hb hts (fun _ h => List.mem_cons_of_mem _ (List.mem_append_left _ (List.mem_append_right _ h))) hown hK hP 0 rfl rfl 3 (by decide) (hts (.fieldLink RX1 25 "CheapHours$Job" "unsaved" "I") (List.mem_of_getElem? (i := 2) rfl)) (fun _ h9 => h9) rfl dX1_workOn_39 ?_
    refine lv_iadd hx hb dX1_workOn_42 ?_
    refine lv_aload_n hx hb dX1_workOn_43 rfl (lv_at hl 0 rfl) ?_
    refine va_get (D := D) (cl := vwCl) (ci := 1) (v := .ref ta) (C := RX1) (T := TX1) (N := 16) hx hb hts (fun _ h => List.mem_cons_of_mem _ (List.mem_append_left _ (List.mem_append_right _ h))) hown hK hP 0 rfl rfl 0 (by decide) (hts (.fieldLink RX1 9 "CheapHours$Job" "terms" "LCheapHours$Terms;") (List.mem_of_getElem? (i := 3) rfl)) (fun _ h9 => h9) rfl dX1_workOn_44 ?_
    refine va_get (D := D) (cl := vwCl) (ci := 4) (v := .int (y20 0)) (C := RX5) (T := TX5) (N := 8) hx hb hts (fun _ h => List.mem_cons_of_mem _ (List.mem_append_right _ h)) hown hK hP 1 rfl rfl 0 (by decide) (hts (.fieldLink RX1 94 "CheapHours$Terms" "work" "I") (List.mem_of_getElem? (i := 6) rfl)) (fun _ h9 => h9) rfl dX1_workOn_47 ?_
    refine lv_icmp_ge (tgt := 54) hx hb dX1_workOn_50 (by decide) (fun c_50 => ?_) (fun c_50 => ?_)
    · skip
      refine lv_aload_n hx hb dX1_workOn_54 rfl (lv_at hl 0 rfl) ?_
      refine lv_aload_n hx hb dX1_workOn_55 rfl (lv_at hl 0 rfl) ?_
      refine va_get (D := D) (cl := vwCl) (ci := 1) (v := .ref ta) (C := RX1) (T := TX1) (N := 16) hx hb hts (fun _ h => List.mem_cons_of_mem _ (List.mem_append_left _ (List.mem_append_right _ h))) hown hK hP 0 rfl rfl 0 (by decide) (hts (.fieldLink RX1 9 "CheapHours$Job" "terms" "LCheapHours$Terms;") (List.mem_of_getElem? (i := 3) rfl)) (fun _ h9 => h9) rfl dX1_workOn_56 ?_
      refine va_get (D := D) (cl := vwCl) (ci := 4) (v := .int (y20 5)) (C := RX5) (T := TX5) (N := 8) hx hb hts (fun _ h => List.mem_cons_of_mem _ (List.mem_append_right _ h)) hown hK hP 1 rfl rfl 3 (by decide) (hts (.fieldLink RX1 127 "CheapHours$Terms" "save" "I") (List.mem_of_getElem? (i := 7) rfl)) (fun _ h9 => h9) rfl dX1_workOn_59 ?_
      refine va_put (D := D) (cl := vwCl) (ci := 1) (v := .int (y20 5)) (ty := .int) (C := RX1) (T := TX1) (N := 16) hx hb hts (fun _ h => List.mem_cons_of_mem _ (List.mem_append_left _ (List.mem_append_right _ h))) tyX1 tyX1_ok nmX1 hown hK hP hD hS 0 rfl rfl 15 (by decide) (hts (.fieldLink RX1 112 "CheapHours$Job" "saveLeft" "I") (List.mem_of_getElem? (i := 8) rfl)) (fun _ h9 => h9) rfl (by decide +kernel) rfl rfl (Nat.le_of_ble_eq_true rfl) dX1_workOn_62 (fun H locs hP hD hS => ?_)
      obtain ⟨x62, ex62⟩ : ∃ z : Nat → Int32, z = va_up y20 21 (y20 5) := ⟨_, rfl⟩
      have hP : va_P D vwCl (wJ ja ta x62) H := by rw [ex62]; exact hP
      have hD : va_D A (wJ ja ta x62) := by rw [ex62]; exact hD
      refine lv_aload_n hx hb dX1_workOn_65 rfl (lv_at hl 0 rfl) ?_
      refine va_get (D := D) (cl := vwCl) (ci := 1) (v := .int (x62 21)) (C := RX1) (T := TX1) (N := 16) hx hb hts (fun _ h => List.mem_cons_of_mem _ (List.mem_append_left _ (List.mem_append_right _ h))) hown hK hP 0 rfl rfl 15 (by decide) (hts (.fieldLink RX1 112 "CheapHours$Job" "saveLeft" "I") (List.mem_of_getElem? (i := 8) rfl)) (fun _ h9 => h9) rfl dX1_workOn_66 ?_
      refine lv_if_ne (tgt := 76) hx hb dX1_workOn_69 (by decide) (fun c_69 => ?_) (fun c_69 => ?_)
      · skip
        have hrow : rWork row = x62 := by
          subst_vars
          try simp only [rWork, rInc]
          try simp only [rMkW, if_neg h31, if_pos c_50, if_neg c_69]
          try simp only [rMkS, if_neg h31, if_pos c_50, if_neg c_69]
          done
        rw [← hrow] at hP hD
        rw [← hQQ]
        exact W.vret hx hb hr (fun t9 ht9 hW9 => ⟨⟨(), rfl, trivial, by rw [ht9]; exact hP, hD⟩, hS.F ht9⟩) hS.2.2 dX1_workOn_76
      · skip
        refine lv_aload_n hx hb dX1_workOn_72 rfl (lv_at hl 0 rfl) ?_
        refine rwVv (As := []) (rest := []) ⟨hx, hb, hml, hown, hts⟩ (c_X1_keepAll l D cI cL cZ cO H.size ja ta x62 ) (cwV 0 hts gX1_workOn_X1_keepAll rfl rfl rfl (by decide +kernel) ⟨Nat.le_of_ble_eq_true rfl, Nat.le_of_ble_eq_true rfl⟩) hO hP hD hS hA (va_recv hK hP (ci := 1) (q0 := 0) rfl rfl) rfl hl.1 rfl (Nat.le_of_ble_eq_true rfl) dX1_workOn_73 ⟨Nat.le_of_ble_eq_true rfl, Nat.le_of_ble_eq_true rfl⟩ (fun u_73 H locs e_73 hP hD hS => ?_)
        have hP : va_P D vwCl (wJ ja ta (rKeep x62)) H := hP
        have hD : va_D A (wJ ja ta (rKeep x62)) := hD
        have hrow : rWork row = rKeep x62 := by
          subst_vars
          try simp only [rWork, rInc]
          try simp only [rMkW, if_neg h31, if_pos c_50, if_pos c_69]
          try simp only [rMkS, if_neg h31, if_pos c_50, if_pos c_69]
          done
        rw [← hrow] at hP hD
        rw [← hQQ]
        exact W.vret hx hb hr (fun t9 ht9 hW9 => ⟨⟨(), rfl, trivial, by rw [ht9]; exact hP, hD⟩, hS.F ht9⟩) hS.2.2 dX1_workOn_76
    · skip
      have hrow : rWork row = y20 := by
        subst_vars
        try simp only [rWork, rInc]
        try simp only [rMkW, if_neg h31, if_neg c_50]
        try simp only [rMkS, if_neg h31, if_neg c_50]
        done
      rw [← hrow] at hP hD
      rw [← hQQ]
      exact W.vret hx hb hr (fun t9 ht9 hW9 => ⟨⟨(), rfl, trivial, by rw [ht9]; exact hP, hD⟩, hS.F ht9⟩) hS.2.2 dX1_workOn_53
set_option maxHeartbeats 4000000 in
set_option maxRecDepth 100000 in
theorem c_X1_comeToFull (l : Launch) (D : va_G) (cI cL cZ cO : ClassId) (sz : Nat) (ja ta : Nat) (row : Nat → Int32) : Met l yX1_comeToFull wsX1_comeToFull ({ frames := 1, cells := 0, slots := 0, locals := 20 } : Room) (va_Pc [.ref ja] (Rw D cI cL cZ cO (wJ ja ta row) sz)) (va_Qv (fun (u : Unit) => True) (fun (u : Unit) => Wo D (va_A (wJ ja ta row) sz) (wJ ja ta (rCome row))) (va_A (wJ ja ta row) sz)) 0 0 (va_A (wJ ja ta row) sz) := by
  refine Met.ofW (cc := cX1_comeToFull) (maxL := 1) (ret := none) (by decide) rfl ?_
  intro p e s m args below meth c s₁ B hml hv
  obtain ⟨rfl, hsz, hP, hO, hD0⟩ := hv
  have hx := B.exec
  have hb := B.bytes
  have hr := B.returns
  have hts := atoms_spec (ws := wsX1_comeToFull) B.pre
  have hown : s.vm.findClass RX1 = some m.cls := findClass_of_methodNamed B.named
  have hlocks := B.notSynchronized
  have hK := hO.1
  subst hsz
  have hD := hD0.self (sz := s.heap.size)
  generalize hAe : va_A (wJ ja ta row) s.heap.size = A at hD ⊢
  have hA : ∀ q : Nat, s.heap.size ≤ q → A q := fun q h => by rw [← hAe]; exact Or.inr h
  have hS : va_S A s.heap s.heap [] := va_S.rf
  have hl := lv_entry ([.ref ja]) (n := 1) (Nat.le_of_ble_eq_true rfl)
  rw [lg_entry_eq]
  generalize (lg_sl ([.ref ja]) ++ List.replicate (1 - (lg_sl ([.ref ja])).length) Slot.unset).toArray = ls at hl ⊢
  have hl : lv_has ls 1 [(0, .ref ja)] := hl
  generalize hQQ : MQ below _ _ s _ _ _ = QQ
  refine lv_aload_n hx hb dX1_comeToFull_0 rfl (lv_at hl 0 rfl) ?_
  refine rwVv (As := []) (rest := []) ⟨hx, hb, hml, hown, hts⟩ (c_X1_loseUnsaved l D cI cL cZ cO s.heap.size ja ta row ) (cwV 0 hts gX1_comeToFull_X1_loseUnsaved rfl rfl rfl (by decide +kernel) ⟨Nat.le_of_ble_eq_true rfl, Nat.le_of_ble_eq_true rfl⟩) hO hP hD hS hA (va_recv hK hP (ci := 1) (q0 := 0) rfl rfl) rfl hl.1 rfl (Nat.le_of_ble_eq_true rfl) dX1_comeToFull_1 ⟨Nat.le_of_ble_eq_true rfl, Nat.le_of_ble_eq_true rfl⟩ (fun u_1 H locs e_1 hP hD hS => ?_)
  have hP : va_P D vwCl (wJ ja ta (rLose row)) H := hP
  have hD : va_D A (wJ ja ta (rLose row)) := hD
  refine lv_aload_n hx hb dX1_comeToFull_4 rfl (lv_at hl 0 rfl) ?_
  refine lv_iconst (v := 2) hx hb dX1_comeToFull_5 (by decide) ?_
  refine va_put (D := D) (cl := vwCl) (ci := 1) (v := .int 2) (ty := .int) (C := RX1) (T := TX1) (N := 16) hx hb hts (fun _ h => List.mem_cons_of_mem _ (List.mem_append_left _ (List.mem_append_right _ h))) tyX1 tyX1_ok nmX1 hown hK hP hD hS 0 rfl rfl 10 (by decide) (hts (.fieldLink RX1 15 "CheapHours$Job" "place" "I") (List.mem_of_getElem? (i := 1) rfl)) (fun _ h9 => h9) rfl (by decide +kernel) rfl rfl (Nat.le_of_ble_eq_true rfl) dX1_comeToFull_6 (fun H locs hP hD hS => ?_)
  obtain ⟨x6, ex6⟩ : ∃ z : Nat → Int32, z = va_up (rLose row) 17 2 := ⟨_, rfl⟩
  have hP : va_P D vwCl (wJ ja ta x6) H := by rw [ex6]; exact hP
  have hD : va_D A (wJ ja ta x6) := by rw [ex6]; exact hD
  refine lv_aload_n hx hb dX1_comeToFull_9 rfl (lv_at hl 0 rfl) ?_
  refine va_get (D := D) (cl := vwCl) (ci := 1) (v := .int (x6 8)) (C := RX1) (T := TX1) (N := 16) hx hb hts (fun _ h => List.mem_cons_of_mem _ (List.mem_append_left _ (List.mem_append_right _ h))) hown hK hP 0 rfl rfl 2 (by decide) (hts (.fieldLink RX1 22 "CheapHours$Job" "saved" "I") (List.mem_of_getElem? (i := 2) rfl)) (fun _ h9 => h9) rfl dX1_comeToFull_10 ?_
  refine lv_aload_n hx hb dX1_comeToFull_13 rfl (lv_at hl 0 rfl) ?_
  refine va_get (D := D) (cl := vwCl) (ci := 1) (v := .ref ta) (C := RX1) (T := TX1) (N := 16) hx hb hts (fun _ h => List.mem_cons_of_mem _ (List.mem_append_left _ (List.mem_append_right _ h))) hown hK hP 0 rfl rfl 0 (by decide) (hts (.fieldLink RX1 9 "CheapHours$Job" "terms" "LCheapHours$Terms;") (List.mem_of_getElem? (i := 3) rfl)) (fun _ h9 => h9) rfl dX1_comeToFull_14 ?_
  refine va_get (D := D) (cl := vwCl) (ci := 4) (v := .int (x6 6)) (C := RX5) (T := TX5) (N := 8) hx hb hts (fun _ h => List.mem_cons_of_mem _ (List.mem_append_right _ h)) hown hK hP 1 rfl rfl 4 (by decide) (hts (.fieldLink RX1 97 "CheapHours$Terms" "bring" "I") (List.mem_of_getElem? (i := 4) rfl)) (fun _ h9 => h9) rfl dX1_comeToFull_17 ?_
  refine lv_icmp_le (tgt := 37) hx hb dX1_comeToFull_20 (by decide) (fun c_20 => ?_) (fun c_20 => ?_)
  · skip
    refine lv_aload_n hx hb dX1_comeToFull_37 rfl (lv_at hl 0 rfl) ?_
    refine lv_dup hx hb dX1_comeToFull_38 rfl ?_
    refine va_get (D := D) (cl := vwCl) (ci := 1) (v := .int (x6 10)) (C := RX1) (T := TX1) (N := 16) hx hb hts (fun _ h => List.mem_cons_of_mem _ (List.mem_append_left _ (List.mem_append_right _ h))) hown hK hP 0 rfl rfl 4 (by decide) (hts (.fieldLink RX1 28 "CheapHours$Job" "lost" "I") (List.mem_of_getElem? (i := 6) rfl)) (fun _ h9 => h9) rfl dX1_comeToFull_39 ?_
    refine lv_aload_n hx hb dX1_comeToFull_42 rfl (lv_at hl 0 rfl) ?_
    refine va_get (D := D) (cl := vwCl) (ci := 1) (v := .int (x6 8)) (C := RX1) (T := TX1) (N := 16) hx hb hts (fun _ h => List.mem_cons_of_mem _ (List.mem_append_left _ (List.mem_append_right _ h))) hown hK hP 0 rfl rfl 2 (by decide) (hts (.fieldLink RX1 22 "CheapHours$Job" "saved" "I") (List.mem_of_getElem? (i := 2) rfl)) (fun _ h9 => h9) rfl dX1_comeToFull_43 ?_
    refine lv_iadd hx hb dX1_comeToFull_46 ?_
    refine va_put (D := D) (cl := vwCl) (ci := 1) (v := .int ((x6 10) + (x6 8))) (ty := .int) (C := RX1) (T := TX1) (N := 16) hx hb hts (fun _ h => List.mem_cons_of_mem _ (List.mem_append_left _ (List.mem_append_right _ h))) tyX1 tyX1_ok nmX1 hown hK hP hD hS 0 rfl rfl 4 (by decide) (hts (.fieldLink RX1 28 "CheapHours$Job" "lost" "I") (List.mem_of_getElem? (i := 6) rfl)) (fun _ h9 => h9) rfl (by decide +kernel) rfl rfl (Nat.le_of_ble_eq_true rfl) dX1_comeToFull_47 (fun H locs hP hD hS => ?_)
    obtain ⟨x47, ex47⟩ : ∃ z : Nat → Int32, z = va_up x6 10 ((x6 10) + (x6 8)) := ⟨_, rfl⟩
    have hP : va_P D vwCl (wJ ja ta x47) H := by rw [ex47]; exact hP
    have hD : va_D A (wJ ja ta x47) := by rw [ex47]; exact hD
    refine lv_aload_n hx hb dX1_comeToFull_50 rfl (lv_at hl 0 rfl) ?_
    refine lv_iconst (v := 0) hx hb dX1_comeToFull_51 (by decide) ?_
    refine va_put (D := D) (cl := vwCl) (ci := 1) (v := .int 0) (ty := .int) (C := RX1) (T := TX1) (N := 16) hx hb hts (fun _ h => List.mem_cons_of_mem _ (List.mem_append_left _ (List.mem_append_right _ h))) tyX1 tyX1_ok nmX1 hown hK hP hD hS 0 rfl rfl 2 (by decide) (hts (.fieldLink RX1 22 "CheapHours$Job" "saved" "I") (List.mem_of_getElem? (i := 2) rfl)) (fun _ h9 => h9) rfl (by decide +kernel) rfl rfl (Nat.le_of_ble_eq_true rfl) dX1_comeToFull_52 (fun H locs hP hD hS => ?_)
    obtain ⟨x52, ex52⟩ : ∃ z : Nat → Int32, z = va_up x47 8 0 := ⟨_, rfl⟩
    have hP : va_P D vwCl (wJ ja ta x52) H := by rw [ex52]; exact hP
    have hD : va_D A (wJ ja ta x52) := by rw [ex52]; exact hD
    have hrow : rCome row = x52 := by
      subst_vars
      simp only [rCome, rFullB, if_pos c_20]
    rw [← hrow] at hP hD
    rw [← hQQ]
    exact W.vret hx hb hr (fun t9 ht9 hW9 => ⟨⟨(), rfl, trivial, by rw [ht9]; exact hP, hD⟩, hS.F ht9⟩) hS.2.2 dX1_comeToFull_55
  · skip
    refine lv_aload_n hx hb dX1_comeToFull_23 rfl (lv_at hl 0 rfl) ?_
    refine lv_aload_n hx hb dX1_comeToFull_24 rfl (lv_at hl 0 rfl) ?_
    refine va_get (D := D) (cl := vwCl) (ci := 1) (v := .ref ta) (C := RX1) (T := TX1) (N := 16) hx hb hts (fun _ h => List.mem_cons_of_mem _ (List.mem_append_left _ (List.mem_append_right _ h))) hown hK hP 0 rfl rfl 0 (by decide) (hts (.fieldLink RX1 9 "CheapHours$Job" "terms" "LCheapHours$Terms;") (List.mem_of_getElem? (i := 3) rfl)) (fun _ h9 => h9) rfl dX1_comeToFull_25 ?_
    refine va_get (D := D) (cl := vwCl) (ci := 4) (v := .int (x6 6)) (C := RX5) (T := TX5) (N := 8) hx hb hts (fun _ h => List.mem_cons_of_mem _ (List.mem_append_right _ h)) hown hK hP 1 rfl rfl 4 (by decide) (hts (.fieldLink RX1 97 "CheapHours$Terms" "bring" "I") (List.mem_of_getElem? (i := 4) rfl)) (fun _ h9 => h9) rfl dX1_comeToFull_28 ?_
    refine va_put (D := D) (cl := vwCl) (ci := 1) (v := .int (x6 6)) (ty := .int) (C := RX1) (T := TX1) (N := 16) hx hb hts (fun _ h => List.mem_cons_of_mem _ (List.mem_append_left _ (List.mem_append_right _ h))) tyX1 tyX1_ok nmX1 hown hK hP hD hS 0 rfl rfl 14 (by decide) (hts (.fieldLink RX1 103 "CheapHours$Job" "bringLeft" "I") (List.mem_of_getElem? (i := 5) rfl)) (fun _ h9 => h9) rfl (by decide +kernel) rfl rfl (Nat.le_of_ble_eq_true rfl) dX1_comeToFull_31 (fun H locs hP hD hS => ?_)
    obtain ⟨x31, ex31⟩ : ∃ z : Nat → Int32, z = va_up x6 20 (x6 6) := ⟨_, rfl⟩
    have hP : va_P D vwCl (wJ ja ta x31) H := by rw [ex31]; exact hP
    have hD : va_D A (wJ ja ta x31) := by rw [ex31]; exact hD
    refine lv_goto (tgt := 55) hx hb dX1_comeToFull_34 (by decide) ?_
    have hrow : rCome row = x31 := by
      subst_vars
      simp only [rCome, rFullB, if_neg c_20]
    rw [← hrow] at hP hD
    rw [← hQQ]
    exact W.vret hx hb hr (fun t9 ht9 hW9 => ⟨⟨(), rfl, trivial, by rw [ht9]; exact hP, hD⟩, hS.F ht9⟩) hS.2.2 dX1_comeToFull_55
set_option maxHeartbeats 4000000 in
set_option maxRecDepth 100000 in
theorem c_X1_passAtFull (l : Launch) (D : va_G) (cI cL cZ cO : ClassId) (sz : Nat) (ja ta : Nat) (row : Nat → Int32) (pf : Int32) : Met l yX1_passAtFull wsX1_passAtFull ({ frames := 2, cells := 0, slots := 0, locals := 40 } : Room) (va_Pc [.ref ja, .int pf] (Rw D cI cL cZ cO (wJ ja ta row) sz)) (va_Qv (fun (u : Unit) => True) (fun (u : Unit) => Wo D (va_A (wJ ja ta row) sz) (wJ ja ta (rAtFull pf row))) (va_A (wJ ja ta row) sz)) 0 0 (va_A (wJ ja ta row) sz) := by
  refine Met.ofW (cc := cX1_passAtFull) (maxL := 2) (ret := none) (by decide) rfl ?_
  intro p e s m args below meth c s₁ B hml hv
  obtain ⟨rfl, hsz, hP, hO, hD0⟩ := hv
  have hx := B.exec
  have hb := B.bytes
  have hr := B.returns
  have hts := atoms_spec (ws := wsX1_passAtFull) B.pre
  have hown : s.vm.findClass RX1 = some m.cls := findClass_of_methodNamed B.named
  have hlocks := B.notSynchronized
  have hK := hO.1
  subst hsz
  have hD := hD0.self (sz := s.heap.size)
  generalize hAe : va_A (wJ ja ta row) s.heap.size = A at hD ⊢
  have hA : ∀ q : Nat, s.heap.size ≤ q → A q := fun q h => by rw [← hAe]; exact Or.inr h
  have hS : va_S A s.heap s.heap [] := va_S.rf
  have hl := lv_entry ([.ref ja, .int pf]) (n := 2) (Nat.le_of_ble_eq_true rfl)
  rw [lg_entry_eq]
  generalize (lg_sl ([.ref ja, .int pf]) ++ List.replicate (2 - (lg_sl ([.ref ja, .int pf])).length) Slot.unset).toArray = ls at hl ⊢
  have hl : lv_has ls 2 [(0, .ref ja), (1, .int pf)] := hl
  generalize hQQ : MQ below _ _ s _ _ _ = QQ
  refine lv_aload_n hx hb dX1_passAtFull_0 rfl (lv_at hl 0 rfl) ?_
  refine va_get (D := D) (cl := vwCl) (ci := 1) (v := .int (row 17)) (C := RX1) (T := TX1) (N := 16) hx hb hts (fun _ h => List.mem_cons_of_mem _ (List.mem_append_left _ (List.mem_append_right _ h))) hown hK hP 0 rfl rfl 10 (by decide) (hts (.fieldLink RX1 15 "CheapHours$Job" "place" "I") (List.mem_of_getElem? (i := 1) rfl)) (fun _ h9 => h9) rfl dX1_passAtFull_1 ?_
  refine lv_iconst (v := 2) hx hb dX1_passAtFull_4 (by decide) ?_
  refine lv_icmp_eq (tgt := 12) hx hb dX1_passAtFull_5 (by decide) (fun c_5 => ?_) (fun c_5 => ?_)
  · skip
    refine lv_aload_n hx hb dX1_passAtFull_12 rfl (lv_at hl 0 rfl) ?_
    refine lv_dup hx hb dX1_passAtFull_13 rfl ?_
    refine va_get (D := D) (cl := vwCl) (ci := 1) (v := .int (row 15)) (C := RX1) (T := TX1) (N := 16) hx hb hts (fun _ h => List.mem_cons_of_mem _ (List.mem_append_left _ (List.mem_append_right _ h))) hown hK hP 0 rfl rfl 1 (by decide) (hts (.fieldLink RX1 43 "CheapHours$Job" "paid" "I") (List.mem_of_getElem? (i := 2) rfl)) (fun _ h9 => h9) rfl dX1_passAtFull_14 ?_
    refine lv_iload_n hx hb dX1_passAtFull_17 rfl (lv_at hl 1 rfl) ?_
    refine lv_iadd hx hb dX1_passAtFull_18 ?_
    refine va_put (D := D) (cl := vwCl) (ci := 1) (v := .int ((row 15) + pf)) (ty := .int) (C := RX1) (T := TX1) (N := 16) hx hb hts (fun _ h => List.mem_cons_of_mem _ (List.mem_append_left _ (List.mem_append_right _ h))) tyX1 tyX1_ok nmX1 hown hK hP hD hS 0 rfl rfl 1 (by decide) (hts (.fieldLink RX1 43 "CheapHours$Job" "paid" "I") (List.mem_of_getElem? (i := 2) rfl)) (fun _ h9 => h9) rfl (by decide +kernel) rfl rfl (Nat.le_of_ble_eq_true rfl) dX1_passAtFull_19 (fun H locs hP hD hS => ?_)
    obtain ⟨x19, ex19⟩ : ∃ z : Nat → Int32, z = va_up row 15 ((row 15) + pf) := ⟨_, rfl⟩
    have hP : va_P D vwCl (wJ ja ta x19) H := by rw [ex19]; exact hP
    have hD : va_D A (wJ ja ta x19) := by rw [ex19]; exact hD
    refine lv_aload_n hx hb dX1_passAtFull_22 rfl (lv_at hl 0 rfl) ?_
    refine lv_dup hx hb dX1_passAtFull_23 rfl ?_
    refine va_get (D := D) (cl := vwCl) (ci := 1) (v := .int (x19 16)) (C := RX1) (T := TX1) (N := 16) hx hb hts (fun _ h => List.mem_cons_of_mem _ (List.mem_append_left _ (List.mem_append_right _ h))) hown hK hP 0 rfl rfl 9 (by decide) (hts (.fieldLink RX1 46 "CheapHours$Job" "fullHours" "I") (List.mem_of_getElem? (i := 3) rfl)) (fun _ h9 => h9) rfl dX1_passAtFull_24 ?_
    refine lv_iconst (v := 1) hx hb dX1_passAtFull_27 (by decide) ?_
    refine lv_iadd hx hb dX1_passAtFull_28 ?_
    refine va_put (D := D) (cl := vwCl) (ci := 1) (v := .int ((x19 16) + 1)) (ty := .int) (C := RX1) (T := TX1) (N := 16) hx hb hts (fun _ h => List.mem_cons_of_mem _ (List.mem_append_left _ (List.mem_append_right _ h))) tyX1 tyX1_ok nmX1 hown hK hP hD hS 0 rfl rfl 9 (by decide) (hts (.fieldLink RX1 46 "CheapHours$Job" "fullHours" "I") (List.mem_of_getElem? (i := 3) rfl)) (fun _ h9 => h9) rfl (by decide +kernel) rfl rfl (Nat.le_of_ble_eq_true rfl) dX1_passAtFull_29 (fun H locs hP hD hS => ?_)
    obtain ⟨x29, ex29⟩ : ∃ z : Nat → Int32, z = va_up x19 16 ((x19 16) + 1) := ⟨_, rfl⟩
    have hP : va_P D vwCl (wJ ja ta x29) H := by rw [ex29]; exact hP
    have hD : va_D A (wJ ja ta x29) := by rw [ex29]; exact hD
    refine lv_aload_n hx hb dX1_passAtFull_32 rfl (lv_at hl 0 rfl) ?_
    refine va_get (D := D) (cl := vwCl) (ci := 1) (v := .int (x29 20)) (C := RX1) (T := TX1) (N := 16) hx hb hts (fun _ h => List.mem_cons_of_mem _ (List.mem_append_left _ (List.mem_append_right _ h))) hown hK hP 0 rfl rfl 14 (by decide) (hts (.fieldLink RX1 103 "CheapHours$Job" "bringLeft" "I") (List.mem_of_getElem? (i := 4) rfl)) (fun _ h9 => h9) rfl dX1_passAtFull_33 ?_
    refine lv_if_le (tgt := 46) hx hb dX1_passAtFull_36 (by decide) (fun c_36 => ?_) (fun c_36 => ?_)
    · skip
      refine lv_aload_n hx hb dX1_passAtFull_46 rfl (lv_at hl 0 rfl) ?_
      refine lv_dup hx hb dX1_passAtFull_47 rfl ?_
      refine va_get (D := D) (cl := vwCl) (ci := 1) (v := .int (x29 11)) (C := RX1) (T := TX1) (N := 16) hx hb hts (fun _ h => List.mem_cons_of_mem _ (List.mem_append_left _ (List.mem_append_right _ h))) hown hK hP 0 rfl rfl 5 (by decide) (hts (.fieldLink RX1 31 "CheapHours$Job" "workHours" "I") (List.mem_of_getElem? (i := 5) rfl)) (fun _ h9 => h9) rfl dX1_passAtFull_48 ?_
      refine lv_iconst (v := 1) hx hb dX1_passAtFull_51 (by decide) ?_
      refine lv_iadd hx hb dX1_passAtFull_52 ?_
      refine va_put (D := D) (cl := vwCl) (ci := 1) (v := .int ((x29 11) + 1)) (ty := .int) (C := RX1) (T := TX1) (N := 16) hx hb hts (fun _ h => List.mem_cons_of_mem _ (List.mem_append_left _ (List.mem_append_right _ h))) tyX1 tyX1_ok nmX1 hown hK hP hD hS 0 rfl rfl 5 (by decide) (hts (.fieldLink RX1 31 "CheapHours$Job" "workHours" "I") (List.mem_of_getElem? (i := 5) rfl)) (fun _ h9 => h9) rfl (by decide +kernel) rfl rfl (Nat.le_of_ble_eq_true rfl) dX1_passAtFull_53 (fun H locs hP hD hS => ?_)
      obtain ⟨x53, ex53⟩ : ∃ z : Nat → Int32, z = va_up x29 11 ((x29 11) + 1) := ⟨_, rfl⟩
      have hP : va_P D vwCl (wJ ja ta x53) H := by rw [ex53]; exact hP
      have hD : va_D A (wJ ja ta x53) := by rw [ex53]; exact hD
      refine lv_aload_n hx hb dX1_passAtFull_56 rfl (lv_at hl 0 rfl) ?_
      refine lv_dup hx hb dX1_passAtFull_57 rfl ?_
      refine va_get (D := D) (cl := vwCl) (ci := 1) (v := .int (x53 8)) (C := RX1) (T := TX1) (N := 16) hx hb hts (fun _ h => List.mem_cons_of_mem _ (List.mem_append_left _ (List.mem_append_right _ h))) hown hK hP 0 rfl rfl 2 (by decide) (hts (.fieldLink RX1 22 "CheapHours$Job" "saved" "I") (List.mem_of_getElem? (i := 6) rfl)) (fun _ h9 => h9) rfl dX1_passAtFull_58 ?_
      refine lv_iconst (v := 1) hx hb dX1_passAtFull_61 (by decide) ?_
      refine lv_iadd hx hb dX1_passAtFull_62 ?_
      refine va_put (D := D) (cl := vwCl) (ci := 1) (v := .int ((x53 8) + 1)) (ty := .int) (C := RX1) (T := TX1) (N := 16) hx hb hts (fun _ h => List.mem_cons_of_mem _ (List.mem_append_left _ (List.mem_append_right _ h))) tyX1 tyX1_ok nmX1 hown hK hP hD hS 0 rfl rfl 2 (by decide) (hts (.fieldLink RX1 22 "CheapHours$Job" "saved" "I") (List.mem_of_getElem? (i := 6) rfl)) (fun _ h9 => h9) rfl (by decide +kernel) rfl rfl (Nat.le_of_ble_eq_true rfl) dX1_passAtFull_63 (fun H locs hP hD hS => ?_)
      obtain ⟨x63, ex63⟩ : ∃ z : Nat → Int32, z = va_up x53 8 ((x53 8) + 1) := ⟨_, rfl⟩
      have hP : va_P D vwCl (wJ ja ta x63) H := by rw [ex63]; exact hP
      have hD : va_D A (wJ ja ta x63) := by rw [ex63]; exact hD
      have hrow : rAtFull pf row = x63 := by
        subst_vars
        rw [rAtFull, rFull1_t c_5]
        simp only [rPay, rInc]
        simp only [rFullC, rBring, rInc, rDec, if_pos c_36]
      rw [← hrow] at hP hD
      rw [← hQQ]
      exact W.vret hx hb hr (fun t9 ht9 hW9 => ⟨⟨(), rfl, trivial, by rw [ht9]; exact hP, hD⟩, hS.F ht9⟩) hS.2.2 dX1_passAtFull_66
    · skip
      refine lv_aload_n hx hb dX1_passAtFull_39 rfl (lv_at hl 0 rfl) ?_
      refine rwVv (As := []) (rest := []) ⟨hx, hb, hml, hown, hts⟩ (c_X1_bringOn l D cI cL cZ cO H.size ja ta x29 ) (cwV 0 hts gX1_passAtFull_X1_bringOn rfl rfl rfl (by decide +kernel) ⟨Nat.le_of_ble_eq_true rfl, Nat.le_of_ble_eq_true rfl⟩) hO hP hD hS hA (va_recv hK hP (ci := 1) (q0 := 0) rfl rfl) rfl hl.1 rfl (Nat.le_of_ble_eq_true rfl) dX1_passAtFull_40 ⟨Nat.le_of_ble_eq_true rfl, Nat.le_of_ble_eq_true rfl⟩ (fun u_40 H locs e_40 hP hD hS => ?_)
      have hP : va_P D vwCl (wJ ja ta (rBring x29)) H := hP
      have hD : va_D A (wJ ja ta (rBring x29)) := hD
      refine lv_goto (tgt := 66) hx hb dX1_passAtFull_43 (by decide) ?_
      have hrow : rAtFull pf row = rBring x29 := by
        subst_vars
        rw [rAtFull, rFull1_t c_5]
        simp only [rPay, rInc]
        simp only [rFullC, rBring, rInc, rDec, if_neg c_36]
      rw [← hrow] at hP hD
      rw [← hQQ]
      exact W.vret hx hb hr (fun t9 ht9 hW9 => ⟨⟨(), rfl, trivial, by rw [ht9]; exact hP, hD⟩, hS.F ht9⟩) hS.2.2 dX1_passAtFull_66
  · skip
    refine lv_aload_n hx hb dX1_passAtFull_8 rfl (lv_at hl 0 rfl) ?_
    refine rwVv (As := []) (rest := []) ⟨hx, hb, hml, hown, hts⟩ (c_X1_comeToFull l D cI cL cZ cO s.heap.size ja ta row ) (cwV 0 hts gX1_passAtFull_X1_comeToFull rfl rfl rfl (by decide +kernel) ⟨Nat.le_of_ble_eq_true rfl, Nat.le_of_ble_eq_true rfl⟩) hO hP hD hS hA (va_recv hK hP (ci := 1) (q0 := 0) rfl rfl) rfl hl.1 rfl (Nat.le_of_ble_eq_true rfl) dX1_passAtFull_9 ⟨Nat.le_of_ble_eq_true rfl, Nat.le_of_ble_eq_true rfl⟩ (fun u_9 H locs e_9 hP hD hS => ?_)
    have hP : va_P D vwCl (wJ ja ta (rCome row)) H := hP
    have hD : va_D A (wJ ja ta (rCome row)) := hD
    refine lv_aload_n hx hb dX1_passAtFull_12 rfl (lv_at hl 0 rfl) ?_
    refine lv_dup hx hb dX1_passAtFull_13 rfl ?_
    refine va_get (D := D) (cl := vwCl) (ci := 1) (v := .int ((rCome row) 15)) (C := RX1) (T := TX1) (N := 16) hx hb hts (fun _ h => List.mem_cons_of_mem _ (List.mem_append_left _ (List.mem_append_right _ h))) hown hK hP 0 rfl rfl 1 (by decide) (hts (.fieldLink RX1 43 "CheapHours$Job" "paid" "I") (List.mem_of_getElem? (i := 2) rfl)) (fun _ h9 => h9) rfl dX1_passAtFull_14 ?_
    refine lv_iload_n hx hb dX1_passAtFull_17 rfl (lv_at hl 1 rfl) ?_
    refine lv_iadd hx hb dX1_passAtFull_18 ?_
    refine va_put (D := D) (cl := vwCl) (ci := 1) (v := .int (((rCome row) 15) + pf)) (ty := .int) (C := RX1) (T := TX1) (N := 16) hx hb hts (fun _ h => List.mem_cons_of_mem _ (List.mem_append_left _ (List.mem_append_right _ h))) tyX1 tyX1_ok nmX1 hown hK hP hD hS 0 rfl rfl 1 (by decide) (hts (.fieldLink RX1 43 "CheapHours$Job" "paid" "I") (List.mem_of_getElem? (i := 2) rfl)) (fun _ h9 => h9) rfl (by decide +kernel) rfl rfl (Nat.le_of_ble_eq_true rfl) dX1_passAtFull_19 (fun H locs hP hD hS => ?_)
    obtain ⟨x19, ex19⟩ : ∃ z : Nat → Int32, z = va_up (rCome row) 15 (((rCome row) 15) + pf) := ⟨_, rfl⟩
    have hP : va_P D vwCl (wJ ja ta x19) H := by rw [ex19]; exact hP
    have hD : va_D A (wJ ja ta x19) := by rw [ex19]; exact hD
    refine lv_aload_n hx hb dX1_passAtFull_22 rfl (lv_at hl 0 rfl) ?_
    refine lv_dup hx hb dX1_passAtFull_23 rfl ?_
    refine va_get (D := D) (cl := vwCl) (ci := 1) (v := .int (x19 16)) (C := RX1) (T := TX1) (N := 16) hx hb hts (fun _ h => List.mem_cons_of_mem _ (List.mem_append_left _ (List.mem_append_right _ h))) hown hK hP 0 rfl rfl 9 (by decide) (hts (.fieldLink RX1 46 "CheapHours$Job" "fullHours" "I") (List.mem_of_getElem? (i := 3) rfl)) (fun _ h9 => h9) rfl dX1_passAtFull_24 ?_
    refine lv_iconst (v := 1) hx hb dX1_passAtFull_27 (by decide) ?_
    refine lv_iadd hx hb dX1_passAtFull_28 ?_
    refine va_put (D := D) (cl := vwCl) (ci := 1) (v := .int ((x19 16) + 1)) (ty := .int) (C := RX1) (T := TX1) (N := 16) hx hb hts (fun _ h => List.mem_cons_of_mem _ (List.mem_append_left _ (List.mem_append_right _ h))) tyX1 tyX1_ok nmX1 hown hK hP hD hS 0 rfl rfl 9 (by decide) (hts (.fieldLink RX1 46 "CheapHours$Job" "fullHours" "I") (List.mem_of_getElem? (i := 3) rfl)) (fun _ h9 => h9) rfl (by decide +kernel) rfl rfl (Nat.le_of_ble_eq_true rfl) dX1_passAtFull_29 (fun H locs hP hD hS => ?_)
    obtain ⟨x29, ex29⟩ : ∃ z : Nat → Int32, z = va_up x19 16 ((x19 16) + 1) := ⟨_, rfl⟩
    have hP : va_P D vwCl (wJ ja ta x29) H := by rw [ex29]; exact hP
    have hD : va_D A (wJ ja ta x29) := by rw [ex29]; exact hD
    refine lv_aload_n hx hb dX1_passAtFull_32 rfl (lv_at hl 0 rfl) ?_
    refine va_get (D := D) (cl := vwCl) (ci := 1) (v := .int (x29 20)) (C := RX1) (T := TX1) (N := 16) hx hb hts (fun _ h => List.mem_cons_of_mem _ (List.mem_append_left _ (List.mem_append_right _ h))) hown hK hP 0 rfl rfl 14 (by decide) (hts (.fieldLink RX1 103 "CheapHours$Job" "bringLeft" "I") (List.mem_of_getElem? (i := 4) rfl)) (fun _ h9 => h9) rfl dX1_passAtFull_33 ?_
    refine lv_if_le (tgt := 46) hx hb dX1_passAtFull_36 (by decide) (fun c_36 => ?_) (fun c_36 => ?_)
    · skip
      refine lv_aload_n hx hb dX1_passAtFull_46 rfl (lv_at hl 0 rfl) ?_
      refine lv_dup hx hb dX1_passAtFull_47 rfl ?_
      refine va_get (D := D) (cl := vwCl) (ci := 1) (v := .int (x29 11)) (C := RX1) (T := TX1) (N := 16) hx hb hts (fun _ h => List.mem_cons_of_mem _ (List.mem_append_left _ (List.mem_append_right _ h))) hown hK hP 0 rfl rfl 5 (by decide) (hts (.fieldLink RX1 31 "CheapHours$Job" "workHours" "I") (List.mem_of_getElem? (i := 5) rfl)) (fun _ h9 => h9) rfl dX1_passAtFull_48 ?_
      refine lv_iconst (v := 1) hx hb dX1_passAtFull_51 (by decide) ?_
      refine lv_iadd hx hb dX1_passAtFull_52 ?_
      refine va_put (D := D) (cl := vwCl) (ci := 1) (v := .int ((x29 11) + 1)) (ty := .int) (C := RX1) (T := TX1) (N := 16) hx hb hts (fun _ h => List.mem_cons_of_mem _ (List.mem_append_left _ (List.mem_append_right _ h))) tyX1 tyX1_ok nmX1 hown hK hP hD hS 0 rfl rfl 5 (by decide) (hts (.fieldLink RX1 31 "CheapHours$Job" "workHours" "I") (List.mem_of_getElem? (i := 5) rfl)) (fun _ h9 => h9) rfl (by decide +kernel) rfl rfl (Nat.le_of_ble_eq_true rfl) dX1_passAtFull_53 (fun H locs hP hD hS => ?_)
      obtain ⟨x53, ex53⟩ : ∃ z : Nat → Int32, z = va_up x29 11 ((x29 11) + 1) := ⟨_, rfl⟩
      have hP : va_P D vwCl (wJ ja ta x53) H := by rw [ex53]; exact hP
      have hD : va_D A (wJ ja ta x53) := by rw [ex53]; exact hD
      refine lv_aload_n hx hb dX1_passAtFull_56 rfl (lv_at hl 0 rfl) ?_
      refine lv_dup hx hb dX1_passAtFull_57 rfl ?_
      refine va_get (D := D) (cl := vwCl) (ci := 1) (v := .int (x53 8)) (C := RX1) (T := TX1) (N := 16) hx hb hts (fun _ h => List.mem_cons_of_mem _ (List.mem_append_left _ (List.mem_append_right _ h))) hown hK hP 0 rfl rfl 2 (by decide) (hts (.fieldLink RX1 22 "CheapHours$Job" "saved" "I") (List.mem_of_getElem? (i := 6) rfl)) (fun _ h9 => h9) rfl dX1_passAtFull_58 ?_
      refine lv_iconst (v := 1) hx hb dX1_passAtFull_61 (by decide) ?_
      refine lv_iadd hx hb dX1_passAtFull_62 ?_
      refine va_put (D := D) (cl := vwCl) (ci := 1) (v := .int ((x53 8) + 1)) (ty := .int) (C := RX1) (T := TX1) (N := 16) hx hb hts (fun _ h => List.mem_cons_of_mem _ (List.mem_append_left _ (List.mem_append_right _ h))) tyX1 tyX1_ok nmX1 hown hK hP hD hS 0 rfl rfl 2 (by decide) (hts (.fieldLink RX1 22 "CheapHours$Job" "saved" "I") (List.mem_of_getElem? (i := 6) rfl)) (fun _ h9 => h9) rfl (by decide +kernel) rfl rfl (Nat.le_of_ble_eq_true rfl) dX1_passAtFull_63 (fun H locs hP hD hS => ?_)
      obtain ⟨x63, ex63⟩ : ∃ z : Nat → Int32, z = va_up x53 8 ((x53 8) + 1) := ⟨_, rfl⟩
      have hP : va_P D vwCl (wJ ja ta x63) H := by rw [ex63]; exact hP
      have hD : va_D A (wJ ja ta x63) := by rw [ex63]; exact hD
      have hrow : rAtFull pf row = x63 := by
        subst_vars
        rw [rAtFull, rFull1_f c_5]
        simp only [rPay, rInc]
        simp only [rFullC, rBring, rInc, rDec, if_pos c_36]
      rw [← hrow] at hP hD
      rw [← hQQ]
      exact W.vret hx hb hr (fun t9 ht9 hW9 => ⟨⟨(), rfl, trivial, by rw [ht9]; exact hP, hD⟩, hS.F ht9⟩) hS.2.2 dX1_passAtFull_66
    · skip
      refine lv_aload_n hx hb dX1_passAtFull_39 rfl (lv_at hl 0 rfl) ?_
      refine rwVv (As := []) (rest := []) ⟨hx, hb, hml, hown, hts⟩ (c_X1_bringOn l D cI cL cZ cO H.size ja ta x29 ) (cwV 0 hts gX1_passAtFull_X1_bringOn rfl rfl rfl (by decide +kernel) ⟨Nat.le_of_ble_eq_true rfl, Nat.le_of_ble_eq_true rfl⟩) hO hP hD hS hA (va_recv hK hP (ci := 1) (q0 := 0) rfl rfl) rfl hl.1 rfl (Nat.le_of_ble_eq_true rfl) dX1_passAtFull_40 ⟨Nat.le_of_ble_eq_true rfl, Nat.le_of_ble_eq_true rfl⟩ (fun u_40 H locs e_40 hP hD hS => ?_)
      have hP : va_P D vwCl (wJ ja ta (rBring x29)) H := hP
      have hD : va_D A (wJ ja ta (rBring x29)) := hD
      refine lv_goto (tgt := 66) hx hb dX1_passAtFull_43 (by decide) ?_
      have hrow : rAtFull pf row = rBring x29 := by
        subst_vars
        rw [rAtFull, rFull1_f c_5]
        simp only [rPay, rInc]
        simp only [rFullC, rBring, rInc, rDec, if_neg c_36]
      rw [← hrow] at hP hD
      rw [← hQQ]
      exact W.vret hx hb hr (fun t9 ht9 hW9 => ⟨⟨(), rfl, trivial, by rw [ht9]; exact hP, hD⟩, hS.F ht9⟩) hS.2.2 dX1_passAtFull_66
set_option maxHeartbeats 4000000 in
set_option maxRecDepth 100000 in
theorem c_X1_passWaiting (l : Launch) (D : va_G) (cI cL cZ cO : ClassId) (sz : Nat) (ja ta : Nat) (row : Nat → Int32) : Met l yX1_passWaiting wsX1_passWaiting ({ frames := 1, cells := 0, slots := 0, locals := 20 } : Room) (va_Pc [.ref ja] (Rw D cI cL cZ cO (wJ ja ta row) sz)) (va_Qv (fun (u : Unit) => True) (fun (u : Unit) => Wo D (va_A (wJ ja ta row) sz) (wJ ja ta (rWait row))) (va_A (wJ ja ta row) sz)) 0 0 (va_A (wJ ja ta row) sz) := by
  refine Met.ofW (cc := cX1_passWaiting) (maxL := 1) (ret := none) (by decide) rfl ?_
  intro p e s m args below meth c s₁ B hml hv
  obtain ⟨rfl, hsz, hP, hO, hD0⟩ := hv
  have hx := B.exec
  have hb := B.bytes
  have hr := B.returns
  have hts := atoms_spec (ws := wsX1_passWaiting) B.pre
  have hown : s.vm.findClass RX1 = some m.cls := findClass_of_methodNamed B.named
  have hlocks := B.notSynchronized
  have hK := hO.1
  subst hsz
  have hD := hD0.self (sz := s.heap.size)
  generalize hAe : va_A (wJ ja ta row) s.heap.size = A at hD ⊢
  have hA : ∀ q : Nat, s.heap.size ≤ q → A q := fun q h => by rw [← hAe]; exact Or.inr h
  have hS : va_S A s.heap s.heap [] := va_S.rf
  have hl := lv_entry ([.ref ja]) (n := 1) (Nat.le_of_ble_eq_true rfl)
  rw [lg_entry_eq]
  generalize (lg_sl ([.ref ja]) ++ List.replicate (1 - (lg_sl ([.ref ja])).length) Slot.unset).toArray = ls at hl ⊢
  have hl : lv_has ls 1 [(0, .ref ja)] := hl
  generalize hQQ : MQ below _ _ s _ _ _ = QQ
  refine lv_aload_n hx hb dX1_passWaiting_0 rfl (lv_at hl 0 rfl) ?_
  refine va_get (D := D) (cl := vwCl) (ci := 1) (v := .int (row 17)) (C := RX1) (T := TX1) (N := 16) hx hb hts (fun _ h => List.mem_cons_of_mem _ (List.mem_append_right _ h)) hown hK hP 0 rfl rfl 10 (by decide) (hts (.fieldLink RX1 15 "CheapHours$Job" "place" "I") (List.mem_of_getElem? (i := 1) rfl)) (fun _ h9 => h9) rfl dX1_passWaiting_1 ?_
  refine lv_iconst (v := 1) hx hb dX1_passWaiting_4 (by decide) ?_
  refine lv_icmp_ne (tgt := 27) hx hb dX1_passWaiting_5 (by decide) (fun c_5 => ?_) (fun c_5 => ?_)
  · skip
    refine lv_aload_n hx hb dX1_passWaiting_27 rfl (lv_at hl 0 rfl) ?_
    refine lv_dup hx hb dX1_passWaiting_28 rfl ?_
    refine va_get (D := D) (cl := vwCl) (ci := 1) (v := .int (row 14)) (C := RX1) (T := TX1) (N := 16) hx hb hts (fun _ h => List.mem_cons_of_mem _ (List.mem_append_right _ h)) hown hK hP 0 rfl rfl 8 (by decide) (hts (.fieldLink RX1 40 "CheapHours$Job" "waitHours" "I") (List.mem_of_getElem? (i := 3) rfl)) (fun _ h9 => h9) rfl dX1_passWaiting_29 ?_
    refine lv_iconst (v := 1) hx hb dX1_passWaiting_32 (by decide) ?_
    refine lv_iadd hx hb dX1_passWaiting_33 ?_
    refine va_put (D := D) (cl := vwCl) (ci := 1) (v := .int ((row 14) + 1)) (ty := .int) (C := RX1) (T := TX1) (N := 16) hx hb hts (fun _ h => List.mem_cons_of_mem _ (List.mem_append_right _ h)) tyX1 tyX1_ok nmX1 hown hK hP hD hS 0 rfl rfl 8 (by decide) (hts (.fieldLink RX1 40 "CheapHours$Job" "waitHours" "I") (List.mem_of_getElem? (i := 3) rfl)) (fun _ h9 => h9) rfl (by decide +kernel) rfl rfl (Nat.le_of_ble_eq_true rfl) dX1_passWaiting_34 (fun H locs hP hD hS => ?_)
    obtain ⟨x34, ex34⟩ : ∃ z : Nat → Int32, z = va_up row 14 ((row 14) + 1) := ⟨_, rfl⟩
    have hP : va_P D vwCl (wJ ja ta x34) H := by rw [ex34]; exact hP
    have hD : va_D A (wJ ja ta x34) := by rw [ex34]; exact hD
    have hrow : rWait row = x34 := by
      subst_vars
      simp only [rWait, rInc, if_neg c_5]
    rw [← hrow] at hP hD
    rw [← hQQ]
    exact W.vret hx hb hr (fun t9 ht9 hW9 => ⟨⟨(), rfl, trivial, by rw [ht9]; exact hP, hD⟩, hS.F ht9⟩) hS.2.2 dX1_passWaiting_37
  · skip
    refine lv_aload_n hx hb dX1_passWaiting_8 rfl (lv_at hl 0 rfl) ?_
    refine lv_dup hx hb dX1_passWaiting_9 rfl ?_
    refine va_get (D := D) (cl := vwCl) (ci := 1) (v := .int (row 19)) (C := RX1) (T := TX1) (N := 16) hx hb hts (fun _ h => List.mem_cons_of_mem _ (List.mem_append_right _ h)) hown hK hP 0 rfl rfl 12 (by decide) (hts (.fieldLink RX1 53 "CheapHours$Job" "taken" "I") (List.mem_of_getElem? (i := 2) rfl)) (fun _ h9 => h9) rfl dX1_passWaiting_10 ?_
    refine lv_iconst (v := 1) hx hb dX1_passWaiting_13 (by decide) ?_
    refine lv_iadd hx hb dX1_passWaiting_14 ?_
    refine va_put (D := D) (cl := vwCl) (ci := 1) (v := .int ((row 19) + 1)) (ty := .int) (C := RX1) (T := TX1) (N := 16) hx hb hts (fun _ h => List.mem_cons_of_mem _ (List.mem_append_right _ h)) tyX1 tyX1_ok nmX1 hown hK hP hD hS 0 rfl rfl 12 (by decide) (hts (.fieldLink RX1 53 "CheapHours$Job" "taken" "I") (List.mem_of_getElem? (i := 2) rfl)) (fun _ h9 => h9) rfl (by decide +kernel) rfl rfl (Nat.le_of_ble_eq_true rfl) dX1_passWaiting_15 (fun H locs hP hD hS => ?_)
    obtain ⟨x15, ex15⟩ : ∃ z : Nat → Int32, z = va_up row 19 ((row 19) + 1) := ⟨_, rfl⟩
    have hP : va_P D vwCl (wJ ja ta x15) H := by rw [ex15]; exact hP
    have hD : va_D A (wJ ja ta x15) := by rw [ex15]; exact hD
    refine lv_aload_n hx hb dX1_passWaiting_18 rfl (lv_at hl 0 rfl) ?_
    refine rwVv (As := []) (rest := []) ⟨hx, hb, hml, hown, hts⟩ (c_X1_loseUnsaved l D cI cL cZ cO H.size ja ta x15 ) (cwV 0 hts gX1_passWaiting_X1_loseUnsaved rfl rfl rfl (by decide +kernel) ⟨Nat.le_of_ble_eq_true rfl, Nat.le_of_ble_eq_true rfl⟩) hO hP hD hS hA (va_recv hK hP (ci := 1) (q0 := 0) rfl rfl) rfl hl.1 rfl (Nat.le_of_ble_eq_true rfl) dX1_passWaiting_19 ⟨Nat.le_of_ble_eq_true rfl, Nat.le_of_ble_eq_true rfl⟩ (fun u_19 H locs e_19 hP hD hS => ?_)
    have hP : va_P D vwCl (wJ ja ta (rLose x15)) H := hP
    have hD : va_D A (wJ ja ta (rLose x15)) := hD
    refine lv_aload_n hx hb dX1_passWaiting_22 rfl (lv_at hl 0 rfl) ?_
    refine lv_iconst (v := 0) hx hb dX1_passWaiting_23 (by decide) ?_
    refine va_put (D := D) (cl := vwCl) (ci := 1) (v := .int 0) (ty := .int) (C := RX1) (T := TX1) (N := 16) hx hb hts (fun _ h => List.mem_cons_of_mem _ (List.mem_append_right _ h)) tyX1 tyX1_ok nmX1 hown hK hP hD hS 0 rfl rfl 10 (by decide) (hts (.fieldLink RX1 15 "CheapHours$Job" "place" "I") (List.mem_of_getElem? (i := 1) rfl)) (fun _ h9 => h9) rfl (by decide +kernel) rfl rfl (Nat.le_of_ble_eq_true rfl) dX1_passWaiting_24 (fun H locs hP hD hS => ?_)
    obtain ⟨x24, ex24⟩ : ∃ z : Nat → Int32, z = va_up (rLose x15) 17 0 := ⟨_, rfl⟩
    have hP : va_P D vwCl (wJ ja ta x24) H := by rw [ex24]; exact hP
    have hD : va_D A (wJ ja ta x24) := by rw [ex24]; exact hD
    refine lv_aload_n hx hb dX1_passWaiting_27 rfl (lv_at hl 0 rfl) ?_
    refine lv_dup hx hb dX1_passWaiting_28 rfl ?_
    refine va_get (D := D) (cl := vwCl) (ci := 1) (v := .int (x24 14)) (C := RX1) (T := TX1) (N := 16) hx hb hts (fun _ h => List.mem_cons_of_mem _ (List.mem_append_right _ h)) hown hK hP 0 rfl rfl 8 (by decide) (hts (.fieldLink RX1 40 "CheapHours$Job" "waitHours" "I") (List.mem_of_getElem? (i := 3) rfl)) (fun _ h9 => h9) rfl dX1_passWaiting_29 ?_
    refine lv_iconst (v := 1) hx hb dX1_passWaiting_32 (by decide) ?_
    refine lv_iadd hx hb dX1_passWaiting_33 ?_
    refine va_put (D := D) (cl := vwCl) (ci := 1) (v := .int ((x24 14) + 1)) (ty := .int) (C := RX1) (T := TX1) (N := 16) hx hb hts (fun _ h => List.mem_cons_of_mem _ (List.mem_append_right _ h)) tyX1 tyX1_ok nmX1 hown hK hP hD hS 0 rfl rfl 8 (by decide) (hts (.fieldLink RX1 40 "CheapHours$Job" "waitHours" "I") (List.mem_of_getElem? (i := 3) rfl)) (fun _ h9 => h9) rfl (by decide +kernel) rfl rfl (Nat.le_of_ble_eq_true rfl) dX1_passWaiting_34 (fun H locs hP hD hS => ?_)
    obtain ⟨x34, ex34⟩ : ∃ z : Nat → Int32, z = va_up x24 14 ((x24 14) + 1) := ⟨_, rfl⟩
    have hP : va_P D vwCl (wJ ja ta x34) H := by rw [ex34]; exact hP
    have hD : va_D A (wJ ja ta x34) := by rw [ex34]; exact hD
    have hrow : rWait row = x34 := by
      subst_vars
      simp only [rWait, rInc, if_pos c_5]
    rw [← hrow] at hP hD
    rw [← hQQ]
    exact W.vret hx hb hr (fun t9 ht9 hW9 => ⟨⟨(), rfl, trivial, by rw [ht9]; exact hP, hD⟩, hS.F ht9⟩) hS.2.2 dX1_passWaiting_37
set_option maxHeartbeats 4000000 in
set_option maxRecDepth 100000 in
theorem c_X1_passAtMarket (l : Launch) (D : va_G) (cI cL cZ cO : ClassId) (sz : Nat) (ja ta : Nat) (row : Nat → Int32) (p0 : Int32) (hi : row 22 = row 9) (hi2 : ¬ row 17 = 1 → row 9 = 0) : Met l yX1_passAtMarket wsX1_passAtMarket ({ frames := 2, cells := 0, slots := 0, locals := 40 } : Room) (va_Pc [.ref ja, .int p0] (Rw D cI cL cZ cO (wJ ja ta row) sz)) (va_Qv (fun (u : Unit) => True) (fun (u : Unit) => Wo D (va_A (wJ ja ta row) sz) (wJ ja ta (rAtMarket p0 row))) (va_A (wJ ja ta row) sz)) 0 0 (va_A (wJ ja ta row) sz) := by
  refine Met.ofW (cc := cX1_passAtMarket) (maxL := 2) (ret := none) (by decide) rfl ?_
  intro p e s m args below meth c s₁ B hml hv
  obtain ⟨rfl, hsz, hP, hO, hD0⟩ := hv
  have hx := B.exec
  have hb := B.bytes
  have hr := B.returns
  have hts := atoms_spec (ws := wsX1_passAtMarket) B.pre
  have hown : s.vm.findClass RX1 = some m.cls := findClass_of_methodNamed B.named
  have hlocks := B.notSynchronized
  have hK := hO.1
  subst hsz
  have hD := hD0.self (sz := s.heap.size)
  generalize hAe : va_A (wJ ja ta row) s.heap.size = A at hD ⊢
  have hA : ∀ q : Nat, s.heap.size ≤ q → A q := fun q h => by rw [← hAe]; exact Or.inr h
  have hS : va_S A s.heap s.heap [] := va_S.rf
  have hl := lv_entry ([.ref ja, .int p0]) (n := 2) (Nat.le_of_ble_eq_true rfl)
  rw [lg_entry_eq]
  generalize (lg_sl ([.ref ja, .int p0]) ++ List.replicate (2 - (lg_sl ([.ref ja, .int p0])).length) Slot.unset).toArray = ls at hl ⊢
  have hl : lv_has ls 2 [(0, .ref ja), (1, .int p0)] := hl
  generalize hQQ : MQ below _ _ s _ _ _ = QQ
  refine lv_aload_n hx hb dX1_passAtMarket_0 rfl (lv_at hl 0 rfl) ?_
  refine va_get (D := D) (cl := vwCl) (ci := 1) (v := .int (row 17)) (C := RX1) (T := TX1) (N := 16) hx hb hts (fun _ h => List.mem_cons_of_mem _ (List.mem_append_left _ (List.mem_append_right _ h))) hown hK hP 0 rfl rfl 10 (by decide) (hts (.fieldLink RX1 15 "CheapHours$Job" "place" "I") (List.mem_of_getElem? (i := 1) rfl)) (fun _ h9 => h9) rfl dX1_passAtMarket_1 ?_
  refine lv_iconst (v := 1) hx hb dX1_passAtMarket_4 (by decide) ?_
  refine lv_icmp_eq (tgt := 35) hx hb dX1_passAtMarket_5 (by decide) (fun c_5 => ?_) (fun c_5 => ?_)
  · skip
    refine lv_aload_n hx hb dX1_passAtMarket_35 rfl (lv_at hl 0 rfl) ?_
    refine lv_dup hx hb dX1_passAtMarket_36 rfl ?_
    refine va_get (D := D) (cl := vwCl) (ci := 1) (v := .int (row 15)) (C := RX1) (T := TX1) (N := 16) hx hb hts (fun _ h => List.mem_cons_of_mem _ (List.mem_append_left _ (List.mem_append_right _ h))) hown hK hP 0 rfl rfl 1 (by decide) (hts (.fieldLink RX1 43 "CheapHours$Job" "paid" "I") (List.mem_of_getElem? (i := 6) rfl)) (fun _ h9 => h9) rfl dX1_passAtMarket_37 ?_
    refine lv_iload_n hx hb dX1_passAtMarket_40 rfl (lv_at hl 1 rfl) ?_
    refine lv_iadd hx hb dX1_passAtMarket_41 ?_
    refine va_put (D := D) (cl := vwCl) (ci := 1) (v := .int ((row 15) + p0)) (ty := .int) (C := RX1) (T := TX1) (N := 16) hx hb hts (fun _ h => List.mem_cons_of_mem _ (List.mem_append_left _ (List.mem_append_right _ h))) tyX1 tyX1_ok nmX1 hown hK hP hD hS 0 rfl rfl 1 (by decide) (hts (.fieldLink RX1 43 "CheapHours$Job" "paid" "I") (List.mem_of_getElem? (i := 6) rfl)) (fun _ h9 => h9) rfl (by decide +kernel) rfl rfl (Nat.le_of_ble_eq_true rfl) dX1_passAtMarket_42 (fun H locs hP hD hS => ?_)
    obtain ⟨x42, ex42⟩ : ∃ z : Nat → Int32, z = va_up row 15 ((row 15) + p0) := ⟨_, rfl⟩
    have hP : va_P D vwCl (wJ ja ta x42) H := by rw [ex42]; exact hP
    have hD : va_D A (wJ ja ta x42) := by rw [ex42]; exact hD
    refine lv_aload_n hx hb dX1_passAtMarket_45 rfl (lv_at hl 0 rfl) ?_
    refine va_get (D := D) (cl := vwCl) (ci := 1) (v := .int (x42 20)) (C := RX1) (T := TX1) (N := 16) hx hb hts (fun _ h => List.mem_cons_of_mem _ (List.mem_append_left _ (List.mem_append_right _ h))) hown hK hP 0 rfl rfl 14 (by decide) (hts (.fieldLink RX1 103 "CheapHours$Job" "bringLeft" "I") (List.mem_of_getElem? (i := 5) rfl)) (fun _ h9 => h9) rfl dX1_passAtMarket_46 ?_
    refine lv_if_le (tgt := 59) hx hb dX1_passAtMarket_49 (by decide) (fun c_49 => ?_) (fun c_49 => ?_)
    · skip
      refine lv_aload_n hx hb dX1_passAtMarket_59 rfl (lv_at hl 0 rfl) ?_
      refine va_get (D := D) (cl := vwCl) (ci := 1) (v := .int (x42 21)) (C := RX1) (T := TX1) (N := 16) hx hb hts (fun _ h => List.mem_cons_of_mem _ (List.mem_append_left _ (List.mem_append_right _ h))) hown hK hP 0 rfl rfl 15 (by decide) (hts (.fieldLink RX1 112 "CheapHours$Job" "saveLeft" "I") (List.mem_of_getElem? (i := 7) rfl)) (fun _ h9 => h9) rfl dX1_passAtMarket_60 ?_
      refine lv_if_le (tgt := 73) hx hb dX1_passAtMarket_63 (by decide) (fun c_63 => ?_) (fun c_63 => ?_)
      · skip
        have h22 : x42 22 = x42 9 := by subst_vars; exact hi
        refine lv_aload_n hx hb dX1_passAtMarket_73 rfl (lv_at hl 0 rfl) ?_
        refine rwVv (As := []) (rest := []) ⟨hx, hb, hml, hown, hts⟩ (c_X1_workOn l D cI cL cZ cO H.size ja ta x42 h22) (cwV 0 hts gX1_passAtMarket_X1_workOn rfl rfl rfl (by decide +kernel) ⟨Nat.le_of_ble_eq_true rfl, Nat.le_of_ble_eq_true rfl⟩) hO hP hD hS hA (va_recv hK hP (ci := 1) (q0 := 0) rfl rfl) rfl hl.1 rfl (Nat.le_of_ble_eq_true rfl) dX1_passAtMarket_74 ⟨Nat.le_of_ble_eq_true rfl, Nat.le_of_ble_eq_true rfl⟩ (fun u_74 H locs e_74 hP hD hS => ?_)
        have hP : va_P D vwCl (wJ ja ta (rWork x42)) H := hP
        have hD : va_D A (wJ ja ta (rWork x42)) := hD
        have hrow : rAtMarket p0 row = rWork x42 := by
          subst_vars
          try simp only [rAtMarket]
          try simp only [rMkA, if_pos c_5, if_pos c_49, if_pos c_63]
          try simp only [rMkT, if_pos c_5, if_pos c_49, if_pos c_63]
          try simp only [rMkP, if_pos c_5, if_pos c_49, if_pos c_63]
          try simp only [rMkB, if_pos c_5, if_pos c_49, if_pos c_63]
          try simp only [rBring, rSave, rWork, if_pos c_5, if_pos c_49, if_pos c_63]
          done
        rw [← hrow] at hP hD
        rw [← hQQ]
        exact W.vret hx hb hr (fun t9 ht9 hW9 => ⟨⟨(), rfl, trivial, by rw [ht9]; exact hP, hD⟩, hS.F ht9⟩) hS.2.2 dX1_passAtMarket_77
      · skip
        refine lv_aload_n hx hb dX1_passAtMarket_66 rfl (lv_at hl 0 rfl) ?_
        refine rwVv (As := []) (rest := []) ⟨hx, hb, hml, hown, hts⟩ (c_X1_saveOn l D cI cL cZ cO H.size ja ta x42 ) (cwV 0 hts gX1_passAtMarket_X1_saveOn rfl rfl rfl (by decide +kernel) ⟨Nat.le_of_ble_eq_true rfl, Nat.le_of_ble_eq_true rfl⟩) hO hP hD hS hA (va_recv hK hP (ci := 1) (q0 := 0) rfl rfl) rfl hl.1 rfl (Nat.le_of_ble_eq_true rfl) dX1_passAtMarket_67 ⟨Nat.le_of_ble_eq_true rfl, Nat.le_of_ble_eq_true rfl⟩ (fun u_67 H locs e_67 hP hD hS => ?_)
        have hP : va_P D vwCl (wJ ja ta (rSave x42)) H := hP
        have hD : va_D A (wJ ja ta (rSave x42)) := hD
        refine lv_goto (tgt := 77) hx hb dX1_passAtMarket_70 (by decide) ?_
        have hrow : rAtMarket p0 row = rSave x42 := by
          subst_vars
          try simp only [rAtMarket]
          try simp only [rMkA, if_pos c_5, if_pos c_49, if_neg c_63]
          try simp only [rMkT, if_pos c_5, if_pos c_49, if_neg c_63]
          try simp only [rMkP, if_pos c_5, if_pos c_49, if_neg c_63]
          try simp only [rMkB, if_pos c_5, if_pos c_49, if_neg c_63]
          try simp only [rBring, rSave, rWork, if_pos c_5, if_pos c_49, if_neg c_63]
          done
        rw [← hrow] at hP hD
        rw [← hQQ]
        exact W.vret hx hb hr (fun t9 ht9 hW9 => ⟨⟨(), rfl, trivial, by rw [ht9]; exact hP, hD⟩, hS.F ht9⟩) hS.2.2 dX1_passAtMarket_77
    · skip
      refine lv_aload_n hx hb dX1_passAtMarket_52 rfl (lv_at hl 0 rfl) ?_
      refine rwVv (As := []) (rest := []) ⟨hx, hb, hml, hown, hts⟩ (c_X1_bringOn l D cI cL cZ cO H.size ja ta x42 ) (cwV 0 hts gX1_passAtMarket_X1_bringOn rfl rfl rfl (by decide +kernel) ⟨Nat.le_of_ble_eq_true rfl, Nat.le_of_ble_eq_true rfl⟩) hO hP hD hS hA (va_recv hK hP (ci := 1) (q0 := 0) rfl rfl) rfl hl.1 rfl (Nat.le_of_ble_eq_true rfl) dX1_passAtMarket_53 ⟨Nat.le_of_ble_eq_true rfl, Nat.le_of_ble_eq_true rfl⟩ (fun u_53 H locs e_53 hP hD hS => ?_)
      have hP : va_P D vwCl (wJ ja ta (rBring x42)) H := hP
      have hD : va_D A (wJ ja ta (rBring x42)) := hD
      refine lv_goto (tgt := 77) hx hb dX1_passAtMarket_56 (by decide) ?_
      have hrow : rAtMarket p0 row = rBring x42 := by
        subst_vars
        try simp only [rAtMarket]
        try simp only [rMkA, if_pos c_5, if_neg c_49]
        try simp only [rMkT, if_pos c_5, if_neg c_49]
        try simp only [rMkP, if_pos c_5, if_neg c_49]
        try simp only [rMkB, if_pos c_5, if_neg c_49]
        try simp only [rBring, rSave, rWork, if_pos c_5, if_neg c_49]
        done
      rw [← hrow] at hP hD
      rw [← hQQ]
      exact W.vret hx hb hr (fun t9 ht9 hW9 => ⟨⟨(), rfl, trivial, by rw [ht9]; exact hP, hD⟩, hS.F ht9⟩) hS.2.2 dX1_passAtMarket_77
  · skip
    refine lv_aload_n hx hb dX1_passAtMarket_8 rfl (lv_at hl 0 rfl) ?_
    refine lv_iconst (v := 1) hx hb dX1_passAtMarket_9 (by decide) ?_
    refine va_put (D := D) (cl := vwCl) (ci := 1) (v := .int 1) (ty := .int) (C := RX1) (T := TX1) (N := 16) hx hb hts (fun _ h => List.mem_cons_of_mem _ (List.mem_append_left _ (List.mem_append_right _ h))) tyX1 tyX1_ok nmX1 hown hK hP hD hS 0 rfl rfl 10 (by decide) (hts (.fieldLink RX1 15 "CheapHours$Job" "place" "I") (List.mem_of_getElem? (i := 1) rfl)) (fun _ h9 => h9) rfl (by decide +kernel) rfl rfl (Nat.le_of_ble_eq_true rfl) dX1_passAtMarket_10 (fun H locs hP hD hS => ?_)
    obtain ⟨x10, ex10⟩ : ∃ z : Nat → Int32, z = va_up row 17 1 := ⟨_, rfl⟩
    have hP : va_P D vwCl (wJ ja ta x10) H := by rw [ex10]; exact hP
    have hD : va_D A (wJ ja ta x10) := by rw [ex10]; exact hD
    obtain ⟨y13, ey13⟩ : ∃ z : Nat → Int32, z = va_up x10 22 0 := ⟨_, rfl⟩
    have hP : va_P D vwCl (wJ ja ta y13) H := by rw [ey13]; exact hP
    have hD : va_D A (wJ ja ta y13) := by rw [ey13]; exact hD
    refine lv_aload_n hx hb dX1_passAtMarket_13 rfl (lv_at hl 0 rfl) ?_
    refine lv_aload_n hx hb dX1_passAtMarket_14 rfl (lv_at hl 0 rfl) ?_
    refine va_get (D := D) (cl := vwCl) (ci := 1) (v := .int (y13 8)) (C := RX1) (T := TX1) (N := 16) hx hb hts (fun _ h => List.mem_cons_of_mem _ (List.mem_append_left _ (List.mem_append_right _ h))) hown hK hP 0 rfl rfl 2 (by decide) (hts (.fieldLink RX1 22 "CheapHours$Job" "saved" "I") (List.mem_of_getElem? (i := 2) rfl)) (fun _ h9 => h9) rfl dX1_passAtMarket_15 ?_
    refine lv_if_le (tgt := 31) hx hb dX1_passAtMarket_18 (by decide) (fun c_18 => ?_) (fun c_18 => ?_)
    · skip
      refine lv_iconst (v := 0) hx hb dX1_passAtMarket_31 (by decide) ?_
      refine va_put (D := D) (cl := vwCl) (ci := 1) (v := .int 0) (ty := .int) (C := RX1) (T := TX1) (N := 16) hx hb hts (fun _ h => List.mem_cons_of_mem _ (List.mem_append_left _ (List.mem_append_right _ h))) tyX1 tyX1_ok nmX1 hown hK hP hD hS 0 rfl rfl 14 (by decide) (hts (.fieldLink RX1 103 "CheapHours$Job" "bringLeft" "I") (List.mem_of_getElem? (i := 5) rfl)) (fun _ h9 => h9) rfl (by decide +kernel) rfl rfl (Nat.le_of_ble_eq_true rfl) dX1_passAtMarket_32 (fun H locs hP hD hS => ?_)
      obtain ⟨x32, ex32⟩ : ∃ z : Nat → Int32, z = va_up y13 20 0 := ⟨_, rfl⟩
      have hP : va_P D vwCl (wJ ja ta x32) H := by rw [ex32]; exact hP
      have hD : va_D A (wJ ja ta x32) := by rw [ex32]; exact hD
      refine lv_aload_n hx hb dX1_passAtMarket_35 rfl (lv_at hl 0 rfl) ?_
      refine lv_dup hx hb dX1_passAtMarket_36 rfl ?_
      refine va_get (D := D) (cl := vwCl) (ci := 1) (v := .int (x32 15)) (C := RX1) (T := TX1) (N := 16) hx hb hts (fun _ h => List.mem_cons_of_mem _ (List.mem_append_left _ (List.mem_append_right _ h))) hown hK hP 0 rfl rfl 1 (by decide) (hts (.fieldLink RX1 43 "CheapHours$Job" "paid" "I") (List.mem_of_getElem? (i := 6) rfl)) (fun _ h9 => h9) rfl dX1_passAtMarket_37 ?_
      refine lv_iload_n hx hb dX1_passAtMarket_40 rfl (lv_at hl 1 rfl) ?_
      refine lv_iadd hx hb dX1_passAtMarket_41 ?_
      refine va_put (D := D) (cl := vwCl) (ci := 1) (v := .int ((x32 15) + p0)) (ty := .int) (C := RX1) (T := TX1) (N := 16) hx hb hts (fun _ h => List.mem_cons_of_mem _ (List.mem_append_left _ (List.mem_append_right _ h))) tyX1 tyX1_ok nmX1 hown hK hP hD hS 0 rfl rfl 1 (by decide) (hts (.fieldLink RX1 43 "CheapHours$Job" "paid" "I") (List.mem_of_getElem? (i := 6) rfl)) (fun _ h9 => h9) rfl (by decide +kernel) rfl rfl (Nat.le_of_ble_eq_true rfl) dX1_passAtMarket_42 (fun H locs hP hD hS => ?_)
      obtain ⟨x42, ex42⟩ : ∃ z : Nat → Int32, z = va_up x32 15 ((x32 15) + p0) := ⟨_, rfl⟩
      have hP : va_P D vwCl (wJ ja ta x42) H := by rw [ex42]; exact hP
      have hD : va_D A (wJ ja ta x42) := by rw [ex42]; exact hD
      refine lv_aload_n hx hb dX1_passAtMarket_45 rfl (lv_at hl 0 rfl) ?_
      refine va_get (D := D) (cl := vwCl) (ci := 1) (v := .int (x42 20)) (C := RX1) (T := TX1) (N := 16) hx hb hts (fun _ h => List.mem_cons_of_mem _ (List.mem_append_left _ (List.mem_append_right _ h))) hown hK hP 0 rfl rfl 14 (by decide) (hts (.fieldLink RX1 103 "CheapHours$Job" "bringLeft" "I") (List.mem_of_getElem? (i := 5) rfl)) (fun _ h9 => h9) rfl dX1_passAtMarket_46 ?_
      refine lv_if_le (tgt := 59) hx hb dX1_passAtMarket_49 (by decide) (fun c_49 => ?_) (fun c_49 => ?_)
      · skip
        refine lv_aload_n hx hb dX1_passAtMarket_59 rfl (lv_at hl 0 rfl) ?_
        refine va_get (D := D) (cl := vwCl) (ci := 1) (v := .int (x42 21)) (C := RX1) (T := TX1) (N := 16) hx hb hts (fun _ h => List.mem_cons_of_mem _ (List.mem_append_left _ (List.mem_append_right _ h))) hown hK hP 0 rfl rfl 15 (by decide) (hts (.fieldLink RX1 112 "CheapHours$Job" "saveLeft" "I") (List.mem_of_getElem? (i := 7) rfl)) (fun _ h9 => h9) rfl dX1_passAtMarket_60 ?_
        refine lv_if_le (tgt := 73) hx hb dX1_passAtMarket_63 (by decide) (fun c_63 => ?_) (fun c_63 => ?_)
        · skip
          have h22 : x42 22 = x42 9 := by subst_vars; exact (hi2 c_5).symm
          refine lv_aload_n hx hb dX1_passAtMarket_73 rfl (lv_at hl 0 rfl) ?_
          refine rwVv (As := []) (rest := []) ⟨hx, hb, hml, hown, hts⟩ (c_X1_workOn l D cI cL cZ cO H.size ja ta x42 h22) (cwV 0 hts gX1_passAtMarket_X1_workOn rfl rfl rfl (by decide +kernel) ⟨Nat.le_of_ble_eq_true rfl, Nat.le_of_ble_eq_true rfl⟩) hO hP hD hS hA (va_recv hK hP (ci := 1) (q0 := 0) rfl rfl) rfl hl.1 rfl (Nat.le_of_ble_eq_true rfl) dX1_passAtMarket_74 ⟨Nat.le_of_ble_eq_true rfl, Nat.le_of_ble_eq_true rfl⟩ (fun u_74 H locs e_74 hP hD hS => ?_)
          have hP : va_P D vwCl (wJ ja ta (rWork x42)) H := hP
          have hD : va_D A (wJ ja ta (rWork x42)) := hD
          have hrow : rAtMarket p0 row = rWork x42 := by
            subst_vars
            try simp only [rAtMarket]
            try simp only [rMkA, if_neg c_5, if_pos c_18, if_pos c_49, if_pos c_63]
            try simp only [rMkT, if_neg c_5, if_pos c_18, if_pos c_49, if_pos c_63]
            try simp only [rMkP, if_neg c_5, if_pos c_18, if_pos c_49, if_pos c_63]
            try simp only [rMkB, if_neg c_5, if_pos c_18, if_pos c_49, if_pos c_63]
            try simp only [rBring, rSave, rWork, if_neg c_5, if_pos c_18, if_pos c_49, if_pos c_63]
            done
          rw [← hrow] at hP hD
          rw [← hQQ]
          exact W.vret hx hb hr (fun t9 ht9 hW9 => ⟨⟨(), rfl, trivial, by rw [ht9]; exact hP, hD⟩, hS.F ht9⟩) hS.2.2 dX1_passAtMarket_77
        · skip
          refine lv_aload_n hx hb dX1_passAtMarket_66 rfl (lv_at hl 0 rfl) ?_
          refine rwVv (As := []) (rest := []) ⟨hx, hb, hml, hown, hts⟩ (c_X1_saveOn l D cI cL cZ cO H.size ja ta x42 ) (cwV 0 hts gX1_passAtMarket_X1_saveOn rfl rfl rfl (by decide +kernel) ⟨Nat.le_of_ble_eq_true rfl, Nat.le_of_ble_eq_true rfl⟩) hO hP hD hS hA (va_recv hK hP (ci := 1) (q0 := 0) rfl rfl) rfl hl.1 rfl (Nat.le_of_ble_eq_true rfl) dX1_passAtMarket_67 ⟨Nat.le_of_ble_eq_true rfl, Nat.le_of_ble_eq_true rfl⟩ (fun u_67 H locs e_67 hP hD hS => ?_)
          have hP : va_P D vwCl (wJ ja ta (rSave x42)) H := hP
          have hD : va_D A (wJ ja ta (rSave x42)) := hD
          refine lv_goto (tgt := 77) hx hb dX1_passAtMarket_70 (by decide) ?_
          have hrow : rAtMarket p0 row = rSave x42 := by
            subst_vars
            try simp only [rAtMarket]
            try simp only [rMkA, if_neg c_5, if_pos c_18, if_pos c_49, if_neg c_63]
            try simp only [rMkT, if_neg c_5, if_pos c_18, if_pos c_49, if_neg c_63]
            try simp only [rMkP, if_neg c_5, if_pos c_18, if_pos c_49, if_neg c_63]
            try simp only [rMkB, if_neg c_5, if_pos c_18, if_pos c_49, if_neg c_63]
            try simp only [rBring, rSave, rWork, if_neg c_5, if_pos c_18, if_pos c_49, if_neg c_63]
            done
          rw [← hrow] at hP hD
          rw [← hQQ]
          exact W.vret hx hb hr (fun t9 ht9 hW9 => ⟨⟨(), rfl, trivial, by rw [ht9]; exact hP, hD⟩, hS.F ht9⟩) hS.2.2 dX1_passAtMarket_77
      · skip
        refine lv_aload_n hx hb dX1_passAtMarket_52 rfl (lv_at hl 0 rfl) ?_
        refine rwVv (As := []) (rest := []) ⟨hx, hb, hml, hown, hts⟩ (c_X1_bringOn l D cI cL cZ cO H.size ja ta x42 ) (cwV 0 hts gX1_passAtMarket_X1_bringOn rfl rfl rfl (by decide +kernel) ⟨Nat.le_of_ble_eq_true rfl, Nat.le_of_ble_eq_true rfl⟩) hO hP hD hS hA (va_recv hK hP (ci := 1) (q0 := 0) rfl rfl) rfl hl.1 rfl (Nat.le_of_ble_eq_true rfl) dX1_passAtMarket_53 ⟨Nat.le_of_ble_eq_true rfl, Nat.le_of_ble_eq_true rfl⟩ (fun u_53 H locs e_53 hP hD hS => ?_)
        have hP : va_P D vwCl (wJ ja ta (rBring x42)) H := hP
        have hD : va_D A (wJ ja ta (rBring x42)) := hD
        refine lv_goto (tgt := 77) hx hb dX1_passAtMarket_56 (by decide) ?_
        have hrow : rAtMarket p0 row = rBring x42 := by
          subst_vars
          try simp only [rAtMarket]
          try simp only [rMkA, if_neg c_5, if_pos c_18, if_neg c_49]
          try simp only [rMkT, if_neg c_5, if_pos c_18, if_neg c_49]
          try simp only [rMkP, if_neg c_5, if_pos c_18, if_neg c_49]
          try simp only [rMkB, if_neg c_5, if_pos c_18, if_neg c_49]
          try simp only [rBring, rSave, rWork, if_neg c_5, if_pos c_18, if_neg c_49]
          done
        rw [← hrow] at hP hD
        rw [← hQQ]
        exact W.vret hx hb hr (fun t9 ht9 hW9 => ⟨⟨(), rfl, trivial, by rw [ht9]; exact hP, hD⟩, hS.F ht9⟩) hS.2.2 dX1_passAtMarket_77
    · skip
      refine lv_aload_n hx hb dX1_passAtMarket_21 rfl (lv_at hl 0 rfl) ?_
      refine va_get (D := D) (cl := vwCl) (ci := 1) (v := .ref ta) (C := RX1) (T := TX1) (N := 16) hx hb hts (fun _ h => List.mem_cons_of_mem _ (List.mem_append_left _ (List.mem_append_right _ h))) hown hK hP 0 rfl rfl 0 (by decide) (hts (.fieldLink RX1 9 "CheapHours$Job" "terms" "LCheapHours$Terms;") (List.mem_of_getElem? (i := 3) rfl)) (fun _ h9 => h9) rfl dX1_passAtMarket_22 ?_
      refine va_get (D := D) (cl := vwCl) (ci := 4) (v := .int (y13 6)) (C := RX5) (T := TX5) (N := 8) hx hb hts (fun _ h => List.mem_cons_of_mem _ (List.mem_append_right _ h)) hown hK hP 1 rfl rfl 4 (by decide) (hts (.fieldLink RX1 97 "CheapHours$Terms" "bring" "I") (List.mem_of_getElem? (i := 4) rfl)) (fun _ h9 => h9) rfl dX1_passAtMarket_25 ?_
      refine lv_goto (tgt := 32) hx hb dX1_passAtMarket_28 (by decide) ?_
      refine va_put (D := D) (cl := vwCl) (ci := 1) (v := .int (y13 6)) (ty := .int) (C := RX1) (T := TX1) (N := 16) hx hb hts (fun _ h => List.mem_cons_of_mem _ (List.mem_append_left _ (List.mem_append_right _ h))) tyX1 tyX1_ok nmX1 hown hK hP hD hS 0 rfl rfl 14 (by decide) (hts (.fieldLink RX1 103 "CheapHours$Job" "bringLeft" "I") (List.mem_of_getElem? (i := 5) rfl)) (fun _ h9 => h9) rfl (by decide +kernel) rfl rfl (Nat.le_of_ble_eq_true rfl) dX1_passAtMarket_32 (fun H locs hP hD hS => ?_)
      obtain ⟨x32, ex32⟩ : ∃ z : Nat → Int32, z = va_up y13 20 (y13 6) := ⟨_, rfl⟩
      have hP : va_P D vwCl (wJ ja ta x32) H := by rw [ex32]; exact hP
      have hD : va_D A (wJ ja ta x32) := by rw [ex32]; exact hD
      refine lv_aload_n hx hb dX1_passAtMarket_35 rfl (lv_at hl 0 rfl) ?_
      refine lv_dup hx hb dX1_passAtMarket_36 rfl ?_
      refine va_get (D := D) (cl := vwCl) (ci := 1) (v := .int (x32 15)) (C := RX1) (T := TX1) (N := 16) hx hb hts (fun _ h => List.mem_cons_of_mem _ (List.mem_append_left _ (List.mem_append_right _ h))) hown hK hP 0 rfl rfl 1 (by decide) (hts (.fieldLink RX1 43 "CheapHours$Job" "paid" "I") (List.mem_of_getElem? (i := 6) rfl)) (fun _ h9 => h9) rfl dX1_passAtMarket_37 ?_
      refine lv_iload_n hx hb dX1_passAtMarket_40 rfl (lv_at hl 1 rfl) ?_
      refine lv_iadd hx hb dX1_passAtMarket_41 ?_
      refine va_put (D := D) (cl := vwCl) (ci := 1) (v := .int ((x32 15) + p0)) (ty := .int) (C := RX1) (T := TX1) (N := 16) hx hb hts (fun _ h => List.mem_cons_of_mem _ (List.mem_append_left _ (List.mem_append_right _ h))) tyX1 tyX1_ok nmX1 hown hK hP hD hS 0 rfl rfl 1 (by decide) (hts (.fieldLink RX1 43 "CheapHours$Job" "paid" "I") (List.mem_of_getElem? (i := 6) rfl)) (fun _ h9 => h9) rfl (by decide +kernel) rfl rfl (Nat.le_of_ble_eq_true rfl) dX1_passAtMarket_42 (fun H locs hP hD hS => ?_)
      obtain ⟨x42, ex42⟩ : ∃ z : Nat → Int32, z = va_up x32 15 ((x32 15) + p0) := ⟨_, rfl⟩
      have hP : va_P D vwCl (wJ ja ta x42) H := by rw [ex42]; exact hP
      have hD : va_D A (wJ ja ta x42) := by rw [ex42]; exact hD
      refine lv_aload_n hx hb dX1_passAtMarket_45 rfl (lv_at hl 0 rfl) ?_
      refine va_get (D := D) (cl := vwCl) (ci := 1) (v := .int (x42 20)) (C := RX1) (T := TX1) (N := 16) hx hb hts (fun _ h => List.mem_cons_of_mem _ (List.mem_append_left _ (List.mem_append_right _ h))) hown hK hP 0 rfl rfl 14 (by decide) (hts (.fieldLink RX1 103 "CheapHours$Job" "bringLeft" "I") (List.mem_of_getElem? (i := 5) rfl)) (fun _ h9 => h9) rfl dX1_passAtMarket_46 ?_
      refine lv_if_le (tgt := 59) hx hb dX1_passAtMarket_49 (by decide) (fun c_49 => ?_) (fun c_49 => ?_)
      · skip
        refine lv_aload_n hx hb dX1_passAtMarket_59 rfl (lv_at hl 0 rfl) ?_
        refine va_get (D := D) (cl := vwCl) (ci := 1) (v := .int (x42 21)) (C := RX1) (T := TX1) (N := 16) hx hb hts (fun _ h => List.mem_cons_of_mem _ (List.mem_append_left _ (List.mem_append_right _ h))) hown hK hP 0 rfl rfl 15 (by decide) (hts (.fieldLink RX1 112 "CheapHours$Job" "saveLeft" "I") (List.mem_of_getElem? (i := 7) rfl)) (fun _ h9 => h9) rfl dX1_passAtMarket_60 ?_
        refine lv_if_le (tgt := 73) hx hb dX1_passAtMarket_63 (by decide) (fun c_63 => ?_) (fun c_63 => ?_)
        · skip
          have h22 : x42 22 = x42 9 := by subst_vars; exact (hi2 c_5).symm
          refine lv_aload_n hx hb dX1_passAtMarket_73 rfl (lv_at hl 0 rfl) ?_
          refine rwVv (As := []) (rest := []) ⟨hx, hb, hml, hown, hts⟩ (c_X1_workOn l D cI cL cZ cO H.size ja ta x42 h22) (cwV 0 hts gX1_passAtMarket_X1_workOn rfl rfl rfl (by decide +kernel) ⟨Nat.le_of_ble_eq_true rfl, Nat.le_of_ble_eq_true rfl⟩) hO hP hD hS hA (va_recv hK hP (ci := 1) (q0 := 0) rfl rfl) rfl hl.1 rfl (Nat.le_of_ble_eq_true rfl) dX1_passAtMarket_74 ⟨Nat.le_of_ble_eq_true rfl, Nat.le_of_ble_eq_true rfl⟩ (fun u_74 H locs e_74 hP hD hS => ?_)
          have hP : va_P D vwCl (wJ ja ta (rWork x42)) H := hP
          have hD : va_D A (wJ ja ta (rWork x42)) := hD
          have hrow : rAtMarket p0 row = rWork x42 := by
            subst_vars
            try simp only [rAtMarket]
            try simp only [rMkA, if_neg c_5, if_neg c_18, if_pos c_49, if_pos c_63]
            try simp only [rMkT, if_neg c_5, if_neg c_18, if_pos c_49, if_pos c_63]
            try simp only [rMkP, if_neg c_5, if_neg c_18, if_pos c_49, if_pos c_63]
            try simp only [rMkB, if_neg c_5, if_neg c_18, if_pos c_49, if_pos c_63]
            try simp only [rBring, rSave, rWork, if_neg c_5, if_neg c_18, if_pos c_49, if_pos c_63]
            done
          rw [← hrow] at hP hD
          rw [← hQQ]
          exact W.vret hx hb hr (fun t9 ht9 hW9 => ⟨⟨(), rfl, trivial, by rw [ht9]; exact hP, hD⟩, hS.F ht9⟩) hS.2.2 dX1_passAtMarket_77
        · skip
          refine lv_aload_n hx hb dX1_passAtMarket_66 rfl (lv_at hl 0 rfl) ?_
          refine rwVv (As := []) (rest := []) ⟨hx, hb, hml, hown, hts⟩ (c_X1_saveOn l D cI cL cZ cO H.size ja ta x42 ) (cwV 0 hts gX1_passAtMarket_X1_saveOn rfl rfl rfl (by decide +kernel) ⟨Nat.le_of_ble_eq_true rfl, Nat.le_of_ble_eq_true rfl⟩) hO hP hD hS hA (va_recv hK hP (ci := 1) (q0 := 0) rfl rfl) rfl hl.1 rfl (Nat.le_of_ble_eq_true rfl) dX1_passAtMarket_67 ⟨Nat.le_of_ble_eq_true rfl, Nat.le_of_ble_eq_true rfl⟩ (fun u_67 H locs e_67 hP hD hS => ?_)
          have hP : va_P D vwCl (wJ ja ta (rSave x42)) H := hP
          have hD : va_D A (wJ ja ta (rSave x42)) := hD
          refine lv_goto (tgt := 77) hx hb dX1_passAtMarket_70 (by decide) ?_
          have hrow : rAtMarket p0 row = rSave x42 := by
            subst_vars
            try simp only [rAtMarket]
            try simp only [rMkA, if_neg c_5, if_neg c_18, if_pos c_49, if_neg c_63]
            try simp only [rMkT, if_neg c_5, if_neg c_18, if_pos c_49, if_neg c_63]
            try simp only [rMkP, if_neg c_5, if_neg c_18, if_pos c_49, if_neg c_63]
            try simp only [rMkB, if_neg c_5, if_neg c_18, if_pos c_49, if_neg c_63]
            try simp only [rBring, rSave, rWork, if_neg c_5, if_neg c_18, if_pos c_49, if_neg c_63]
            done
          rw [← hrow] at hP hD
          rw [← hQQ]
          exact W.vret hx hb hr (fun t9 ht9 hW9 => ⟨⟨(), rfl, trivial, by rw [ht9]; exact hP, hD⟩, hS.F ht9⟩) hS.2.2 dX1_passAtMarket_77
      · skip
        refine lv_aload_n hx hb dX1_passAtMarket_52 rfl (lv_at hl 0 rfl) ?_
        refine rwVv (As := []) (rest := []) ⟨hx, hb, hml, hown, hts⟩ (c_X1_bringOn l D cI cL cZ cO H.size ja ta x42 ) (cwV 0 hts gX1_passAtMarket_X1_bringOn rfl rfl rfl (by decide +kernel) ⟨Nat.le_of_ble_eq_true rfl, Nat.le_of_ble_eq_true rfl⟩) hO hP hD hS hA (va_recv hK hP (ci := 1) (q0 := 0) rfl rfl) rfl hl.1 rfl (Nat.le_of_ble_eq_true rfl) dX1_passAtMarket_53 ⟨Nat.le_of_ble_eq_true rfl, Nat.le_of_ble_eq_true rfl⟩ (fun u_53 H locs e_53 hP hD hS => ?_)
        have hP : va_P D vwCl (wJ ja ta (rBring x42)) H := hP
        have hD : va_D A (wJ ja ta (rBring x42)) := hD
        refine lv_goto (tgt := 77) hx hb dX1_passAtMarket_56 (by decide) ?_
        have hrow : rAtMarket p0 row = rBring x42 := by
          subst_vars
          try simp only [rAtMarket]
          try simp only [rMkA, if_neg c_5, if_neg c_18, if_neg c_49]
          try simp only [rMkT, if_neg c_5, if_neg c_18, if_neg c_49]
          try simp only [rMkP, if_neg c_5, if_neg c_18, if_neg c_49]
          try simp only [rMkB, if_neg c_5, if_neg c_18, if_neg c_49]
          try simp only [rBring, rSave, rWork, if_neg c_5, if_neg c_18, if_neg c_49]
          done
        rw [← hrow] at hP hD
        rw [← hQQ]
        exact W.vret hx hb hr (fun t9 ht9 hW9 => ⟨⟨(), rfl, trivial, by rw [ht9]; exact hP, hD⟩, hS.F ht9⟩) hS.2.2 dX1_passAtMarket_77
set_option maxHeartbeats 4000000 in
set_option maxRecDepth 100000 in
theorem c_X4_at (l : Launch) (D : va_G) (cI cL cZ cO : ClassId) (pA lt : Nat) (full : Int32) (pr : Nat → Int32) (mm h : Nat) (hm : mm ≤ 3) (hh : h < 1000) : Met l yX4_at wsX4_at ({ frames := 2, cells := 0, slots := 0, locals := 43 } : Room) (va_Pc [.ref pA, .int (nI mm), .int (nI h)] (Ro D cI cL cZ cO (wP cI pA lt full pr))) (vp_Si (fun r => r = atV pr full mm h)) 0 0 (fun _ => False) := by
  refine Met.ofW (cc := cX4_at) (maxL := 3) (ret := (some .int)) (by decide) rfl ?_
  intro p e s m args below meth c s₁ B hml hv
  obtain ⟨rfl, hP, hO⟩ := hv
  have hx := B.exec
  have hb := B.bytes
  have hr := B.returns
  have hts := atoms_spec (ws := wsX4_at) B.pre
  have hown : s.vm.findClass RX4 = some m.cls := findClass_of_methodNamed B.named
  have hlocks := B.notSynchronized
  have hK := hO.1
  have hl := lv_entry ([.ref pA, .int (nI mm), .int (nI h)]) (n := 3) (Nat.le_of_ble_eq_true rfl)
  rw [lg_entry_eq]
  generalize (lg_sl ([.ref pA, .int (nI mm), .int (nI h)]) ++ List.replicate (3 - (lg_sl ([.ref pA, .int (nI mm), .int (nI h)])).length) Slot.unset).toArray = ls at hl ⊢
  have hl : lv_has ls 3 [(0, .ref pA), (1, .int (nI mm)), (2, .int (nI h))] := hl
  generalize hQQ : MQ below _ _ s _ _ _ = QQ
  refine lv_iload_n hx hb dX4_at_0 rfl (lv_at hl 1 rfl) ?_
  refine lv_iconst (v := 3) hx hb dX4_at_1 (by decide) ?_
  refine n_icmp_ne (x := mm) (y := 3) (tgt := 10) hx hb dX4_at_2 (by decide) (by omega) (by omega) (fun c_2 => ?_) (fun c_2 => ?_)
  · skip
    refine lv_iload_n hx hb dX4_at_10 rfl (lv_at hl 1 rfl) ?_
    refine lv_iload_n hx hb dX4_at_11 rfl (lv_at hl 2 rfl) ?_
    refine roSi (As := [.int (nI mm), .int (nI h)]) (rest := []) ⟨hx, hb, hml, hown, hts⟩ (c_X4_isLetHour l D cI cL cZ cO (nI mm) (nI h) ) (va_cwS 2 hts gX4_at_X4_isLetHour rfl rfl rfl (by decide +kernel) ⟨Nat.le_of_ble_eq_true rfl, Nat.le_of_ble_eq_true rfl⟩) hO (fun k q h => by simp at h) rfl hl.1 rfl (Nat.le_of_ble_eq_true rfl) dX4_at_12 ⟨Nat.le_of_ble_eq_true rfl, Nat.le_of_ble_eq_true rfl⟩ (fun r_12 e_12 => ?_)
    obtain rfl : r_12 = ilh (nI mm) (nI h) := e_12
    refine lv_if_eq (tgt := 33) hx hb dX4_at_15 (by decide) (fun c_15 => ?_) (fun c_15 => ?_)
    · skip
      have hno := (ilh_nat (m := mm) (h := h) (by omega) (by omega)).mp c_15
      refine lv_iconst (v := (-1)) hx hb dX4_at_33 (by decide) ?_
      rw [← hQQ]
      exact W.iret (v := (-1)) hx hb hr (fun t9 ht9 hW9 => ⟨_, rfl, (by rw [atV, if_neg c_2, if_neg (by omega)]), ht9⟩) (fun q h => by cases h) dX4_at_34
    · skip
      have hyes : mm < 3 ∧ h < 200 := Classical.byContradiction (fun z9 => c_15 ((ilh_nat (m := mm) (h := h) (by omega) (by omega)).mpr z9))
      refine lv_aload_n hx hb dX4_at_18 rfl (lv_at hl 0 rfl) ?_
      refine va_get (D := D) (cl := vwCl) (ci := 3) (v := .ref lt) (C := RX4) (T := TX4) (N := 2) hx hb hts (fun _ h => List.mem_cons_of_mem _ (List.mem_append_right _ h)) hown hK hP 0 rfl rfl 0 (by decide) (hts (.fieldLink RX4 9 "CheapHours$Prices" "let" "[I") (by decide +kernel)) (fun _ h9 => h9) rfl dX4_at_19 ?_
      refine lv_iload_n hx hb dX4_at_22 rfl (lv_at hl 1 rfl) ?_
      refine lv_sipush (v := 200) hx hb dX4_at_23 (by decide) ?_
      refine n_imul (x := mm) (y := 200) hx hb dX4_at_26 ?_
      refine lv_iload_n hx hb dX4_at_27 rfl (lv_at hl 2 rfl) ?_
      refine n_iadd (x := (mm * 200)) (y := h) hx hb dX4_at_28 ?_
      refine n_iald (D := D) (cl := vwCl) (x := ((mm * 200) + h)) hx hb hK hP 1 0 (f := pr) rfl rfl (by omega) (Nat.le_of_ble_eq_true rfl) dX4_at_29 ?_
      refine lv_goto (tgt := 34) hx hb dX4_at_30 (by decide) ?_
      rw [← hQQ]
      exact W.iret (v := (pr ((mm * 200) + h))) hx hb hr (fun t9 ht9 hW9 => ⟨_, rfl, (by rw [atV, if_neg c_2, if_pos hyes.2, Nat.mul_comm 200 mm]), ht9⟩) (fun q h => by cases h) dX4_at_34
  · skip
    refine lv_aload_n hx hb dX4_at_5 rfl (lv_at hl 0 rfl) ?_
    refine va_get (D := D) (cl := vwCl) (ci := 3) (v := .int full) (C := RX4) (T := TX4) (N := 2) hx hb hts (fun _ h => List.mem_cons_of_mem _ (List.mem_append_right _ h)) hown hK hP 0 rfl rfl 1 (by decide) (hts (.fieldLink RX4 21 "CheapHours$Prices" "atFull" "I") (by decide +kernel)) (fun _ h9 => h9) rfl dX4_at_6 ?_
    rw [← hQQ]
    exact W.iret (v := full) hx hb hr (fun t9 ht9 hW9 => ⟨_, rfl, by simp only [atV, if_pos c_2], ht9⟩) (fun q h => by cases h) dX4_at_9
set_option maxHeartbeats 4000000 in
set_option maxRecDepth 100000 in
theorem c_X4_put (l : Launch) (D : va_G) (cI cL cZ cO : ClassId) (sz : Nat) (pA lt : Nat) (full : Int32) (pr : Nat → Int32) (mk fr to : Nat) (p0 : Int32) (hmk : mk < 3) (h3 : fr ≤ to) (h4 : to < 200) : Met l yX4_put wsX4_put ({ frames := 2, cells := 0, slots := 0, locals := 43 } : Room) (va_Pc [.ref pA, .int (nI mk), .int (nI fr), .int (nI to), .int p0] (Rw D cI cL cZ cO (wP cI pA lt full pr) sz)) (va_Qv (fun (u : Unit) => True) (fun (u : Unit) => Wo D (va_A (wP cI pA lt full pr) sz) (wP cI pA lt full (setR pr (200 * mk + fr) (200 * mk + to) p0))) (va_A (wP cI pA lt full pr) sz)) 0 0 (va_A (wP cI pA lt full pr) sz) := by
  refine Met.ofW (cc := cX4_put) (maxL := 6) (ret := none) (by decide) rfl ?_
  intro p e s m args below meth c s₁ B hml hv
  obtain ⟨rfl, hsz, hP, hO, hD0⟩ := hv
  have hx := B.exec
  have hb := B.bytes
  have hr := B.returns
  have hts := atoms_spec (ws := wsX4_put) B.pre
  have hown : s.vm.findClass RX4 = some m.cls := findClass_of_methodNamed B.named
  have hlocks := B.notSynchronized
  have hK := hO.1
  subst hsz
  have hD := hD0.self (sz := s.heap.size)
  generalize hAe : va_A (wP cI pA lt full pr) s.heap.size = A at hD ⊢
  have hA : ∀ q : Nat, s.heap.size ≤ q → A q := fun q h => by rw [← hAe]; exact Or.inr h
  have hS : va_S A s.heap s.heap [] := va_S.rf
  have hl := lv_entry ([.ref pA, .int (nI mk), .int (nI fr), .int (nI to), .int p0]) (n := 6) (Nat.le_of_ble_eq_true rfl)
  rw [lg_entry_eq]
  generalize (lg_sl ([.ref pA, .int (nI mk), .int (nI fr), .int (nI to), .int p0]) ++ List.replicate (6 - (lg_sl ([.ref pA, .int (nI mk), .int (nI fr), .int (nI to), .int p0])).length) Slot.unset).toArray = ls at hl ⊢
  have hl : lv_has ls 6 [(0, .ref pA), (1, .int (nI mk)), (2, .int (nI fr)), (3, .int (nI to)), (4, .int p0)] := hl
  generalize hQQ : MQ below _ _ s _ _ _ = QQ
  refine lv_iload_n hx hb dX4_put_0 rfl (lv_at hl 2 rfl) ?_
  rw [← setE_0 pr (200 * mk + fr) p0] at hP hD
  refine lv_istore (lv' := [(5, .int (nI fr)), (0, .ref pA), (1, .int (nI mk)), (2, .int (nI fr)), (3, .int (nI to)), (4, .int p0)]) hx hb dX4_put_1 hl (by decide) rfl (fun ls hl => ?_)
  have L3 : ∀ (n0 : Nat) (e9 : Nat) (H : Heap) (locs : List Loc) (ls : Array Slot), to + 1 - fr - e9 < n0 → (fr + e9 ≤ to + 1) → va_P D vwCl (wP cI pA lt full (setE pr (200 * mk + fr) e9 p0)) H → va_D A (wP cI pA lt full (setE pr (200 * mk + fr) e9 p0)) → va_S A s.heap H locs → lv_has ls 6 [(5, .int (nI (fr + e9))), (0, .ref pA), (1, .int (nI mk)), (2, .int (nI fr)), (3, .int (nI to)), (4, .int p0)] → W p l e (headSpec wsX4_put ({ frames := 2, cells := 0, slots := 0, locals := 43 } : Room)).room s m ([.ref pA, .int (nI mk), .int (nI fr), .int (nI to), .int p0] : List Value).toArray below meth c H locs 0 0 QQ (F0 m 3 ls []) := by
    intro n0
    induction n0 with
    | zero =>
      intro e9 H locs ls hmu
      exact absurd hmu (Nat.not_lt_zero _)
    | succ n0 ih3 =>
      intro e9 H locs ls hmu he hP hD hS hl
      refine lv_iload hx hb dX4_put_3 (lv_at hl 0 rfl) ?_
      refine lv_iload_n hx hb dX4_put_5 rfl (lv_at hl 4 rfl) ?_
      refine n_icmp_gt (x := (fr + e9)) (y := to) (tgt := 47) hx hb dX4_put_6 (by decide) (by omega) (by omega) (fun c_6 => ?_) (fun c_6 => ?_)
      · skip
        rw [setE_R pr (200 * mk + fr) e9 (200 * mk + to) p0 (by omega)] at hP hD
        rw [← hQQ]
        exact W.vret hx hb hr (fun t9 ht9 hW9 => ⟨⟨(), rfl, trivial, by rw [ht9]; exact hP, hD⟩, hS.F ht9⟩) hS.2.2 dX4_put_47
      · skip
        refine lv_iload hx hb dX4_put_9 (lv_at hl 0 rfl) ?_
        refine lv_sipush (v := 200) hx hb dX4_put_11 (by decide) ?_
        refine n_icmp_ge (x := (fr + e9)) (y := 200) (tgt := 47) hx hb dX4_put_14 (by decide) (by omega) (by omega) (fun c_14 => ?_) (fun c_14 => ?_)
        · skip
          exact absurd c_14 (by omega)
        · skip
          refine lv_iload_n hx hb dX4_put_17 rfl (lv_at hl 2 rfl) ?_
          refine lv_iload hx hb dX4_put_18 (lv_at hl 0 rfl) ?_
          refine roSi (As := [.int (nI mk), .int (nI (fr + e9))]) (rest := []) ⟨hx, hb, hml, hown, hts⟩ (c_X4_isLetHour l D cI cL cZ cO (nI mk) (nI (fr + e9)) ) (va_cwS 2 hts gX4_put_X4_isLetHour rfl rfl rfl (by decide +kernel) ⟨Nat.le_of_ble_eq_true rfl, Nat.le_of_ble_eq_true rfl⟩) hO (fun k q h => by simp at h) rfl hl.1 rfl (Nat.le_of_ble_eq_true rfl) dX4_put_20 ⟨Nat.le_of_ble_eq_true rfl, Nat.le_of_ble_eq_true rfl⟩ (fun r_20 e_20 => ?_)
          obtain rfl : r_20 = ilh (nI mk) (nI (fr + e9)) := e_20
          refine lv_if_eq (tgt := 41) hx hb dX4_put_23 (by decide) (fun c_23 => ?_) (fun c_23 => ?_)
          · skip
            exact absurd (show mk < 3 ∧ fr + e9 < 200 by omega) ((ilh_nat (m := mk) (h := fr + e9) (by omega) (by omega)).mp c_23)
          · skip
            refine lv_aload_n hx hb dX4_put_26 rfl (lv_at hl 1 rfl) ?_
            refine va_get (D := D) (cl := vwCl) (ci := 3) (v := .ref lt) (C := RX4) (T := TX4) (N := 2) hx hb hts (fun _ h => List.mem_cons_of_mem _ (List.mem_append_right _ h)) hown hK hP 0 rfl rfl 0 (by decide) (hts (.fieldLink RX4 9 "CheapHours$Prices" "let" "[I") (by decide +kernel)) (fun _ h9 => h9) rfl dX4_put_27 ?_
            refine lv_iload_n hx hb dX4_put_30 rfl (lv_at hl 2 rfl) ?_
            refine lv_sipush (v := 200) hx hb dX4_put_31 (by decide) ?_
            refine n_imul (x := mk) (y := 200) hx hb dX4_put_34 ?_
            refine lv_iload hx hb dX4_put_35 (lv_at hl 0 rfl) ?_
            refine n_iadd (x := (mk * 200)) (y := (fr + e9)) hx hb dX4_put_37 ?_
            refine lv_iload hx hb dX4_put_38 (lv_at hl 5 rfl) ?_
            refine n_iast (D := D) (cl := vwCl) (x := ((mk * 200) + (fr + e9))) (v := p0) hx hb hK hP hD hS 1 0 (f := (setE pr (200 * mk + fr) e9 p0)) rfl rfl (by omega) (Nat.le_of_ble_eq_true rfl) dX4_put_40 (fun H locs hP hD hS => ?_)
            have hP : va_P D vwCl (wP cI pA lt full (upd (setE pr (200 * mk + fr) e9 p0) ((mk * 200) + (fr + e9)) p0)) H := hP
            have hD : va_D A (wP cI pA lt full (upd (setE pr (200 * mk + fr) e9 p0) ((mk * 200) + (fr + e9)) p0)) := hD
            rw [show mk * 200 + (fr + e9) = 200 * mk + fr + e9 by omega, setE_s] at hP hD
            refine lv_iinc (v := (nI ((fr + e9) + 1))) (lv' := [(5, .int (nI ((fr + e9) + 1))), (0, .ref pA), (1, .int (nI mk)), (2, .int (nI fr)), (3, .int (nI to)), (4, .int p0)]) hx hb dX4_put_41 hl (k := 0) rfl (nI_add (fr + e9) 1) (by decide) rfl (fun ls hl => ?_)
            refine lv_goto (tgt := 3) hx hb dX4_put_44 (by decide) ?_
            exact ih3 (e9 + 1) _ _ _ (by omega) (by omega) hP hD hS (lv_sub hl [0, 1, 2, 3, 4, 5] rfl)
  exact L3 _ 0 _ _ _ (Nat.lt_succ_self _) (by omega) hP hD hS (lv_sub hl [0, 1, 2, 3, 4, 5] rfl)
