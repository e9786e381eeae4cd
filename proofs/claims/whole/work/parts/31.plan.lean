/-! THE CLASS: the plan -/
section NatRows2
variable {p : Program} {l : Launch} {e : Env} {R : Room} {s : State} {m : MethodId} {args : Array Value} {below : List Frame} {meth : Method} {c : Code} {H : Heap} {locs : List Loc} {cells slots : Nat} {Q : State → Prop}
variable {cc : ByteArray} {pc : Nat} {ls : Array Slot} {rest : List Value}
theorem n_if_lt {x : Nat} {off : Int} (hx : p.tables.exec = Jvm.exec) (hb : c.code = cc) (hdg : decode cc pc = .ok (.ifCond .lt off, 3)) (h1 : x < 2 ^ 31) (kf : W p l e R s m args below meth c H locs cells slots Q (F0 m (pc + 3) ls rest)) : W p l e R s m args below meth c H locs cells slots Q (F0 m pc ls (.int (nI x) :: rest)) := by
  intro T hT X
  obtain ⟨t, a, b⟩ := kf T hT X
  refine ⟨t, ?_, b⟩
  have hP : ¬ nI x < 0 := nI_pos h1
  jvm_step X.here [X.here.top, hx, hb, hdg, Op.ifCond.holds, hP]
  exact a
theorem n_if_ge {x : Nat} {off : Int} {tgt : Nat} (hx : p.tables.exec = Jvm.exec) (hb : c.code = cc) (hdg : decode cc pc = .ok (.ifCond .ge off, 3)) (ht : (pc : Int) + off = (tgt : Int)) (h1 : x < 2 ^ 31) (kt : W p l e R s m args below meth c H locs cells slots Q (F0 m tgt ls rest)) : W p l e R s m args below meth c H locs cells slots Q (F0 m pc ls (.int (nI x) :: rest)) :=
  lv_if_ge hx hb hdg ht (fun _ => kt) (fun q => absurd (nI_pos' h1) q)
end NatRows2
def wPl (cI cL : ClassId) (pl pA lt : Nat) (k : Nat → Nat) (size known full : Int32) (lp ch : Nat → Int32) (me : Nat → Int64) (ru wo : Nat → Int32) (mb : Nat → Int64) : va_W :=
  [(pl, .inr (2, [.int size, .int known, .ref pA, .ref (k 0), .ref (k 1), .ref (k 2), .ref (k 3), .ref (k 4), .ref (k 5)])), (pA, .inr (3, [.ref lt, .int full])), (k 0, .inl (cI, 6, .inl lp)), (k 1, .inl (cI, 36, .inl ch)), (k 2, .inl (cL, 1014, .inr (.inl me))), (k 3, .inl (cI, 1014, .inl ru)), (k 4, .inl (cI, 1014, .inl wo)), (k 5, .inl (cL, 1014, .inr (.inl mb)))]
theorem gwS_max {ch g : Nat → Int32} {lx k : Nat} (h : ¬ ch (6 * lx + k) ≤ 0) : (if gwS ch g lx k < g k then g k else gwS ch g lx k) = gwS ch g lx (k + 1) := by
  rw [gwS, if_neg h]
  by_cases q : g k ≤ gwS ch g lx k
  · rw [if_pos q, if_neg (i32_nlt.mpr q)]
  · rw [if_neg q, if_pos (i32_nle.mp q)]
/-- the class's own way to the best of three -/
theorem bestC_1 {low high wait : Int64} {h w : Nat} (h1 : ¬ high < low) (h2 : h ≤ w ∨ low < wait) : tbBest low high wait h w = 1 := by
  unfold tbBest
  by_cases q : h ≤ w
  · rw [if_pos q, if_neg h1]
  · rw [if_neg q, if_pos (h2.resolve_left q), if_neg h1]
theorem bestC_2 {low high wait : Int64} {h w : Nat} (h1 : high < low) (h2 : h ≤ w ∨ high < wait) : tbBest low high wait h w = 2 := by
  unfold tbBest
  by_cases q : h ≤ w
  · rw [if_pos q, if_pos h1]
  · rw [if_neg q]
    by_cases q2 : low < wait
    · rw [if_pos q2, if_pos h1]
    · rw [if_neg q2, if_pos (h2.resolve_left q), if_pos h1]
theorem bestC_0 {low high wait : Int64} {h w : Nat} (h0 : ¬ h ≤ w) (h1 : ¬ low < wait) (h2 : ¬ high < wait) : tbBest low high wait h w = 0 := by
  unfold tbBest
  rw [if_neg h0, if_neg h1, if_neg h2]
theorem i64_tr {a b c : Int64} (h1 : ¬ a < b) (h2 : ¬ c < a) : ¬ c < b := by
  rw [Int64.lt_iff_toInt_lt] at *; omega
theorem i64_lt_tr {a b c : Int64} (h1 : a < b) (h2 : ¬ a < c) : ¬ b < c := by
  rw [Int64.lt_iff_toInt_lt] at *; omega
theorem nx_tb0 {L : Nat} {lp ch : Nat → Int32} {full cap : Int32} {me : Nat → Int64} {ru wo : Nat → Int32} {h w lx w' : Nat} (hL : L ≤ 6) (hh : h + 1 ≤ 12) (g : tGood L lp ch full cap me ru wo (h + 1) w lx) (hw' : w' ≤ h) : nxS ch (fun k => me (tn h w' k)) lx L = nxS ch (fun k => (tb L lp ch full cap h w' k).1) lx L :=
  nxS_congr (fun k hk => ⟨rfl, (g h w' k (by omega) hw' hk (by omega)).1⟩)
theorem gw_tb0 {L : Nat} {lp ch : Nat → Int32} {full cap : Int32} {me : Nat → Int64} {ru wo : Nat → Int32} {h w lx w' : Nat} (hL : L ≤ 6) (hh : h + 1 ≤ 12) (g : tGood L lp ch full cap me ru wo (h + 1) w lx) (hw' : w' ≤ h) : gwS ch (fun k => wo (tn h w' k)) lx L = gwS ch (fun k => (tb L lp ch full cap h w' k).2.2) lx L :=
  gwS_congr (fun k hk => ⟨rfl, (g h w' k (by omega) hw' hk (by omega)).2.2⟩)
def tAll (L : Nat) (lp ch : Nat → Int32) (full cap : Int32) (me : Nat → Int64) (ru wo : Nat → Int32) : Prop := ∀ h w lx, h ≤ 12 → w ≤ h → lx < L → tG L lp ch full cap me ru wo h w lx
def cGood (L : Nat) (lp ch : Nat → Int32) (full cap : Int32) (W : Nat) (mb : Nat → Int64) (h w l : Nat) : Prop := ∀ h' w' l', h' ≤ 12 → w' ≤ h' → w' ≤ W → l' < L → (h' < h ∨ (h' = h ∧ (w' < w ∨ (w' = w ∧ l' < l)))) → mb (tn h' w' l') = (tb L lp ch full cap h' w' l').1
theorem cGood_s {L : Nat} {lp ch : Nat → Int32} {full cap : Int32} {W : Nat} {mb : Nat → Int64} {h w l : Nat} (hL : L ≤ 6) (hh : h ≤ 12) (hw : w ≤ h) (hl : l < L) (g : cGood L lp ch full cap W mb h w l) : cGood L lp ch full cap W (vp_updL mb (tn h w l) (tb L lp ch full cap h w l).1) h w (l + 1) := by
  intro h' w' l' a1 a2 a5 a3 a4
  by_cases hb : h' < h ∨ (h' = h ∧ (w' < w ∨ (w' = w ∧ l' < l)))
  · have hne := tn_ne (h := h) (w := w) (l := l) (h' := h') (w' := w') (l' := l') (by omega) (by omega) (by omega) (by omega) hb
    rw [pk_uLn hne]; exact g h' w' l' a1 a2 a5 a3 hb
  · obtain ⟨rfl, rfl, rfl⟩ : h' = h ∧ w' = w ∧ l' = l := by omega
    exact pk_uLs
theorem cGood_w {L : Nat} {lp ch : Nat → Int32} {full cap : Int32} {W : Nat} {mb : Nat → Int64} {h w : Nat} (g : cGood L lp ch full cap W mb h w L) : cGood L lp ch full cap W mb h (w + 1) 0 := fun h' w' l' a1 a2 a5 a3 a4 => g h' w' l' a1 a2 a5 a3 (by omega)
theorem cGood_h {L : Nat} {lp ch : Nat → Int32} {full cap : Int32} {W : Nat} {mb : Nat → Int64} {h w : Nat} (hw : min h W < w) (g : cGood L lp ch full cap W mb h w 0) : cGood L lp ch full cap W mb (h + 1) 0 0 := fun h' w' l' a1 a2 a5 a3 a4 => g h' w' l' a1 a2 a5 a3 (by omega)
theorem nx_cb {L : Nat} {lp ch : Nat → Int32} {full cap : Int32} {W : Nat} {mb : Nat → Int64} {h w lx w' : Nat} (hL : L ≤ 6) (hh : h + 1 ≤ 12) (g : cGood L lp ch full cap W mb (h + 1) w lx) (hw' : w' ≤ h) (hW : w' ≤ W) : nxS ch (fun k => mb (tn h w' k)) lx L = nxS ch (fun k => (tb L lp ch full cap h w' k).1) lx L :=
  nxS_congr (fun k hk => ⟨rfl, g h w' k (by omega) hw' hW hk (by omega)⟩)
theorem ds_mono (v : Nat) : ∀ {a b : Nat}, a ≤ b → ds v a ≤ ds v b := by
  intro a b h
  induction b with
  | zero => rw [Nat.le_zero.mp h]; exact Nat.le_refl _
  | succ b ih =>
    rcases Nat.lt_or_ge b a with q | q
    · rw [show a = b + 1 by omega]; exact Nat.le_refl _
    · exact Nat.le_trans (ih q) (Nat.le_add_right _ _)
theorem dv_ext {v L : Nat} (h : dv v L = 0) : ∀ {m : Nat}, L ≤ m → dv v m = 0 := by
  intro m hm
  induction m with
  | zero => rw [show L = 0 by omega] at h; exact h
  | succ m ih =>
    rcases Nat.lt_or_ge m L with q | q
    · rw [show m + 1 = L by omega]; exact h
    · show dv v m / 10 = 0; rw [ih q]
theorem ds_ext {v L : Nat} (h : dv v L = 0) : ∀ {m : Nat}, L ≤ m → ds v m = ds v L := by
  intro m hm
  induction m with
  | zero => rw [show L = 0 by omega]
  | succ m ih =>
    rcases Nat.lt_or_ge m L with q | q
    · rw [show m + 1 = L by omega]
    · show ds v m + dv v m % 10 = ds v L; rw [ih q, dv_ext h q]; rfl
theorem chE_fin (ch : Nat → Int32) (lx v sm : Nat) (h : sm ≤ 10) : upd (chE ch lx v 10 6) (6 * lx) (chE ch lx v 10 6 (6 * lx) + nI (10 - sm)) = chE ch lx v sm 6 := by
  funext i
  simp only [upd]
  by_cases h1 : i = 6 * lx
  · rw [if_pos h1]
    subst h1
    simp only [chE]
    rw [if_pos (show 6 * lx ≤ 6 * lx ∧ 6 * lx < 6 * lx + 6 by omega), nI_add]
    simp
  · rw [if_neg h1]
    simp only [chE]
    rw [if_neg h1, if_neg h1]
def cgV (L : Nat) (c0 : Int32) : Int32 := if c0 < 0 then 0 else if dv c0.toNatClampNeg L = 0 then (if 10 < ds c0.toNatClampNeg L then 0 else 1) else 0
theorem cgV_nar (L : Nat) (c0 : Int32) : narrow .boolean (.int (cgV L c0)) = .int (cgV L c0) := by
  unfold cgV
  split
  · rfl
  · split
    · split <;> rfl
    · rfl
set_option maxHeartbeats 4000000 in
set_option maxRecDepth 100000 in
theorem c_X3_stateOf (l : Launch) (D : va_G) (cI cL cZ cO : ClassId) (h w lx : Nat) (hh : h ≤ 12) (hw : w ≤ 12) (hl9 : lx < 6) : Met l yX3_stateOf wsX3_stateOf ({ frames := 0, cells := 0, slots := 0, locals := 0 } : Room) (va_Pc [.int (nI h), .int (nI w), .int (nI lx)] (Ro D cI cL cZ cO ([]))) (vp_Si (fun r => r = nI (tn h w lx))) 0 0 (fun _ => False) := by
  refine Met.ofW (cc := cX3_stateOf) (maxL := 4) (ret := (some .int)) (by decide) rfl ?_
  intro p e s m args below meth c s₁ B hml hv
  obtain ⟨rfl, hP, hO⟩ := hv
  have hx := B.exec
  have hb := B.bytes
  have hr := B.returns
  have hts := atoms_spec (ws := wsX3_stateOf) B.pre
  have hown : s.vm.findClass RX3 = some m.cls := findClass_of_methodNamed B.named
  have hlocks := B.notSynchronized
  have hK := hO.1
  have hl := lv_entry ([.int (nI h), .int (nI w), .int (nI lx)]) (n := 4) (Nat.le_of_ble_eq_true rfl)
  rw [lg_entry_eq]
  generalize (lg_sl ([.int (nI h), .int (nI w), .int (nI lx)]) ++ List.replicate (4 - (lg_sl ([.int (nI h), .int (nI w), .int (nI lx)])).length) Slot.unset).toArray = ls at hl ⊢
  have hl : lv_has ls 4 [(0, .int (nI h)), (1, .int (nI w)), (2, .int (nI lx))] := hl
  generalize hQQ : MQ below _ _ s _ _ _ = QQ
  refine lv_iload_n hx hb dX3_stateOf_0 rfl (lv_at hl 0 rfl) ?_
  refine n_if_lt (x := h) hx hb dX3_stateOf_1 (by omega) ?_
  refine lv_iload_n hx hb dX3_stateOf_4 rfl (lv_at hl 0 rfl) ?_
  refine lv_bipush (v := 12) hx hb dX3_stateOf_5 (by decide) ?_
  refine n_icmp_gt (x := h) (y := 12) (tgt := 34) hx hb dX3_stateOf_7 (by decide) (by omega) (by omega) (fun c_7 => ?_) (fun c_7 => ?_)
  · skip
    exact absurd c_7 (by omega)
  · skip
    refine lv_iload_n hx hb dX3_stateOf_10 rfl (lv_at hl 1 rfl) ?_
    refine n_if_lt (x := w) hx hb dX3_stateOf_11 (by omega) ?_
    refine lv_iload_n hx hb dX3_stateOf_14 rfl (lv_at hl 1 rfl) ?_
    refine lv_bipush (v := 12) hx hb dX3_stateOf_15 (by decide) ?_
    refine n_icmp_gt (x := w) (y := 12) (tgt := 34) hx hb dX3_stateOf_17 (by decide) (by omega) (by omega) (fun c_17 => ?_) (fun c_17 => ?_)
    · skip
      exact absurd c_17 (by omega)
    · skip
      refine lv_iload_n hx hb dX3_stateOf_20 rfl (lv_at hl 2 rfl) ?_
      refine n_if_lt (x := lx) hx hb dX3_stateOf_21 (by omega) ?_
      refine lv_iload_n hx hb dX3_stateOf_24 rfl (lv_at hl 2 rfl) ?_
      refine lv_bipush (v := 6) hx hb dX3_stateOf_25 (by decide) ?_
      refine n_icmp_ge (x := lx) (y := 6) (tgt := 34) hx hb dX3_stateOf_27 (by decide) (by omega) (by omega) (fun c_27 => ?_) (fun c_27 => ?_)
      · skip
        exact absurd c_27 (by omega)
      · skip
        refine lv_iconst (v := 1) hx hb dX3_stateOf_30 (by decide) ?_
        refine lv_goto (tgt := 35) hx hb dX3_stateOf_31 (by decide) ?_
        refine lv_istore_n (lv' := [(3, .int 1), (0, .int (nI h)), (1, .int (nI w)), (2, .int (nI lx))]) hx hb dX3_stateOf_35 rfl hl (by decide) rfl (fun ls hl => ?_)
        refine lv_iload_n hx hb dX3_stateOf_36 rfl (lv_at hl 0 rfl) ?_
        refine lv_if_eq (tgt := 54) hx hb dX3_stateOf_37 (by decide) (fun c_37 => ?_) (fun c_37 => ?_)
        · skip
          exact absurd c_37 (by decide)
        · skip
          refine lv_iload_n hx hb dX3_stateOf_40 rfl (lv_at hl 1 rfl) ?_
          refine lv_bipush (v := 13) hx hb dX3_stateOf_41 (by decide) ?_
          refine n_imul (x := h) (y := 13) hx hb dX3_stateOf_43 ?_
          refine lv_iload_n hx hb dX3_stateOf_44 rfl (lv_at hl 2 rfl) ?_
          refine n_iadd (x := (h * 13)) (y := w) hx hb dX3_stateOf_45 ?_
          refine lv_bipush (v := 6) hx hb dX3_stateOf_46 (by decide) ?_
          refine n_imul (x := ((h * 13) + w)) (y := 6) hx hb dX3_stateOf_48 ?_
          refine lv_iload_n hx hb dX3_stateOf_49 rfl (lv_at hl 3 rfl) ?_
          refine n_iadd (x := (((h * 13) + w) * 6)) (y := lx) hx hb dX3_stateOf_50 ?_
          refine lv_goto (tgt := 55) hx hb dX3_stateOf_51 (by decide) ?_
          rw [← hQQ]
          exact W.iret (v := (nI ((((h * 13) + w) * 6) + lx))) hx hb hr (fun t9 ht9 hW9 => ⟨_, rfl, (by rw [show tn h w lx = (h * 13 + w) * 6 + lx by unfold tn; omega]), ht9⟩) (fun q h => by cases h) dX3_stateOf_55
set_option maxHeartbeats 4000000 in
set_option maxRecDepth 100000 in
theorem c_X3_read (l : Launch) (D : va_G) (cI cL cZ cO : ClassId) (ar : Nat) (f : Nat → Int64) (h w lx : Nat) (hh : h ≤ 12) (hw : w ≤ 12) (hl9 : lx < 6) : Met l yX3_read wsX3_read ({ frames := 1, cells := 0, slots := 0, locals := 23 } : Room) (va_Pc [.ref ar, .int (nI h), .int (nI w), .int (nI lx)] (Ro D cI cL cZ cO ([(ar, .inl (cL, 1014, .inr (.inl f)))]))) (vp_Sl (fun r => r = f (tn h w lx))) 0 0 (fun _ => False) := by
  refine Met.ofW (cc := cX3_read) (maxL := 5) (ret := (some .long)) (by decide) rfl ?_
  intro p e s m args below meth c s₁ B hml hv
  obtain ⟨rfl, hP, hO⟩ := hv
  have hx := B.exec
  have hb := B.bytes
  have hr := B.returns
  have hts := atoms_spec (ws := wsX3_read) B.pre
  have hown : s.vm.findClass RX3 = some m.cls := findClass_of_methodNamed B.named
  have hlocks := B.notSynchronized
  have hK := hO.1
  have hl := lv_entry ([.ref ar, .int (nI h), .int (nI w), .int (nI lx)]) (n := 5) (Nat.le_of_ble_eq_true rfl)
  rw [lg_entry_eq]
  generalize (lg_sl ([.ref ar, .int (nI h), .int (nI w), .int (nI lx)]) ++ List.replicate (5 - (lg_sl ([.ref ar, .int (nI h), .int (nI w), .int (nI lx)])).length) Slot.unset).toArray = ls at hl ⊢
  have hl : lv_has ls 5 [(0, .ref ar), (1, .int (nI h)), (2, .int (nI w)), (3, .int (nI lx))] := hl
  generalize hQQ : MQ below _ _ s _ _ _ = QQ
  refine lv_iload_n hx hb dX3_read_0 rfl (lv_at hl 1 rfl) ?_
  refine lv_iload_n hx hb dX3_read_1 rfl (lv_at hl 2 rfl) ?_
  refine lv_iload_n hx hb dX3_read_2 rfl (lv_at hl 3 rfl) ?_
  refine roSi (As := [.int (nI h), .int (nI w), .int (nI lx)]) (rest := []) ⟨hx, hb, hml, hown, hts⟩ (c_X3_stateOf l D cI cL cZ cO h w lx (by omega) (by omega) (by omega)) (va_cwS 3 hts gX3_read_X3_stateOf rfl rfl rfl (by decide +kernel) ⟨Nat.le_of_ble_eq_true rfl, Nat.le_of_ble_eq_true rfl⟩) hO (fun k q h => by simp at h) rfl hl.1 rfl (Nat.le_of_ble_eq_true rfl) dX3_read_3 ⟨Nat.le_of_ble_eq_true rfl, Nat.le_of_ble_eq_true rfl⟩ (fun r_3 e_3 => ?_)
  obtain rfl : r_3 = nI (tn h w lx) := e_3
  refine lv_istore (lv' := [(4, .int (nI (tn h w lx))), (0, .ref ar), (1, .int (nI h)), (2, .int (nI w)), (3, .int (nI lx))]) hx hb dX3_read_6 hl (by decide) rfl (fun ls hl => ?_)
  refine lv_iload hx hb dX3_read_8 (lv_at hl 0 rfl) ?_
  refine lv_iconst (v := 0) hx hb dX3_read_10 (by decide) ?_
  refine lv_aload_n hx hb dX3_read_11 rfl (lv_at hl 1 rfl) ?_
  refine va_alen (D := D) (cl := vwCl) hx hb hK hP 0 1 rfl rfl (v := 1014) (show Int32.ofNat 1014 = 1014 from rfl) dX3_read_12 ?_
  refine lv_iconst (v := 1) hx hb dX3_read_13 (by decide) ?_
  refine lv_isub hx hb dX3_read_14 ?_
  refine lv_seti (v := 1013) (by decide) ?_
  refine roNi (As := [.int (nI (tn h w lx)), .int 0, .int 1013]) (rest := []) ⟨hx, hb, hml, hown, hts⟩ (c_X6_within l D cI cL cZ cO (nI (tn h w lx)) 0 1013 ) ⟨va_cnB 3 hts gX3_read_X6_within_n47 rfl rfl rfl hO.2.2.2.2.1 (hts (.initialized RX6) (List.mem_of_getElem? (i := 6) rfl)) (by decide +kernel) ⟨Nat.le_of_ble_eq_true rfl, Nat.le_of_ble_eq_true rfl⟩, (hts (.static yX6_within) (List.mem_of_getElem? (i := 5) rfl)), trivial⟩ hO (fun k q h => by simp at h) rfl hl.1 rfl (Nat.le_of_ble_eq_true rfl) dX3_read_15 ⟨Nat.le_of_ble_eq_true rfl, Nat.le_of_ble_eq_true rfl⟩ (fun r_15 e_15 => ?_)
  obtain rfl : r_15 = wi (nI (tn h w lx)) 0 1013 := e_15
  refine lv_if_eq (tgt := 28) hx hb dX3_read_18 (by decide) (fun c_18 => ?_) (fun c_18 => ?_)
  · skip
    exact absurd ((wi_n0 (m := tn h w lx) (b := 1013) (by unfold tn; omega) (by decide)).mp c_18) (by unfold tn; omega)
  · skip
    refine lv_aload_n hx hb dX3_read_21 rfl (lv_at hl 1 rfl) ?_
    refine lv_iload hx hb dX3_read_22 (lv_at hl 0 rfl) ?_
    refine n_lald (D := D) (cl := vwCl) (x := (tn h w lx)) hx hb hK hP 0 1 (f := f) rfl rfl (by unfold tn; omega) (Nat.le_of_ble_eq_true rfl) dX3_read_24 ?_
    refine lv_goto (tgt := 29) hx hb dX3_read_25 (by decide) ?_
    rw [← hQQ]
    exact W.lret (v := (f (tn h w lx))) hx hb hr (fun t9 ht9 hW9 => ⟨_, rfl, rfl, ht9⟩) (fun q h => by cases h) dX3_read_29
set_option maxHeartbeats 4000000 in
set_option maxRecDepth 100000 in
theorem c_X3_readInt (l : Launch) (D : va_G) (cI cL cZ cO : ClassId) (ar : Nat) (f : Nat → Int32) (h w lx : Nat) (hh : h ≤ 12) (hw : w ≤ 12) (hl9 : lx < 6) : Met l yX3_readInt wsX3_readInt ({ frames := 1, cells := 0, slots := 0, locals := 23 } : Room) (va_Pc [.ref ar, .int (nI h), .int (nI w), .int (nI lx)] (Ro D cI cL cZ cO ([(ar, .inl (cI, 1014, .inl f))]))) (vp_Si (fun r => r = f (tn h w lx))) 0 0 (fun _ => False) := by
  refine Met.ofW (cc := cX3_readInt) (maxL := 5) (ret := (some .int)) (by decide) rfl ?_
  intro p e s m args below meth c s₁ B hml hv
  obtain ⟨rfl, hP, hO⟩ := hv
  have hx := B.exec
  have hb := B.bytes
  have hr := B.returns
  have hts := atoms_spec (ws := wsX3_readInt) B.pre
  have hown : s.vm.findClass RX3 = some m.cls := findClass_of_methodNamed B.named
  have hlocks := B.notSynchronized
  have hK := hO.1
  have hl := lv_entry ([.ref ar, .int (nI h), .int (nI w), .int (nI lx)]) (n := 5) (Nat.le_of_ble_eq_true rfl)
  rw [lg_entry_eq]
  generalize (lg_sl ([.ref ar, .int (nI h), .int (nI w), .int (nI lx)]) ++ List.replicate (5 - (lg_sl ([.ref ar, .int (nI h), .int (nI w), .int (nI lx)])).length) Slot.unset).toArray = ls at hl ⊢
  have hl : lv_has ls 5 [(0, .ref ar), (1, .int (nI h)), (2, .int (nI w)), (3, .int (nI lx))] := hl
  generalize hQQ : MQ below _ _ s _ _ _ = QQ
  refine lv_iload_n hx hb dX3_readInt_0 rfl (lv_at hl 1 rfl) ?_
  refine lv_iload_n hx hb dX3_readInt_1 rfl (lv_at hl 2 rfl) ?_
  refine lv_iload_n hx hb dX3_readInt_2 rfl (lv_at hl 3 rfl) ?_
  refine roSi (As := [.int (nI h), .int (nI w), .int (nI lx)]) (rest := []) ⟨hx, hb, hml, hown, hts⟩ (c_X3_stateOf l D cI cL cZ cO h w lx (by omega) (by omega) (by omega)) (va_cwS 3 hts gX3_readInt_X3_stateOf rfl rfl rfl (by decide +kernel) ⟨Nat.le_of_ble_eq_true rfl, Nat.le_of_ble_eq_true rfl⟩) hO (fun k q h => by simp at h) rfl hl.1 rfl (Nat.le_of_ble_eq_true rfl) dX3_readInt_3 ⟨Nat.le_of_ble_eq_true rfl, Nat.le_of_ble_eq_true rfl⟩ (fun r_3 e_3 => ?_)
  obtain rfl : r_3 = nI (tn h w lx) := e_3
  refine lv_istore (lv' := [(4, .int (nI (tn h w lx))), (0, .ref ar), (1, .int (nI h)), (2, .int (nI w)), (3, .int (nI lx))]) hx hb dX3_readInt_6 hl (by decide) rfl (fun ls hl => ?_)
  refine lv_iload hx hb dX3_readInt_8 (lv_at hl 0 rfl) ?_
  refine lv_iconst (v := 0) hx hb dX3_readInt_10 (by decide) ?_
  refine lv_aload_n hx hb dX3_readInt_11 rfl (lv_at hl 1 rfl) ?_
  refine va_alen (D := D) (cl := vwCl) hx hb hK hP 0 0 rfl rfl (v := 1014) (show Int32.ofNat 1014 = 1014 from rfl) dX3_readInt_12 ?_
  refine lv_iconst (v := 1) hx hb dX3_readInt_13 (by decide) ?_
  refine lv_isub hx hb dX3_readInt_14 ?_
  refine lv_seti (v := 1013) (by decide) ?_
  refine roNi (As := [.int (nI (tn h w lx)), .int 0, .int 1013]) (rest := []) ⟨hx, hb, hml, hown, hts⟩ (c_X6_within l D cI cL cZ cO (nI (tn h w lx)) 0 1013 ) ⟨va_cnB 3 hts gX3_readInt_X6_within_n47 rfl rfl rfl hO.2.2.2.2.1 (hts (.initialized RX6) (List.mem_of_getElem? (i := 6) rfl)) (by decide +kernel) ⟨Nat.le_of_ble_eq_true rfl, Nat.le_of_ble_eq_true rfl⟩, (hts (.static yX6_within) (List.mem_of_getElem? (i := 5) rfl)), trivial⟩ hO (fun k q h => by simp at h) rfl hl.1 rfl (Nat.le_of_ble_eq_true rfl) dX3_readInt_15 ⟨Nat.le_of_ble_eq_true rfl, Nat.le_of_ble_eq_true rfl⟩ (fun r_15 e_15 => ?_)
  obtain rfl : r_15 = wi (nI (tn h w lx)) 0 1013 := e_15
  refine lv_if_eq (tgt := 28) hx hb dX3_readInt_18 (by decide) (fun c_18 => ?_) (fun c_18 => ?_)
  · skip
    exact absurd ((wi_n0 (m := tn h w lx) (b := 1013) (by unfold tn; omega) (by decide)).mp c_18) (by unfold tn; omega)
  · skip
    refine lv_aload_n hx hb dX3_readInt_21 rfl (lv_at hl 1 rfl) ?_
    refine lv_iload hx hb dX3_readInt_22 (lv_at hl 0 rfl) ?_
    refine n_iald (D := D) (cl := vwCl) (x := (tn h w lx)) hx hb hK hP 0 0 (f := f) rfl rfl (by unfold tn; omega) (Nat.le_of_ble_eq_true rfl) dX3_readInt_24 ?_
    refine lv_goto (tgt := 29) hx hb dX3_readInt_25 (by decide) ?_
    rw [← hQQ]
    exact W.iret (v := (f (tn h w lx))) hx hb hr (fun t9 ht9 hW9 => ⟨_, rfl, rfl, ht9⟩) (fun q h => by cases h) dX3_readInt_29
set_option maxHeartbeats 4000000 in
set_option maxRecDepth 100000 in
theorem c_X3_chanceOf (l : Launch) (D : va_G) (cI cL cZ cO : ClassId) (pl pA lt : Nat) (k : Nat → Nat) (kn full : Int32) (lp ch : Nat → Int32) (me : Nat → Int64) (ru wo : Nat → Int32) (mb : Nat → Int64) (L : Nat) (lx y : Nat) (hl9 : lx < 6) (hy : y < 6) : Met l yX3_chanceOf wsX3_chanceOf ({ frames := 1, cells := 0, slots := 0, locals := 22 } : Room) (va_Pc [.ref pl, .int (nI lx), .int (nI y)] (Ro D cI cL cZ cO (wPl cI cL pl pA lt k (nI L) kn full lp ch me ru wo mb))) (vp_Si (fun r => r = ch (6 * lx + y))) 0 0 (fun _ => False) := by
  refine Met.ofW (cc := cX3_chanceOf) (maxL := 4) (ret := (some .int)) (by decide) rfl ?_
  intro p e s m args below meth c s₁ B hml hv
  obtain ⟨rfl, hP, hO⟩ := hv
  have hx := B.exec
  have hb := B.bytes
  have hr := B.returns
  have hts := atoms_spec (ws := wsX3_chanceOf) B.pre
  have hown : s.vm.findClass RX3 = some m.cls := findClass_of_methodNamed B.named
  have hlocks := B.notSynchronized
  have hK := hO.1
  have hl := lv_entry ([.ref pl, .int (nI lx), .int (nI y)]) (n := 4) (Nat.le_of_ble_eq_true rfl)
  rw [lg_entry_eq]
  generalize (lg_sl ([.ref pl, .int (nI lx), .int (nI y)]) ++ List.replicate (4 - (lg_sl ([.ref pl, .int (nI lx), .int (nI y)])).length) Slot.unset).toArray = ls at hl ⊢
  have hl : lv_has ls 4 [(0, .ref pl), (1, .int (nI lx)), (2, .int (nI y))] := hl
  generalize hQQ : MQ below _ _ s _ _ _ = QQ
  refine lv_iload_n hx hb dX3_chanceOf_0 rfl (lv_at hl 1 rfl) ?_
  refine lv_iconst (v := 0) hx hb dX3_chanceOf_1 (by decide) ?_
  refine lv_iconst (v := 5) hx hb dX3_chanceOf_2 (by decide) ?_
  refine roNi (As := [.int (nI lx), .int 0, .int 5]) (rest := []) ⟨hx, hb, hml, hown, hts⟩ (c_X6_within l D cI cL cZ cO (nI lx) 0 5 ) ⟨va_cnB 3 hts gX3_chanceOf_X6_within_n47 rfl rfl rfl hO.2.2.2.2.1 (hts (.initialized RX6) (by decide +kernel)) (by decide +kernel) ⟨Nat.le_of_ble_eq_true rfl, Nat.le_of_ble_eq_true rfl⟩, (hts (.static yX6_within) (by decide +kernel)), trivial⟩ hO (fun k q h => by simp at h) rfl hl.1 rfl (Nat.le_of_ble_eq_true rfl) dX3_chanceOf_3 ⟨Nat.le_of_ble_eq_true rfl, Nat.le_of_ble_eq_true rfl⟩ (fun r_3 e_3 => ?_)
  obtain rfl : r_3 = wi (nI lx) 0 5 := e_3
  refine lv_if_eq (tgt := 22) hx hb dX3_chanceOf_6 (by decide) (fun c_6 => ?_) (fun c_6 => ?_)
  · skip
    exact absurd ((wi_n0 (m := lx) (b := 5) (by omega) (by decide)).mp c_6) (by omega)
  · skip
    refine lv_iload_n hx hb dX3_chanceOf_9 rfl (lv_at hl 2 rfl) ?_
    refine lv_iconst (v := 0) hx hb dX3_chanceOf_10 (by decide) ?_
    refine lv_iconst (v := 5) hx hb dX3_chanceOf_11 (by decide) ?_
    refine roNi (As := [.int (nI y), .int 0, .int 5]) (rest := []) ⟨hx, hb, hml, hown, hts⟩ (c_X6_within l D cI cL cZ cO (nI y) 0 5 ) ⟨va_cnB 3 hts gX3_chanceOf_X6_within_n47 rfl rfl rfl hO.2.2.2.2.1 (hts (.initialized RX6) (by decide +kernel)) (by decide +kernel) ⟨Nat.le_of_ble_eq_true rfl, Nat.le_of_ble_eq_true rfl⟩, (hts (.static yX6_within) (by decide +kernel)), trivial⟩ hO (fun k q h => by simp at h) rfl hl.1 rfl (Nat.le_of_ble_eq_true rfl) dX3_chanceOf_12 ⟨Nat.le_of_ble_eq_true rfl, Nat.le_of_ble_eq_true rfl⟩ (fun r_12 e_12 => ?_)
    obtain rfl : r_12 = wi (nI y) 0 5 := e_12
    refine lv_if_eq (tgt := 22) hx hb dX3_chanceOf_15 (by decide) (fun c_15 => ?_) (fun c_15 => ?_)
    · skip
      exact absurd ((wi_n0 (m := y) (b := 5) (by omega) (by decide)).mp c_15) (by omega)
    · skip
      refine lv_iconst (v := 1) hx hb dX3_chanceOf_18 (by decide) ?_
      refine lv_goto (tgt := 23) hx hb dX3_chanceOf_19 (by decide) ?_
      refine lv_istore_n (lv' := [(3, .int 1), (0, .ref pl), (1, .int (nI lx)), (2, .int (nI y))]) hx hb dX3_chanceOf_23 rfl hl (by decide) rfl (fun ls hl => ?_)
      refine lv_iload_n hx hb dX3_chanceOf_24 rfl (lv_at hl 0 rfl) ?_
      refine lv_if_eq (tgt := 42) hx hb dX3_chanceOf_25 (by decide) (fun c_25 => ?_) (fun c_25 => ?_)
      · skip
        exact absurd c_25 (by decide)
      · skip
        refine lv_aload_n hx hb dX3_chanceOf_28 rfl (lv_at hl 1 rfl) ?_
        refine va_get (D := D) (cl := vwCl) (ci := 2) (v := .ref (k 1)) (C := RX3) (T := TX3) (N := 9) hx hb hts (fun _ h => List.mem_cons_of_mem _ (List.mem_append_right _ h)) hown hK hP 0 rfl rfl 4 (by decide) (hts (.fieldLink RX3 19 "CheapHours$Plan" "chance" "[I") (by decide +kernel)) (fun _ h9 => h9) rfl dX3_chanceOf_29 ?_
        refine lv_iload_n hx hb dX3_chanceOf_32 rfl (lv_at hl 2 rfl) ?_
        refine lv_bipush (v := 6) hx hb dX3_chanceOf_33 (by decide) ?_
        refine n_imul (x := lx) (y := 6) hx hb dX3_chanceOf_35 ?_
        refine lv_iload_n hx hb dX3_chanceOf_36 rfl (lv_at hl 3 rfl) ?_
        refine n_iadd (x := (lx * 6)) (y := y) hx hb dX3_chanceOf_37 ?_
        refine n_iald (D := D) (cl := vwCl) (x := ((lx * 6) + y)) hx hb hK hP 3 0 (f := ch) rfl rfl (by omega) (Nat.le_of_ble_eq_true rfl) dX3_chanceOf_38 ?_
        refine lv_goto (tgt := 43) hx hb dX3_chanceOf_39 (by decide) ?_
        rw [← hQQ]
        exact W.iret (v := (ch ((lx * 6) + y))) hx hb hr (fun t9 ht9 hW9 => ⟨_, rfl, (by rw [Nat.mul_comm 6 lx]), ht9⟩) (fun q h => by cases h) dX3_chanceOf_43
set_option maxHeartbeats 4000000 in
set_option maxRecDepth 100000 in
theorem c_X3_askedAt (l : Launch) (D : va_G) (cI cL cZ cO : ClassId) (pl pA lt : Nat) (k : Nat → Nat) (kn full : Int32) (lp ch : Nat → Int32) (me : Nat → Int64) (ru wo : Nat → Int32) (mb : Nat → Int64) (L : Nat) (lx : Nat) (hl9 : lx < 6) : Met l yX3_askedAt wsX3_askedAt ({ frames := 1, cells := 0, slots := 0, locals := 22 } : Room) (va_Pc [.ref pl, .int (nI lx)] (Ro D cI cL cZ cO (wPl cI cL pl pA lt k (nI L) kn full lp ch me ru wo mb))) (vp_Si (fun r => r = lp lx)) 0 0 (fun _ => False) := by
  refine Met.ofW (cc := cX3_askedAt) (maxL := 2) (ret := (some .int)) (by decide) rfl ?_
  intro p e s m args below meth c s₁ B hml hv
  obtain ⟨rfl, hP, hO⟩ := hv
  have hx := B.exec
  have hb := B.bytes
  have hr := B.returns
  have hts := atoms_spec (ws := wsX3_askedAt) B.pre
  have hown : s.vm.findClass RX3 = some m.cls := findClass_of_methodNamed B.named
  have hlocks := B.notSynchronized
  have hK := hO.1
  have hl := lv_entry ([.ref pl, .int (nI lx)]) (n := 2) (Nat.le_of_ble_eq_true rfl)
  rw [lg_entry_eq]
  generalize (lg_sl ([.ref pl, .int (nI lx)]) ++ List.replicate (2 - (lg_sl ([.ref pl, .int (nI lx)])).length) Slot.unset).toArray = ls at hl ⊢
  have hl : lv_has ls 2 [(0, .ref pl), (1, .int (nI lx))] := hl
  generalize hQQ : MQ below _ _ s _ _ _ = QQ
  refine lv_iload_n hx hb dX3_askedAt_0 rfl (lv_at hl 1 rfl) ?_
  refine lv_iconst (v := 0) hx hb dX3_askedAt_1 (by decide) ?_
  refine lv_aload_n hx hb dX3_askedAt_2 rfl (lv_at hl 0 rfl) ?_
  refine va_get (D := D) (cl := vwCl) (ci := 2) (v := .ref (k 0)) (C := RX3) (T := TX3) (N := 9) hx hb hts (fun _ h => List.mem_cons_of_mem _ (List.mem_append_right _ h)) hown hK hP 0 rfl rfl 3 (by decide) (hts (.fieldLink RX3 15 "CheapHours$Plan" "asked" "[I") (by decide +kernel)) (fun _ h9 => h9) rfl dX3_askedAt_3 ?_
  refine va_alen (D := D) (cl := vwCl) hx hb hK hP 2 0 rfl rfl (v := 6) (show Int32.ofNat 6 = 6 from rfl) dX3_askedAt_6 ?_
  refine lv_iconst (v := 1) hx hb dX3_askedAt_7 (by decide) ?_
  refine lv_isub hx hb dX3_askedAt_8 ?_
  refine lv_seti (v := 5) (by decide) ?_
  refine roNi (As := [.int (nI lx), .int 0, .int 5]) (rest := []) ⟨hx, hb, hml, hown, hts⟩ (c_X6_within l D cI cL cZ cO (nI lx) 0 5 ) ⟨va_cnB 3 hts gX3_askedAt_X6_within_n47 rfl rfl rfl hO.2.2.2.2.1 (hts (.initialized RX6) (by decide +kernel)) (by decide +kernel) ⟨Nat.le_of_ble_eq_true rfl, Nat.le_of_ble_eq_true rfl⟩, (hts (.static yX6_within) (by decide +kernel)), trivial⟩ hO (fun k q h => by simp at h) rfl hl.1 rfl (Nat.le_of_ble_eq_true rfl) dX3_askedAt_9 ⟨Nat.le_of_ble_eq_true rfl, Nat.le_of_ble_eq_true rfl⟩ (fun r_9 e_9 => ?_)
  obtain rfl : r_9 = wi (nI lx) 0 5 := e_9
  refine lv_if_eq (tgt := 24) hx hb dX3_askedAt_12 (by decide) (fun c_12 => ?_) (fun c_12 => ?_)
  · skip
    exact absurd ((wi_n0 (m := lx) (b := 5) (by omega) (by decide)).mp c_12) (by omega)
  · skip
    refine lv_aload_n hx hb dX3_askedAt_15 rfl (lv_at hl 0 rfl) ?_
    refine va_get (D := D) (cl := vwCl) (ci := 2) (v := .ref (k 0)) (C := RX3) (T := TX3) (N := 9) hx hb hts (fun _ h => List.mem_cons_of_mem _ (List.mem_append_right _ h)) hown hK hP 0 rfl rfl 3 (by decide) (hts (.fieldLink RX3 15 "CheapHours$Plan" "asked" "[I") (by decide +kernel)) (fun _ h9 => h9) rfl dX3_askedAt_16 ?_
    refine lv_iload_n hx hb dX3_askedAt_19 rfl (lv_at hl 1 rfl) ?_
    refine n_iald (D := D) (cl := vwCl) (x := lx) hx hb hK hP 2 0 (f := lp) rfl rfl (by omega) (Nat.le_of_ble_eq_true rfl) dX3_askedAt_20 ?_
    refine lv_goto (tgt := 25) hx hb dX3_askedAt_21 (by decide) ?_
    rw [← hQQ]
    exact W.iret (v := (lp lx)) hx hb hr (fun t9 ht9 hW9 => ⟨_, rfl, rfl, ht9⟩) (fun q h => by cases h) dX3_askedAt_25
set_option maxHeartbeats 4000000 in
set_option maxRecDepth 100000 in
theorem c_X3_meanBehind_m (l : Launch) (D : va_G) (cI cL cZ cO : ClassId) (pl pA lt : Nat) (k : Nat → Nat) (kn full : Int32) (lp ch : Nat → Int32) (me : Nat → Int64) (ru wo : Nat → Int32) (mb : Nat → Int64) (L : Nat) (h w lx : Nat) (hL : L ≤ 6) (hh : h ≤ 12) (hw : w ≤ 12) (hl9 : lx < L) : Met l yX3_meanBehind wsX3_meanBehind ({ frames := 2, cells := 0, slots := 0, locals := 47 } : Room) (va_Pc [.ref pl, .ref (k 2), .int (nI h), .int (nI w), .int (nI lx)] (Ro D cI cL cZ cO (wPl cI cL pl pA lt k (nI L) kn full lp ch me ru wo mb))) (vp_Sl (fun r => r = nxS ch (fun k => me (tn h w k)) lx L)) 0 0 (fun _ => False) := by
  refine Met.ofW (cc := cX3_meanBehind) (maxL := 8) (ret := (some .long)) (by decide) rfl ?_
  intro p e s m args below meth c s₁ B hml hv
  obtain ⟨rfl, hP, hO⟩ := hv
  have hx := B.exec
  have hb := B.bytes
  have hr := B.returns
  have hts := atoms_spec (ws := wsX3_meanBehind) B.pre
  have hown : s.vm.findClass RX3 = some m.cls := findClass_of_methodNamed B.named
  have hlocks := B.notSynchronized
  have hK := hO.1
  have hl := lv_entry ([.ref pl, .ref (k 2), .int (nI h), .int (nI w), .int (nI lx)]) (n := 8) (Nat.le_of_ble_eq_true rfl)
  rw [lg_entry_eq]
  generalize (lg_sl ([.ref pl, .ref (k 2), .int (nI h), .int (nI w), .int (nI lx)]) ++ List.replicate (8 - (lg_sl ([.ref pl, .ref (k 2), .int (nI h), .int (nI w), .int (nI lx)])).length) Slot.unset).toArray = ls at hl ⊢
  have hl : lv_has ls 8 [(0, .ref pl), (1, .ref (k 2)), (2, .int (nI h)), (3, .int (nI w)), (4, .int (nI lx))] := hl
  generalize hQQ : MQ below _ _ s _ _ _ = QQ
  refine lv_lconst (v := 0) hx hb dX3_meanBehind_0 (by decide) ?_
  refine lv_lstore (lv' := [(5, .long 0), (0, .ref pl), (1, .ref (k 2)), (2, .int (nI h)), (3, .int (nI w)), (4, .int (nI lx))]) hx hb dX3_meanBehind_1 hl (by decide) rfl (fun ls hl => ?_)
  refine lv_iconst (v := 0) hx hb dX3_meanBehind_3 (by decide) ?_
  refine lv_istore (lv' := [(7, .int 0), (5, .long 0), (0, .ref pl), (1, .ref (k 2)), (2, .int (nI h)), (3, .int (nI w)), (4, .int (nI lx))]) hx hb dX3_meanBehind_4 hl (by decide) rfl (fun ls hl => ?_)
  have L6 : ∀ (n0 : Nat) (y : Nat) (v : Int64) (ls : Array Slot), L - y < n0 → (y ≤ L) → (v = nxS ch (fun k => me (tn h w k)) lx y) → lv_has ls 8 [(7, .int (nI y)), (5, .long v), (0, .ref pl), (1, .ref (k 2)), (2, .int (nI h)), (3, .int (nI w)), (4, .int (nI lx))] → W p l e (headSpec wsX3_meanBehind ({ frames := 2, cells := 0, slots := 0, locals := 47 } : Room)).room s m ([.ref pl, .ref (k 2), .int (nI h), .int (nI w), .int (nI lx)] : List Value).toArray below meth c s.heap [] 0 0 QQ (F0 m 6 ls []) := by
    intro n0
    induction n0 with
    | zero =>
      intro y v ls hmu
      exact absurd hmu (Nat.not_lt_zero _)
    | succ n0 ih6 =>
      intro y v ls hmu hy hv hl
      refine lv_iload hx hb dX3_meanBehind_6 (lv_at hl 0 rfl) ?_
      refine lv_aload_n hx hb dX3_meanBehind_8 rfl (lv_at hl 2 rfl) ?_
      refine va_get (D := D) (cl := vwCl) (ci := 2) (v := .int (nI L)) (C := RX3) (T := TX3) (N := 9) hx hb hts (fun _ h => List.mem_cons_of_mem _ (List.mem_append_right _ h)) hown hK hP 0 rfl rfl 0 (by decide) (hts (.fieldLink RX3 39 "CheapHours$Plan" "size" "I") (by decide +kernel)) (fun _ h9 => h9) rfl dX3_meanBehind_9 ?_
      refine n_icmp_ge (x := y) (y := L) (tgt := 44) hx hb dX3_meanBehind_12 (by decide) (by omega) (by omega) (fun c_12 => ?_) (fun c_12 => ?_)
      · skip
        refine lv_lload hx hb dX3_meanBehind_44 (lv_at hl 1 rfl) ?_
        rw [← hQQ]
        exact W.lret (v := v) hx hb hr (fun t9 ht9 hW9 => ⟨_, rfl, (by rw [hv, show y = L by omega]), ht9⟩) (fun q h => by cases h) dX3_meanBehind_46
      · skip
        refine lv_lload hx hb dX3_meanBehind_15 (lv_at hl 1 rfl) ?_
        refine lv_aload_n hx hb dX3_meanBehind_17 rfl (lv_at hl 2 rfl) ?_
        refine lv_iload hx hb dX3_meanBehind_18 (lv_at hl 6 rfl) ?_
        refine lv_iload hx hb dX3_meanBehind_20 (lv_at hl 0 rfl) ?_
        refine roVi (As := [.int (nI lx), .int (nI y)]) (rest := [.long v]) ⟨hx, hb, hml, hown, hts⟩ (c_X3_chanceOf l D cI cL cZ cO pl pA lt k kn full lp ch me ru wo mb L lx y (by omega) (by omega)) (cwV 2 hts gX3_meanBehind_X3_chanceOf rfl rfl rfl (by decide +kernel) ⟨Nat.le_of_ble_eq_true rfl, Nat.le_of_ble_eq_true rfl⟩) hO hP (va_recv hK hP (ci := 2) (q0 := 0) rfl rfl) rfl hl.1 rfl (Nat.le_of_ble_eq_true rfl) dX3_meanBehind_22 ⟨Nat.le_of_ble_eq_true rfl, Nat.le_of_ble_eq_true rfl⟩ (fun r_22 e_22 => ?_)
        obtain rfl : r_22 = ch (6 * lx + y) := e_22
        refine lv_i2l (v := (ch (6 * lx + y)).toInt64) hx hb dX3_meanBehind_25 rfl ?_
        refine lv_aload_n hx hb dX3_meanBehind_26 rfl (lv_at hl 3 rfl) ?_
        refine lv_iload_n hx hb dX3_meanBehind_27 rfl (lv_at hl 4 rfl) ?_
        refine lv_iload_n hx hb dX3_meanBehind_28 rfl (lv_at hl 5 rfl) ?_
        refine lv_iload hx hb dX3_meanBehind_29 (lv_at hl 0 rfl) ?_
        refine roSl (As := [.ref (k 2), .int (nI h), .int (nI w), .int (nI y)]) (rest := [.long ((ch (6 * lx + y)).toInt64), .long v]) ⟨hx, hb, hml, hown, hts⟩ (c_X3_read l D cI cL cZ cO (k 2) me h w y (by omega) (by omega) (by omega)) (va_cwS 4 hts gX3_meanBehind_X3_read rfl rfl rfl (by decide +kernel) ⟨Nat.le_of_ble_eq_true rfl, Nat.le_of_ble_eq_true rfl⟩) hO (hP.sub (ws' := [((k 2), .inl (cL, 1014, .inr (.inl me)))]) [4] rfl) rfl hl.1 rfl (Nat.le_of_ble_eq_true rfl) dX3_meanBehind_31 ⟨Nat.le_of_ble_eq_true rfl, Nat.le_of_ble_eq_true rfl⟩ (fun r_31 e_31 => ?_)
        obtain rfl : r_31 = me (tn h w y) := e_31
        refine lv_lmul hx hb dX3_meanBehind_34 ?_
        refine lv_ladd hx hb dX3_meanBehind_35 ?_
        refine lv_lstore (lv' := [(5, .long (v + (((ch (6 * lx + y)).toInt64) * (me (tn h w y))))), (7, .int (nI y)), (0, .ref pl), (1, .ref (k 2)), (2, .int (nI h)), (3, .int (nI w)), (4, .int (nI lx))]) hx hb dX3_meanBehind_36 hl (by decide) rfl (fun ls hl => ?_)
        refine lv_iinc (v := (nI (y + 1))) (lv' := [(7, .int (nI (y + 1))), (5, .long (v + (((ch (6 * lx + y)).toInt64) * (me (tn h w y))))), (0, .ref pl), (1, .ref (k 2)), (2, .int (nI h)), (3, .int (nI w)), (4, .int (nI lx))]) hx hb dX3_meanBehind_38 hl (k := 1) rfl (nI_add y 1) (by decide) rfl (fun ls hl => ?_)
        refine lv_goto (tgt := 6) hx hb dX3_meanBehind_41 (by decide) ?_
        exact ih6 (y + 1) (v + (((ch (6 * lx + y)).toInt64) * (me (tn h w y)))) _ (by omega) (by omega) (by rw [hv]; rfl) (lv_sub hl [0, 1, 2, 3, 4, 5, 6] rfl)
  exact L6 _ 0 0 _ (Nat.lt_succ_self _) (Nat.zero_le _) rfl (lv_sub hl [0, 1, 2, 3, 4, 5, 6] rfl)
set_option maxHeartbeats 4000000 in
set_option maxRecDepth 100000 in
theorem c_X3_meanBehind_c (l : Launch) (D : va_G) (cI cL cZ cO : ClassId) (pl pA lt : Nat) (k : Nat → Nat) (kn full : Int32) (lp ch : Nat → Int32) (me : Nat → Int64) (ru wo : Nat → Int32) (mb : Nat → Int64) (L : Nat) (h w lx : Nat) (hL : L ≤ 6) (hh : h ≤ 12) (hw : w ≤ 12) (hl9 : lx < L) : Met l yX3_meanBehind wsX3_meanBehind ({ frames := 2, cells := 0, slots := 0, locals := 47 } : Room) (va_Pc [.ref pl, .ref (k 5), .int (nI h), .int (nI w), .int (nI lx)] (Ro D cI cL cZ cO (wPl cI cL pl pA lt k (nI L) kn full lp ch me ru wo mb))) (vp_Sl (fun r => r = nxS ch (fun k => mb (tn h w k)) lx L)) 0 0 (fun _ => False) := by
  refine Met.ofW (cc := cX3_meanBehind) (maxL := 8) (ret := (some .long)) (by decide) rfl ?_
  intro p e s m args below meth c s₁ B hml hv
  obtain ⟨rfl, hP, hO⟩ := hv
  have hx := B.exec
  have hb := B.bytes
  have hr := B.returns
  have hts := atoms_spec (ws := wsX3_meanBehind) B.pre
  have hown : s.vm.findClass RX3 = some m.cls := findClass_of_methodNamed B.named
  have hlocks := B.notSynchronized
  have hK := hO.1
  have hl := lv_entry ([.ref pl, .ref (k 5), .int (nI h), .int (nI w), .int (nI lx)]) (n := 8) (Nat.le_of_ble_eq_true rfl)
  rw [lg_entry_eq]
  generalize (lg_sl ([.ref pl, .ref (k 5), .int (nI h), .int (nI w), .int (nI lx)]) ++ List.replicate (8 - (lg_sl ([.ref pl, .ref (k 5), .int (nI h), .int (nI w), .int (nI lx)])).length) Slot.unset).toArray = ls at hl ⊢
  have hl : lv_has ls 8 [(0, .ref pl), (1, .ref (k 5)), (2, .int (nI h)), (3, .int (nI w)), (4, .int (nI lx))] := hl
  generalize hQQ : MQ below _ _ s _ _ _ = QQ
  refine lv_lconst (v := 0) hx hb dX3_meanBehind_0 (by decide) ?_
  refine lv_lstore (lv' := [(5, .long 0), (0, .ref pl), (1, .ref (k 5)), (2, .int (nI h)), (3, .int (nI w)), (4, .int (nI lx))]) hx hb dX3_meanBehind_1 hl (by decide) rfl (fun ls hl => ?_)
  refine lv_iconst (v := 0) hx hb dX3_meanBehind_3 (by decide) ?_
  refine lv_istore (lv' := [(7, .int 0), (5, .long 0), (0, .ref pl), (1, .ref (k 5)), (2, .int (nI h)), (3, .int (nI w)), (4, .int (nI lx))]) hx hb dX3_meanBehind_4 hl (by decide) rfl (fun ls hl => ?_)
  have L6 : ∀ (n0 : Nat) (y : Nat) (v : Int64) (ls : Array Slot), L - y < n0 → (y ≤ L) → (v = nxS ch (fun k => mb (tn h w k)) lx y) → lv_has ls 8 [(7, .int (nI y)), (5, .long v), (0, .ref pl), (1, .ref (k 5)), (2, .int (nI h)), (3, .int (nI w)), (4, .int (nI lx))] → W p l e (headSpec wsX3_meanBehind ({ frames := 2, cells := 0, slots := 0, locals := 47 } : Room)).room s m ([.ref pl, .ref (k 5), .int (nI h), .int (nI w), .int (nI lx)] : List Value).toArray below meth c s.heap [] 0 0 QQ (F0 m 6 ls []) := by
    intro n0
    induction n0 with
    | zero =>
      intro y v ls hmu
      exact absurd hmu (Nat.not_lt_zero _)
    | succ n0 ih6 =>
      intro y v ls hmu hy hv hl
      refine lv_iload hx hb dX3_meanBehind_6 (lv_at hl 0 rfl) ?_
      refine lv_aload_n hx hb dX3_meanBehind_8 rfl (lv_at hl 2 rfl) ?_
      refine va_get (D := D) (cl := vwCl) (ci := 2) (v := .int (nI L)) (C := RX3) (T := TX3) (N := 9) hx hb hts (fun _ h => List.mem_cons_of_mem _ (List.mem_append_right _ h)) hown hK hP 0 rfl rfl 0 (by decide) (hts (.fieldLink RX3 39 "CheapHours$Plan" "size" "I") (by decide +kernel)) (fun _ h9 => h9) rfl dX3_meanBehind_9 ?_
      refine n_icmp_ge (x := y) (y := L) (tgt := 44) hx hb dX3_meanBehind_12 (by decide) (by omega) (by omega) (fun c_12 => ?_) (fun c_12 => ?_)
      · skip
        refine lv_lload hx hb dX3_meanBehind_44 (lv_at hl 1 rfl) ?_
        rw [← hQQ]
        exact W.lret (v := v) hx hb hr (fun t9 ht9 hW9 => ⟨_, rfl, (by rw [hv, show y = L by omega]), ht9⟩) (fun q h => by cases h) dX3_meanBehind_46
      · skip
        refine lv_lload hx hb dX3_meanBehind_15 (lv_at hl 1 rfl) ?_
        refine lv_aload_n hx hb dX3_meanBehind_17 rfl (lv_at hl 2 rfl) ?_
        refine lv_iload hx hb dX3_meanBehind_18 (lv_at hl 6 rfl) ?_
        refine lv_iload hx hb dX3_meanBehind_20 (lv_at hl 0 rfl) ?_
        refine roVi (As := [.int (nI lx), .int (nI y)]) (rest := [.long v]) ⟨hx, hb, hml, hown, hts⟩ (c_X3_chanceOf l D cI cL cZ cO pl pA lt k kn full lp ch me ru wo mb L lx y (by omega) (by omega)) (cwV 2 hts gX3_meanBehind_X3_chanceOf rfl rfl rfl (by decide +kernel) ⟨Nat.le_of_ble_eq_true rfl, Nat.le_of_ble_eq_true rfl⟩) hO hP (va_recv hK hP (ci := 2) (q0 := 0) rfl rfl) rfl hl.1 rfl (Nat.le_of_ble_eq_true rfl) dX3_meanBehind_22 ⟨Nat.le_of_ble_eq_true rfl, Nat.le_of_ble_eq_true rfl⟩ (fun r_22 e_22 => ?_)
        obtain rfl : r_22 = ch (6 * lx + y) := e_22
        refine lv_i2l (v := (ch (6 * lx + y)).toInt64) hx hb dX3_meanBehind_25 rfl ?_
        refine lv_aload_n hx hb dX3_meanBehind_26 rfl (lv_at hl 3 rfl) ?_
        refine lv_iload_n hx hb dX3_meanBehind_27 rfl (lv_at hl 4 rfl) ?_
        refine lv_iload_n hx hb dX3_meanBehind_28 rfl (lv_at hl 5 rfl) ?_
        refine lv_iload hx hb dX3_meanBehind_29 (lv_at hl 0 rfl) ?_
        refine roSl (As := [.ref (k 5), .int (nI h), .int (nI w), .int (nI y)]) (rest := [.long ((ch (6 * lx + y)).toInt64), .long v]) ⟨hx, hb, hml, hown, hts⟩ (c_X3_read l D cI cL cZ cO (k 5) mb h w y (by omega) (by omega) (by omega)) (va_cwS 4 hts gX3_meanBehind_X3_read rfl rfl rfl (by decide +kernel) ⟨Nat.le_of_ble_eq_true rfl, Nat.le_of_ble_eq_true rfl⟩) hO (hP.sub (ws' := [((k 5), .inl (cL, 1014, .inr (.inl mb)))]) [7] rfl) rfl hl.1 rfl (Nat.le_of_ble_eq_true rfl) dX3_meanBehind_31 ⟨Nat.le_of_ble_eq_true rfl, Nat.le_of_ble_eq_true rfl⟩ (fun r_31 e_31 => ?_)
        obtain rfl : r_31 = mb (tn h w y) := e_31
        refine lv_lmul hx hb dX3_meanBehind_34 ?_
        refine lv_ladd hx hb dX3_meanBehind_35 ?_
        refine lv_lstore (lv' := [(5, .long (v + (((ch (6 * lx + y)).toInt64) * (mb (tn h w y))))), (7, .int (nI y)), (0, .ref pl), (1, .ref (k 5)), (2, .int (nI h)), (3, .int (nI w)), (4, .int (nI lx))]) hx hb dX3_meanBehind_36 hl (by decide) rfl (fun ls hl => ?_)
        refine lv_iinc (v := (nI (y + 1))) (lv' := [(7, .int (nI (y + 1))), (5, .long (v + (((ch (6 * lx + y)).toInt64) * (mb (tn h w y))))), (0, .ref pl), (1, .ref (k 5)), (2, .int (nI h)), (3, .int (nI w)), (4, .int (nI lx))]) hx hb dX3_meanBehind_38 hl (k := 1) rfl (nI_add y 1) (by decide) rfl (fun ls hl => ?_)
        refine lv_goto (tgt := 6) hx hb dX3_meanBehind_41 (by decide) ?_
        exact ih6 (y + 1) (v + (((ch (6 * lx + y)).toInt64) * (mb (tn h w y)))) _ (by omega) (by omega) (by rw [hv]; rfl) (lv_sub hl [0, 1, 2, 3, 4, 5, 6] rfl)
  exact L6 _ 0 0 _ (Nat.lt_succ_self _) (Nat.zero_le _) rfl (lv_sub hl [0, 1, 2, 3, 4, 5, 6] rfl)
set_option maxHeartbeats 4000000 in
set_option maxRecDepth 100000 in
theorem c_X3_greatestBehind (l : Launch) (D : va_G) (cI cL cZ cO : ClassId) (pl pA lt : Nat) (k : Nat → Nat) (kn full : Int32) (lp ch : Nat → Int32) (me : Nat → Int64) (ru wo : Nat → Int32) (mb : Nat → Int64) (L : Nat) (h w lx : Nat) (hL : L ≤ 6) (hh : h ≤ 12) (hw : w ≤ 12) (hl9 : lx < L) : Met l yX3_greatestBehind wsX3_greatestBehind ({ frames := 2, cells := 0, slots := 0, locals := 47 } : Room) (va_Pc [.ref pl, .int (nI h), .int (nI w), .int (nI lx)] (Ro D cI cL cZ cO (wPl cI cL pl pA lt k (nI L) kn full lp ch me ru wo mb))) (vp_Si (fun r => r = gwS ch (fun k => wo (tn h w k)) lx L)) 0 0 (fun _ => False) := by
  refine Met.ofW (cc := cX3_greatestBehind) (maxL := 6) (ret := (some .int)) (by decide) rfl ?_
  intro p e s m args below meth c s₁ B hml hv
  obtain ⟨rfl, hP, hO⟩ := hv
  have hx := B.exec
  have hb := B.bytes
  have hr := B.returns
  have hts := atoms_spec (ws := wsX3_greatestBehind) B.pre
  have hown : s.vm.findClass RX3 = some m.cls := findClass_of_methodNamed B.named
  have hlocks := B.notSynchronized
  have hK := hO.1
  have hl := lv_entry ([.ref pl, .int (nI h), .int (nI w), .int (nI lx)]) (n := 6) (Nat.le_of_ble_eq_true rfl)
  rw [lg_entry_eq]
  generalize (lg_sl ([.ref pl, .int (nI h), .int (nI w), .int (nI lx)]) ++ List.replicate (6 - (lg_sl ([.ref pl, .int (nI h), .int (nI w), .int (nI lx)])).length) Slot.unset).toArray = ls at hl ⊢
  have hl : lv_has ls 6 [(0, .ref pl), (1, .int (nI h)), (2, .int (nI w)), (3, .int (nI lx))] := hl
  generalize hQQ : MQ below _ _ s _ _ _ = QQ
  refine lv_iconst (v := 0) hx hb dX3_greatestBehind_0 (by decide) ?_
  refine lv_istore (lv' := [(4, .int 0), (0, .ref pl), (1, .int (nI h)), (2, .int (nI w)), (3, .int (nI lx))]) hx hb dX3_greatestBehind_1 hl (by decide) rfl (fun ls hl => ?_)
  refine lv_iconst (v := 0) hx hb dX3_greatestBehind_3 (by decide) ?_
  refine lv_istore (lv' := [(5, .int 0), (4, .int 0), (0, .ref pl), (1, .int (nI h)), (2, .int (nI w)), (3, .int (nI lx))]) hx hb dX3_greatestBehind_4 hl (by decide) rfl (fun ls hl => ?_)
  have L6 : ∀ (n0 : Nat) (y : Nat) (v : Int32) (ls : Array Slot), L - y < n0 → (y ≤ L) → (v = gwS ch (fun k => wo (tn h w k)) lx y) → lv_has ls 6 [(5, .int (nI y)), (4, .int v), (0, .ref pl), (1, .int (nI h)), (2, .int (nI w)), (3, .int (nI lx))] → W p l e (headSpec wsX3_greatestBehind ({ frames := 2, cells := 0, slots := 0, locals := 47 } : Room)).room s m ([.ref pl, .int (nI h), .int (nI w), .int (nI lx)] : List Value).toArray below meth c s.heap [] 0 0 QQ (F0 m 6 ls []) := by
    intro n0
    induction n0 with
    | zero =>
      intro y v ls hmu
      exact absurd hmu (Nat.not_lt_zero _)
    | succ n0 ih6 =>
      intro y v ls hmu hy hv hl
      refine lv_iload hx hb dX3_greatestBehind_6 (lv_at hl 0 rfl) ?_
      refine lv_aload_n hx hb dX3_greatestBehind_8 rfl (lv_at hl 2 rfl) ?_
      refine va_get (D := D) (cl := vwCl) (ci := 2) (v := .int (nI L)) (C := RX3) (T := TX3) (N := 9) hx hb hts (fun _ h => List.mem_cons_of_mem _ (List.mem_append_right _ h)) hown hK hP 0 rfl rfl 0 (by decide) (hts (.fieldLink RX3 39 "CheapHours$Plan" "size" "I") (by decide +kernel)) (fun _ h9 => h9) rfl dX3_greatestBehind_9 ?_
      refine n_icmp_ge (x := y) (y := L) (tgt := 49) hx hb dX3_greatestBehind_12 (by decide) (by omega) (by omega) (fun c_12 => ?_) (fun c_12 => ?_)
      · skip
        refine lv_iload hx hb dX3_greatestBehind_49 (lv_at hl 1 rfl) ?_
        rw [← hQQ]
        exact W.iret (v := v) hx hb hr (fun t9 ht9 hW9 => ⟨_, rfl, (by rw [hv, show y = L by omega]), ht9⟩) (fun q h => by cases h) dX3_greatestBehind_51
      · skip
        refine lv_aload_n hx hb dX3_greatestBehind_15 rfl (lv_at hl 2 rfl) ?_
        refine lv_iload_n hx hb dX3_greatestBehind_16 rfl (lv_at hl 5 rfl) ?_
        refine lv_iload hx hb dX3_greatestBehind_17 (lv_at hl 0 rfl) ?_
        refine roVi (As := [.int (nI lx), .int (nI y)]) (rest := []) ⟨hx, hb, hml, hown, hts⟩ (c_X3_chanceOf l D cI cL cZ cO pl pA lt k kn full lp ch me ru wo mb L lx y (by omega) (by omega)) (cwV 2 hts gX3_greatestBehind_X3_chanceOf rfl rfl rfl (by decide +kernel) ⟨Nat.le_of_ble_eq_true rfl, Nat.le_of_ble_eq_true rfl⟩) hO hP (va_recv hK hP (ci := 2) (q0 := 0) rfl rfl) rfl hl.1 rfl (Nat.le_of_ble_eq_true rfl) dX3_greatestBehind_19 ⟨Nat.le_of_ble_eq_true rfl, Nat.le_of_ble_eq_true rfl⟩ (fun r_19 e_19 => ?_)
        obtain rfl : r_19 = ch (6 * lx + y) := e_19
        refine lv_if_le (tgt := 43) hx hb dX3_greatestBehind_22 (by decide) (fun c_22 => ?_) (fun c_22 => ?_)
        · skip
          refine lv_iinc (v := (nI (y + 1))) (lv' := [(5, .int (nI (y + 1))), (4, .int v), (0, .ref pl), (1, .int (nI h)), (2, .int (nI w)), (3, .int (nI lx))]) hx hb dX3_greatestBehind_43 hl (k := 0) rfl (nI_add y 1) (by decide) rfl (fun ls hl => ?_)
          refine lv_goto (tgt := 6) hx hb dX3_greatestBehind_46 (by decide) ?_
          exact ih6 (y + 1) v _ (by omega) (by omega) (by rw [hv, gwS, if_pos c_22]) (lv_sub hl [0, 1, 2, 3, 4, 5] rfl)
        · skip
          refine lv_iload hx hb dX3_greatestBehind_25 (lv_at hl 1 rfl) ?_
          refine lv_aload_n hx hb dX3_greatestBehind_27 rfl (lv_at hl 2 rfl) ?_
          refine va_get (D := D) (cl := vwCl) (ci := 2) (v := .ref (k 4)) (C := RX3) (T := TX3) (N := 9) hx hb hts (fun _ h => List.mem_cons_of_mem _ (List.mem_append_right _ h)) hown hK hP 0 rfl rfl 7 (by decide) (hts (.fieldLink RX3 29 "CheapHours$Plan" "greatest" "[I") (by decide +kernel)) (fun _ h9 => h9) rfl dX3_greatestBehind_28 ?_
          refine lv_iload_n hx hb dX3_greatestBehind_31 rfl (lv_at hl 3 rfl) ?_
          refine lv_iload_n hx hb dX3_greatestBehind_32 rfl (lv_at hl 4 rfl) ?_
          refine lv_iload hx hb dX3_greatestBehind_33 (lv_at hl 0 rfl) ?_
          refine roSi (As := [.ref (k 4), .int (nI h), .int (nI w), .int (nI y)]) (rest := [.int v]) ⟨hx, hb, hml, hown, hts⟩ (c_X3_readInt l D cI cL cZ cO (k 4) wo h w y (by omega) (by omega) (by omega)) (va_cwS 4 hts gX3_greatestBehind_X3_readInt rfl rfl rfl (by decide +kernel) ⟨Nat.le_of_ble_eq_true rfl, Nat.le_of_ble_eq_true rfl⟩) hO (hP.sub (ws' := [(k 4, .inl (cI, 1014, .inl wo))]) [6] rfl) rfl hl.1 rfl (Nat.le_of_ble_eq_true rfl) dX3_greatestBehind_35 ⟨Nat.le_of_ble_eq_true rfl, Nat.le_of_ble_eq_true rfl⟩ (fun r_35 e_35 => ?_)
          obtain rfl : r_35 = wo (tn h w y) := e_35
          refine va_mmax hx hb (hml.trans hl.1.symm) hown (hts (.methodLink RX3 110 Lib.Math.max.name) (by decide +kernel)) (hts (.static Lib.Math.max.name) (by decide +kernel)) (hts (.initialized "java/lang/Math") (by decide +kernel)) (hts (.code Lib.Math.max.name Lib.Math.max.code 2 (some .int)) (by decide +kernel)) (Nat.le_of_ble_eq_true rfl) (Nat.le_of_ble_eq_true rfl) (Nat.le_of_ble_eq_true rfl) (Nat.le_of_ble_eq_true rfl) (x := v) (y := (wo (tn h w y))) dX3_greatestBehind_38 ?_
          refine lv_istore (lv' := [(4, .int (if v < (wo (tn h w y)) then (wo (tn h w y)) else v)), (5, .int (nI y)), (0, .ref pl), (1, .int (nI h)), (2, .int (nI w)), (3, .int (nI lx))]) hx hb dX3_greatestBehind_41 hl (by decide) rfl (fun ls hl => ?_)
          refine lv_iinc (v := (nI (y + 1))) (lv' := [(5, .int (nI (y + 1))), (4, .int (if v < (wo (tn h w y)) then (wo (tn h w y)) else v)), (0, .ref pl), (1, .int (nI h)), (2, .int (nI w)), (3, .int (nI lx))]) hx hb dX3_greatestBehind_43 hl (k := 1) rfl (nI_add y 1) (by decide) rfl (fun ls hl => ?_)
          refine lv_goto (tgt := 6) hx hb dX3_greatestBehind_46 (by decide) ?_
          exact ih6 (y + 1) (if v < (wo (tn h w y)) then (wo (tn h w y)) else v) _ (by omega) (by omega) (by subst hv; exact gwS_max (g := fun k => wo (tn h w k)) c_22) (lv_sub hl [0, 1, 2, 3, 4, 5] rfl)
  exact L6 _ 0 0 _ (Nat.lt_succ_self _) (Nat.zero_le _) rfl (lv_sub hl [0, 1, 2, 3, 4, 5] rfl)
set_option maxHeartbeats 4000000 in
set_option maxRecDepth 100000 in
theorem c_X3_has (l : Launch) (D : va_G) (cI cL cZ cO : ClassId) (pl pA lt : Nat) (k : Nat → Nat) (kn full : Int32) (lp ch : Nat → Int32) (me : Nat → Int64) (ru wo : Nat → Int32) (mb : Nat → Int64) (L : Nat) (x : Int32) : Met l yX3_has wsX3_has ({ frames := 1, cells := 0, slots := 0, locals := 22 } : Room) (va_Pc [.ref pl, .int x] (Ro D cI cL cZ cO (wPl cI cL pl pA lt k (nI L) kn full lp ch me ru wo mb))) (vp_Si (fun r => r = wi x 0 (nI L - 1))) 0 0 (fun _ => False) := by
  refine Met.ofW (cc := cX3_has) (maxL := 2) (ret := (some .boolean)) (by decide) rfl ?_
  intro p e s m args below meth c s₁ B hml hv
  obtain ⟨rfl, hP, hO⟩ := hv
  have hx := B.exec
  have hb := B.bytes
  have hr := B.returns
  have hts := atoms_spec (ws := wsX3_has) B.pre
  have hown : s.vm.findClass RX3 = some m.cls := findClass_of_methodNamed B.named
  have hlocks := B.notSynchronized
  have hK := hO.1
  have hl := lv_entry ([.ref pl, .int x]) (n := 2) (Nat.le_of_ble_eq_true rfl)
  rw [lg_entry_eq]
  generalize (lg_sl ([.ref pl, .int x]) ++ List.replicate (2 - (lg_sl ([.ref pl, .int x])).length) Slot.unset).toArray = ls at hl ⊢
  have hl : lv_has ls 2 [(0, .ref pl), (1, .int x)] := hl
  generalize hQQ : MQ below _ _ s _ _ _ = QQ
  refine lv_iload_n hx hb dX3_has_0 rfl (lv_at hl 1 rfl) ?_
  refine lv_iconst (v := 0) hx hb dX3_has_1 (by decide) ?_
  refine lv_aload_n hx hb dX3_has_2 rfl (lv_at hl 0 rfl) ?_
  refine va_get (D := D) (cl := vwCl) (ci := 2) (v := .int (nI L)) (C := RX3) (T := TX3) (N := 9) hx hb hts (fun _ h => List.mem_cons_of_mem _ (List.mem_append_right _ h)) hown hK hP 0 rfl rfl 0 (by decide) (hts (.fieldLink RX3 39 "CheapHours$Plan" "size" "I") (List.mem_of_getElem? (i := 1) rfl)) (fun _ h9 => h9) rfl dX3_has_3 ?_
  refine lv_iconst (v := 1) hx hb dX3_has_6 (by decide) ?_
  refine lv_isub hx hb dX3_has_7 ?_
  refine roNi (As := [.int x, .int 0, .int ((nI L) - 1)]) (rest := []) ⟨hx, hb, hml, hown, hts⟩ (c_X6_within l D cI cL cZ cO x 0 ((nI L) - 1) ) ⟨va_cnB 3 hts gX3_has_X6_within_n47 rfl rfl rfl hO.2.2.2.2.1 (hts (.initialized RX6) (List.mem_of_getElem? (i := 3) rfl)) (by decide +kernel) ⟨Nat.le_of_ble_eq_true rfl, Nat.le_of_ble_eq_true rfl⟩, (hts (.static yX6_within) (List.mem_of_getElem? (i := 2) rfl)), trivial⟩ hO (fun k q h => by simp at h) rfl hl.1 rfl (Nat.le_of_ble_eq_true rfl) dX3_has_8 ⟨Nat.le_of_ble_eq_true rfl, Nat.le_of_ble_eq_true rfl⟩ (fun r_8 e_8 => ?_)
  obtain rfl : r_8 = wi x 0 ((nI L) - 1) := e_8
  rw [← hQQ]
  exact W.zret (v := (wi x 0 ((nI L) - 1))) hx hb hr (by first | exact wi_nar _ _ _ | (split <;> rfl)) (fun t9 ht9 hW9 => ⟨_, rfl, rfl, ht9⟩) (fun q h => by cases h) dX3_has_11
set_option maxHeartbeats 4000000 in
set_option maxRecDepth 100000 in
theorem c_X3_hasState (l : Launch) (D : va_G) (cI cL cZ cO : ClassId) (pl pA lt : Nat) (k : Nat → Nat) (kn full : Int32) (lp ch : Nat → Int32) (me : Nat → Int64) (ru wo : Nat → Int32) (mb : Nat → Int64) (L : Nat) (x y z : Int32) : Met l yX3_hasState wsX3_hasState ({ frames := 2, cells := 0, slots := 0, locals := 43 } : Room) (va_Pc [.ref pl, .int x, .int y, .int z] (Ro D cI cL cZ cO (wPl cI cL pl pA lt k (nI L) kn full lp ch me ru wo mb))) (vp_Si (fun r => r = stOk x y z L)) 0 0 (fun _ => False) := by
  refine Met.ofW (cc := cX3_hasState) (maxL := 4) (ret := (some .boolean)) (by decide) rfl ?_
  intro p e s m args below meth c s₁ B hml hv
  obtain ⟨rfl, hP, hO⟩ := hv
  have hx := B.exec
  have hb := B.bytes
  have hr := B.returns
  have hts := atoms_spec (ws := wsX3_hasState) B.pre
  have hown : s.vm.findClass RX3 = some m.cls := findClass_of_methodNamed B.named
  have hlocks := B.notSynchronized
  have hK := hO.1
  have hl := lv_entry ([.ref pl, .int x, .int y, .int z]) (n := 4) (Nat.le_of_ble_eq_true rfl)
  rw [lg_entry_eq]
  generalize (lg_sl ([.ref pl, .int x, .int y, .int z]) ++ List.replicate (4 - (lg_sl ([.ref pl, .int x, .int y, .int z])).length) Slot.unset).toArray = ls at hl ⊢
  have hl : lv_has ls 4 [(0, .ref pl), (1, .int x), (2, .int y), (3, .int z)] := hl
  generalize hQQ : MQ below _ _ s _ _ _ = QQ
  refine lv_iload_n hx hb dX3_hasState_0 rfl (lv_at hl 1 rfl) ?_
  refine lv_iconst (v := 0) hx hb dX3_hasState_1 (by decide) ?_
  refine lv_bipush (v := 12) hx hb dX3_hasState_2 (by decide) ?_
  refine roNi (As := [.int x, .int 0, .int 12]) (rest := []) ⟨hx, hb, hml, hown, hts⟩ (c_X6_within l D cI cL cZ cO x 0 12 ) ⟨va_cnB 3 hts gX3_hasState_X6_within_n47 rfl rfl rfl hO.2.2.2.2.1 (hts (.initialized RX6) (List.mem_of_getElem? (i := 2) rfl)) (by decide +kernel) ⟨Nat.le_of_ble_eq_true rfl, Nat.le_of_ble_eq_true rfl⟩, (hts (.static yX6_within) (List.mem_of_getElem? (i := 1) rfl)), trivial⟩ hO (fun k q h => by simp at h) rfl hl.1 rfl (Nat.le_of_ble_eq_true rfl) dX3_hasState_4 ⟨Nat.le_of_ble_eq_true rfl, Nat.le_of_ble_eq_true rfl⟩ (fun r_4 e_4 => ?_)
  obtain rfl : r_4 = wi x 0 12 := e_4
  refine lv_if_eq (tgt := 31) hx hb dX3_hasState_7 (by decide) (fun c_7 => ?_) (fun c_7 => ?_)
  · skip
    refine lv_iconst (v := 0) hx hb dX3_hasState_31 (by decide) ?_
    rw [← hQQ]
    exact W.zret (v := 0) hx hb hr rfl (fun t9 ht9 hW9 => ⟨_, rfl, by simp only [stOk, if_pos c_7], ht9⟩) (fun q h => by cases h) dX3_hasState_32
  · skip
    refine lv_iload_n hx hb dX3_hasState_10 rfl (lv_at hl 2 rfl) ?_
    refine lv_iconst (v := 0) hx hb dX3_hasState_11 (by decide) ?_
    refine lv_iload_n hx hb dX3_hasState_12 rfl (lv_at hl 1 rfl) ?_
    refine roNi (As := [.int y, .int 0, .int x]) (rest := []) ⟨hx, hb, hml, hown, hts⟩ (c_X6_within l D cI cL cZ cO y 0 x ) ⟨va_cnB 3 hts gX3_hasState_X6_within_n47 rfl rfl rfl hO.2.2.2.2.1 (hts (.initialized RX6) (List.mem_of_getElem? (i := 2) rfl)) (by decide +kernel) ⟨Nat.le_of_ble_eq_true rfl, Nat.le_of_ble_eq_true rfl⟩, (hts (.static yX6_within) (List.mem_of_getElem? (i := 1) rfl)), trivial⟩ hO (fun k q h => by simp at h) rfl hl.1 rfl (Nat.le_of_ble_eq_true rfl) dX3_hasState_13 ⟨Nat.le_of_ble_eq_true rfl, Nat.le_of_ble_eq_true rfl⟩ (fun r_13 e_13 => ?_)
    obtain rfl : r_13 = wi y 0 x := e_13
    refine lv_if_eq (tgt := 31) hx hb dX3_hasState_16 (by decide) (fun c_16 => ?_) (fun c_16 => ?_)
    · skip
      refine lv_iconst (v := 0) hx hb dX3_hasState_31 (by decide) ?_
      rw [← hQQ]
      exact W.zret (v := 0) hx hb hr rfl (fun t9 ht9 hW9 => ⟨_, rfl, by simp only [stOk, if_neg c_7, if_pos c_16], ht9⟩) (fun q h => by cases h) dX3_hasState_32
    · skip
      refine lv_aload_n hx hb dX3_hasState_19 rfl (lv_at hl 0 rfl) ?_
      refine lv_iload_n hx hb dX3_hasState_20 rfl (lv_at hl 3 rfl) ?_
      refine roVi (As := [.int z]) (rest := []) ⟨hx, hb, hml, hown, hts⟩ (c_X3_has l D cI cL cZ cO pl pA lt k kn full lp ch me ru wo mb L z ) (cwV 1 hts gX3_hasState_X3_has rfl rfl rfl (by decide +kernel) ⟨Nat.le_of_ble_eq_true rfl, Nat.le_of_ble_eq_true rfl⟩) hO hP (va_recv hK hP (ci := 2) (q0 := 0) rfl rfl) rfl hl.1 rfl (Nat.le_of_ble_eq_true rfl) dX3_hasState_21 ⟨Nat.le_of_ble_eq_true rfl, Nat.le_of_ble_eq_true rfl⟩ (fun r_21 e_21 => ?_)
      obtain rfl : r_21 = wi z 0 (nI L - 1) := e_21
      refine lv_if_eq (tgt := 31) hx hb dX3_hasState_24 (by decide) (fun c_24 => ?_) (fun c_24 => ?_)
      · skip
        refine lv_iconst (v := 0) hx hb dX3_hasState_31 (by decide) ?_
        rw [← hQQ]
        exact W.zret (v := 0) hx hb hr rfl (fun t9 ht9 hW9 => ⟨_, rfl, by simp only [stOk, if_neg c_7, if_neg c_16, if_pos c_24], ht9⟩) (fun q h => by cases h) dX3_hasState_32
      · skip
        refine lv_iconst (v := 1) hx hb dX3_hasState_27 (by decide) ?_
        refine lv_goto (tgt := 32) hx hb dX3_hasState_28 (by decide) ?_
        rw [← hQQ]
        exact W.zret (v := 1) hx hb hr rfl (fun t9 ht9 hW9 => ⟨_, rfl, by simp only [stOk, if_neg c_7, if_neg c_16, if_neg c_24], ht9⟩) (fun q h => by cases h) dX3_hasState_32
set_option maxHeartbeats 4000000 in
set_option maxRecDepth 100000 in
theorem c_X3_forget (l : Launch) (D : va_G) (cI cL cZ cO : ClassId) (sz : Nat) (pl pA lt : Nat) (k : Nat → Nat) (kn full : Int32) (lp ch : Nat → Int32) (me : Nat → Int64) (ru wo : Nat → Int32) (mb : Nat → Int64) (L : Nat)  : Met l yX3_forget wsX3_forget ({ frames := 0, cells := 0, slots := 0, locals := 0 } : Room) (va_Pc [.ref pl] (Rw D cI cL cZ cO (wPl cI cL pl pA lt k (nI L) kn full lp ch me ru wo mb) sz)) (va_Qv (fun (u : Unit) => True) (fun (u : Unit) => Wo D (va_A (wPl cI cL pl pA lt k (nI L) kn full lp ch me ru wo mb) sz) (wPl cI cL pl pA lt k (nI L) 0 full lp ch me ru wo mb)) (va_A (wPl cI cL pl pA lt k (nI L) kn full lp ch me ru wo mb) sz)) 0 0 (va_A (wPl cI cL pl pA lt k (nI L) kn full lp ch me ru wo mb) sz) := by
  refine Met.ofW (cc := cX3_forget) (maxL := 1) (ret := none) (by decide) rfl ?_
  intro p e s m args below meth c s₁ B hml hv
  obtain ⟨rfl, hsz, hP, hO, hD0⟩ := hv
  have hx := B.exec
  have hb := B.bytes
  have hr := B.returns
  have hts := atoms_spec (ws := wsX3_forget) B.pre
  have hown : s.vm.findClass RX3 = some m.cls := findClass_of_methodNamed B.named
  have hlocks := B.notSynchronized
  have hK := hO.1
  subst hsz
  have hD := hD0.self (sz := s.heap.size)
  generalize hAe : va_A (wPl cI cL pl pA lt k (nI L) kn full lp ch me ru wo mb) s.heap.size = A at hD ⊢
  have hA : ∀ q : Nat, s.heap.size ≤ q → A q := fun q h => by rw [← hAe]; exact Or.inr h
  have hS : va_S A s.heap s.heap [] := va_S.rf
  have hl := lv_entry ([.ref pl]) (n := 1) (Nat.le_of_ble_eq_true rfl)
  rw [lg_entry_eq]
  generalize (lg_sl ([.ref pl]) ++ List.replicate (1 - (lg_sl ([.ref pl])).length) Slot.unset).toArray = ls at hl ⊢
  have hl : lv_has ls 1 [(0, .ref pl)] := hl
  generalize hQQ : MQ below _ _ s _ _ _ = QQ
  refine lv_aload_n hx hb dX3_forget_0 rfl (lv_at hl 0 rfl) ?_
  refine lv_iconst (v := 0) hx hb dX3_forget_1 (by decide) ?_
  refine va_put (D := D) (cl := vwCl) (ci := 2) (v := .int 0) (ty := .boolean) (C := RX3) (T := TX3) (N := 9) hx hb hts (fun _ h => List.mem_cons_of_mem _ (List.mem_append_right _ h)) tyX3 tyX3_ok nmX3 hown hK hP hD hS 0 rfl rfl 1 (by decide) (hts (.fieldLink RX3 35 "CheapHours$Plan" "known" "Z") (List.mem_of_getElem? (i := 1) rfl)) (fun _ h9 => h9) rfl (by decide +kernel) rfl rfl (Nat.le_of_ble_eq_true rfl) dX3_forget_2 (fun H locs hP hD hS => ?_)
  have hP : va_P D vwCl (wPl cI cL pl pA lt k (nI L) 0 full lp ch me ru wo mb) H := hP
  have hD : va_D A (wPl cI cL pl pA lt k (nI L) 0 full lp ch me ru wo mb) := hD
  rw [← hQQ]
  exact W.vret hx hb hr (fun t9 ht9 hW9 => ⟨⟨(), rfl, trivial, by rw [ht9]; exact hP, hD⟩, hS.F ht9⟩) hS.2.2 dX3_forget_5
set_option maxHeartbeats 4000000 in
set_option maxRecDepth 100000 in
theorem c_X3_canGo (l : Launch) (D : va_G) (cI cL cZ cO : ClassId) (pl pA lt : Nat) (k : Nat → Nat) (kn full : Int32) (lp ch : Nat → Int32) (me : Nat → Int64) (ru wo : Nat → Int32) (mb : Nat → Int64) (L : Nat) (c0 : Int32) (hL : L ≤ 6) : Met l yX3_canGo wsX3_canGo ({ frames := 0, cells := 0, slots := 0, locals := 0 } : Room) (va_Pc [.ref pl, .int c0] (Ro D cI cL cZ cO (wPl cI cL pl pA lt k (nI L) kn full lp ch me ru wo mb))) (vp_Si (fun r => r = cgV L c0)) 0 0 (fun _ => False) := by
  refine Met.ofW (cc := cX3_canGo) (maxL := 5) (ret := (some .boolean)) (by decide) rfl ?_
  intro p e s m args below meth c s₁ B hml hv
  obtain ⟨rfl, hP, hO⟩ := hv
  have hx := B.exec
  have hb := B.bytes
  have hr := B.returns
  have hts := atoms_spec (ws := wsX3_canGo) B.pre
  have hown : s.vm.findClass RX3 = some m.cls := findClass_of_methodNamed B.named
  have hlocks := B.notSynchronized
  have hK := hO.1
  have hl := lv_entry ([.ref pl, .int c0]) (n := 5) (Nat.le_of_ble_eq_true rfl)
  rw [lg_entry_eq]
  generalize (lg_sl ([.ref pl, .int c0]) ++ List.replicate (5 - (lg_sl ([.ref pl, .int c0])).length) Slot.unset).toArray = ls at hl ⊢
  have hl : lv_has ls 5 [(0, .ref pl), (1, .int c0)] := hl
  generalize hQQ : MQ below _ _ s _ _ _ = QQ
  refine lv_iload_n hx hb dX3_canGo_0 rfl (lv_at hl 1 rfl) ?_
  refine lv_if_ge (tgt := 6) hx hb dX3_canGo_1 (by decide) (fun c_1 => ?_) (fun c_1 => ?_)
  · skip
    obtain ⟨v, hv, rfl⟩ := nI_of (x := c0) (fun q9 => i32_nlt.mpr c_1 q9)
    refine lv_iload_n hx hb dX3_canGo_6 rfl (lv_at hl 1 rfl) ?_
    refine lv_istore_n (lv' := [(2, .int (nI v)), (0, .ref pl), (1, .int (nI v))]) hx hb dX3_canGo_7 rfl hl (by decide) rfl (fun ls hl => ?_)
    refine lv_iconst (v := 0) hx hb dX3_canGo_8 (by decide) ?_
    refine lv_istore_n (lv' := [(3, .int 0), (2, .int (nI v)), (0, .ref pl), (1, .int (nI v))]) hx hb dX3_canGo_9 rfl hl (by decide) rfl (fun ls hl => ?_)
    refine lv_iconst (v := 0) hx hb dX3_canGo_10 (by decide) ?_
    refine lv_istore (lv' := [(4, .int 0), (3, .int 0), (2, .int (nI v)), (0, .ref pl), (1, .int (nI v))]) hx hb dX3_canGo_11 hl (by decide) rfl (fun ls hl => ?_)
    have L13 : ∀ (n0 : Nat) (y : Nat) (ls : Array Slot), L - y < n0 → (y ≤ L) → lv_has ls 5 [(4, .int (nI y)), (2, .int (nI (dv v y))), (3, .int (nI (ds v y))), (0, .ref pl), (1, .int (nI v))] → W p l e (headSpec wsX3_canGo ({ frames := 0, cells := 0, slots := 0, locals := 0 } : Room)).room s m ([.ref pl, .int (nI v)] : List Value).toArray below meth c s.heap [] 0 0 QQ (F0 m 13 ls []) := by
      intro n0
      induction n0 with
      | zero =>
        intro y ls hmu
        exact absurd hmu (Nat.not_lt_zero _)
      | succ n0 ih13 =>
        intro y ls hmu hy hl
        have hdv := dv_le v y
        have hds := ds_le v y
        refine lv_iload hx hb dX3_canGo_13 (lv_at hl 0 rfl) ?_
        refine lv_aload_n hx hb dX3_canGo_15 rfl (lv_at hl 3 rfl) ?_
        refine va_get (D := D) (cl := vwCl) (ci := 2) (v := .int (nI L)) (C := RX3) (T := TX3) (N := 9) hx hb hts (fun _ h => List.mem_cons_of_mem _ (List.mem_append_right _ h)) hown hK hP 0 rfl rfl 0 (by decide) (hts (.fieldLink RX3 39 "CheapHours$Plan" "size" "I") (List.mem_of_getElem? (i := 1) rfl)) (fun _ h9 => h9) rfl dX3_canGo_16 ?_
        refine n_icmp_ge (x := y) (y := L) (tgt := 40) hx hb dX3_canGo_19 (by decide) (by omega) (by omega) (fun c_19 => ?_) (fun c_19 => ?_)
        · skip
          have hkL : y = L := by omega
          rw [hkL] at hl hdv hds
          refine lv_iload_n hx hb dX3_canGo_40 rfl (lv_at hl 1 rfl) ?_
          refine n_if_ne (x := (dv v L)) (tgt := 54) hx hb dX3_canGo_41 (by decide) (by omega) (fun c_41 => ?_) (fun c_41 => ?_)
          · skip
            refine lv_iconst (v := 0) hx hb dX3_canGo_54 (by decide) ?_
            rw [← hQQ]
            exact W.zret (v := 0) hx hb hr rfl (fun t9 ht9 hW9 => ⟨_, rfl, (by rw [cgV, if_neg (nI_pos hv), nI_clamp hv, if_neg (by omega)]), ht9⟩) (fun q h => by cases h) dX3_canGo_55
          · skip
            refine lv_iload_n hx hb dX3_canGo_44 rfl (lv_at hl 2 rfl) ?_
            refine lv_bipush (v := 10) hx hb dX3_canGo_45 (by decide) ?_
            refine n_icmp_gt (x := (ds v L)) (y := 10) (tgt := 54) hx hb dX3_canGo_47 (by decide) (by omega) (by omega) (fun c_47 => ?_) (fun c_47 => ?_)
            · skip
              refine lv_iconst (v := 0) hx hb dX3_canGo_54 (by decide) ?_
              rw [← hQQ]
              exact W.zret (v := 0) hx hb hr rfl (fun t9 ht9 hW9 => ⟨_, rfl, (by rw [cgV, if_neg (nI_pos hv), nI_clamp hv, if_pos c_41, if_pos c_47]), ht9⟩) (fun q h => by cases h) dX3_canGo_55
            · skip
              refine lv_iconst (v := 1) hx hb dX3_canGo_50 (by decide) ?_
              refine lv_goto (tgt := 55) hx hb dX3_canGo_51 (by decide) ?_
              rw [← hQQ]
              exact W.zret (v := 1) hx hb hr rfl (fun t9 ht9 hW9 => ⟨_, rfl, (by rw [cgV, if_neg (nI_pos hv), nI_clamp hv, if_pos c_41, if_neg (by omega)]), ht9⟩) (fun q h => by cases h) dX3_canGo_55
        · skip
          refine lv_iload_n hx hb dX3_canGo_22 rfl (lv_at hl 2 rfl) ?_
          refine lv_iload_n hx hb dX3_canGo_23 rfl (lv_at hl 1 rfl) ?_
          refine lv_bipush (v := 10) hx hb dX3_canGo_24 (by decide) ?_
          refine n_irem (x := (dv v y)) (y := 10) hx hb dX3_canGo_26 (by omega) (by omega) (by omega) ?_
          refine n_iadd (x := (ds v y)) (y := ((dv v y) % 10)) hx hb dX3_canGo_27 ?_
          refine lv_istore_n (lv' := [(3, .int (nI ((ds v y) + ((dv v y) % 10)))), (4, .int (nI y)), (2, .int (nI (dv v y))), (0, .ref pl), (1, .int (nI v))]) hx hb dX3_canGo_28 rfl hl (by decide) rfl (fun ls hl => ?_)
          refine lv_iload_n hx hb dX3_canGo_29 rfl (lv_at hl 2 rfl) ?_
          refine lv_bipush (v := 10) hx hb dX3_canGo_30 (by decide) ?_
          refine n_idiv (x := (dv v y)) (y := 10) hx hb dX3_canGo_32 (by omega) (by omega) (by omega) ?_
          refine lv_istore_n (lv' := [(2, .int (nI ((dv v y) / 10))), (3, .int (nI ((ds v y) + ((dv v y) % 10)))), (4, .int (nI y)), (0, .ref pl), (1, .int (nI v))]) hx hb dX3_canGo_33 rfl hl (by decide) rfl (fun ls hl => ?_)
          refine lv_iinc (v := (nI (y + 1))) (lv' := [(4, .int (nI (y + 1))), (2, .int (nI ((dv v y) / 10))), (3, .int (nI ((ds v y) + ((dv v y) % 10)))), (0, .ref pl), (1, .int (nI v))]) hx hb dX3_canGo_34 hl (k := 2) rfl (nI_add y 1) (by decide) rfl (fun ls hl => ?_)
          refine lv_goto (tgt := 13) hx hb dX3_canGo_37 (by decide) ?_
          exact ih13 (y + 1) _ (by omega) (by omega) (lv_sub hl [0, 1, 2, 3, 4] rfl)
    exact L13 _ 0 _ (Nat.lt_succ_self _) (Nat.zero_le _) (lv_sub hl [0, 2, 1, 3, 4] rfl)
  · skip
    refine lv_iconst (v := 0) hx hb dX3_canGo_4 (by decide) ?_
    rw [← hQQ]
    exact W.zret (v := 0) hx hb hr rfl (fun t9 ht9 hW9 => ⟨_, rfl, (if_pos (i32_nle.mp c_1)).symm, ht9⟩) (fun q h => by cases h) dX3_canGo_5
