/-! THE CLASS ITSELF: its world -/
def jP (ja ta : Nat → Nat) (R : Nat → Nat → Int32) (n : Nat) : va_W := (List.range n).map (fun j => (ja j, .inr (1, jobFs (ta j) (R j))))
def tP (ta : Nat → Nat) (R : Nat → Nat → Int32) (n : Nat) : va_W := (List.range n).map (fun j => (ta j, .inr (4, teFs (R j))))
def jRef (ja : Nat → Nat) (n : Nat) : Nat → Option Nat := fun j => if j < n then some (ja j) else none
def wF (cI cL cO : ClassId) (o : Nat) (q ja : Nat → Nat) (n nw : Nat) (full : Int32) (pr : Nat → Int32) (L : Nat) (kn : Int32) (lp ch : Nat → Int32) (me : Nat → Int64) (ru wo : Nat → Int32) (mb : Nat → Int64) (lf : Nat → Int32) : va_W :=
  [(o, .inr (5, [.ref (q 0), .ref (q 2), .ref (q 3), .ref (q 10), .int (nI n), .int (nI nw)])), (q 0, .inr (3, [.ref (q 1), .int full])), (q 1, .inl (cI, 600, .inl pr)), (q 2, .inl (cO, 12, .inr (.inr (.inr (.inr (jRef ja n)))))),
   (q 3, .inr (2, [.int (nI L), .int kn, .ref (q 0), .ref (q 4), .ref (q 5), .ref (q 6), .ref (q 7), .ref (q 8), .ref (q 9)])), (q 4, .inl (cI, 6, .inl lp)), (q 5, .inl (cI, 36, .inl ch)), (q 6, .inl (cL, 1014, .inr (.inl me))), (q 7, .inl (cI, 1014, .inl ru)), (q 8, .inl (cI, 1014, .inl wo)), (q 9, .inl (cL, 1014, .inr (.inl mb))), (q 10, .inr (0, [.ref (q 0), .ref (q 11)])), (q 11, .inl (cI, 900, .inl lf))]
def wC (cI cL cO : ClassId) (o : Nat) (q ja ta : Nat → Nat) (n nw : Nat) (full : Int32) (pr : Nat → Int32) (R : Nat → Nat → Int32) (L : Nat) (kn : Int32) (lp ch : Nat → Int32) (me : Nat → Int64) (ru wo : Nat → Int32) (mb : Nat → Int64) (lf : Nat → Int32) : va_W := wF cI cL cO o q ja n nw full pr L kn lp ch me ru wo mb lf ++ (jP ja ta R n ++ tP ta R n)
section PoolCalls
variable {p : Program} {l : Launch} {e : Env} {R : Room} {s : State} {m : MethodId} {args : Array Value} {below : List Frame} {meth : Method} {c : Code} {H : Heap} {locs : List Loc} {cells slots : Nat} {Q : State → Prop}
variable {pc : Nat} {ls : Array Slot} {rest st0 As : List Value} {A0 : Nat → Prop} {H0 : Heap} {mc ms : Nat}
variable {y : MethodName} {bytes cc : ByteArray} {maxL nL n index : Nat} {ret : Option FieldType} {wy : List Cond} {rm : Room} {Ts : List Cond} {own C host : String} {b : Addr} {D : va_G} {cI cL cZ cO : ClassId} {X wc wr pl : va_W}
theorem rwVvP {S1 : Type} {post : S1 → Prop} {Wf cx : S1 → va_W} (isC isR isP : List Nat) (hC : isC.map (fun i => X[i]?) = wc.map some) (hC2 : isC.map (fun i => (X ++ pl)[i]?) = wc.map some) (hR : isR.map (fun i => X[i]?) = wr.map some) (hnd : va_nd isR = true) (hdis : ∀ i ∈ isR, i ∉ isC) (hPm : ∀ u, isP.map (fun i => (wr ++ Wf u)[i]?) = (cx u).map some) (hnP : va_nd isP = true) (S : CallFix p m c cc nL s args Ts own) (hM : Met l y wy rm (va_Pc (.ref b :: As) (Rw D cI cL cZ cO wc H.size)) (va_Qv post (fun u => Wo D (va_A wc H.size) (Wf u)) (va_A wc H.size)) mc ms (va_A wc H.size)) (cw : CallW R s args own C index y bytes maxL ret wy rm mc ms n) (hO : Okk D cI cL cZ cO s) (hP : va_P D vwCl (X ++ pl) H) (hD : va_D A0 (X ++ pl)) (hPc : va_P D vwCl wc H) (hDc : va_D A0 wc) (hS : va_S A0 H0 H locs) (hA : ∀ q, H0.size ≤ q → A0 q) (hv : Recv s H C b) (hn : As.length = n) (hsize : ls.size = nL) (hst : st0 = As.reverse ++ .ref b :: rest) (hW : (rest.map fun v => v.category).sum ≤ 8) (hdg : decode cc pc = .ok (.invokevirtual index, 3)) (hcl : cells + mc ≤ R.cells ∧ slots + ms ≤ R.slots)
    (kk : ∀ (u : S1) (H1 : Heap) (locs1 : List Loc), post u → va_P D vwCl (cx u ++ pl) H1 → va_D A0 (cx u ++ pl) → va_S A0 H0 H1 locs1 → W p l e R s m args below meth c H1 locs1 (cells + mc) (slots + ms) Q (F0 m (pc + 3) ls rest)) : W p l e R s m args below meth c H locs cells slots Q (F0 m pc ls st0) := by
  have hF := va_free (wc := wc) hD hS hA isC hC2
  refine va_callv (va_runV (g := F0 m pc ls st0) S hM cw ⟨Rw.blind, hv, fun U hU hW => ⟨rfl, by rw [hU], by rw [hU]; exact hPc, hO.warm hW, hDc.weaken (fun _ _ _ _ => trivial)⟩⟩ rfl hn hsize hst (lv_room hW) hdg hcl) hS (fun q _ h => hF q h) hF (fun u t H1 locs1 ht _ hw hB _ hk1 hS1 => ?_)
  obtain ⟨h1, h2⟩ := va_joinQ (wr := wr) (w1 := Wf u) hP hD isC isR hC hR hnd hdis hk1 hF (ht ▸ hB.1) hB.2
  exact kk u H1 locs1 hw (h1.part isP (hPm u)) (h2.part isP hnP (hPm u)) hS1
theorem rwViP {S1 : Type} {post : Int32 → S1 → Prop} {Wf cx : S1 → va_W} (isC isR isP : List Nat) (hC : isC.map (fun i => X[i]?) = wc.map some) (hC2 : isC.map (fun i => (X ++ pl)[i]?) = wc.map some) (hR : isR.map (fun i => X[i]?) = wr.map some) (hnd : va_nd isR = true) (hdis : ∀ i ∈ isR, i ∉ isC) (hPm : ∀ u, isP.map (fun i => (wr ++ Wf u)[i]?) = (cx u).map some) (hnP : va_nd isP = true) (S : CallFix p m c cc nL s args Ts own) (hM : Met l y wy rm (va_Pc (.ref b :: As) (Rw D cI cL cZ cO wc H.size)) (va_Qi post (fun u => Wo D (va_A wc H.size) (Wf u)) (va_A wc H.size)) mc ms (va_A wc H.size)) (cw : CallW R s args own C index y bytes maxL ret wy rm mc ms n) (hO : Okk D cI cL cZ cO s) (hP : va_P D vwCl (X ++ pl) H) (hD : va_D A0 (X ++ pl)) (hPc : va_P D vwCl wc H) (hDc : va_D A0 wc) (hS : va_S A0 H0 H locs) (hA : ∀ q, H0.size ≤ q → A0 q) (hv : Recv s H C b) (hn : As.length = n) (hsize : ls.size = nL) (hst : st0 = As.reverse ++ .ref b :: rest) (hW : (rest.map fun v => v.category).sum ≤ 8) (hdg : decode cc pc = .ok (.invokevirtual index, 3)) (hcl : cells + mc ≤ R.cells ∧ slots + ms ≤ R.slots)
    (kk : ∀ (r : Int32) (u : S1) (H1 : Heap) (locs1 : List Loc), post r u → va_P D vwCl (cx u ++ pl) H1 → va_D A0 (cx u ++ pl) → va_S A0 H0 H1 locs1 → W p l e R s m args below meth c H1 locs1 (cells + mc) (slots + ms) Q (F0 m (pc + 3) ls (.int r :: rest))) : W p l e R s m args below meth c H locs cells slots Q (F0 m pc ls st0) := by
  have hF := va_free (wc := wc) hD hS hA isC hC2
  refine va_calli (va_runV (g := F0 m pc ls st0) S hM cw ⟨Rw.blind, hv, fun U hU hW => ⟨rfl, by rw [hU], by rw [hU]; exact hPc, hO.warm hW, hDc.weaken (fun _ _ _ _ => trivial)⟩⟩ rfl hn hsize hst (lv_room hW) hdg hcl) hS (fun q _ h => hF q h) hF (fun r u t H1 locs1 ht _ hw hB _ hk1 hS1 => ?_)
  obtain ⟨h1, h2⟩ := va_joinQ (wr := wr) (w1 := Wf u) hP hD isC isR hC hR hnd hdis hk1 hF (ht ▸ hB.1) hB.2
  exact kk r u H1 locs1 hw (h1.part isP (hPm u)) (h2.part isP hnP (hPm u)) hS1
theorem rwVlP {S1 : Type} {post : Int64 → S1 → Prop} {Wf cx : S1 → va_W} (isC isR isP : List Nat) (hC : isC.map (fun i => X[i]?) = wc.map some) (hC2 : isC.map (fun i => (X ++ pl)[i]?) = wc.map some) (hR : isR.map (fun i => X[i]?) = wr.map some) (hnd : va_nd isR = true) (hdis : ∀ i ∈ isR, i ∉ isC) (hPm : ∀ u, isP.map (fun i => (wr ++ Wf u)[i]?) = (cx u).map some) (hnP : va_nd isP = true) (S : CallFix p m c cc nL s args Ts own) (hM : Met l y wy rm (va_Pc (.ref b :: As) (Rw D cI cL cZ cO wc H.size)) (va_Ql post (fun u => Wo D (va_A wc H.size) (Wf u)) (va_A wc H.size)) mc ms (va_A wc H.size)) (cw : CallW R s args own C index y bytes maxL ret wy rm mc ms n) (hO : Okk D cI cL cZ cO s) (hP : va_P D vwCl (X ++ pl) H) (hD : va_D A0 (X ++ pl)) (hPc : va_P D vwCl wc H) (hDc : va_D A0 wc) (hS : va_S A0 H0 H locs) (hA : ∀ q, H0.size ≤ q → A0 q) (hv : Recv s H C b) (hn : As.length = n) (hsize : ls.size = nL) (hst : st0 = As.reverse ++ .ref b :: rest) (hW : (rest.map fun v => v.category).sum ≤ 8) (hdg : decode cc pc = .ok (.invokevirtual index, 3)) (hcl : cells + mc ≤ R.cells ∧ slots + ms ≤ R.slots)
    (kk : ∀ (r : Int64) (u : S1) (H1 : Heap) (locs1 : List Loc), post r u → va_P D vwCl (cx u ++ pl) H1 → va_D A0 (cx u ++ pl) → va_S A0 H0 H1 locs1 → W p l e R s m args below meth c H1 locs1 (cells + mc) (slots + ms) Q (F0 m (pc + 3) ls (.long r :: rest))) : W p l e R s m args below meth c H locs cells slots Q (F0 m pc ls st0) := by
  have hF := va_free (wc := wc) hD hS hA isC hC2
  refine va_calll (va_runV (g := F0 m pc ls st0) S hM cw ⟨Rw.blind, hv, fun U hU hW => ⟨rfl, by rw [hU], by rw [hU]; exact hPc, hO.warm hW, hDc.weaken (fun _ _ _ _ => trivial)⟩⟩ rfl hn hsize hst (lv_room hW) hdg hcl) hS (fun q _ h => hF q h) hF (fun r u t H1 locs1 ht _ hw hB _ hk1 hS1 => ?_)
  obtain ⟨h1, h2⟩ := va_joinQ (wr := wr) (w1 := Wf u) hP hD isC isR hC hR hnd hdis hk1 hF (ht ▸ hB.1) hB.2
  exact kk r u H1 locs1 hw (h1.part isP (hPm u)) (h2.part isP hnP (hPm u)) hS1
end PoolCalls
theorem prOk_c {x f t p : Int32} {nw : Nat} (h1 : ¬ wi x 0 2 = 0) (h2 : ¬ wi p (-1) 999 = 0) : prOk x f t p nw = if f < nI nw then 0 else if t < f then 0 else if t < 200 then 1 else 0 := by
  unfold prOk
  rw [if_neg h1, if_neg h2]
  have e199 : (199 : Int32).toInt = 199 := by decide
  have e200 : (200 : Int32).toInt = 200 := by decide
  by_cases q1 : f < nI nw
  · rw [if_pos q1, if_pos (wi_0 (fun z => i32_nlt.mpr z.1 q1))]
  · rw [if_neg q1]
    by_cases q2 : t < f
    · rw [if_pos q2]
      by_cases z : wi f (nI nw) 199 = 0
      · rw [if_pos z]
      · rw [if_neg z, if_pos (wi_0 (fun z => i32_nlt.mpr z.1 q2))]
    · rw [if_neg q2]
      by_cases q3 : t < 200
      · rw [if_pos q3]
        have a1 := Int32.lt_iff_toInt_lt.mp q3
        have a2 := Int32.le_iff_toInt_le.mp (i32_nlt.mp q2)
        rw [if_neg (by rw [wi_1 (i32_nlt.mp q1) (Int32.le_iff_toInt_le.mpr (by omega))]; decide), if_neg (by rw [wi_1 (i32_nlt.mp q2) (Int32.le_iff_toInt_le.mpr (by omega))]; decide)]
      · rw [if_neg q3]
        have a1 := Int32.le_iff_toInt_le.mp (i32_nlt.mp q3)
        by_cases z : wi f (nI nw) 199 = 0
        · rw [if_pos z]
        · rw [if_neg z, if_pos (wi_0 (fun z => by have := Int32.le_iff_toInt_le.mp z.2; omega))]
theorem wi_ne {a b c : Int32} (h : ¬ wi a b c = 0) : wi a b c = 1 := wi_1 (wi_t h).1 (wi_t h).2
set_option maxHeartbeats 4000000 in
set_option maxRecDepth 100000 in
theorem c_X6_price (l : Launch) (D : va_G) (cI cL cZ cO : ClassId) (sz : Nat) (o : Nat) (q ja ta : Nat → Nat) (n nw : Nat) (full : Int32) (pr : Nat → Int32) (R : Nat → Nat → Int32) (L : Nat) (kn : Int32) (lp ch : Nat → Int32) (me : Nat → Int64) (ru wo : Nat → Int32) (mb : Nat → Int64) (lf : Nat → Int32) (x f t p0 : Int32) (hnw : nw ≤ 200) : Met l yX6_price wsX6_price ({ frames := 3, cells := 0, slots := 0, locals := 68 } : Room) (va_Pc [.ref o, .int x, .int f, .int t, .int p0] (Rw D cI cL cZ cO (wC cI cL cO o q ja ta n nw full pr R L kn lp ch me ru wo mb lf) sz)) (va_Qi (fun (r : Int32) (u : Unit) => r = prOk x f t p0 nw) (fun (u : Unit) => Wo D (va_A (wC cI cL cO o q ja ta n nw full pr R L kn lp ch me ru wo mb lf) sz) (wC cI cL cO o q ja ta n nw full (prW pr x f t p0 nw) R L kn lp ch me ru wo mb lf)) (va_A (wC cI cL cO o q ja ta n nw full pr R L kn lp ch me ru wo mb lf) sz)) 0 0 (va_A (wC cI cL cO o q ja ta n nw full pr R L kn lp ch me ru wo mb lf) sz) := by
  refine Met.ofW (cc := cX6_price) (maxL := 5) (ret := (some .boolean)) (by decide) rfl ?_
  intro p e s m args below meth c s₁ B hml hv
  obtain ⟨rfl, hsz, hP, hO, hD0⟩ := hv
  have hx := B.exec
  have hb := B.bytes
  have hr := B.returns
  have hts := atoms_spec (ws := wsX6_price) B.pre
  have hown : s.vm.findClass RX6 = some m.cls := findClass_of_methodNamed B.named
  have hlocks := B.notSynchronized
  have hK := hO.1
  subst hsz
  have hD := hD0.self (sz := s.heap.size)
  generalize hAe : va_A (wC cI cL cO o q ja ta n nw full pr R L kn lp ch me ru wo mb lf) s.heap.size = A at hD ⊢
  have hA : ∀ q : Nat, s.heap.size ≤ q → A q := fun q h => by rw [← hAe]; exact Or.inr h
  have hS : va_S A s.heap s.heap [] := va_S.rf
  have hl := lv_entry ([.ref o, .int x, .int f, .int t, .int p0]) (n := 5) (Nat.le_of_ble_eq_true rfl)
  rw [lg_entry_eq]
  generalize (lg_sl ([.ref o, .int x, .int f, .int t, .int p0]) ++ List.replicate (5 - (lg_sl ([.ref o, .int x, .int f, .int t, .int p0])).length) Slot.unset).toArray = ls at hl ⊢
  have hl : lv_has ls 5 [(0, .ref o), (1, .int x), (2, .int f), (3, .int t), (4, .int p0)] := hl
  generalize hQQ : MQ below _ _ s _ _ _ = QQ
  refine lv_iload_n hx hb dX6_price_0 rfl (lv_at hl 1 rfl) ?_
  refine lv_iconst (v := 0) hx hb dX6_price_1 (by decide) ?_
  refine lv_iconst (v := 2) hx hb dX6_price_2 (by decide) ?_
  refine roSi (As := [.int x, .int 0, .int 2]) (rest := []) ⟨hx, hb, hml, hown, hts⟩ (c_X6_within l D cI cL cZ cO x 0 2 ) (va_cwS 3 hts gX6_price_X6_within rfl rfl rfl (by decide +kernel) ⟨Nat.le_of_ble_eq_true rfl, Nat.le_of_ble_eq_true rfl⟩) hO (fun k q h => by simp at h) rfl hl.1 rfl (Nat.le_of_ble_eq_true rfl) dX6_price_3 ⟨Nat.le_of_ble_eq_true rfl, Nat.le_of_ble_eq_true rfl⟩ (fun r_3 e_3 => ?_)
  obtain rfl : r_3 = wi x 0 2 := e_3
  refine lv_if_eq (tgt := 21) hx hb dX6_price_6 (by decide) (fun c_6 => ?_) (fun c_6 => ?_)
  · skip
    refine lv_iconst (v := 0) hx hb dX6_price_21 (by decide) ?_
    have hz : prOk x f t p0 nw = 0 := by simp only [prOk, if_pos c_6]
    have hw : prW pr x f t p0 nw = pr := if_pos hz
    rw [← hw] at hP hD
    rw [← hQQ]
    exact W.zret (v := 0) hx hb hr rfl (fun t9 ht9 hW9 => ⟨⟨_, (), rfl, hz.symm, by rw [ht9]; exact hP, hD⟩, hS.F ht9⟩) hS.2.2 dX6_price_22
  · skip
    refine lv_iload hx hb dX6_price_9 (lv_at hl 4 rfl) ?_
    refine lv_iconst (v := (-1)) hx hb dX6_price_11 (by decide) ?_
    refine lv_sipush (v := 999) hx hb dX6_price_12 (by decide) ?_
    refine roSi (As := [.int p0, .int (-1), .int 999]) (rest := []) ⟨hx, hb, hml, hown, hts⟩ (c_X6_within l D cI cL cZ cO p0 (-1) 999 ) (va_cwS 3 hts gX6_price_X6_within rfl rfl rfl (by decide +kernel) ⟨Nat.le_of_ble_eq_true rfl, Nat.le_of_ble_eq_true rfl⟩) hO (fun k q h => by simp at h) rfl hl.1 rfl (Nat.le_of_ble_eq_true rfl) dX6_price_15 ⟨Nat.le_of_ble_eq_true rfl, Nat.le_of_ble_eq_true rfl⟩ (fun r_15 e_15 => ?_)
    obtain rfl : r_15 = wi p0 (-1) 999 := e_15
    refine lv_if_ne (tgt := 23) hx hb dX6_price_18 (by decide) (fun c_18 => ?_) (fun c_18 => ?_)
    · skip
      refine lv_iload_n hx hb dX6_price_23 rfl (lv_at hl 2 rfl) ?_
      refine lv_aload_n hx hb dX6_price_24 rfl (lv_at hl 0 rfl) ?_
      refine va_get (D := D) (cl := vwCl) (ci := 5) (v := .int (nI nw)) (C := RX6) (T := TX6) (N := 6) hx hb hts (fun _ h => List.mem_cons_of_mem _ (List.mem_append_left _ (List.mem_append_right _ h))) hown hK hP 0 rfl rfl 5 (by decide) (hts (.fieldLink RX6 42 "CheapHours" "now" "I") (by decide +kernel)) (fun _ h9 => h9) rfl dX6_price_25 ?_
      refine lv_icmp_lt (tgt := 43) hx hb dX6_price_28 (by decide) (fun c_28 => ?_) (fun c_28 => ?_)
      · skip
        refine lv_iconst (v := 0) hx hb dX6_price_43 (by decide) ?_
        have hz : prOk x f t p0 nw = 0 := by rw [prOk_c c_6 c_18, if_pos c_28]
        have hw : prW pr x f t p0 nw = pr := if_pos hz
        rw [← hw] at hP hD
        rw [← hQQ]
        exact W.zret (v := 0) hx hb hr rfl (fun t9 ht9 hW9 => ⟨⟨_, (), rfl, hz.symm, by rw [ht9]; exact hP, hD⟩, hS.F ht9⟩) hS.2.2 dX6_price_44
      · skip
        refine lv_iload_n hx hb dX6_price_31 rfl (lv_at hl 2 rfl) ?_
        refine lv_iload_n hx hb dX6_price_32 rfl (lv_at hl 3 rfl) ?_
        refine lv_icmp_gt (tgt := 43) hx hb dX6_price_33 (by decide) (fun c_33 => ?_) (fun c_33 => ?_)
        · skip
          refine lv_iconst (v := 0) hx hb dX6_price_43 (by decide) ?_
          have hz : prOk x f t p0 nw = 0 := by rw [prOk_c c_6 c_18, if_neg c_28, if_pos c_33]
          have hw : prW pr x f t p0 nw = pr := if_pos hz
          rw [← hw] at hP hD
          rw [← hQQ]
          exact W.zret (v := 0) hx hb hr rfl (fun t9 ht9 hW9 => ⟨⟨_, (), rfl, hz.symm, by rw [ht9]; exact hP, hD⟩, hS.F ht9⟩) hS.2.2 dX6_price_44
        · skip
          refine lv_iload_n hx hb dX6_price_36 rfl (lv_at hl 3 rfl) ?_
          refine lv_sipush (v := 200) hx hb dX6_price_37 (by decide) ?_
          refine lv_icmp_lt (tgt := 45) hx hb dX6_price_40 (by decide) (fun c_40 => ?_) (fun c_40 => ?_)
          · skip
            have hok1 : prOk x f t p0 nw = 1 := by rw [prOk_c c_6 c_18, if_neg c_28, if_neg c_33, if_pos c_40]
            have hok : ¬ prOk x f t p0 nw = 0 := by rw [hok1]; decide
            obtain ⟨mk, fr, to, h1, h2, h3, h4, rfl, rfl, rfl⟩ := prOk_nat hnw hok
            refine lv_aload_n hx hb dX6_price_45 rfl (lv_at hl 0 rfl) ?_
            refine va_get (D := D) (cl := vwCl) (ci := 5) (v := .ref (q 0)) (C := RX6) (T := TX6) (N := 6) hx hb hts (fun _ h => List.mem_cons_of_mem _ (List.mem_append_left _ (List.mem_append_right _ h))) hown hK hP 0 rfl rfl 0 (by decide) (hts (.fieldLink RX6 10 "CheapHours" "prices" "LCheapHours$Prices;") (by decide +kernel)) (fun _ h9 => h9) rfl dX6_price_46 ?_
            refine lv_iload_n hx hb dX6_price_49 rfl (lv_at hl 1 rfl) ?_
            refine lv_iload_n hx hb dX6_price_50 rfl (lv_at hl 2 rfl) ?_
            refine lv_iload_n hx hb dX6_price_51 rfl (lv_at hl 3 rfl) ?_
            refine lv_iload hx hb dX6_price_52 (lv_at hl 4 rfl) ?_
            refine rwVvP (As := [.int (nI mk), .int (nI fr), .int (nI to), .int p0]) (rest := []) (X := wF cI cL cO o q ja n nw full pr L kn lp ch me ru wo mb lf) (pl := jP ja ta R n ++ tP ta R n) (wc := wP cI (q 0) (q 1) full pr) (wr := [(o, .inr (5, [.ref (q 0), .ref (q 2), .ref (q 3), .ref (q 10), .int (nI n), .int (nI nw)])), (q 2, .inl (cO, 12, .inr (.inr (.inr (.inr (jRef ja n)))))), (q 3, .inr (2, [.int (nI L), .int kn, .ref (q 0), .ref (q 4), .ref (q 5), .ref (q 6), .ref (q 7), .ref (q 8), .ref (q 9)])), (q 4, .inl (cI, 6, .inl lp)), (q 5, .inl (cI, 36, .inl ch)), (q 6, .inl (cL, 1014, .inr (.inl me))), (q 7, .inl (cI, 1014, .inl ru)), (q 8, .inl (cI, 1014, .inl wo)), (q 9, .inl (cL, 1014, .inr (.inl mb))), (q 10, .inr (0, [.ref (q 0), .ref (q 11)])), (q 11, .inl (cI, 900, .inl lf))]) (cx := fun u9 => wF cI cL cO o q ja n nw full (setR pr (200 * mk + fr) (200 * mk + to) p0) L kn lp ch me ru wo mb lf) [1, 2] [0, 3, 4, 5, 6, 7, 8, 9, 10, 11, 12] [0, 11, 12, 1, 2, 3, 4, 5, 6, 7, 8, 9, 10] rfl rfl rfl (by decide) (by decide) (fun _ => rfl) (by decide) ⟨hx, hb, hml, hown, hts⟩ (c_X4_put l D cI cL cZ cO s.heap.size (q 0) (q 1) full pr mk fr to p0 h1 h3 h4) (cwV 4 hts gX6_price_X4_put rfl rfl rfl (by decide +kernel) ⟨Nat.le_of_ble_eq_true rfl, Nat.le_of_ble_eq_true rfl⟩) hO hP hD (hP.sub [1, 2] rfl) (hD.sub [1, 2] (by decide) rfl) hS hA (va_recv hK hP (ci := 3) (q0 := 1) rfl rfl) rfl hl.1 rfl (Nat.le_of_ble_eq_true rfl) dX6_price_54 ⟨Nat.le_of_ble_eq_true rfl, Nat.le_of_ble_eq_true rfl⟩ (fun u_54 H locs e_54 hP hD hS => ?_)
            have hP : va_P D vwCl (wC cI cL cO o q ja ta n nw full (setR pr (200 * mk + fr) (200 * mk + to) p0) R L kn lp ch me ru wo mb lf) H := hP
            have hD : va_D A (wC cI cL cO o q ja ta n nw full (setR pr (200 * mk + fr) (200 * mk + to) p0) R L kn lp ch me ru wo mb lf) := hD
            refine lv_iconst (v := 1) hx hb dX6_price_57 (by decide) ?_
            have hw : prW pr (nI mk) (nI fr) (nI to) p0 nw = setR pr (200 * mk + fr) (200 * mk + to) p0 := by rw [prW, if_neg hok, nI_clamp (by omega), nI_clamp (by omega), nI_clamp (by omega)]
            rw [← hw] at hP hD
            rw [← hQQ]
            exact W.zret (v := 1) hx hb hr rfl (fun t9 ht9 hW9 => ⟨⟨_, (), rfl, hok1.symm, by rw [ht9]; exact hP, hD⟩, hS.F ht9⟩) hS.2.2 dX6_price_58
          · skip
            refine lv_iconst (v := 0) hx hb dX6_price_43 (by decide) ?_
            have hz : prOk x f t p0 nw = 0 := by rw [prOk_c c_6 c_18, if_neg c_28, if_neg c_33, if_neg c_40]
            have hw : prW pr x f t p0 nw = pr := if_pos hz
            rw [← hw] at hP hD
            rw [← hQQ]
            exact W.zret (v := 0) hx hb hr rfl (fun t9 ht9 hW9 => ⟨⟨_, (), rfl, hz.symm, by rw [ht9]; exact hP, hD⟩, hS.F ht9⟩) hS.2.2 dX6_price_44
    · skip
      refine lv_iconst (v := 0) hx hb dX6_price_21 (by decide) ?_
      have hz : prOk x f t p0 nw = 0 := by simp only [prOk, if_neg c_6, if_pos c_18]
      have hw : prW pr x f t p0 nw = pr := if_pos hz
      rw [← hw] at hP hD
      rw [← hQQ]
      exact W.zret (v := 0) hx hb hr rfl (fun t9 ht9 hW9 => ⟨⟨_, (), rfl, hz.symm, by rw [ht9]; exact hP, hD⟩, hS.F ht9⟩) hS.2.2 dX6_price_22
set_option maxHeartbeats 4000000 in
set_option maxRecDepth 100000 in
theorem c_X6_levels (l : Launch) (D : va_G) (cI cL cZ cO : ClassId) (sz : Nat) (o : Nat) (q ja ta : Nat → Nat) (n nw : Nat) (full : Int32) (pr : Nat → Int32) (R : Nat → Nat → Int32) (L : Nat) (kn : Int32) (lp ch : Nat → Int32) (me : Nat → Int64) (ru wo : Nat → Int32) (mb : Nat → Int64) (lf : Nat → Int32) (x : Int32) : Met l yX6_levels wsX6_levels ({ frames := 3, cells := 0, slots := 0, locals := 71 } : Room) (va_Pc [.ref o, .int x] (Rw D cI cL cZ cO (wC cI cL cO o q ja ta n nw full pr R L kn lp ch me ru wo mb lf) sz)) (va_Qi (fun (r : Int32) (u : (Nat → Int32) × (Nat → Int32) × Int32) => r = wi x 1 6 ∧ ((wi x 1 6 = 0 ∧ u = (lp, ch, kn)) ∨ (¬ wi x 1 6 = 0 ∧ u.2.2 = 0 ∧ (∀ i, i < lvsN x L → u.1 i = 0) ∧ ∀ i y, i < lvsN x L → y < 6 → u.2.1 (6 * i + y) = chI (6 * i + y)))) (fun (u : (Nat → Int32) × (Nat → Int32) × Int32) => Wo D (va_A (wC cI cL cO o q ja ta n nw full pr R L kn lp ch me ru wo mb lf) sz) (wC cI cL cO o q ja ta n nw full pr R (lvsN x L) u.2.2 u.1 u.2.1 me ru wo mb lf)) (va_A (wC cI cL cO o q ja ta n nw full pr R L kn lp ch me ru wo mb lf) sz)) 0 0 (va_A (wC cI cL cO o q ja ta n nw full pr R L kn lp ch me ru wo mb lf) sz) := by
  refine Met.ofW (cc := cX6_levels) (maxL := 2) (ret := (some .boolean)) (by decide) rfl ?_
  intro p e s m args below meth c s₁ B hml hv
  obtain ⟨rfl, hsz, hP, hO, hD0⟩ := hv
  have hx := B.exec
  have hb := B.bytes
  have hr := B.returns
  have hts := atoms_spec (ws := wsX6_levels) B.pre
  have hown : s.vm.findClass RX6 = some m.cls := findClass_of_methodNamed B.named
  have hlocks := B.notSynchronized
  have hK := hO.1
  subst hsz
  have hD := hD0.self (sz := s.heap.size)
  generalize hAe : va_A (wC cI cL cO o q ja ta n nw full pr R L kn lp ch me ru wo mb lf) s.heap.size = A at hD ⊢
  have hA : ∀ q : Nat, s.heap.size ≤ q → A q := fun q h => by rw [← hAe]; exact Or.inr h
  have hS : va_S A s.heap s.heap [] := va_S.rf
  have hl := lv_entry ([.ref o, .int x]) (n := 2) (Nat.le_of_ble_eq_true rfl)
  rw [lg_entry_eq]
  generalize (lg_sl ([.ref o, .int x]) ++ List.replicate (2 - (lg_sl ([.ref o, .int x])).length) Slot.unset).toArray = ls at hl ⊢
  have hl : lv_has ls 2 [(0, .ref o), (1, .int x)] := hl
  generalize hQQ : MQ below _ _ s _ _ _ = QQ
  refine lv_iload_n hx hb dX6_levels_0 rfl (lv_at hl 1 rfl) ?_
  refine lv_iconst (v := 1) hx hb dX6_levels_1 (by decide) ?_
  refine lv_bipush (v := 6) hx hb dX6_levels_2 (by decide) ?_
  refine roSi (As := [.int x, .int 1, .int 6]) (rest := []) ⟨hx, hb, hml, hown, hts⟩ (c_X6_within l D cI cL cZ cO x 1 6 ) (va_cwS 3 hts gX6_levels_X6_within rfl rfl rfl (by decide +kernel) ⟨Nat.le_of_ble_eq_true rfl, Nat.le_of_ble_eq_true rfl⟩) hO (fun k q h => by simp at h) rfl hl.1 rfl (Nat.le_of_ble_eq_true rfl) dX6_levels_4 ⟨Nat.le_of_ble_eq_true rfl, Nat.le_of_ble_eq_true rfl⟩ (fun r_4 e_4 => ?_)
  obtain rfl : r_4 = wi x 1 6 := e_4
  refine lv_if_ne (tgt := 12) hx hb dX6_levels_7 (by decide) (fun c_7 => ?_) (fun c_7 => ?_)
  · skip
    obtain ⟨N, h1, h2, rfl⟩ := wi_nat (a := 1) (b := 6) (by decide) (by decide) c_7
    refine lv_aload_n hx hb dX6_levels_12 rfl (lv_at hl 0 rfl) ?_
    refine va_get (D := D) (cl := vwCl) (ci := 5) (v := .ref (q 3)) (C := RX6) (T := TX6) (N := 6) hx hb hts (fun _ h => List.mem_cons_of_mem _ (List.mem_append_left _ (List.mem_append_right _ h))) hown hK hP 0 rfl rfl 2 (by decide) (hts (.fieldLink RX6 27 "CheapHours" "plan" "LCheapHours$Plan;") (by decide +kernel)) (fun _ h9 => h9) rfl dX6_levels_13 ?_
    refine lv_iload_n hx hb dX6_levels_16 rfl (lv_at hl 1 rfl) ?_
    refine rwVvP (As := [.int (nI N)]) (rest := []) (X := wF cI cL cO o q ja n nw full pr L kn lp ch me ru wo mb lf) (pl := jP ja ta R n ++ tP ta R n) (wc := wPl cI cL (q 3) (q 0) (q 1) (fun i => q (4 + i)) (nI L) kn full lp ch me ru wo mb) (wr := [(o, .inr (5, [.ref (q 0), .ref (q 2), .ref (q 3), .ref (q 10), .int (nI n), .int (nI nw)])), (q 1, .inl (cI, 600, .inl pr)), (q 2, .inl (cO, 12, .inr (.inr (.inr (.inr (jRef ja n)))))), (q 10, .inr (0, [.ref (q 0), .ref (q 11)])), (q 11, .inl (cI, 900, .inl lf))]) (cx := fun u9 => wF cI cL cO o q ja n nw full pr N 0 u9.1 u9.2 me ru wo mb lf) [4, 1, 5, 6, 7, 8, 9, 10] [0, 2, 3, 11, 12] [0, 6, 1, 2, 5, 7, 8, 9, 10, 11, 12, 3, 4] rfl rfl rfl (by decide) (by decide) (fun _ => rfl) (by decide) ⟨hx, hb, hml, hown, hts⟩ (c_X3_startAnew l D cI cL cZ cO s.heap.size (q 3) (q 0) (q 1) (fun i => q (4 + i)) kn full lp ch me ru wo mb L N ⟨h1, h2⟩) (cwV 1 hts gX6_levels_X3_startAnew rfl rfl rfl (by decide +kernel) ⟨Nat.le_of_ble_eq_true rfl, Nat.le_of_ble_eq_true rfl⟩) hO hP hD (hP.sub [4, 1, 5, 6, 7, 8, 9, 10] rfl) (hD.sub [4, 1, 5, 6, 7, 8, 9, 10] (by decide) rfl) hS hA (va_recv hK hP (ci := 2) (q0 := 4) rfl rfl) rfl hl.1 rfl (Nat.le_of_ble_eq_true rfl) dX6_levels_17 ⟨Nat.le_of_ble_eq_true rfl, Nat.le_of_ble_eq_true rfl⟩ (fun u_17 H locs e_17 hP hD hS => ?_)
    have hP : va_P D vwCl (wC cI cL cO o q ja ta n nw full pr R N 0 u_17.1 u_17.2 me ru wo mb lf) H := hP
    have hD : va_D A (wC cI cL cO o q ja ta n nw full pr R N 0 u_17.1 u_17.2 me ru wo mb lf) := hD
    refine lv_iconst (v := 1) hx hb dX6_levels_20 (by decide) ?_
    have h3 : lvsN (nI N) L = N := by rw [lvsN, if_neg c_7, nI_clamp (by omega)]
    rw [← h3] at hP hD e_17
    rw [← hQQ]
    exact W.zret (v := 1) hx hb hr rfl (fun t9 ht9 hW9 => ⟨⟨_, (u_17.1, u_17.2, 0), rfl, ⟨(wi_ne c_7).symm, Or.inr ⟨c_7, rfl, e_17.1, e_17.2⟩⟩, by rw [ht9]; exact hP, hD⟩, hS.F ht9⟩) hS.2.2 dX6_levels_21
  · skip
    refine lv_iconst (v := 0) hx hb dX6_levels_10 (by decide) ?_
    have h1 : lvsN x L = L := if_pos c_7
    rw [← h1] at hP hD
    rw [← hQQ]
    exact W.zret (v := 0) hx hb hr rfl (fun t9 ht9 hW9 => ⟨⟨_, (lp, ch, kn), rfl, ⟨c_7.symm, Or.inl ⟨c_7, rfl⟩⟩, by rw [ht9]; exact hP, hD⟩, hS.F ht9⟩) hS.2.2 dX6_levels_11
set_option maxHeartbeats 4000000 in
set_option maxRecDepth 100000 in
theorem c_X6_table (l : Launch) (D : va_G) (cI cL cZ cO : ClassId) (sz : Nat) (o : Nat) (q ja ta : Nat → Nat) (n nw : Nat) (full : Int32) (pr : Nat → Int32) (R : Nat → Nat → Int32) (L : Nat) (kn : Int32) (lp ch : Nat → Int32) (me : Nat → Int64) (ru wo : Nat → Int32) (mb : Nat → Int64) (lf : Nat → Int32) (x y z : Int32) (hL : L ≤ 6) (hkn : kn = 0 ∨ (kn = 1 ∧ tAll L lp ch full (-1) me ru wo)) : Met l yX6_table wsX6_table ({ frames := 6, cells := 0, slots := 0, locals := 155 } : Room) (va_Pc [.ref o, .int x, .int y, .int z] (Rw D cI cL cZ cO (wC cI cL cO o q ja ta n nw full pr R L kn lp ch me ru wo mb lf) sz)) (va_Ql (fun (r : Int64) (u : (Nat → Int64) × (Nat → Int32) × (Nat → Int32) × Int32) => r = tableV L lp ch full x y z ∧ (u.2.2.2 = 0 ∨ (u.2.2.2 = 1 ∧ tAll L lp ch full (-1) u.1 u.2.1 u.2.2.1))) (fun (u : (Nat → Int64) × (Nat → Int32) × (Nat → Int32) × Int32) => Wo D (va_A (wC cI cL cO o q ja ta n nw full pr R L kn lp ch me ru wo mb lf) sz) (wC cI cL cO o q ja ta n nw full pr R L u.2.2.2 lp ch u.1 u.2.1 u.2.2.1 mb lf)) (va_A (wC cI cL cO o q ja ta n nw full pr R L kn lp ch me ru wo mb lf) sz)) 0 0 (va_A (wC cI cL cO o q ja ta n nw full pr R L kn lp ch me ru wo mb lf) sz) := by
  refine Met.ofW (cc := cX6_table) (maxL := 4) (ret := (some .long)) (by decide) rfl ?_
  intro p e s m args below meth c s₁ B hml hv
  obtain ⟨rfl, hsz, hP, hO, hD0⟩ := hv
  have hx := B.exec
  have hb := B.bytes
  have hr := B.returns
  have hts := atoms_spec (ws := wsX6_table) B.pre
  have hown : s.vm.findClass RX6 = some m.cls := findClass_of_methodNamed B.named
  have hlocks := B.notSynchronized
  have hK := hO.1
  subst hsz
  have hD := hD0.self (sz := s.heap.size)
  generalize hAe : va_A (wC cI cL cO o q ja ta n nw full pr R L kn lp ch me ru wo mb lf) s.heap.size = A at hD ⊢
  have hA : ∀ q : Nat, s.heap.size ≤ q → A q := fun q h => by rw [← hAe]; exact Or.inr h
  have hS : va_S A s.heap s.heap [] := va_S.rf
  have hl := lv_entry ([.ref o, .int x, .int y, .int z]) (n := 4) (Nat.le_of_ble_eq_true rfl)
  rw [lg_entry_eq]
  generalize (lg_sl ([.ref o, .int x, .int y, .int z]) ++ List.replicate (4 - (lg_sl ([.ref o, .int x, .int y, .int z])).length) Slot.unset).toArray = ls at hl ⊢
  have hl : lv_has ls 4 [(0, .ref o), (1, .int x), (2, .int y), (3, .int z)] := hl
  generalize hQQ : MQ below _ _ s _ _ _ = QQ
  refine lv_aload_n hx hb dX6_table_0 rfl (lv_at hl 0 rfl) ?_
  refine va_get (D := D) (cl := vwCl) (ci := 5) (v := .ref (q 3)) (C := RX6) (T := TX6) (N := 6) hx hb hts (fun _ h => List.mem_cons_of_mem _ (List.mem_append_left _ (List.mem_append_left _ (List.mem_append_right _ h)))) hown hK hP 0 rfl rfl 2 (by decide) (hts (.fieldLink RX6 27 "CheapHours" "plan" "LCheapHours$Plan;") (List.mem_of_getElem? (i := 1) rfl)) (fun _ h9 => h9) rfl dX6_table_1 ?_
  refine lv_iload_n hx hb dX6_table_4 rfl (lv_at hl 1 rfl) ?_
  refine lv_iload_n hx hb dX6_table_5 rfl (lv_at hl 2 rfl) ?_
  refine lv_iload_n hx hb dX6_table_6 rfl (lv_at hl 3 rfl) ?_
  refine roVi (As := [.int x, .int y, .int z]) (rest := []) ⟨hx, hb, hml, hown, hts⟩ (c_X3_hasState l D cI cL cZ cO (q 3) (q 0) (q 1) (fun i => q (4 + i)) kn full lp ch me ru wo mb L x y z ) (cwV 3 hts gX6_table_X3_hasState rfl rfl rfl (by decide +kernel) ⟨Nat.le_of_ble_eq_true rfl, Nat.le_of_ble_eq_true rfl⟩) hO (hP.sub (ws' := wPl cI cL (q 3) (q 0) (q 1) (fun i => q (4 + i)) (nI L) kn full lp ch me ru wo mb) [4, 1, 5, 6, 7, 8, 9, 10] rfl) (va_recv hK hP (ci := 2) (q0 := 4) rfl rfl) rfl hl.1 rfl (Nat.le_of_ble_eq_true rfl) dX6_table_7 ⟨Nat.le_of_ble_eq_true rfl, Nat.le_of_ble_eq_true rfl⟩ (fun r_7 e_7 => ?_)
  obtain rfl : r_7 = stOk x y z L := e_7
  refine lv_if_eq (tgt := 26) hx hb dX6_table_10 (by decide) (fun c_10 => ?_) (fun c_10 => ?_)
  · skip
    refine lv_ldc2 (v := (-1)) hx hb hown (hts (.constantLong RX6 96 (-1)) (List.mem_of_getElem? (i := 2) rfl)) dX6_table_26 ?_
    rw [← hQQ]
    exact W.lret (v := (-1)) hx hb hr (fun t9 ht9 hW9 => ⟨⟨_, (me, ru, wo, kn), rfl, ⟨(if_pos c_10).symm, hkn⟩, by rw [ht9]; exact hP, hD⟩, hS.F ht9⟩) hS.2.2 dX6_table_29
  · skip
    obtain ⟨hh, w, lx, h1, h2, h3, rfl, rfl, rfl⟩ := stOk_nat hL c_10
    refine lv_aload_n hx hb dX6_table_13 rfl (lv_at hl 0 rfl) ?_
    refine va_get (D := D) (cl := vwCl) (ci := 5) (v := .ref (q 3)) (C := RX6) (T := TX6) (N := 6) hx hb hts (fun _ h => List.mem_cons_of_mem _ (List.mem_append_left _ (List.mem_append_left _ (List.mem_append_right _ h)))) hown hK hP 0 rfl rfl 2 (by decide) (hts (.fieldLink RX6 27 "CheapHours" "plan" "LCheapHours$Plan;") (List.mem_of_getElem? (i := 1) rfl)) (fun _ h9 => h9) rfl dX6_table_14 ?_
    refine lv_iload_n hx hb dX6_table_17 rfl (lv_at hl 1 rfl) ?_
    refine lv_iload_n hx hb dX6_table_18 rfl (lv_at hl 2 rfl) ?_
    refine lv_iload_n hx hb dX6_table_19 rfl (lv_at hl 3 rfl) ?_
    refine rwVlP (As := [.int (nI hh), .int (nI w), .int (nI lx)]) (rest := []) (X := wF cI cL cO o q ja n nw full pr L kn lp ch me ru wo mb lf) (pl := jP ja ta R n ++ tP ta R n) (wc := wPl cI cL (q 3) (q 0) (q 1) (fun i => q (4 + i)) (nI L) kn full lp ch me ru wo mb) (wr := [(o, .inr (5, [.ref (q 0), .ref (q 2), .ref (q 3), .ref (q 10), .int (nI n), .int (nI nw)])), (q 1, .inl (cI, 600, .inl pr)), (q 2, .inl (cO, 12, .inr (.inr (.inr (.inr (jRef ja n)))))), (q 10, .inr (0, [.ref (q 0), .ref (q 11)])), (q 11, .inl (cI, 900, .inl lf))]) (cx := fun u9 => wF cI cL cO o q ja n nw full pr L 1 lp ch u9.1 u9.2.1 u9.2.2 mb lf) [4, 1, 5, 6, 7, 8, 9, 10] [0, 2, 3, 11, 12] [0, 6, 1, 2, 5, 7, 8, 9, 10, 11, 12, 3, 4] rfl rfl rfl (by decide) (by decide) (fun _ => rfl) (by decide) ⟨hx, hb, hml, hown, hts⟩ (c_X3_meanOf l D cI cL cZ cO s.heap.size (q 3) (q 0) (q 1) (fun i => q (4 + i)) kn full lp ch me ru wo mb L hh w lx hL hkn h1 h2 h3) (cwV 3 hts gX6_table_X3_meanOf rfl rfl rfl (by decide +kernel) ⟨Nat.le_of_ble_eq_true rfl, Nat.le_of_ble_eq_true rfl⟩) hO hP hD (hP.sub [4, 1, 5, 6, 7, 8, 9, 10] rfl) (hD.sub [4, 1, 5, 6, 7, 8, 9, 10] (by decide) rfl) hS hA (va_recv hK hP (ci := 2) (q0 := 4) rfl rfl) rfl hl.1 rfl (Nat.le_of_ble_eq_true rfl) dX6_table_20 ⟨Nat.le_of_ble_eq_true rfl, Nat.le_of_ble_eq_true rfl⟩ (fun r_20 u_20 H locs e_20 hP hD hS => ?_)
    have hP : va_P D vwCl (wC cI cL cO o q ja ta n nw full pr R L 1 lp ch u_20.1 u_20.2.1 u_20.2.2 mb lf) H := hP
    have hD : va_D A (wC cI cL cO o q ja ta n nw full pr R L 1 lp ch u_20.1 u_20.2.1 u_20.2.2 mb lf) := hD
    refine lv_goto (tgt := 29) hx hb dX6_table_23 (by decide) ?_
    rw [← hQQ]
    exact W.lret (v := r_20) hx hb hr (fun t9 ht9 hW9 => ⟨⟨_, (u_20.1, u_20.2.1, u_20.2.2, 1), rfl, ⟨by rw [tableV, if_neg c_10, nI_clamp (by omega), nI_clamp (by omega), nI_clamp (by omega)]; exact e_20.1, Or.inr ⟨rfl, e_20.2⟩⟩, by rw [ht9]; exact hP, hD⟩, hS.F ht9⟩) hS.2.2 dX6_table_29
set_option maxHeartbeats 4000000 in
set_option maxRecDepth 100000 in
theorem c_X6_rule (l : Launch) (D : va_G) (cI cL cZ cO : ClassId) (sz : Nat) (o : Nat) (q ja ta : Nat → Nat) (n nw : Nat) (full : Int32) (pr : Nat → Int32) (R : Nat → Nat → Int32) (L : Nat) (kn : Int32) (lp ch : Nat → Int32) (me : Nat → Int64) (ru wo : Nat → Int32) (mb : Nat → Int64) (lf : Nat → Int32) (x y z : Int32) (hL : L ≤ 6) (hkn : kn = 0 ∨ (kn = 1 ∧ tAll L lp ch full (-1) me ru wo)) : Met l yX6_rule wsX6_rule ({ frames := 6, cells := 0, slots := 0, locals := 155 } : Room) (va_Pc [.ref o, .int x, .int y, .int z] (Rw D cI cL cZ cO (wC cI cL cO o q ja ta n nw full pr R L kn lp ch me ru wo mb lf) sz)) (va_Qi (fun (r : Int32) (u : (Nat → Int64) × (Nat → Int32) × (Nat → Int32) × Int32) => r = ruleV L lp ch full x y z ∧ (u.2.2.2 = 0 ∨ (u.2.2.2 = 1 ∧ tAll L lp ch full (-1) u.1 u.2.1 u.2.2.1))) (fun (u : (Nat → Int64) × (Nat → Int32) × (Nat → Int32) × Int32) => Wo D (va_A (wC cI cL cO o q ja ta n nw full pr R L kn lp ch me ru wo mb lf) sz) (wC cI cL cO o q ja ta n nw full pr R L u.2.2.2 lp ch u.1 u.2.1 u.2.2.1 mb lf)) (va_A (wC cI cL cO o q ja ta n nw full pr R L kn lp ch me ru wo mb lf) sz)) 0 0 (va_A (wC cI cL cO o q ja ta n nw full pr R L kn lp ch me ru wo mb lf) sz) := by
  refine Met.ofW (cc := cX6_rule) (maxL := 4) (ret := (some .int)) (by decide) rfl ?_
  intro p e s m args below meth c s₁ B hml hv
  obtain ⟨rfl, hsz, hP, hO, hD0⟩ := hv
  have hx := B.exec
  have hb := B.bytes
  have hr := B.returns
  have hts := atoms_spec (ws := wsX6_rule) B.pre
  have hown : s.vm.findClass RX6 = some m.cls := findClass_of_methodNamed B.named
  have hlocks := B.notSynchronized
  have hK := hO.1
  subst hsz
  have hD := hD0.self (sz := s.heap.size)
  generalize hAe : va_A (wC cI cL cO o q ja ta n nw full pr R L kn lp ch me ru wo mb lf) s.heap.size = A at hD ⊢
  have hA : ∀ q : Nat, s.heap.size ≤ q → A q := fun q h => by rw [← hAe]; exact Or.inr h
  have hS : va_S A s.heap s.heap [] := va_S.rf
  have hl := lv_entry ([.ref o, .int x, .int y, .int z]) (n := 4) (Nat.le_of_ble_eq_true rfl)
  rw [lg_entry_eq]
  generalize (lg_sl ([.ref o, .int x, .int y, .int z]) ++ List.replicate (4 - (lg_sl ([.ref o, .int x, .int y, .int z])).length) Slot.unset).toArray = ls at hl ⊢
  have hl : lv_has ls 4 [(0, .ref o), (1, .int x), (2, .int y), (3, .int z)] := hl
  generalize hQQ : MQ below _ _ s _ _ _ = QQ
  refine lv_aload_n hx hb dX6_rule_0 rfl (lv_at hl 0 rfl) ?_
  refine va_get (D := D) (cl := vwCl) (ci := 5) (v := .ref (q 3)) (C := RX6) (T := TX6) (N := 6) hx hb hts (fun _ h => List.mem_cons_of_mem _ (List.mem_append_left _ (List.mem_append_left _ (List.mem_append_right _ h)))) hown hK hP 0 rfl rfl 2 (by decide) (hts (.fieldLink RX6 27 "CheapHours" "plan" "LCheapHours$Plan;") (List.mem_of_getElem? (i := 1) rfl)) (fun _ h9 => h9) rfl dX6_rule_1 ?_
  refine lv_iload_n hx hb dX6_rule_4 rfl (lv_at hl 1 rfl) ?_
  refine lv_iload_n hx hb dX6_rule_5 rfl (lv_at hl 2 rfl) ?_
  refine lv_iload_n hx hb dX6_rule_6 rfl (lv_at hl 3 rfl) ?_
  refine roVi (As := [.int x, .int y, .int z]) (rest := []) ⟨hx, hb, hml, hown, hts⟩ (c_X3_hasState l D cI cL cZ cO (q 3) (q 0) (q 1) (fun i => q (4 + i)) kn full lp ch me ru wo mb L x y z ) (cwV 3 hts gX6_rule_X3_hasState rfl rfl rfl (by decide +kernel) ⟨Nat.le_of_ble_eq_true rfl, Nat.le_of_ble_eq_true rfl⟩) hO (hP.sub (ws' := wPl cI cL (q 3) (q 0) (q 1) (fun i => q (4 + i)) (nI L) kn full lp ch me ru wo mb) [4, 1, 5, 6, 7, 8, 9, 10] rfl) (va_recv hK hP (ci := 2) (q0 := 4) rfl rfl) rfl hl.1 rfl (Nat.le_of_ble_eq_true rfl) dX6_rule_7 ⟨Nat.le_of_ble_eq_true rfl, Nat.le_of_ble_eq_true rfl⟩ (fun r_7 e_7 => ?_)
  obtain rfl : r_7 = stOk x y z L := e_7
  refine lv_if_eq (tgt := 26) hx hb dX6_rule_10 (by decide) (fun c_10 => ?_) (fun c_10 => ?_)
  · skip
    refine lv_iconst (v := (-1)) hx hb dX6_rule_26 (by decide) ?_
    rw [← hQQ]
    exact W.iret (v := (-1)) hx hb hr (fun t9 ht9 hW9 => ⟨⟨_, (me, ru, wo, kn), rfl, ⟨(if_pos c_10).symm, hkn⟩, by rw [ht9]; exact hP, hD⟩, hS.F ht9⟩) hS.2.2 dX6_rule_27
  · skip
    obtain ⟨hh, w, lx, h1, h2, h3, rfl, rfl, rfl⟩ := stOk_nat hL c_10
    refine lv_aload_n hx hb dX6_rule_13 rfl (lv_at hl 0 rfl) ?_
    refine va_get (D := D) (cl := vwCl) (ci := 5) (v := .ref (q 3)) (C := RX6) (T := TX6) (N := 6) hx hb hts (fun _ h => List.mem_cons_of_mem _ (List.mem_append_left _ (List.mem_append_left _ (List.mem_append_right _ h)))) hown hK hP 0 rfl rfl 2 (by decide) (hts (.fieldLink RX6 27 "CheapHours" "plan" "LCheapHours$Plan;") (List.mem_of_getElem? (i := 1) rfl)) (fun _ h9 => h9) rfl dX6_rule_14 ?_
    refine lv_iload_n hx hb dX6_rule_17 rfl (lv_at hl 1 rfl) ?_
    refine lv_iload_n hx hb dX6_rule_18 rfl (lv_at hl 2 rfl) ?_
    refine lv_iload_n hx hb dX6_rule_19 rfl (lv_at hl 3 rfl) ?_
    refine rwViP (As := [.int (nI hh), .int (nI w), .int (nI lx)]) (rest := []) (X := wF cI cL cO o q ja n nw full pr L kn lp ch me ru wo mb lf) (pl := jP ja ta R n ++ tP ta R n) (wc := wPl cI cL (q 3) (q 0) (q 1) (fun i => q (4 + i)) (nI L) kn full lp ch me ru wo mb) (wr := [(o, .inr (5, [.ref (q 0), .ref (q 2), .ref (q 3), .ref (q 10), .int (nI n), .int (nI nw)])), (q 1, .inl (cI, 600, .inl pr)), (q 2, .inl (cO, 12, .inr (.inr (.inr (.inr (jRef ja n)))))), (q 10, .inr (0, [.ref (q 0), .ref (q 11)])), (q 11, .inl (cI, 900, .inl lf))]) (cx := fun u9 => wF cI cL cO o q ja n nw full pr L 1 lp ch u9.1 u9.2.1 u9.2.2 mb lf) [4, 1, 5, 6, 7, 8, 9, 10] [0, 2, 3, 11, 12] [0, 6, 1, 2, 5, 7, 8, 9, 10, 11, 12, 3, 4] rfl rfl rfl (by decide) (by decide) (fun _ => rfl) (by decide) ⟨hx, hb, hml, hown, hts⟩ (c_X3_ruleOf l D cI cL cZ cO s.heap.size (q 3) (q 0) (q 1) (fun i => q (4 + i)) kn full lp ch me ru wo mb L hh w lx hL hkn h1 h2 h3) (cwV 3 hts gX6_rule_X3_ruleOf rfl rfl rfl (by decide +kernel) ⟨Nat.le_of_ble_eq_true rfl, Nat.le_of_ble_eq_true rfl⟩) hO hP hD (hP.sub [4, 1, 5, 6, 7, 8, 9, 10] rfl) (hD.sub [4, 1, 5, 6, 7, 8, 9, 10] (by decide) rfl) hS hA (va_recv hK hP (ci := 2) (q0 := 4) rfl rfl) rfl hl.1 rfl (Nat.le_of_ble_eq_true rfl) dX6_rule_20 ⟨Nat.le_of_ble_eq_true rfl, Nat.le_of_ble_eq_true rfl⟩ (fun r_20 u_20 H locs e_20 hP hD hS => ?_)
    have hP : va_P D vwCl (wC cI cL cO o q ja ta n nw full pr R L 1 lp ch u_20.1 u_20.2.1 u_20.2.2 mb lf) H := hP
    have hD : va_D A (wC cI cL cO o q ja ta n nw full pr R L 1 lp ch u_20.1 u_20.2.1 u_20.2.2 mb lf) := hD
    refine lv_goto (tgt := 27) hx hb dX6_rule_23 (by decide) ?_
    rw [← hQQ]
    exact W.iret (v := r_20) hx hb hr (fun t9 ht9 hW9 => ⟨⟨_, (u_20.1, u_20.2.1, u_20.2.2, 1), rfl, ⟨by rw [ruleV, if_neg c_10, nI_clamp (by omega), nI_clamp (by omega), nI_clamp (by omega)]; exact e_20.1, Or.inr ⟨rfl, e_20.2⟩⟩, by rw [ht9]; exact hP, hD⟩, hS.F ht9⟩) hS.2.2 dX6_rule_27
set_option maxHeartbeats 4000000 in
set_option maxRecDepth 100000 in
theorem c_X6_worst (l : Launch) (D : va_G) (cI cL cZ cO : ClassId) (sz : Nat) (o : Nat) (q ja ta : Nat → Nat) (n nw : Nat) (full : Int32) (pr : Nat → Int32) (R : Nat → Nat → Int32) (L : Nat) (kn : Int32) (lp ch : Nat → Int32) (me : Nat → Int64) (ru wo : Nat → Int32) (mb : Nat → Int64) (lf : Nat → Int32) (x y z : Int32) (hL : L ≤ 6) (hkn : kn = 0 ∨ (kn = 1 ∧ tAll L lp ch full (-1) me ru wo)) : Met l yX6_worst wsX6_worst ({ frames := 6, cells := 0, slots := 0, locals := 155 } : Room) (va_Pc [.ref o, .int x, .int y, .int z] (Rw D cI cL cZ cO (wC cI cL cO o q ja ta n nw full pr R L kn lp ch me ru wo mb lf) sz)) (va_Qi (fun (r : Int32) (u : (Nat → Int64) × (Nat → Int32) × (Nat → Int32) × Int32) => r = worstV L lp ch full x y z ∧ (u.2.2.2 = 0 ∨ (u.2.2.2 = 1 ∧ tAll L lp ch full (-1) u.1 u.2.1 u.2.2.1))) (fun (u : (Nat → Int64) × (Nat → Int32) × (Nat → Int32) × Int32) => Wo D (va_A (wC cI cL cO o q ja ta n nw full pr R L kn lp ch me ru wo mb lf) sz) (wC cI cL cO o q ja ta n nw full pr R L u.2.2.2 lp ch u.1 u.2.1 u.2.2.1 mb lf)) (va_A (wC cI cL cO o q ja ta n nw full pr R L kn lp ch me ru wo mb lf) sz)) 0 0 (va_A (wC cI cL cO o q ja ta n nw full pr R L kn lp ch me ru wo mb lf) sz) := by
  refine Met.ofW (cc := cX6_worst) (maxL := 4) (ret := (some .int)) (by decide) rfl ?_
  intro p e s m args below meth c s₁ B hml hv
  obtain ⟨rfl, hsz, hP, hO, hD0⟩ := hv
  have hx := B.exec
  have hb := B.bytes
  have hr := B.returns
  have hts := atoms_spec (ws := wsX6_worst) B.pre
  have hown : s.vm.findClass RX6 = some m.cls := findClass_of_methodNamed B.named
  have hlocks := B.notSynchronized
  have hK := hO.1
  subst hsz
  have hD := hD0.self (sz := s.heap.size)
  generalize hAe : va_A (wC cI cL cO o q ja ta n nw full pr R L kn lp ch me ru wo mb lf) s.heap.size = A at hD ⊢
  have hA : ∀ q : Nat, s.heap.size ≤ q → A q := fun q h => by rw [← hAe]; exact Or.inr h
  have hS : va_S A s.heap s.heap [] := va_S.rf
  have hl := lv_entry ([.ref o, .int x, .int y, .int z]) (n := 4) (Nat.le_of_ble_eq_true rfl)
  rw [lg_entry_eq]
  generalize (lg_sl ([.ref o, .int x, .int y, .int z]) ++ List.replicate (4 - (lg_sl ([.ref o, .int x, .int y, .int z])).length) Slot.unset).toArray = ls at hl ⊢
  have hl : lv_has ls 4 [(0, .ref o), (1, .int x), (2, .int y), (3, .int z)] := hl
  generalize hQQ : MQ below _ _ s _ _ _ = QQ
  refine lv_aload_n hx hb dX6_worst_0 rfl (lv_at hl 0 rfl) ?_
  refine va_get (D := D) (cl := vwCl) (ci := 5) (v := .ref (q 3)) (C := RX6) (T := TX6) (N := 6) hx hb hts (fun _ h => List.mem_cons_of_mem _ (List.mem_append_left _ (List.mem_append_left _ (List.mem_append_right _ h)))) hown hK hP 0 rfl rfl 2 (by decide) (hts (.fieldLink RX6 27 "CheapHours" "plan" "LCheapHours$Plan;") (List.mem_of_getElem? (i := 1) rfl)) (fun _ h9 => h9) rfl dX6_worst_1 ?_
  refine lv_iload_n hx hb dX6_worst_4 rfl (lv_at hl 1 rfl) ?_
  refine lv_iload_n hx hb dX6_worst_5 rfl (lv_at hl 2 rfl) ?_
  refine lv_iload_n hx hb dX6_worst_6 rfl (lv_at hl 3 rfl) ?_
  refine roVi (As := [.int x, .int y, .int z]) (rest := []) ⟨hx, hb, hml, hown, hts⟩ (c_X3_hasState l D cI cL cZ cO (q 3) (q 0) (q 1) (fun i => q (4 + i)) kn full lp ch me ru wo mb L x y z ) (cwV 3 hts gX6_worst_X3_hasState rfl rfl rfl (by decide +kernel) ⟨Nat.le_of_ble_eq_true rfl, Nat.le_of_ble_eq_true rfl⟩) hO (hP.sub (ws' := wPl cI cL (q 3) (q 0) (q 1) (fun i => q (4 + i)) (nI L) kn full lp ch me ru wo mb) [4, 1, 5, 6, 7, 8, 9, 10] rfl) (va_recv hK hP (ci := 2) (q0 := 4) rfl rfl) rfl hl.1 rfl (Nat.le_of_ble_eq_true rfl) dX6_worst_7 ⟨Nat.le_of_ble_eq_true rfl, Nat.le_of_ble_eq_true rfl⟩ (fun r_7 e_7 => ?_)
  obtain rfl : r_7 = stOk x y z L := e_7
  refine lv_if_eq (tgt := 26) hx hb dX6_worst_10 (by decide) (fun c_10 => ?_) (fun c_10 => ?_)
  · skip
    refine lv_iconst (v := (-1)) hx hb dX6_worst_26 (by decide) ?_
    rw [← hQQ]
    exact W.iret (v := (-1)) hx hb hr (fun t9 ht9 hW9 => ⟨⟨_, (me, ru, wo, kn), rfl, ⟨(if_pos c_10).symm, hkn⟩, by rw [ht9]; exact hP, hD⟩, hS.F ht9⟩) hS.2.2 dX6_worst_27
  · skip
    obtain ⟨hh, w, lx, h1, h2, h3, rfl, rfl, rfl⟩ := stOk_nat hL c_10
    refine lv_aload_n hx hb dX6_worst_13 rfl (lv_at hl 0 rfl) ?_
    refine va_get (D := D) (cl := vwCl) (ci := 5) (v := .ref (q 3)) (C := RX6) (T := TX6) (N := 6) hx hb hts (fun _ h => List.mem_cons_of_mem _ (List.mem_append_left _ (List.mem_append_left _ (List.mem_append_right _ h)))) hown hK hP 0 rfl rfl 2 (by decide) (hts (.fieldLink RX6 27 "CheapHours" "plan" "LCheapHours$Plan;") (List.mem_of_getElem? (i := 1) rfl)) (fun _ h9 => h9) rfl dX6_worst_14 ?_
    refine lv_iload_n hx hb dX6_worst_17 rfl (lv_at hl 1 rfl) ?_
    refine lv_iload_n hx hb dX6_worst_18 rfl (lv_at hl 2 rfl) ?_
    refine lv_iload_n hx hb dX6_worst_19 rfl (lv_at hl 3 rfl) ?_
    refine rwViP (As := [.int (nI hh), .int (nI w), .int (nI lx)]) (rest := []) (X := wF cI cL cO o q ja n nw full pr L kn lp ch me ru wo mb lf) (pl := jP ja ta R n ++ tP ta R n) (wc := wPl cI cL (q 3) (q 0) (q 1) (fun i => q (4 + i)) (nI L) kn full lp ch me ru wo mb) (wr := [(o, .inr (5, [.ref (q 0), .ref (q 2), .ref (q 3), .ref (q 10), .int (nI n), .int (nI nw)])), (q 1, .inl (cI, 600, .inl pr)), (q 2, .inl (cO, 12, .inr (.inr (.inr (.inr (jRef ja n)))))), (q 10, .inr (0, [.ref (q 0), .ref (q 11)])), (q 11, .inl (cI, 900, .inl lf))]) (cx := fun u9 => wF cI cL cO o q ja n nw full pr L 1 lp ch u9.1 u9.2.1 u9.2.2 mb lf) [4, 1, 5, 6, 7, 8, 9, 10] [0, 2, 3, 11, 12] [0, 6, 1, 2, 5, 7, 8, 9, 10, 11, 12, 3, 4] rfl rfl rfl (by decide) (by decide) (fun _ => rfl) (by decide) ⟨hx, hb, hml, hown, hts⟩ (c_X3_greatestOf l D cI cL cZ cO s.heap.size (q 3) (q 0) (q 1) (fun i => q (4 + i)) kn full lp ch me ru wo mb L hh w lx hL hkn h1 h2 h3) (cwV 3 hts gX6_worst_X3_greatestOf rfl rfl rfl (by decide +kernel) ⟨Nat.le_of_ble_eq_true rfl, Nat.le_of_ble_eq_true rfl⟩) hO hP hD (hP.sub [4, 1, 5, 6, 7, 8, 9, 10] rfl) (hD.sub [4, 1, 5, 6, 7, 8, 9, 10] (by decide) rfl) hS hA (va_recv hK hP (ci := 2) (q0 := 4) rfl rfl) rfl hl.1 rfl (Nat.le_of_ble_eq_true rfl) dX6_worst_20 ⟨Nat.le_of_ble_eq_true rfl, Nat.le_of_ble_eq_true rfl⟩ (fun r_20 u_20 H locs e_20 hP hD hS => ?_)
    have hP : va_P D vwCl (wC cI cL cO o q ja ta n nw full pr R L 1 lp ch u_20.1 u_20.2.1 u_20.2.2 mb lf) H := hP
    have hD : va_D A (wC cI cL cO o q ja ta n nw full pr R L 1 lp ch u_20.1 u_20.2.1 u_20.2.2 mb lf) := hD
    refine lv_goto (tgt := 27) hx hb dX6_worst_23 (by decide) ?_
    rw [← hQQ]
    exact W.iret (v := r_20) hx hb hr (fun t9 ht9 hW9 => ⟨⟨_, (u_20.1, u_20.2.1, u_20.2.2, 1), rfl, ⟨by rw [worstV, if_neg c_10, nI_clamp (by omega), nI_clamp (by omega), nI_clamp (by omega)]; exact e_20.1, Or.inr ⟨rfl, e_20.2⟩⟩, by rw [ht9]; exact hP, hD⟩, hS.F ht9⟩) hS.2.2 dX6_worst_27
set_option maxHeartbeats 4000000 in
set_option maxRecDepth 100000 in
theorem c_X6_capped (l : Launch) (D : va_G) (cI cL cZ cO : ClassId) (sz : Nat) (o : Nat) (q ja ta : Nat → Nat) (n nw : Nat) (full : Int32) (pr : Nat → Int32) (R : Nat → Nat → Int32) (L : Nat) (kn : Int32) (lp ch : Nat → Int32) (me : Nat → Int64) (ru wo : Nat → Int32) (mb : Nat → Int64) (lf : Nat → Int32) (x y z cp : Int32) (hL : L ≤ 6) : Met l yX6_capped wsX6_capped ({ frames := 5, cells := 0, slots := 0, locals := 128 } : Room) (va_Pc [.ref o, .int x, .int y, .int z, .int cp] (Rw D cI cL cZ cO (wC cI cL cO o q ja ta n nw full pr R L kn lp ch me ru wo mb lf) sz)) (va_Ql (fun (r : Int64) (u : Nat → Int64) => r = cappedV L lp ch full x y z cp) (fun (u : Nat → Int64) => Wo D (va_A (wC cI cL cO o q ja ta n nw full pr R L kn lp ch me ru wo mb lf) sz) (wC cI cL cO o q ja ta n nw full pr R L kn lp ch me ru wo u lf)) (va_A (wC cI cL cO o q ja ta n nw full pr R L kn lp ch me ru wo mb lf) sz)) 0 0 (va_A (wC cI cL cO o q ja ta n nw full pr R L kn lp ch me ru wo mb lf) sz) := by
  refine Met.ofW (cc := cX6_capped) (maxL := 5) (ret := (some .long)) (by decide) rfl ?_
  intro p e s m args below meth c s₁ B hml hv
  obtain ⟨rfl, hsz, hP, hO, hD0⟩ := hv
  have hx := B.exec
  have hb := B.bytes
  have hr := B.returns
  have hts := atoms_spec (ws := wsX6_capped) B.pre
  have hown : s.vm.findClass RX6 = some m.cls := findClass_of_methodNamed B.named
  have hlocks := B.notSynchronized
  have hK := hO.1
  subst hsz
  have hD := hD0.self (sz := s.heap.size)
  generalize hAe : va_A (wC cI cL cO o q ja ta n nw full pr R L kn lp ch me ru wo mb lf) s.heap.size = A at hD ⊢
  have hA : ∀ q : Nat, s.heap.size ≤ q → A q := fun q h => by rw [← hAe]; exact Or.inr h
  have hS : va_S A s.heap s.heap [] := va_S.rf
  have hl := lv_entry ([.ref o, .int x, .int y, .int z, .int cp]) (n := 5) (Nat.le_of_ble_eq_true rfl)
  rw [lg_entry_eq]
  generalize (lg_sl ([.ref o, .int x, .int y, .int z, .int cp]) ++ List.replicate (5 - (lg_sl ([.ref o, .int x, .int y, .int z, .int cp])).length) Slot.unset).toArray = ls at hl ⊢
  have hl : lv_has ls 5 [(0, .ref o), (1, .int x), (2, .int y), (3, .int z), (4, .int cp)] := hl
  generalize hQQ : MQ below _ _ s _ _ _ = QQ
  refine lv_aload_n hx hb dX6_capped_0 rfl (lv_at hl 0 rfl) ?_
  refine va_get (D := D) (cl := vwCl) (ci := 5) (v := .ref (q 3)) (C := RX6) (T := TX6) (N := 6) hx hb hts (fun _ h => List.mem_cons_of_mem _ (List.mem_append_left _ (List.mem_append_left _ (List.mem_append_right _ h)))) hown hK hP 0 rfl rfl 2 (by decide) (hts (.fieldLink RX6 27 "CheapHours" "plan" "LCheapHours$Plan;") (List.mem_of_getElem? (i := 1) rfl)) (fun _ h9 => h9) rfl dX6_capped_1 ?_
  refine lv_iload_n hx hb dX6_capped_4 rfl (lv_at hl 1 rfl) ?_
  refine lv_iload_n hx hb dX6_capped_5 rfl (lv_at hl 2 rfl) ?_
  refine lv_iload_n hx hb dX6_capped_6 rfl (lv_at hl 3 rfl) ?_
  refine roVi (As := [.int x, .int y, .int z]) (rest := []) ⟨hx, hb, hml, hown, hts⟩ (c_X3_hasState l D cI cL cZ cO (q 3) (q 0) (q 1) (fun i => q (4 + i)) kn full lp ch me ru wo mb L x y z ) (cwV 3 hts gX6_capped_X3_hasState rfl rfl rfl (by decide +kernel) ⟨Nat.le_of_ble_eq_true rfl, Nat.le_of_ble_eq_true rfl⟩) hO (hP.sub (ws' := wPl cI cL (q 3) (q 0) (q 1) (fun i => q (4 + i)) (nI L) kn full lp ch me ru wo mb) [4, 1, 5, 6, 7, 8, 9, 10] rfl) (va_recv hK hP (ci := 2) (q0 := 4) rfl rfl) rfl hl.1 rfl (Nat.le_of_ble_eq_true rfl) dX6_capped_7 ⟨Nat.le_of_ble_eq_true rfl, Nat.le_of_ble_eq_true rfl⟩ (fun r_7 e_7 => ?_)
  obtain rfl : r_7 = stOk x y z L := e_7
  refine lv_if_eq (tgt := 25) hx hb dX6_capped_10 (by decide) (fun c_10 => ?_) (fun c_10 => ?_)
  · skip
    refine lv_ldc2 (v := (-1)) hx hb hown (hts (.constantLong RX6 96 (-1)) (List.mem_of_getElem? (i := 2) rfl)) dX6_capped_25 ?_
    rw [← hQQ]
    exact W.lret (v := (-1)) hx hb hr (fun t9 ht9 hW9 => ⟨⟨_, mb, rfl, by simp only [cappedV, if_pos c_10], by rw [ht9]; exact hP, hD⟩, hS.F ht9⟩) hS.2.2 dX6_capped_28
  · skip
    refine lv_iload hx hb dX6_capped_13 (lv_at hl 4 rfl) ?_
    refine lv_iconst (v := 0) hx hb dX6_capped_15 (by decide) ?_
    refine lv_sipush (v := 999) hx hb dX6_capped_16 (by decide) ?_
    refine roSi (As := [.int cp, .int 0, .int 999]) (rest := []) ⟨hx, hb, hml, hown, hts⟩ (c_X6_within l D cI cL cZ cO cp 0 999 ) (va_cwS 3 hts gX6_capped_X6_within rfl rfl rfl (by decide +kernel) ⟨Nat.le_of_ble_eq_true rfl, Nat.le_of_ble_eq_true rfl⟩) hO (fun k q h => by simp at h) rfl hl.1 rfl (Nat.le_of_ble_eq_true rfl) dX6_capped_19 ⟨Nat.le_of_ble_eq_true rfl, Nat.le_of_ble_eq_true rfl⟩ (fun r_19 e_19 => ?_)
    obtain rfl : r_19 = wi cp 0 999 := e_19
    refine lv_if_ne (tgt := 29) hx hb dX6_capped_22 (by decide) (fun c_22 => ?_) (fun c_22 => ?_)
    · skip
      obtain ⟨hh, w, lx, h1, h2, h3, rfl, rfl, rfl⟩ := stOk_nat hL c_10
      have hcp : ¬ cp = -1 := fun q9 => by subst q9; exact c_22 (by decide)
      refine lv_aload_n hx hb dX6_capped_29 rfl (lv_at hl 0 rfl) ?_
      refine va_get (D := D) (cl := vwCl) (ci := 5) (v := .ref (q 3)) (C := RX6) (T := TX6) (N := 6) hx hb hts (fun _ h => List.mem_cons_of_mem _ (List.mem_append_left _ (List.mem_append_left _ (List.mem_append_right _ h)))) hown hK hP 0 rfl rfl 2 (by decide) (hts (.fieldLink RX6 27 "CheapHours" "plan" "LCheapHours$Plan;") (List.mem_of_getElem? (i := 1) rfl)) (fun _ h9 => h9) rfl dX6_capped_30 ?_
      refine lv_iload_n hx hb dX6_capped_33 rfl (lv_at hl 1 rfl) ?_
      refine lv_iload_n hx hb dX6_capped_34 rfl (lv_at hl 2 rfl) ?_
      refine lv_iload_n hx hb dX6_capped_35 rfl (lv_at hl 3 rfl) ?_
      refine lv_iload hx hb dX6_capped_36 (lv_at hl 4 rfl) ?_
      refine rwVlP (As := [.int (nI hh), .int (nI w), .int (nI lx), .int cp]) (rest := []) (X := wF cI cL cO o q ja n nw full pr L kn lp ch me ru wo mb lf) (pl := jP ja ta R n ++ tP ta R n) (wc := wPl cI cL (q 3) (q 0) (q 1) (fun i => q (4 + i)) (nI L) kn full lp ch me ru wo mb) (wr := [(o, .inr (5, [.ref (q 0), .ref (q 2), .ref (q 3), .ref (q 10), .int (nI n), .int (nI nw)])), (q 1, .inl (cI, 600, .inl pr)), (q 2, .inl (cO, 12, .inr (.inr (.inr (.inr (jRef ja n)))))), (q 10, .inr (0, [.ref (q 0), .ref (q 11)])), (q 11, .inl (cI, 900, .inl lf))]) (cx := fun u9 => wF cI cL cO o q ja n nw full pr L kn lp ch me ru wo u9 lf) [4, 1, 5, 6, 7, 8, 9, 10] [0, 2, 3, 11, 12] [0, 6, 1, 2, 5, 7, 8, 9, 10, 11, 12, 3, 4] rfl rfl rfl (by decide) (by decide) (fun _ => rfl) (by decide) ⟨hx, hb, hml, hown, hts⟩ (c_X3_meanCapped l D cI cL cZ cO s.heap.size (q 3) (q 0) (q 1) (fun i => q (4 + i)) kn full lp ch me ru wo mb L hh w lx cp hL h1 h2 h3 hcp) (cwV 4 hts gX6_capped_X3_meanCapped rfl rfl rfl (by decide +kernel) ⟨Nat.le_of_ble_eq_true rfl, Nat.le_of_ble_eq_true rfl⟩) hO hP hD (hP.sub [4, 1, 5, 6, 7, 8, 9, 10] rfl) (hD.sub [4, 1, 5, 6, 7, 8, 9, 10] (by decide) rfl) hS hA (va_recv hK hP (ci := 2) (q0 := 4) rfl rfl) rfl hl.1 rfl (Nat.le_of_ble_eq_true rfl) dX6_capped_38 ⟨Nat.le_of_ble_eq_true rfl, Nat.le_of_ble_eq_true rfl⟩ (fun r_38 u_38 H locs e_38 hP hD hS => ?_)
      have hP : va_P D vwCl (wC cI cL cO o q ja ta n nw full pr R L kn lp ch me ru wo u_38 lf) H := hP
      have hD : va_D A (wC cI cL cO o q ja ta n nw full pr R L kn lp ch me ru wo u_38 lf) := hD
      rw [← hQQ]
      exact W.lret (v := r_38) hx hb hr (fun t9 ht9 hW9 => ⟨⟨_, u_38, rfl, (by rw [cappedV, if_neg c_10, if_neg c_22, nI_clamp (by omega), nI_clamp (by omega), nI_clamp (by omega)]; exact e_38), by rw [ht9]; exact hP, hD⟩, hS.F ht9⟩) hS.2.2 dX6_capped_41
    · skip
      refine lv_ldc2 (v := (-1)) hx hb hown (hts (.constantLong RX6 96 (-1)) (List.mem_of_getElem? (i := 2) rfl)) dX6_capped_25 ?_
      rw [← hQQ]
      exact W.lret (v := (-1)) hx hb hr (fun t9 ht9 hW9 => ⟨⟨_, mb, rfl, by simp only [cappedV, if_neg c_10, if_pos c_22], by rw [ht9]; exact hP, hD⟩, hS.F ht9⟩) hS.2.2 dX6_capped_28
