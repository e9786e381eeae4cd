/-! calls that write ONE cell of the desk's world -/
theorem setJoin {A : Nat → Prop} {D : va_G} {w wc w1 : va_W} {H H1 : Heap} {i0 : Nat} {x0 : Nat × va_E} {e0 : va_E} (hP : va_P D vwCl w H) (hD : va_D A w) (hwc : ∀ c ∈ wc, ∃ i : Nat, w[i]? = some c) (h0 : w[i0]? = some (x0.1, e0)) (hk : ∀ q : Nat, q < H.size → ¬ va_A wc H.size q → H1[q]? = H[q]?) (hP1 : va_P D vwCl w1 H1) (hx0 : x0 ∈ w1) (hrest : ∀ c ∈ wc, c.1 ≠ x0.1 → c ∈ w1) : va_P D vwCl (w.set i0 x0) H1 := by
  have hm : ∀ c ∈ w1, va_at D vwCl c H1 := fun c hc => by
    obtain ⟨k, hk9⟩ := List.getElem?_of_mem hc
    exact hP1 k c hk9
  intro k c hkc
  rw [List.getElem?_set] at hkc
  by_cases hki : i0 = k
  · rw [if_pos hki] at hkc
    split at hkc
    · cases hkc; exact hm _ hx0
    · cases hkc
  · rw [if_neg hki] at hkc
    by_cases hq : ∃ b ∈ wc, b.1 = c.1
    · obtain ⟨b, hb1, hb2⟩ := hq
      obtain ⟨i, hi⟩ := hwc b hb1
      have hik : i = k := hD.1 i k b c hi hkc hb2
      subst hik
      obtain rfl : b = c := Option.some.inj (hi.symm.trans hkc)
      refine hm _ (hrest b hb1 (fun e => ?_))
      exact hki (hD.1 i0 i _ b h0 hi e.symm)
    · refine (hP k c hkc).kept (hk c.1 (hP k c hkc).lt (fun h => ?_))
      rcases h with ⟨k2, e, h⟩ | h
      · exact hq ⟨(c.1, e), List.mem_of_getElem? h, rfl⟩
      · have := (hP k c hkc).lt; omega
section OneCell
variable {p : Program} {l : Launch} {e : Env} {R : Room} {s : State} {m : MethodId} {args : Array Value} {below : List Frame} {meth : Method} {c : Code} {H : Heap} {locs : List Loc} {cells slots : Nat} {Q : State → Prop}
variable {pc : Nat} {ls : Array Slot} {rest st0 As : List Value} {A0 : Nat → Prop} {H0 : Heap} {mc ms : Nat}
variable {y : MethodName} {bytes cc : ByteArray} {maxL nL n index : Nat} {ret : Option FieldType} {wy : List Cond} {rm : Room} {Ts : List Cond} {own C host : String} {b : Addr} {D : va_G} {cI cL cZ cO : ClassId} {w wc : va_W}
theorem freeX {A0 : Nat → Prop} (hD : va_D A0 w) (hwc : ∀ c ∈ wc, ∃ i : Nat, w[i]? = some c) (hS : va_S A0 H0 H locs) (hA : ∀ q, H0.size ≤ q → A0 q) : ∀ q, va_A wc H.size q → A0 q := by
  intro q h
  rcases h with ⟨k, e, h⟩ | h
  · obtain ⟨i, hi⟩ := hwc _ (List.mem_of_getElem? h)
    exact hD.2 i _ hi
  · exact hA q (Nat.le_trans hS.1 h)
theorem rwVvX {S1 : Type} {post : S1 → Prop} {Wf : S1 → va_W} {x0 : S1 → Nat × va_E} {e0 : va_E} {a0 : Nat} (i0 : Nat) (hwc : ∀ c ∈ wc, ∃ i : Nat, w[i]? = some c) (h0 : w[i0]? = some (a0, e0)) (hx1 : ∀ u, (x0 u).1 = a0) (hx0 : ∀ u, x0 u ∈ Wf u) (hrest : ∀ u, ∀ c ∈ wc, c.1 ≠ a0 → c ∈ Wf u) (S : CallFix p m c cc nL s args Ts own) (hM : Met l y wy rm (va_Pc (.ref b :: As) (Rw D cI cL cZ cO wc H.size)) (va_Qv post (fun u => Wo D (va_A wc H.size) (Wf u)) (va_A wc H.size)) mc ms (va_A wc H.size)) (cw : CallW R s args own C index y bytes maxL ret wy rm mc ms n) (hO : Okk D cI cL cZ cO s) (hP : va_P D vwCl w H) (hD : va_D A0 w) (hPc : va_P D vwCl wc H) (hDc : va_D A0 wc) (hS : va_S A0 H0 H locs) (hA : ∀ q, H0.size ≤ q → A0 q) (hv : Recv s H C b) (hn : As.length = n) (hsize : ls.size = nL) (hst : st0 = As.reverse ++ .ref b :: rest) (hW : (rest.map fun v => v.category).sum ≤ 8) (hdg : decode cc pc = .ok (.invokevirtual index, 3)) (hcl : cells + mc ≤ R.cells ∧ slots + ms ≤ R.slots)
    (kk : ∀ (u : S1) (H1 : Heap) (locs1 : List Loc), post u → va_P D vwCl (w.set i0 (x0 u)) H1 → va_D A0 (w.set i0 (x0 u)) → va_S A0 H0 H1 locs1 → W p l e R s m args below meth c H1 locs1 (cells + mc) (slots + ms) Q (F0 m (pc + 3) ls rest)) : W p l e R s m args below meth c H locs cells slots Q (F0 m pc ls st0) := by
  have hF := freeX hD hwc hS hA
  refine va_callv (va_runV (g := F0 m pc ls st0) S hM cw ⟨Rw.blind, hv, fun U hU hW => ⟨rfl, by rw [hU], by rw [hU]; exact hPc, hO.warm hW, hDc.weaken (fun _ _ _ _ => trivial)⟩⟩ rfl hn hsize hst (lv_room hW) hdg hcl) hS (fun q _ h => hF q h) hF (fun u t H1 locs1 ht _ hw hB _ hk1 hS1 => ?_)
  refine kk u H1 locs1 hw (setJoin hP hD hwc (e0 := e0) (by rw [hx1]; exact h0) hk1 (ht ▸ hB.1) (hx0 u) (fun c hc hne => hrest u c hc (by rw [hx1] at hne; exact hne))) ?_ hS1
  have hxe : x0 u = (a0, (x0 u).2) := by rw [← hx1 u]
  rw [hxe]
  exact hD.set h0
theorem rwViX {S1 : Type} {post : Int32 → S1 → Prop} {Wf : S1 → va_W} {x0 : S1 → Nat × va_E} {e0 : va_E} {a0 : Nat} (i0 : Nat) (hwc : ∀ c ∈ wc, ∃ i : Nat, w[i]? = some c) (h0 : w[i0]? = some (a0, e0)) (hx1 : ∀ u, (x0 u).1 = a0) (hx0 : ∀ u, x0 u ∈ Wf u) (hrest : ∀ u, ∀ c ∈ wc, c.1 ≠ a0 → c ∈ Wf u) (S : CallFix p m c cc nL s args Ts own) (hM : Met l y wy rm (va_Pc (.ref b :: As) (Rw D cI cL cZ cO wc H.size)) (va_Qi post (fun u => Wo D (va_A wc H.size) (Wf u)) (va_A wc H.size)) mc ms (va_A wc H.size)) (cw : CallW R s args own C index y bytes maxL ret wy rm mc ms n) (hO : Okk D cI cL cZ cO s) (hP : va_P D vwCl w H) (hD : va_D A0 w) (hPc : va_P D vwCl wc H) (hDc : va_D A0 wc) (hS : va_S A0 H0 H locs) (hA : ∀ q, H0.size ≤ q → A0 q) (hv : Recv s H C b) (hn : As.length = n) (hsize : ls.size = nL) (hst : st0 = As.reverse ++ .ref b :: rest) (hW : (rest.map fun v => v.category).sum ≤ 8) (hdg : decode cc pc = .ok (.invokevirtual index, 3)) (hcl : cells + mc ≤ R.cells ∧ slots + ms ≤ R.slots)
    (kk : ∀ (r : Int32) (u : S1) (H1 : Heap) (locs1 : List Loc), post r u → va_P D vwCl (w.set i0 (x0 u)) H1 → va_D A0 (w.set i0 (x0 u)) → va_S A0 H0 H1 locs1 → W p l e R s m args below meth c H1 locs1 (cells + mc) (slots + ms) Q (F0 m (pc + 3) ls (.int r :: rest))) : W p l e R s m args below meth c H locs cells slots Q (F0 m pc ls st0) := by
  have hF := freeX hD hwc hS hA
  refine va_calli (va_runV (g := F0 m pc ls st0) S hM cw ⟨Rw.blind, hv, fun U hU hW => ⟨rfl, by rw [hU], by rw [hU]; exact hPc, hO.warm hW, hDc.weaken (fun _ _ _ _ => trivial)⟩⟩ rfl hn hsize hst (lv_room hW) hdg hcl) hS (fun q _ h => hF q h) hF (fun r u t H1 locs1 ht _ hw hB _ hk1 hS1 => ?_)
  refine kk r u H1 locs1 hw (setJoin hP hD hwc (e0 := e0) (by rw [hx1]; exact h0) hk1 (ht ▸ hB.1) (hx0 u) (fun c hc hne => hrest u c hc (by rw [hx1] at hne; exact hne))) ?_ hS1
  have hxe : x0 u = (a0, (x0 u).2) := by rw [← hx1 u]
  rw [hxe]
  exact hD.set h0
end OneCell
section Pool2
variable {D : va_G} {A : Nat → Prop} {cI cL cO : ClassId} {o : Nat} {q ja ta : Nat → Nat} {n nw : Nat} {full : Int32} {pr : Nat → Int32} {R : Nat → Nat → Int32} {L : Nat} {kn : Int32} {lp ch : Nat → Int32} {me : Nat → Int64} {ru wo : Nat → Int32} {mb : Nat → Int64} {lf : Nat → Int32} {H : Heap} {j : Nat}
theorem teFs_C {full p : Int32} {nw : Nat} {row : Nat → Int32} : teFs (rHourC full p nw row) = teFs row := by
  unfold rHourC
  split
  · unfold teFs
    rw [rHour_fix (k := 0) (by decide), rHour_fix (k := 1) (by decide), rHour_fix (k := 2) (by decide), rHour_fix (k := 3) (by decide), rHour_fix (k := 4) (by decide), rHour_fix (k := 5) (by decide), rHour_fix (k := 6) (by decide), rHour_fix (k := 7) (by decide)]
  · rfl
theorem poolSet {row : Nat → Int32} (hj : j < n) (ht : teFs row = teFs (R j)) : (wC cI cL cO o q ja ta n nw full pr R L kn lp ch me ru wo mb lf).set (13 + j) (ja j, .inr (1, jobFs (ta j) row)) = wC cI cL cO o q ja ta n nw full pr (va_up R j row) L kn lp ch me ru wo mb lf := by
  have e1 : tP ta (va_up R j row) n = tP ta R n := by
    unfold tP
    apply List.map_congr_left
    intro i _
    by_cases h : i = j
    · subst h; rw [va_up_self, ht]
    · rw [va_up_ne _ _ h]
  unfold wC
  rw [List.set_append_right _ _ (by show 13 ≤ 13 + j; omega), show 13 + j - (wF cI cL cO o q ja n nw full pr L kn lp ch me ru wo mb lf).length = j from Nat.add_sub_cancel_left 13 j, e1]
  refine congrArg _ ?_
  apply List.ext_getElem?
  intro i
  rw [List.getElem?_set]
  by_cases hin : i < n
  · have g1 : (jP ja ta R n ++ tP ta R n)[i]? = some (ja i, .inr (1, jobFs (ta i) (R i))) := by
      rw [List.getElem?_append_left (by simp [jP]; exact hin)]; simp [jP, hin]
    have g2 : (jP ja ta (va_up R j row) n ++ tP ta R n)[i]? = some (ja i, .inr (1, jobFs (ta i) (va_up R j row i))) := by
      rw [List.getElem?_append_left (by simp [jP]; exact hin)]; simp [jP, hin]
    rw [g1, g2]
    by_cases h : j = i
    · subst h
      rw [if_pos rfl, va_up_self, if_pos]
      simp [jP, tP]; omega
    · rw [if_neg h, va_up_ne _ _ (fun z => h z.symm)]
  · have g1 : (jP ja ta R n ++ tP ta R n)[i]? = (tP ta R n)[i - n]? := by
      rw [List.getElem?_append_right (by simp [jP]; omega)]; simp [jP]
    have g2 : (jP ja ta (va_up R j row) n ++ tP ta R n)[i]? = (tP ta R n)[i - n]? := by
      rw [List.getElem?_append_right (by simp [jP]; omega)]; simp [jP]
    rw [g1, g2]
    rw [if_neg (by omega)]
end Pool2

theorem hrs_ge {full : Int32} {pr : Nat → Int32} {nw : Nat} (R : Nat → Nat → Int32) (i : Nat) : ∀ j, j ≤ i → hrs full pr nw j R i = R i
  | 0, _ => rfl
  | j + 1, h => by
    unfold hrs
    split
    · rw [va_up_ne _ _ (show i ≠ j by omega), hrs_ge R i j (by omega)]
    · exact hrs_ge R i j (by omega)
theorem hrs_C {full : Int32} {pr : Nat → Int32} {nw mk : Nat} (R : Nat → Nat → Int32) (j : Nat) (hmk : mk < 3) (hm : hrs full pr nw j R j 2 = nI mk) : hrs full pr nw (j + 1) R = va_up (hrs full pr nw j R) j (rHourC full (pr (200 * mk + nw)) nw (hrs full pr nw j R j)) := by
  rw [hrs, rHourC, hm, nI_clamp (by omega)]
  by_cases h : hrs full pr nw j R j 18 = -1
  · rw [if_pos h, if_pos h]
  · rw [if_neg h, if_neg h, va_up_id]
theorem dOf4 {A : Nat → Prop} {w : va_W} {a b c d : Nat × va_E} {i j k m : Nat} (hD : va_D A w) (ha : w[i]? = some a) (hb : w[j]? = some b) (hc : w[k]? = some c) (hd : w[m]? = some d) (n1 : i ≠ j) (n2 : i ≠ k ∧ i ≠ m) (n3 : j ≠ k) (n4 : j ≠ m) (n5 : k ≠ m) : va_D A [a, b, c, d] := by
  have key : ∀ x : Nat, x < 4 → ∀ u, [a, b, c, d][x]? = some u → w[[i, j, k, m].getD x 0]? = some u := by
    intro x hx u hu
    match x, hx, hu with
    | 0, _, hu => cases hu; exact ha
    | 1, _, hu => cases hu; exact hb
    | 2, _, hu => cases hu; exact hc
    | 3, _, hu => cases hu; exact hd
  refine hD.by (fun x => [i, j, k, m].getD x 0) (fun x u hu => ?_) (fun x y hx hy e => ?_)
  · have hx : x < 4 := (List.getElem?_eq_some_iff.mp hu).1
    exact key x hx u hu
  · have hx' : x < 4 := hx
    have hy' : y < 4 := hy
    match x, y, hx', hy', e with
    | 0, 0, _, _, _ => rfl
    | 1, 1, _, _, _ => rfl
    | 2, 2, _, _, _ => rfl
    | 3, 3, _, _, _ => rfl
    | 0, 1, _, _, e => exact absurd e n1
    | 1, 0, _, _, e => exact absurd e.symm n1
    | 0, 2, _, _, e => exact absurd e n2.1
    | 2, 0, _, _, e => exact absurd e.symm n2.1
    | 0, 3, _, _, e => exact absurd e n2.2
    | 3, 0, _, _, e => exact absurd e.symm n2.2
    | 1, 2, _, _, e => exact absurd e n3
    | 2, 1, _, _, e => exact absurd e.symm n3
    | 1, 3, _, _, e => exact absurd e n4
    | 3, 1, _, _, e => exact absurd e.symm n4
    | 2, 3, _, _, e => exact absurd e n5
    | 3, 2, _, _, e => exact absurd e.symm n5
set_option maxHeartbeats 4000000 in
set_option maxRecDepth 100000 in
theorem c_X6_passHour (l : Launch) (D : va_G) (cI cL cZ cO : ClassId) (sz : Nat) (o : Nat) (q ja ta : Nat → Nat) (n nw : Nat) (full : Int32) (pr : Nat → Int32) (R : Nat → Nat → Int32) (L : Nat) (kn : Int32) (lp ch : Nat → Int32) (me : Nat → Int64) (ru wo : Nat → Int32) (mb : Nat → Int64) (lf : Nat → Int32) (hq : Nat) (hn : n ≤ 12) (hh : hq < 200) (hR : ∀ j, j < n → jOk (R j)) (hI : ∀ j, j < n → jInv (R j)) : Met l yX6_passHour wsX6_passHour ({ frames := 4, cells := 0, slots := 0, locals := 88 } : Room) (va_Pc [.ref o, .int (nI hq)] (Rw D cI cL cZ cO (wC cI cL cO o q ja ta n nw full pr R L kn lp ch me ru wo mb lf) sz)) (va_Qv (fun (u : Unit) => True) (fun (u : Unit) => Wo D (va_A (wC cI cL cO o q ja ta n nw full pr R L kn lp ch me ru wo mb lf) sz) (wC cI cL cO o q ja ta n nw full pr (hrs full pr hq n R) L kn lp ch me ru wo mb lf)) (va_A (wC cI cL cO o q ja ta n nw full pr R L kn lp ch me ru wo mb lf) sz)) 0 0 (va_A (wC cI cL cO o q ja ta n nw full pr R L kn lp ch me ru wo mb lf) sz) := by
  refine Met.ofW (cc := cX6_passHour) (maxL := 4) (ret := none) (by decide) rfl ?_
  intro p e s m args below meth c s₁ B hml hv
  obtain ⟨rfl, hsz, hP, hO, hD0⟩ := hv
  have hx := B.exec
  have hb := B.bytes
  have hr := B.returns
  have hts := atoms_spec (ws := wsX6_passHour) B.pre
  have hown : s.vm.findClass RX6 = some m.cls := findClass_of_methodNamed B.named
  have hlocks := B.notSynchronized
  have hK := hO.1
  subst hsz
  have hD := hD0.self (sz := s.heap.size)
  generalize hAe : va_A (wC cI cL cO o q ja ta n nw full pr R L kn lp ch me ru wo mb lf) s.heap.size = A at hD ⊢
  have hA : ∀ q : Nat, s.heap.size ≤ q → A q := fun q h => by rw [← hAe]; exact Or.inr h
  have hS : va_S A s.heap s.heap [] := va_S.rf
  have hl := lv_entry ([.ref o, .int (nI hq)]) (n := 4) (Nat.le_of_ble_eq_true rfl)
  rw [lg_entry_eq]
  generalize (lg_sl ([.ref o, .int (nI hq)]) ++ List.replicate (4 - (lg_sl ([.ref o, .int (nI hq)])).length) Slot.unset).toArray = ls at hl ⊢
  have hl : lv_has ls 4 [(0, .ref o), (1, .int (nI hq))] := hl
  generalize hQQ : MQ below _ _ s _ _ _ = QQ
  refine lv_iconst (v := 0) hx hb dX6_passHour_0 (by decide) ?_
  refine lv_istore_n (lv' := [(2, .int 0), (0, .ref o), (1, .int (nI hq))]) hx hb dX6_passHour_1 rfl hl (by decide) rfl (fun ls hl => ?_)
  have L2 : ∀ (n0 : Nat) (i : Nat) (H : Heap) (locs : List Loc) (ls : Array Slot), n - i < n0 → (i ≤ n) → va_P D vwCl (wC cI cL cO o q ja ta n nw full pr (hrs full pr hq i R) L kn lp ch me ru wo mb lf) H → va_D A (wC cI cL cO o q ja ta n nw full pr (hrs full pr hq i R) L kn lp ch me ru wo mb lf) → va_S A s.heap H locs → lv_has ls 4 [(2, .int (nI i)), (0, .ref o), (1, .int (nI hq))] → W p l e (headSpec wsX6_passHour ({ frames := 4, cells := 0, slots := 0, locals := 88 } : Room)).room s m ([.ref o, .int (nI hq)] : List Value).toArray below meth c H locs 0 0 QQ (F0 m 2 ls []) := by
    intro n0
    induction n0 with
    | zero =>
      intro i H locs ls hmu
      exact absurd hmu (Nat.not_lt_zero _)
    | succ n0 ih2 =>
      intro i H locs ls hmu hi hP hD hS hl
      refine lv_iload_n hx hb dX6_passHour_2 rfl (lv_at hl 0 rfl) ?_
      refine lv_aload_n hx hb dX6_passHour_3 rfl (lv_at hl 1 rfl) ?_
      refine va_get (D := D) (cl := vwCl) (ci := 5) (v := .int (nI n)) (C := RX6) (T := TX6) (N := 6) hx hb hts (fun _ h => List.mem_cons_of_mem _ (List.mem_append_left _ (List.mem_append_left _ (List.mem_append_left _ (List.mem_append_right _ h))))) hown hK hP 0 rfl rfl 4 (by decide) (hts (.fieldLink RX6 50 "CheapHours" "jobCount" "I") (List.mem_of_getElem? (i := 1) rfl)) (fun _ h9 => h9) rfl dX6_passHour_4 ?_
      refine n_icmp_ge (x := i) (y := n) (tgt := 35) hx hb dX6_passHour_7 (by decide) (by omega) (by omega) (fun c_7 => ?_) (fun c_7 => ?_)
      · skip
        rw [show i = n by omega] at hP hD
        rw [← hQQ]
        exact W.vret hx hb hr (fun t9 ht9 hW9 => ⟨⟨(), rfl, trivial, by rw [ht9]; exact hP, hD⟩, hS.F ht9⟩) hS.2.2 dX6_passHour_35
      · skip
        have hj : i < n := c_7
        have hge : hrs full pr hq i R i = R i := hrs_ge R i i (Nat.le_refl i)
        obtain ⟨w9, d9, mk, sv9, bg9, cm9, -, -, hmk, -, -, -, -, -, hrm, -, -, -⟩ := hR i hj
        obtain ⟨hi1, hi2, -⟩ := hI i hj
        refine lv_aload_n hx hb dX6_passHour_10 rfl (lv_at hl 1 rfl) ?_
        refine lv_iload_n hx hb dX6_passHour_11 rfl (lv_at hl 0 rfl) ?_
        refine roVq (As := [.int (nI i)]) (rest := []) ⟨hx, hb, hml, hown, hts⟩ (c_X6_jobOf l D cI cL cZ cO o q ja ta n nw full pr (hrs full pr hq i R) L kn lp ch me ru wo mb lf (nI i) ) (cwV 1 hts gX6_passHour_X6_jobOf rfl rfl rfl (by decide +kernel) ⟨Nat.le_of_ble_eq_true rfl, Nat.le_of_ble_eq_true rfl⟩) hO hP (va_recv hK hP (ci := 5) (q0 := 0) rfl rfl) rfl hl.1 rfl (Nat.le_of_ble_eq_true rfl) dX6_passHour_12 ⟨Nat.le_of_ble_eq_true rfl, Nat.le_of_ble_eq_true rfl⟩ (fun r_12 e_12 => ?_)
        rw [e_12, jobRef_lt hn hj]
        refine lv_astore_n (lv' := [(3, .ref (ja i)), (2, .int (nI i)), (0, .ref o), (1, .int (nI hq))]) hx hb dX6_passHour_15 rfl hl (by decide) rfl (fun ls hl => ?_)
        refine lv_aload_n hx hb dX6_passHour_16 rfl (lv_at hl 0 rfl) ?_
        refine lv_ifnull hx hb dX6_passHour_17 ?_
        refine lv_aload_n hx hb dX6_passHour_20 rfl (lv_at hl 0 rfl) ?_
        refine lv_iload_n hx hb dX6_passHour_21 rfl (lv_at hl 3 rfl) ?_
        refine lv_aload_n hx hb dX6_passHour_22 rfl (lv_at hl 2 rfl) ?_
        refine va_get (D := D) (cl := vwCl) (ci := 5) (v := .ref (q 0)) (C := RX6) (T := TX6) (N := 6) hx hb hts (fun _ h => List.mem_cons_of_mem _ (List.mem_append_left _ (List.mem_append_left _ (List.mem_append_left _ (List.mem_append_right _ h))))) hown hK hP 0 rfl rfl 0 (by decide) (hts (.fieldLink RX6 10 "CheapHours" "prices" "LCheapHours$Prices;") (List.mem_of_getElem? (i := 2) rfl)) (fun _ h9 => h9) rfl dX6_passHour_23 ?_
        have hwc9 : ∀ c9 ∈ wJP cI (ja i) (ta i) ((hrs full pr hq i R) i) (q 0) (q 1) full pr, ∃ k9 : Nat, (wC cI cL cO o q ja ta n nw full pr (hrs full pr hq i R) L kn lp ch me ru wo mb lf)[k9]? = some c9 := by
          intro c9 h9
          simp only [wJP, List.mem_cons, List.not_mem_nil, or_false] at h9
          rcases h9 with rfl | rfl | rfl | rfl
          · exact ⟨_, poolJ hj⟩
          · exact ⟨_, poolT hj⟩
          · exact ⟨1, rfl⟩
          · exact ⟨2, rfl⟩
        have hPc9 : va_P D vwCl (wJP cI (ja i) (ta i) ((hrs full pr hq i R) i) (q 0) (q 1) full pr) H := fun k9 c9 h9 => by obtain ⟨i9, hi9⟩ := hwc9 c9 (List.mem_of_getElem? h9); exact hP i9 c9 hi9
        have hDc9 : va_D A (wJP cI (ja i) (ta i) ((hrs full pr hq i R) i) (q 0) (q 1) full pr) := dOf4 hD (poolJ hj) (poolT hj) (show _ = some _ from (rfl : (wC cI cL cO o q ja ta n nw full pr (hrs full pr hq i R) L kn lp ch me ru wo mb lf)[1]? = _)) (show _ = some _ from (rfl : (wC cI cL cO o q ja ta n nw full pr (hrs full pr hq i R) L kn lp ch me ru wo mb lf)[2]? = _)) (by omega) (by omega) (by omega) (by omega) (by omega)
        refine rwVvX (As := [.int (nI hq), .ref (q 0)]) (rest := []) (w := wC cI cL cO o q ja ta n nw full pr (hrs full pr hq i R) L kn lp ch me ru wo mb lf) (x0 := fun _ => (ja i, .inr (1, jobFs (ta i) (rHourC full (pr (200 * mk + hq)) hq ((hrs full pr hq i R) i))))) (13 + i) hwc9 (poolJ hj) (fun _ => rfl) (fun _ => List.mem_cons_self) (fun _ c9 h9 hne => ?_) ⟨hx, hb, hml, hown, hts⟩ (c_X1_passHour l D cI cL cZ cO H.size (ja i) (ta i) ((hrs full pr hq i R) i) (q 0) (q 1) full pr hq mk hh hmk (by rw [hge]; exact hrm) (by rw [hge]; exact hi1) (by rw [hge]; exact hi2)) (cwV 2 hts gX6_passHour_X1_passHour rfl rfl rfl (by decide +kernel) ⟨Nat.le_of_ble_eq_true rfl, Nat.le_of_ble_eq_true rfl⟩) hO hP hD hPc9 hDc9 hS hA (va_recv hK hPc9 (ci := 1) (q0 := 0) rfl rfl) rfl hl.1 rfl (Nat.le_of_ble_eq_true rfl) dX6_passHour_26 ⟨Nat.le_of_ble_eq_true rfl, Nat.le_of_ble_eq_true rfl⟩ (fun u_26 H locs e_26 hP hD hS => ?_)
        · skip
          simp only [wJP, List.mem_cons, List.not_mem_nil, or_false] at h9 ⊢
          rcases h9 with rfl | rfl | rfl | rfl
          · exact absurd rfl hne
          · exact Or.inr (Or.inl (by rw [teFs_C]))
          · exact Or.inr (Or.inr (Or.inl rfl))
          · exact Or.inr (Or.inr (Or.inr rfl))
        rw [poolSet hj teFs_C] at hP hD
        rw [← hrs_C R i hmk (by rw [hge]; exact hrm)] at hP hD
        refine lv_iinc (v := (nI (i + 1))) (lv' := [(2, .int (nI (i + 1))), (3, .ref (ja i)), (0, .ref o), (1, .int (nI hq))]) hx hb dX6_passHour_29 hl (k := 1) rfl (nI_add i 1) (by decide) rfl (fun ls hl => ?_)
        refine lv_goto (tgt := 2) hx hb dX6_passHour_32 (by decide) ?_
        exact ih2 (i + 1) _ _ _ (by omega) (by omega) hP hD hS (lv_sub hl [0, 2, 3] rfl)
  exact L2 _ 0 _ _ _ (Nat.lt_succ_self _) (Nat.zero_le _) hP hD hS (lv_sub hl [0, 1, 2] rfl)
