def jobRefX (ja : Nat → Nat) (n : Nat) (x : Int32) : Option Nat := if wi x 0 11 = 0 then none else jRef ja n x.toNatClampNeg
theorem jobRef_lt {ja : Nat → Nat} {n i : Nat} (hn : n ≤ 12) (hi : i < n) : jobRefX ja n (nI i) = some (ja i) := by
  have h : ¬ wi (nI i) 0 11 = 0 := fun q => absurd ((wi_n0 (m := i) (b := 11) (by omega) (by decide)).mp q) (by omega)
  rw [jobRefX, if_neg h, nI_clamp (by omega), jRef, if_pos hi]
theorem jobOf_cases {ja : Nat → Nat} {n : Nat} {x : Int32} (hn : n ≤ 12) : (wi x 0 (nI n - 1) = 0 ∧ jobRefX ja n x = none) ∨ ∃ j, j < n ∧ x = nI j ∧ jobRefX ja n x = some (ja j) ∧ ¬ wi x 0 (nI n - 1) = 0 := by
  by_cases h : wi x 0 (nI n - 1) = 0
  · refine Or.inl ⟨h, ?_⟩
    unfold jobRefX
    by_cases h2 : wi x 0 11 = 0
    · rw [if_pos h2]
    · rw [if_neg h2]
      obtain ⟨j, -, hj, rfl⟩ := wi_nat (a := 0) (b := 11) (by decide) (by decide) h2
      rw [nI_clamp (by omega), jRef, if_neg]
      intro q
      exact wi_f h ⟨(nI_leI (a := 0) (by decide) (by omega)).mpr (Nat.zero_le _), by rw [show nI n - 1 = nI (n - 1) from pk_sub (b := 1) (by omega)]; exact (nI_leI (by omega) (by omega)).mpr (by omega)⟩
  · obtain ⟨j, hj, rfl⟩ := isJob_nat hn h
    exact Or.inr ⟨j, hj, rfl, jobRef_lt hn hj, h⟩
section Pool
variable {D : va_G} {cI cL cO : ClassId} {o : Nat} {q ja ta : Nat → Nat} {n nw : Nat} {full : Int32} {pr : Nat → Int32} {R : Nat → Nat → Int32} {L : Nat} {kn : Int32} {lp ch : Nat → Int32} {me : Nat → Int64} {ru wo : Nat → Int32} {mb : Nat → Int64} {lf : Nat → Int32} {H : Heap} {j : Nat}
theorem poolJ (hj : j < n) : (wC cI cL cO o q ja ta n nw full pr R L kn lp ch me ru wo mb lf)[13 + j]? = some (ja j, .inr (1, jobFs (ta j) (R j))) := by
  unfold wC
  rw [List.getElem?_append_right (by show 13 ≤ 13 + j; omega), show 13 + j - (wF cI cL cO o q ja n nw full pr L kn lp ch me ru wo mb lf).length = j from Nat.add_sub_cancel_left 13 j, List.getElem?_append_left (by simp [jP]; exact hj)]
  simp [jP, hj]
theorem poolT (hj : j < n) : (wC cI cL cO o q ja ta n nw full pr R L kn lp ch me ru wo mb lf)[13 + (n + j)]? = some (ta j, .inr (4, teFs (R j))) := by
  unfold wC
  rw [List.getElem?_append_right (by show 13 ≤ 13 + (n + j); omega), show 13 + (n + j) - (wF cI cL cO o q ja n nw full pr L kn lp ch me ru wo mb lf).length = n + j from Nat.add_sub_cancel_left 13 (n + j), List.getElem?_append_right (by simp [jP])]
  simp [jP, tP, hj]
theorem poolP (hP : va_P D vwCl (wC cI cL cO o q ja ta n nw full pr R L kn lp ch me ru wo mb lf) H) (hj : j < n) : va_P D vwCl (wJ (ja j) (ta j) (R j)) H := by
  intro k c hk
  match k, hk with
  | 0, hk => cases hk; exact hP _ _ (poolJ hj)
  | 1, hk => cases hk; exact hP _ _ (poolT hj)
  | k + 2, hk => simp [wJ] at hk
end Pool
theorem rReady_0 {x : Nat → Int32} (h : rReady x = 0) : x 18 = -1 := Classical.byContradiction (fun z => absurd (show rReady x = 1 from if_neg z) (by rw [h]; decide))
theorem rReady_1 {x : Nat → Int32} (h : ¬ rReady x = 0) : ¬ x 18 = -1 := fun z => h (if_pos z)
theorem cgV_nat {L : Nat} {c0 : Int32} (h : ¬ cgV L c0 = 0) : ∃ v, v < 2 ^ 31 ∧ c0 = nI v ∧ dv v L = 0 ∧ ds v L ≤ 10 := by
  unfold cgV at h
  by_cases h1 : c0 < 0
  · rw [if_pos h1] at h; exact absurd rfl h
  rw [if_neg h1] at h
  obtain ⟨v, hv, rfl⟩ := nI_of h1
  rw [nI_clamp hv] at h
  by_cases h2 : dv v L = 0
  · rw [if_pos h2] at h
    by_cases h3 : 10 < ds v L
    · rw [if_pos h3] at h; exact absurd rfl h
    · exact ⟨v, hv, rfl, h2, by omega⟩
  · rw [if_neg h2] at h; exact absurd rfl h
theorem lvOk_y {x v : Nat} {p0 : Int32} {L : Nat} (h1 : ¬ wi (nI x) 0 (nI L - 1) = 0) (h2 : ¬ wi p0 0 999 = 0) (hv : v < 2 ^ 31) (hd : dv v L = 0) (hs : ds v L ≤ 10) : lvOk (nI x) p0 (nI v) L = 1 := by
  rw [lvOk, if_neg h1, if_neg h2, if_neg (nI_pos hv), nI_clamp hv, if_neg (by omega), if_pos hs]
theorem lvOk_c {x p0 c0 : Int32} {L : Nat} (h : wi x 0 (nI L - 1) = 0 ∨ wi p0 0 999 = 0 ∨ cgV L c0 = 0) : lvOk x p0 c0 L = 0 := by
  unfold lvOk
  by_cases h1 : wi x 0 (nI L - 1) = 0
  · rw [if_pos h1]
  rw [if_neg h1]
  by_cases h2 : wi p0 0 999 = 0
  · rw [if_pos h2]
  rw [if_neg h2]
  have h3 := (h.resolve_left h1).resolve_left h2
  unfold cgV at h3
  by_cases h4 : c0 < 0
  · rw [if_pos h4]
  rw [if_neg h4] at h3 ⊢
  by_cases h5 : dv c0.toNatClampNeg L = 0
  · rw [if_pos h5] at h3
    by_cases h6 : 10 < ds c0.toNatClampNeg L
    · rw [if_neg (by omega), if_neg (by omega)]
    · rw [if_neg h6] at h3; exact absurd h3 (by decide)
  · rw [if_pos (by omega)]
set_option maxHeartbeats 4000000 in
set_option maxRecDepth 100000 in
theorem c_X6_full (l : Launch) (D : va_G) (cI cL cZ cO : ClassId) (sz : Nat) (o : Nat) (q ja ta : Nat → Nat) (n nw : Nat) (full : Int32) (pr : Nat → Int32) (R : Nat → Nat → Int32) (L : Nat) (kn : Int32) (lp ch : Nat → Int32) (me : Nat → Int64) (ru wo : Nat → Int32) (mb : Nat → Int64) (lf : Nat → Int32) (x : Int32) (hn : n ≤ 12) (hnw : nw ≤ 200) : Met l yX6_full wsX6_full ({ frames := 1, cells := 0, slots := 0, locals := 22 } : Room) (va_Pc [.ref o, .int x] (Rw D cI cL cZ cO (wC cI cL cO o q ja ta n nw full pr R L kn lp ch me ru wo mb lf) sz)) (va_Qi (fun (r : Int32) (u : Int32) => r = fuOk x nw n ∧ (u = 0 ∨ (fuOk x nw n = 0 ∧ u = kn))) (fun (u : Int32) => Wo D (va_A (wC cI cL cO o q ja ta n nw full pr R L kn lp ch me ru wo mb lf) sz) (wC cI cL cO o q ja ta n nw (fuW full x nw n) pr R L u lp ch me ru wo mb lf)) (va_A (wC cI cL cO o q ja ta n nw full pr R L kn lp ch me ru wo mb lf) sz)) 0 0 (va_A (wC cI cL cO o q ja ta n nw full pr R L kn lp ch me ru wo mb lf) sz) := by
  refine Met.ofW (cc := cX6_full) (maxL := 2) (ret := (some .boolean)) (by decide) rfl ?_
  intro p e s m args below meth c s₁ B hml hv
  obtain ⟨rfl, hsz, hP, hO, hD0⟩ := hv
  have hx := B.exec
  have hb := B.bytes
  have hr := B.returns
  have hts := atoms_spec (ws := wsX6_full) B.pre
  have hown : s.vm.findClass RX6 = some m.cls := findClass_of_methodNamed B.named
  have hlocks := B.notSynchronized
  have hK := hO.1
  subst hsz
  have hD := hD0.self (sz := s.heap.size)
  generalize hAe : va_A (wC cI cL cO o q ja ta n nw full pr R L kn lp ch me ru wo mb lf) s.heap.size = A at hD ⊢
  have hA : ∀ q : Nat, s.heap.size ≤ q → A q := fun q h => by rw [← hAe]; exact Or.inr h
  have hS : va_S A s.heap s.heap [] := va_S.rf
  have hl := lv_entry ([.ref o, .int x]) (n := 2) (Nat.le_of_ble_eq_true rfl)
  rw [lg_entry_eq]
  generalize (lg_sl ([.ref o, .int x]) ++ List.replicate (2 - (lg_sl ([.ref o, .int x])).length) Slot.unset).toArray = ls at hl ⊢
  have hl : lv_has ls 2 [(0, .ref o), (1, .int x)] := hl
  generalize hQQ : MQ below _ _ s _ _ _ = QQ
  refine lv_iload_n hx hb dX6_full_0 rfl (lv_at hl 1 rfl) ?_
  refine lv_iconst (v := 1) hx hb dX6_full_1 (by decide) ?_
  refine lv_sipush (v := 999) hx hb dX6_full_2 (by decide) ?_
  refine roSi (As := [.int x, .int 1, .int 999]) (rest := []) ⟨hx, hb, hml, hown, hts⟩ (c_X6_within l D cI cL cZ cO x 1 999 ) (va_cwS 3 hts gX6_full_X6_within rfl rfl rfl (by decide +kernel) ⟨Nat.le_of_ble_eq_true rfl, Nat.le_of_ble_eq_true rfl⟩) hO (fun k q h => by simp at h) rfl hl.1 rfl (Nat.le_of_ble_eq_true rfl) dX6_full_5 ⟨Nat.le_of_ble_eq_true rfl, Nat.le_of_ble_eq_true rfl⟩ (fun r_5 e_5 => ?_)
  obtain rfl : r_5 = wi x 1 999 := e_5
  refine lv_if_eq (tgt := 25) hx hb dX6_full_8 (by decide) (fun c_8 => ?_) (fun c_8 => ?_)
  · skip
    refine lv_iconst (v := 0) hx hb dX6_full_25 (by decide) ?_
    have hz : fuOk x nw n = 0 := by simp only [fuOk, if_pos c_8]
    have hw : fuW full x nw n = full := if_pos hz
    rw [← hw] at hP hD
    rw [← hQQ]
    exact W.zret (v := 0) hx hb hr rfl (fun t9 ht9 hW9 => ⟨⟨_, kn, rfl, ⟨hz.symm, Or.inr ⟨hz, rfl⟩⟩, by rw [ht9]; exact hP, hD⟩, hS.F ht9⟩) hS.2.2 dX6_full_26
  · skip
    refine lv_aload_n hx hb dX6_full_11 rfl (lv_at hl 0 rfl) ?_
    refine va_get (D := D) (cl := vwCl) (ci := 5) (v := .int (nI nw)) (C := RX6) (T := TX6) (N := 6) hx hb hts (fun _ h => List.mem_cons_of_mem _ (List.mem_append_left _ (List.mem_append_left _ (List.mem_append_right _ h)))) hown hK hP 0 rfl rfl 5 (by decide) (hts (.fieldLink RX6 42 "CheapHours" "now" "I") (List.mem_of_getElem? (i := 1) rfl)) (fun _ h9 => h9) rfl dX6_full_12 ?_
    refine n_if_ne (x := nw) (tgt := 25) hx hb dX6_full_15 (by decide) (by omega) (fun c_15 => ?_) (fun c_15 => ?_)
    · skip
      refine lv_iconst (v := 0) hx hb dX6_full_25 (by decide) ?_
      have hz : fuOk x nw n = 0 := by simp only [fuOk, if_neg c_8, if_pos c_15]
      have hw : fuW full x nw n = full := if_pos hz
      rw [← hw] at hP hD
      rw [← hQQ]
      exact W.zret (v := 0) hx hb hr rfl (fun t9 ht9 hW9 => ⟨⟨_, kn, rfl, ⟨hz.symm, Or.inr ⟨hz, rfl⟩⟩, by rw [ht9]; exact hP, hD⟩, hS.F ht9⟩) hS.2.2 dX6_full_26
    · skip
      refine lv_aload_n hx hb dX6_full_18 rfl (lv_at hl 0 rfl) ?_
      refine va_get (D := D) (cl := vwCl) (ci := 5) (v := .int (nI n)) (C := RX6) (T := TX6) (N := 6) hx hb hts (fun _ h => List.mem_cons_of_mem _ (List.mem_append_left _ (List.mem_append_left _ (List.mem_append_right _ h)))) hown hK hP 0 rfl rfl 4 (by decide) (hts (.fieldLink RX6 50 "CheapHours" "jobCount" "I") (List.mem_of_getElem? (i := 2) rfl)) (fun _ h9 => h9) rfl dX6_full_19 ?_
      refine n_if_eq (x := n) (tgt := 27) hx hb dX6_full_22 (by decide) (by omega) (fun c_22 => ?_) (fun c_22 => ?_)
      · skip
        refine lv_aload_n hx hb dX6_full_27 rfl (lv_at hl 0 rfl) ?_
        refine va_get (D := D) (cl := vwCl) (ci := 5) (v := .ref (q 0)) (C := RX6) (T := TX6) (N := 6) hx hb hts (fun _ h => List.mem_cons_of_mem _ (List.mem_append_left _ (List.mem_append_left _ (List.mem_append_right _ h)))) hown hK hP 0 rfl rfl 0 (by decide) (hts (.fieldLink RX6 10 "CheapHours" "prices" "LCheapHours$Prices;") (List.mem_of_getElem? (i := 3) rfl)) (fun _ h9 => h9) rfl dX6_full_28 ?_
        refine lv_iload_n hx hb dX6_full_31 rfl (lv_at hl 1 rfl) ?_
        refine va_put (D := D) (cl := vwCl) (ci := 3) (v := .int x) (ty := .int) (C := RX4) (T := TX4) (N := 2) hx hb hts (fun _ h => List.mem_cons_of_mem _ (List.mem_append_left _ (List.mem_append_right _ h))) tyX4 tyX4_ok nmX4 hown hK hP hD hS 1 rfl rfl 1 (by decide) (hts (.fieldLink RX6 53 "CheapHours$Prices" "atFull" "I") (List.mem_of_getElem? (i := 4) rfl)) (fun _ h9 => h9) rfl (by decide +kernel) rfl rfl (Nat.le_of_ble_eq_true rfl) dX6_full_32 (fun H locs hP hD hS => ?_)
        have hP : va_P D vwCl (wC cI cL cO o q ja ta n nw x pr R L kn lp ch me ru wo mb lf) H := hP
        have hD : va_D A (wC cI cL cO o q ja ta n nw x pr R L kn lp ch me ru wo mb lf) := hD
        refine lv_aload_n hx hb dX6_full_35 rfl (lv_at hl 0 rfl) ?_
        refine va_get (D := D) (cl := vwCl) (ci := 5) (v := .ref (q 3)) (C := RX6) (T := TX6) (N := 6) hx hb hts (fun _ h => List.mem_cons_of_mem _ (List.mem_append_left _ (List.mem_append_left _ (List.mem_append_right _ h)))) hown hK hP 0 rfl rfl 2 (by decide) (hts (.fieldLink RX6 27 "CheapHours" "plan" "LCheapHours$Plan;") (List.mem_of_getElem? (i := 5) rfl)) (fun _ h9 => h9) rfl dX6_full_36 ?_
        refine rwVvP (As := []) (rest := []) (X := wF cI cL cO o q ja n nw x pr L kn lp ch me ru wo mb lf) (pl := jP ja ta R n ++ tP ta R n) (wc := wPl cI cL (q 3) (q 0) (q 1) (fun i => q (4 + i)) (nI L) kn x lp ch me ru wo mb) (wr := [(o, .inr (5, [.ref (q 0), .ref (q 2), .ref (q 3), .ref (q 10), .int (nI n), .int (nI nw)])), (q 1, .inl (cI, 600, .inl pr)), (q 2, .inl (cO, 12, .inr (.inr (.inr (.inr (jRef ja n)))))), (q 10, .inr (0, [.ref (q 0), .ref (q 11)])), (q 11, .inl (cI, 900, .inl lf))]) (cx := fun u9 => wF cI cL cO o q ja n nw x pr L 0 lp ch me ru wo mb lf) [4, 1, 5, 6, 7, 8, 9, 10] [0, 2, 3, 11, 12] [0, 6, 1, 2, 5, 7, 8, 9, 10, 11, 12, 3, 4] rfl rfl rfl (by decide) (by decide) (fun _ => rfl) (by decide) ⟨hx, hb, hml, hown, hts⟩ (c_X3_forget l D cI cL cZ cO H.size (q 3) (q 0) (q 1) (fun i => q (4 + i)) kn x lp ch me ru wo mb L  ) (cwV 0 hts gX6_full_X3_forget rfl rfl rfl (by decide +kernel) ⟨Nat.le_of_ble_eq_true rfl, Nat.le_of_ble_eq_true rfl⟩) hO hP hD (hP.sub [4, 1, 5, 6, 7, 8, 9, 10] rfl) (hD.sub [4, 1, 5, 6, 7, 8, 9, 10] (by decide) rfl) hS hA (va_recv hK hP (ci := 2) (q0 := 4) rfl rfl) rfl hl.1 rfl (Nat.le_of_ble_eq_true rfl) dX6_full_39 ⟨Nat.le_of_ble_eq_true rfl, Nat.le_of_ble_eq_true rfl⟩ (fun u_39 H locs e_39 hP hD hS => ?_)
        have hP : va_P D vwCl (wC cI cL cO o q ja ta n nw x pr R L 0 lp ch me ru wo mb lf) H := hP
        have hD : va_D A (wC cI cL cO o q ja ta n nw x pr R L 0 lp ch me ru wo mb lf) := hD
        refine lv_iconst (v := 1) hx hb dX6_full_42 (by decide) ?_
        have hz : fuOk x nw n = 1 := by simp only [fuOk, if_neg c_8, if_neg (show ¬ 0 < nw by omega), if_pos c_22]
        have hw : fuW full x nw n = x := if_neg (by rw [hz]; decide)
        rw [← hw] at hP hD
        rw [← hQQ]
        exact W.zret (v := 1) hx hb hr rfl (fun t9 ht9 hW9 => ⟨⟨_, 0, rfl, ⟨hz.symm, Or.inl rfl⟩, by rw [ht9]; exact hP, hD⟩, hS.F ht9⟩) hS.2.2 dX6_full_43
      · skip
        refine lv_iconst (v := 0) hx hb dX6_full_25 (by decide) ?_
        have hz : fuOk x nw n = 0 := by simp only [fuOk, if_neg c_8, if_neg (show ¬ 0 < nw by omega), if_neg (show ¬ n = 0 by omega)]
        have hw : fuW full x nw n = full := if_pos hz
        rw [← hw] at hP hD
        rw [← hQQ]
        exact W.zret (v := 0) hx hb hr rfl (fun t9 ht9 hW9 => ⟨⟨_, kn, rfl, ⟨hz.symm, Or.inr ⟨hz, rfl⟩⟩, by rw [ht9]; exact hP, hD⟩, hS.F ht9⟩) hS.2.2 dX6_full_26
set_option maxHeartbeats 4000000 in
set_option maxRecDepth 100000 in
theorem c_X6_level (l : Launch) (D : va_G) (cI cL cZ cO : ClassId) (sz : Nat) (o : Nat) (q ja ta : Nat → Nat) (n nw : Nat) (full : Int32) (pr : Nat → Int32) (R : Nat → Nat → Int32) (L : Nat) (kn : Int32) (lp ch : Nat → Int32) (me : Nat → Int64) (ru wo : Nat → Int32) (mb : Nat → Int64) (lf : Nat → Int32) (x p0 c0 : Int32) (hL : L ≤ 6) : Met l yX6_level wsX6_level ({ frames := 2, cells := 0, slots := 0, locals := 49 } : Room) (va_Pc [.ref o, .int x, .int p0, .int c0] (Rw D cI cL cZ cO (wC cI cL cO o q ja ta n nw full pr R L kn lp ch me ru wo mb lf) sz)) (va_Qi (fun (r : Int32) (u : (Nat → Int32) × (Nat → Int32) × Int32) => r = lvOk x p0 c0 L ∧ ((lvOk x p0 c0 L = 0 ∧ u = (lp, ch, kn)) ∨ (¬ lvOk x p0 c0 L = 0 ∧ u = (upd lp x.toNatClampNeg p0, chE ch x.toNatClampNeg c0.toNatClampNeg (ds c0.toNatClampNeg 6) 6, 0)))) (fun (u : (Nat → Int32) × (Nat → Int32) × Int32) => Wo D (va_A (wC cI cL cO o q ja ta n nw full pr R L kn lp ch me ru wo mb lf) sz) (wC cI cL cO o q ja ta n nw full pr R L u.2.2 u.1 u.2.1 me ru wo mb lf)) (va_A (wC cI cL cO o q ja ta n nw full pr R L kn lp ch me ru wo mb lf) sz)) 0 0 (va_A (wC cI cL cO o q ja ta n nw full pr R L kn lp ch me ru wo mb lf) sz) := by
  refine Met.ofW (cc := cX6_level) (maxL := 4) (ret := (some .boolean)) (by decide) rfl ?_
  intro p e s m args below meth c s₁ B hml hv
  obtain ⟨rfl, hsz, hP, hO, hD0⟩ := hv
  have hx := B.exec
  have hb := B.bytes
  have hr := B.returns
  have hts := atoms_spec (ws := wsX6_level) B.pre
  have hown : s.vm.findClass RX6 = some m.cls := findClass_of_methodNamed B.named
  have hlocks := B.notSynchronized
  have hK := hO.1
  subst hsz
  have hD := hD0.self (sz := s.heap.size)
  generalize hAe : va_A (wC cI cL cO o q ja ta n nw full pr R L kn lp ch me ru wo mb lf) s.heap.size = A at hD ⊢
  have hA : ∀ q : Nat, s.heap.size ≤ q → A q := fun q h => by rw [← hAe]; exact Or.inr h
  have hS : va_S A s.heap s.heap [] := va_S.rf
  have hl := lv_entry ([.ref o, .int x, .int p0, .int c0]) (n := 4) (Nat.le_of_ble_eq_true rfl)
  rw [lg_entry_eq]
  generalize (lg_sl ([.ref o, .int x, .int p0, .int c0]) ++ List.replicate (4 - (lg_sl ([.ref o, .int x, .int p0, .int c0])).length) Slot.unset).toArray = ls at hl ⊢
  have hl : lv_has ls 4 [(0, .ref o), (1, .int x), (2, .int p0), (3, .int c0)] := hl
  generalize hQQ : MQ below _ _ s _ _ _ = QQ
  refine lv_aload_n hx hb dX6_level_0 rfl (lv_at hl 0 rfl) ?_
  refine va_get (D := D) (cl := vwCl) (ci := 5) (v := .ref (q 3)) (C := RX6) (T := TX6) (N := 6) hx hb hts (fun _ h => List.mem_cons_of_mem _ (List.mem_append_left _ (List.mem_append_right _ h))) hown hK hP 0 rfl rfl 2 (by decide) (hts (.fieldLink RX6 27 "CheapHours" "plan" "LCheapHours$Plan;") (by decide +kernel)) (fun _ h9 => h9) rfl dX6_level_1 ?_
  refine lv_iload_n hx hb dX6_level_4 rfl (lv_at hl 1 rfl) ?_
  refine roVi (As := [.int x]) (rest := []) ⟨hx, hb, hml, hown, hts⟩ (c_X3_has l D cI cL cZ cO (q 3) (q 0) (q 1) (fun i => q (4 + i)) kn full lp ch me ru wo mb L x ) (cwV 1 hts gX6_level_X3_has rfl rfl rfl (by decide +kernel) ⟨Nat.le_of_ble_eq_true rfl, Nat.le_of_ble_eq_true rfl⟩) hO (hP.sub (ws' := wPl cI cL (q 3) (q 0) (q 1) (fun i => q (4 + i)) (nI L) kn full lp ch me ru wo mb) [4, 1, 5, 6, 7, 8, 9, 10] rfl) (va_recv hK hP (ci := 2) (q0 := 4) rfl rfl) rfl hl.1 rfl (Nat.le_of_ble_eq_true rfl) dX6_level_5 ⟨Nat.le_of_ble_eq_true rfl, Nat.le_of_ble_eq_true rfl⟩ (fun r_5 e_5 => ?_)
  obtain rfl : r_5 = wi x 0 (nI L - 1) := e_5
  refine lv_if_eq (tgt := 33) hx hb dX6_level_8 (by decide) (fun c_8 => ?_) (fun c_8 => ?_)
  · skip
    refine lv_iconst (v := 0) hx hb dX6_level_33 (by decide) ?_
    rw [← hQQ]
    exact W.zret (v := 0) hx hb hr rfl (fun t9 ht9 hW9 => ⟨⟨_, (lp, ch, kn), rfl, ⟨(lvOk_c (Or.inl c_8)).symm, Or.inl ⟨lvOk_c (Or.inl c_8), rfl⟩⟩, by rw [ht9]; exact hP, hD⟩, hS.F ht9⟩) hS.2.2 dX6_level_34
  · skip
    refine lv_iload_n hx hb dX6_level_11 rfl (lv_at hl 2 rfl) ?_
    refine lv_iconst (v := 0) hx hb dX6_level_12 (by decide) ?_
    refine lv_sipush (v := 999) hx hb dX6_level_13 (by decide) ?_
    refine roSi (As := [.int p0, .int 0, .int 999]) (rest := []) ⟨hx, hb, hml, hown, hts⟩ (c_X6_within l D cI cL cZ cO p0 0 999 ) (va_cwS 3 hts gX6_level_X6_within rfl rfl rfl (by decide +kernel) ⟨Nat.le_of_ble_eq_true rfl, Nat.le_of_ble_eq_true rfl⟩) hO (fun k q h => by simp at h) rfl hl.1 rfl (Nat.le_of_ble_eq_true rfl) dX6_level_16 ⟨Nat.le_of_ble_eq_true rfl, Nat.le_of_ble_eq_true rfl⟩ (fun r_16 e_16 => ?_)
    obtain rfl : r_16 = wi p0 0 999 := e_16
    refine lv_if_eq (tgt := 33) hx hb dX6_level_19 (by decide) (fun c_19 => ?_) (fun c_19 => ?_)
    · skip
      refine lv_iconst (v := 0) hx hb dX6_level_33 (by decide) ?_
      rw [← hQQ]
      exact W.zret (v := 0) hx hb hr rfl (fun t9 ht9 hW9 => ⟨⟨_, (lp, ch, kn), rfl, ⟨(lvOk_c (Or.inr (Or.inl c_19))).symm, Or.inl ⟨lvOk_c (Or.inr (Or.inl c_19)), rfl⟩⟩, by rw [ht9]; exact hP, hD⟩, hS.F ht9⟩) hS.2.2 dX6_level_34
    · skip
      refine lv_aload_n hx hb dX6_level_22 rfl (lv_at hl 0 rfl) ?_
      refine va_get (D := D) (cl := vwCl) (ci := 5) (v := .ref (q 3)) (C := RX6) (T := TX6) (N := 6) hx hb hts (fun _ h => List.mem_cons_of_mem _ (List.mem_append_left _ (List.mem_append_right _ h))) hown hK hP 0 rfl rfl 2 (by decide) (hts (.fieldLink RX6 27 "CheapHours" "plan" "LCheapHours$Plan;") (by decide +kernel)) (fun _ h9 => h9) rfl dX6_level_23 ?_
      refine lv_iload_n hx hb dX6_level_26 rfl (lv_at hl 3 rfl) ?_
      refine roVi (As := [.int c0]) (rest := []) ⟨hx, hb, hml, hown, hts⟩ (c_X3_canGo l D cI cL cZ cO (q 3) (q 0) (q 1) (fun i => q (4 + i)) kn full lp ch me ru wo mb L c0 hL) (cwV 1 hts gX6_level_X3_canGo rfl rfl rfl (by decide +kernel) ⟨Nat.le_of_ble_eq_true rfl, Nat.le_of_ble_eq_true rfl⟩) hO (hP.sub (ws' := wPl cI cL (q 3) (q 0) (q 1) (fun i => q (4 + i)) (nI L) kn full lp ch me ru wo mb) [4, 1, 5, 6, 7, 8, 9, 10] rfl) (va_recv hK hP (ci := 2) (q0 := 4) rfl rfl) rfl hl.1 rfl (Nat.le_of_ble_eq_true rfl) dX6_level_27 ⟨Nat.le_of_ble_eq_true rfl, Nat.le_of_ble_eq_true rfl⟩ (fun r_27 e_27 => ?_)
      obtain rfl : r_27 = cgV L c0 := e_27
      refine lv_if_ne (tgt := 35) hx hb dX6_level_30 (by decide) (fun c_30 => ?_) (fun c_30 => ?_)
      · skip
        obtain ⟨lx, hlx, rfl⟩ := lev_nat hL c_8
        obtain ⟨v, hv, rfl, hdv, hds⟩ := cgV_nat c_30
        refine lv_aload_n hx hb dX6_level_35 rfl (lv_at hl 0 rfl) ?_
        refine va_get (D := D) (cl := vwCl) (ci := 5) (v := .ref (q 3)) (C := RX6) (T := TX6) (N := 6) hx hb hts (fun _ h => List.mem_cons_of_mem _ (List.mem_append_left _ (List.mem_append_right _ h))) hown hK hP 0 rfl rfl 2 (by decide) (hts (.fieldLink RX6 27 "CheapHours" "plan" "LCheapHours$Plan;") (by decide +kernel)) (fun _ h9 => h9) rfl dX6_level_36 ?_
        refine lv_iload_n hx hb dX6_level_39 rfl (lv_at hl 1 rfl) ?_
        refine lv_iload_n hx hb dX6_level_40 rfl (lv_at hl 2 rfl) ?_
        refine lv_iload_n hx hb dX6_level_41 rfl (lv_at hl 3 rfl) ?_
        refine rwVvP (As := [.int (nI lx), .int p0, .int (nI v)]) (rest := []) (X := wF cI cL cO o q ja n nw full pr L kn lp ch me ru wo mb lf) (pl := jP ja ta R n ++ tP ta R n) (wc := wPl cI cL (q 3) (q 0) (q 1) (fun i => q (4 + i)) (nI L) kn full lp ch me ru wo mb) (wr := [(o, .inr (5, [.ref (q 0), .ref (q 2), .ref (q 3), .ref (q 10), .int (nI n), .int (nI nw)])), (q 1, .inl (cI, 600, .inl pr)), (q 2, .inl (cO, 12, .inr (.inr (.inr (.inr (jRef ja n)))))), (q 10, .inr (0, [.ref (q 0), .ref (q 11)])), (q 11, .inl (cI, 900, .inl lf))]) (cx := fun u9 => wF cI cL cO o q ja n nw full pr L 0 (upd lp lx p0) (chE ch lx v (ds v 6) 6) me ru wo mb lf) [4, 1, 5, 6, 7, 8, 9, 10] [0, 2, 3, 11, 12] [0, 6, 1, 2, 5, 7, 8, 9, 10, 11, 12, 3, 4] rfl rfl rfl (by decide) (by decide) (fun _ => rfl) (by decide) ⟨hx, hb, hml, hown, hts⟩ (c_X3_setLevel l D cI cL cZ cO s.heap.size (q 3) (q 0) (q 1) (fun i => q (4 + i)) kn full lp ch me ru wo mb L lx v p0 (by omega) hv (by rw [ds_ext hdv (show L ≤ 6 from hL)]; exact hds)) (cwV 3 hts gX6_level_X3_setLevel rfl rfl rfl (by decide +kernel) ⟨Nat.le_of_ble_eq_true rfl, Nat.le_of_ble_eq_true rfl⟩) hO hP hD (hP.sub [4, 1, 5, 6, 7, 8, 9, 10] rfl) (hD.sub [4, 1, 5, 6, 7, 8, 9, 10] (by decide) rfl) hS hA (va_recv hK hP (ci := 2) (q0 := 4) rfl rfl) rfl hl.1 rfl (Nat.le_of_ble_eq_true rfl) dX6_level_42 ⟨Nat.le_of_ble_eq_true rfl, Nat.le_of_ble_eq_true rfl⟩ (fun u_42 H locs e_42 hP hD hS => ?_)
        have hP : va_P D vwCl (wC cI cL cO o q ja ta n nw full pr R L 0 (upd lp lx p0) (chE ch lx v (ds v 6) 6) me ru wo mb lf) H := hP
        have hD : va_D A (wC cI cL cO o q ja ta n nw full pr R L 0 (upd lp lx p0) (chE ch lx v (ds v 6) 6) me ru wo mb lf) := hD
        refine lv_iconst (v := 1) hx hb dX6_level_45 (by decide) ?_
        rw [← hQQ]
        exact W.zret (v := 1) hx hb hr rfl (fun t9 ht9 hW9 => ⟨⟨_, (upd lp lx p0, chE ch lx v (ds v 6) 6, 0), rfl, ⟨(lvOk_y c_8 c_19 hv hdv hds).symm, Or.inr ⟨by rw [lvOk_y c_8 c_19 hv hdv hds]; decide, by rw [nI_clamp hv, nI_clamp (by omega)]⟩⟩, by rw [ht9]; exact hP, hD⟩, hS.F ht9⟩) hS.2.2 dX6_level_46
      · skip
        refine lv_iconst (v := 0) hx hb dX6_level_33 (by decide) ?_
        rw [← hQQ]
        exact W.zret (v := 0) hx hb hr rfl (fun t9 ht9 hW9 => ⟨⟨_, (lp, ch, kn), rfl, ⟨(lvOk_c (Or.inr (Or.inr c_30))).symm, Or.inl ⟨lvOk_c (Or.inr (Or.inr c_30)), rfl⟩⟩, by rw [ht9]; exact hP, hD⟩, hS.F ht9⟩) hS.2.2 dX6_level_34
set_option maxHeartbeats 4000000 in
set_option maxRecDepth 100000 in
theorem c_X6_jobOf (l : Launch) (D : va_G) (cI cL cZ cO : ClassId) (o : Nat) (q ja ta : Nat → Nat) (n nw : Nat) (full : Int32) (pr : Nat → Int32) (R : Nat → Nat → Int32) (L : Nat) (kn : Int32) (lp ch : Nat → Int32) (me : Nat → Int64) (ru wo : Nat → Int32) (mb : Nat → Int64) (lf : Nat → Int32) (x : Int32) : Met l yX6_jobOf wsX6_jobOf ({ frames := 1, cells := 0, slots := 0, locals := 22 } : Room) (va_Pc [.ref o, .int x] (Ro D cI cL cZ cO (wC cI cL cO o q ja ta n nw full pr R L kn lp ch me ru wo mb lf))) (va_Sq (fun r => r = jobRefX ja n x)) 0 0 (fun _ => False) := by
  refine Met.ofW (cc := cX6_jobOf) (maxL := 2) (ret := (some (.object "CheapHours$Job"))) (by decide) rfl ?_
  intro p e s m args below meth c s₁ B hml hv
  obtain ⟨rfl, hP, hO⟩ := hv
  have hx := B.exec
  have hb := B.bytes
  have hr := B.returns
  have hts := atoms_spec (ws := wsX6_jobOf) B.pre
  have hown : s.vm.findClass RX6 = some m.cls := findClass_of_methodNamed B.named
  have hlocks := B.notSynchronized
  have hK := hO.1
  have hl := lv_entry ([.ref o, .int x]) (n := 2) (Nat.le_of_ble_eq_true rfl)
  rw [lg_entry_eq]
  generalize (lg_sl ([.ref o, .int x]) ++ List.replicate (2 - (lg_sl ([.ref o, .int x])).length) Slot.unset).toArray = ls at hl ⊢
  have hl : lv_has ls 2 [(0, .ref o), (1, .int x)] := hl
  generalize hQQ : MQ below _ _ s _ _ _ = QQ
  refine lv_iload_n hx hb dX6_jobOf_0 rfl (lv_at hl 1 rfl) ?_
  refine lv_iconst (v := 0) hx hb dX6_jobOf_1 (by decide) ?_
  refine lv_aload_n hx hb dX6_jobOf_2 rfl (lv_at hl 0 rfl) ?_
  refine va_get (D := D) (cl := vwCl) (ci := 5) (v := .ref (q 2)) (C := RX6) (T := TX6) (N := 6) hx hb hts (fun _ h => List.mem_cons_of_mem _ (List.mem_append_right _ h)) hown hK hP 0 rfl rfl 1 (by decide) (hts (.fieldLink RX6 18 "CheapHours" "jobs" "[LCheapHours$Job;") (by decide +kernel)) (fun _ h9 => h9) rfl dX6_jobOf_3 ?_
  refine va_alen (D := D) (cl := vwCl) hx hb hK hP 3 3 rfl rfl (v := 12) (show Int32.ofNat 12 = 12 from rfl) dX6_jobOf_6 ?_
  refine lv_iconst (v := 1) hx hb dX6_jobOf_7 (by decide) ?_
  refine lv_isub hx hb dX6_jobOf_8 ?_
  refine lv_seti (v := 11) (by decide) ?_
  refine roSi (As := [.int x, .int 0, .int 11]) (rest := []) ⟨hx, hb, hml, hown, hts⟩ (c_X6_within l D cI cL cZ cO x 0 11 ) (va_cwS 3 hts gX6_jobOf_X6_within rfl rfl rfl (by decide +kernel) ⟨Nat.le_of_ble_eq_true rfl, Nat.le_of_ble_eq_true rfl⟩) hO (fun k q h => by simp at h) rfl hl.1 rfl (Nat.le_of_ble_eq_true rfl) dX6_jobOf_9 ⟨Nat.le_of_ble_eq_true rfl, Nat.le_of_ble_eq_true rfl⟩ (fun r_9 e_9 => ?_)
  obtain rfl : r_9 = wi x 0 11 := e_9
  refine lv_if_eq (tgt := 24) hx hb dX6_jobOf_12 (by decide) (fun c_12 => ?_) (fun c_12 => ?_)
  · skip
    refine lv_null hx hb dX6_jobOf_24 ?_
    rw [← hQQ]
    exact W.aret (v := .null) hx hb hr (Or.inl ⟨_, rfl⟩) (by first | exact va_rf_or _ | exact Or.inl rfl) (fun t9 ht9 hW9 => ⟨none, rfl, (by rw [jobRefX, if_pos c_12]), ht9⟩) (fun q h => by cases h) dX6_jobOf_25
  · skip
    obtain ⟨j, -, hj, rfl⟩ := wi_nat (a := 0) (b := 11) (by decide) (by decide) c_12
    refine lv_aload_n hx hb dX6_jobOf_15 rfl (lv_at hl 0 rfl) ?_
    refine va_get (D := D) (cl := vwCl) (ci := 5) (v := .ref (q 2)) (C := RX6) (T := TX6) (N := 6) hx hb hts (fun _ h => List.mem_cons_of_mem _ (List.mem_append_right _ h)) hown hK hP 0 rfl rfl 1 (by decide) (hts (.fieldLink RX6 18 "CheapHours" "jobs" "[LCheapHours$Job;") (by decide +kernel)) (fun _ h9 => h9) rfl dX6_jobOf_16 ?_
    refine lv_iload_n hx hb dX6_jobOf_19 rfl (lv_at hl 1 rfl) ?_
    refine n_aldq (D := D) (cl := vwCl) (x := j) hx hb hK hP 3 3 (f := (jRef ja n)) rfl rfl (by omega) (Nat.le_of_ble_eq_true rfl) dX6_jobOf_20 ?_
    refine lv_goto (tgt := 25) hx hb dX6_jobOf_21 (by decide) ?_
    rw [← hQQ]
    exact W.aret (v := va_rf ((jRef ja n) j)) hx hb hr (Or.inl ⟨_, rfl⟩) (by first | exact va_rf_or _ | exact Or.inl rfl) (fun t9 ht9 hW9 => ⟨((jRef ja n) j), rfl, (by rw [jobRefX, if_neg c_12, nI_clamp (by omega)]), ht9⟩) (fun q h => by cases h) dX6_jobOf_25
set_option maxHeartbeats 4000000 in
set_option maxRecDepth 100000 in
theorem c_X6_told (l : Launch) (D : va_G) (cI cL cZ cO : ClassId) (o : Nat) (q ja ta : Nat → Nat) (n nw : Nat) (full : Int32) (pr : Nat → Int32) (R : Nat → Nat → Int32) (L : Nat) (kn : Int32) (lp ch : Nat → Int32) (me : Nat → Int64) (ru wo : Nat → Int32) (mb : Nat → Int64) (lf : Nat → Int32) (x y : Int32) (hn : n ≤ 12) : Met l yX6_told wsX6_told ({ frames := 2, cells := 0, slots := 0, locals := 43 } : Room) (va_Pc [.ref o, .int x, .int y] (Ro D cI cL cZ cO (wC cI cL cO o q ja ta n nw full pr R L kn lp ch me ru wo mb lf))) (vp_Si (fun r => r = toldV n R x y)) 0 0 (fun _ => False) := by
  refine Met.ofW (cc := cX6_told) (maxL := 4) (ret := (some .int)) (by decide) rfl ?_
  intro p e s m args below meth c s₁ B hml hv
  obtain ⟨rfl, hP, hO⟩ := hv
  have hx := B.exec
  have hb := B.bytes
  have hr := B.returns
  have hts := atoms_spec (ws := wsX6_told) B.pre
  have hown : s.vm.findClass RX6 = some m.cls := findClass_of_methodNamed B.named
  have hlocks := B.notSynchronized
  have hK := hO.1
  have hl := lv_entry ([.ref o, .int x, .int y]) (n := 4) (Nat.le_of_ble_eq_true rfl)
  rw [lg_entry_eq]
  generalize (lg_sl ([.ref o, .int x, .int y]) ++ List.replicate (4 - (lg_sl ([.ref o, .int x, .int y])).length) Slot.unset).toArray = ls at hl ⊢
  have hl : lv_has ls 4 [(0, .ref o), (1, .int x), (2, .int y)] := hl
  generalize hQQ : MQ below _ _ s _ _ _ = QQ
  refine lv_aload_n hx hb dX6_told_0 rfl (lv_at hl 0 rfl) ?_
  refine lv_iload_n hx hb dX6_told_1 rfl (lv_at hl 1 rfl) ?_
  refine roVq (As := [.int x]) (rest := []) ⟨hx, hb, hml, hown, hts⟩ (c_X6_jobOf l D cI cL cZ cO o q ja ta n nw full pr R L kn lp ch me ru wo mb lf x ) (cwV 1 hts gX6_told_X6_jobOf rfl rfl rfl (by decide +kernel) ⟨Nat.le_of_ble_eq_true rfl, Nat.le_of_ble_eq_true rfl⟩) hO hP (va_recv hK hP (ci := 5) (q0 := 0) rfl rfl) rfl hl.1 rfl (Nat.le_of_ble_eq_true rfl) dX6_told_2 ⟨Nat.le_of_ble_eq_true rfl, Nat.le_of_ble_eq_true rfl⟩ (fun r_2 e_2 => ?_)
  rcases jobOf_cases (ja := ja) (x := x) hn with ⟨hw9, hj9⟩ | ⟨j, hj, rfl, hj9, hw9⟩
  · skip
    rw [e_2, hj9]
    refine lv_astore_nN (lv' := [(3, .null), (0, .ref o), (1, .int x), (2, .int y)]) hx hb dX6_told_5 rfl hl (by decide) rfl (fun ls hl => ?_)
    refine lv_aload_nN hx hb dX6_told_6 rfl (lv_at hl 0 rfl) ?_
    refine lv_ifnonnullN hx hb dX6_told_7 ?_
    refine lv_iconst (v := (-1)) hx hb dX6_told_10 (by decide) ?_
    refine lv_goto (tgt := 19) hx hb dX6_told_11 (by decide) ?_
    rw [← hQQ]
    exact W.iret (v := (-1)) hx hb hr (fun t9 ht9 hW9 => ⟨_, rfl, (by rw [toldV, if_pos hw9]), ht9⟩) (fun q h => by cases h) dX6_told_19
  · skip
    rw [e_2, hj9]
    refine lv_astore_n (lv' := [(3, .ref (ja j)), (0, .ref o), (1, .int (nI j)), (2, .int y)]) hx hb dX6_told_5 rfl hl (by decide) rfl (fun ls hl => ?_)
    refine lv_aload_n hx hb dX6_told_6 rfl (lv_at hl 0 rfl) ?_
    refine lv_ifnonnull (tgt := 14) hx hb dX6_told_7 (by decide) ?_
    refine lv_aload_n hx hb dX6_told_14 rfl (lv_at hl 0 rfl) ?_
    refine lv_iload_n hx hb dX6_told_15 rfl (lv_at hl 3 rfl) ?_
    refine roVi (As := [.int y]) (rest := []) ⟨hx, hb, hml, hown, hts⟩ (c_X1_tell l D cI cL cZ cO (ja j) (ta j) (R j) y ) (cwV 1 hts gX6_told_X1_tell rfl rfl rfl (by decide +kernel) ⟨Nat.le_of_ble_eq_true rfl, Nat.le_of_ble_eq_true rfl⟩) hO (poolP hP hj) (va_recv hK (poolP hP hj) (ci := 1) (q0 := 0) rfl rfl) rfl hl.1 rfl (Nat.le_of_ble_eq_true rfl) dX6_told_16 ⟨Nat.le_of_ble_eq_true rfl, Nat.le_of_ble_eq_true rfl⟩ (fun r_16 e_16 => ?_)
    obtain rfl : r_16 = tellV (R j) y := e_16
    rw [← hQQ]
    exact W.iret (v := (tellV (R j) y)) hx hb hr (fun t9 ht9 hW9 => ⟨_, rfl, (by rw [toldV, if_neg hw9, nI_clamp (by omega)]), ht9⟩) (fun q h => by cases h) dX6_told_19
set_option maxHeartbeats 4000000 in
set_option maxRecDepth 100000 in
theorem c_X6_readyJobs (l : Launch) (D : va_G) (cI cL cZ cO : ClassId) (o : Nat) (q ja ta : Nat → Nat) (n nw : Nat) (full : Int32) (pr : Nat → Int32) (R : Nat → Nat → Int32) (L : Nat) (kn : Int32) (lp ch : Nat → Int32) (me : Nat → Int64) (ru wo : Nat → Int32) (mb : Nat → Int64) (lf : Nat → Int32)  (hn : n ≤ 12) : Met l yX6_readyJobs wsX6_readyJobs ({ frames := 2, cells := 0, slots := 0, locals := 43 } : Room) (va_Pc [.ref o] (Ro D cI cL cZ cO (wC cI cL cO o q ja ta n nw full pr R L kn lp ch me ru wo mb lf))) (vp_Si (fun r => r = rdyN R n)) 0 0 (fun _ => False) := by
  refine Met.ofW (cc := cX6_readyJobs) (maxL := 4) (ret := (some .int)) (by decide) rfl ?_
  intro p e s m args below meth c s₁ B hml hv
  obtain ⟨rfl, hP, hO⟩ := hv
  have hx := B.exec
  have hb := B.bytes
  have hr := B.returns
  have hts := atoms_spec (ws := wsX6_readyJobs) B.pre
  have hown : s.vm.findClass RX6 = some m.cls := findClass_of_methodNamed B.named
  have hlocks := B.notSynchronized
  have hK := hO.1
  have hl := lv_entry ([.ref o]) (n := 4) (Nat.le_of_ble_eq_true rfl)
  rw [lg_entry_eq]
  generalize (lg_sl ([.ref o]) ++ List.replicate (4 - (lg_sl ([.ref o])).length) Slot.unset).toArray = ls at hl ⊢
  have hl : lv_has ls 4 [(0, .ref o)] := hl
  generalize hQQ : MQ below _ _ s _ _ _ = QQ
  refine lv_iconst (v := 0) hx hb dX6_readyJobs_0 (by decide) ?_
  refine lv_istore_n (lv' := [(1, .int 0), (0, .ref o)]) hx hb dX6_readyJobs_1 rfl hl (by decide) rfl (fun ls hl => ?_)
  refine lv_iconst (v := 0) hx hb dX6_readyJobs_2 (by decide) ?_
  refine lv_istore_n (lv' := [(2, .int 0), (1, .int 0), (0, .ref o)]) hx hb dX6_readyJobs_3 rfl hl (by decide) rfl (fun ls hl => ?_)
  have L4 : ∀ (n0 : Nat) (i : Nat) (v : Int32) (ls : Array Slot), n - i < n0 → (i ≤ n) → (v = rdyN R i) → lv_has ls 4 [(2, .int (nI i)), (1, .int v), (0, .ref o)] → W p l e (headSpec wsX6_readyJobs ({ frames := 2, cells := 0, slots := 0, locals := 43 } : Room)).room s m ([.ref o] : List Value).toArray below meth c s.heap [] 0 0 QQ (F0 m 4 ls []) := by
    intro n0
    induction n0 with
    | zero =>
      intro i v ls hmu
      exact absurd hmu (Nat.not_lt_zero _)
    | succ n0 ih4 =>
      intro i v ls hmu hi hv hl
      refine lv_iload_n hx hb dX6_readyJobs_4 rfl (lv_at hl 0 rfl) ?_
      refine lv_aload_n hx hb dX6_readyJobs_5 rfl (lv_at hl 2 rfl) ?_
      refine va_get (D := D) (cl := vwCl) (ci := 5) (v := .int (nI n)) (C := RX6) (T := TX6) (N := 6) hx hb hts (fun _ h => List.mem_cons_of_mem _ (List.mem_append_left _ (List.mem_append_right _ h))) hown hK hP 0 rfl rfl 4 (by decide) (hts (.fieldLink RX6 50 "CheapHours" "jobCount" "I") (by decide +kernel)) (fun _ h9 => h9) rfl dX6_readyJobs_6 ?_
      refine n_icmp_ge (x := i) (y := n) (tgt := 38) hx hb dX6_readyJobs_9 (by decide) (by omega) (by omega) (fun c_9 => ?_) (fun c_9 => ?_)
      · skip
        refine lv_iload_n hx hb dX6_readyJobs_38 rfl (lv_at hl 1 rfl) ?_
        rw [← hQQ]
        exact W.iret (v := v) hx hb hr (fun t9 ht9 hW9 => ⟨_, rfl, (by rw [hv, show i = n by omega]), ht9⟩) (fun q h => by cases h) dX6_readyJobs_39
      · skip
        have hj : i < n := c_9
        refine lv_aload_n hx hb dX6_readyJobs_12 rfl (lv_at hl 2 rfl) ?_
        refine lv_iload_n hx hb dX6_readyJobs_13 rfl (lv_at hl 0 rfl) ?_
        refine roVq (As := [.int (nI i)]) (rest := []) ⟨hx, hb, hml, hown, hts⟩ (c_X6_jobOf l D cI cL cZ cO o q ja ta n nw full pr R L kn lp ch me ru wo mb lf (nI i) ) (cwV 1 hts gX6_readyJobs_X6_jobOf rfl rfl rfl (by decide +kernel) ⟨Nat.le_of_ble_eq_true rfl, Nat.le_of_ble_eq_true rfl⟩) hO hP (va_recv hK hP (ci := 5) (q0 := 0) rfl rfl) rfl hl.1 rfl (Nat.le_of_ble_eq_true rfl) dX6_readyJobs_14 ⟨Nat.le_of_ble_eq_true rfl, Nat.le_of_ble_eq_true rfl⟩ (fun r_14 e_14 => ?_)
        rw [e_14, jobRef_lt hn hj]
        refine lv_astore_n (lv' := [(3, .ref (ja i)), (2, .int (nI i)), (1, .int v), (0, .ref o)]) hx hb dX6_readyJobs_17 rfl hl (by decide) rfl (fun ls hl => ?_)
        refine lv_aload_n hx hb dX6_readyJobs_18 rfl (lv_at hl 0 rfl) ?_
        refine lv_ifnull hx hb dX6_readyJobs_19 ?_
        refine lv_aload_n hx hb dX6_readyJobs_22 rfl (lv_at hl 0 rfl) ?_
        refine roVi (As := []) (rest := []) ⟨hx, hb, hml, hown, hts⟩ (c_X1_isReady l D cI cL cZ cO (ja i) (ta i) (R i) ) (cwV 0 hts gX6_readyJobs_X1_isReady rfl rfl rfl (by decide +kernel) ⟨Nat.le_of_ble_eq_true rfl, Nat.le_of_ble_eq_true rfl⟩) hO (poolP hP hj) (va_recv hK (poolP hP hj) (ci := 1) (q0 := 0) rfl rfl) rfl hl.1 rfl (Nat.le_of_ble_eq_true rfl) dX6_readyJobs_23 ⟨Nat.le_of_ble_eq_true rfl, Nat.le_of_ble_eq_true rfl⟩ (fun r_23 e_23 => ?_)
        obtain rfl : r_23 = rReady (R i) := e_23
        refine lv_if_eq (tgt := 32) hx hb dX6_readyJobs_26 (by decide) (fun c_26 => ?_) (fun c_26 => ?_)
        · skip
          refine lv_iinc (v := (nI (i + 1))) (lv' := [(2, .int (nI (i + 1))), (3, .ref (ja i)), (1, .int v), (0, .ref o)]) hx hb dX6_readyJobs_32 hl (k := 1) rfl (nI_add i 1) (by decide) rfl (fun ls hl => ?_)
          refine lv_goto (tgt := 4) hx hb dX6_readyJobs_35 (by decide) ?_
          exact ih4 (i + 1) v _ (by omega) (by omega) (by rw [hv, rdyN, if_pos (rReady_0 c_26), Int32.add_zero]) (lv_sub hl [0, 2, 3] rfl)
        · skip
          refine lv_iinc (v := (v + 1)) (lv' := [(1, .int (v + 1)), (3, .ref (ja i)), (2, .int (nI i)), (0, .ref o)]) hx hb dX6_readyJobs_29 hl (k := 2) rfl rfl (by decide) rfl (fun ls hl => ?_)
          refine lv_iinc (v := (nI (i + 1))) (lv' := [(2, .int (nI (i + 1))), (1, .int (v + 1)), (3, .ref (ja i)), (0, .ref o)]) hx hb dX6_readyJobs_32 hl (k := 2) rfl (nI_add i 1) (by decide) rfl (fun ls hl => ?_)
          refine lv_goto (tgt := 4) hx hb dX6_readyJobs_35 (by decide) ?_
          exact ih4 (i + 1) (v + 1) _ (by omega) (by omega) (by rw [hv, rdyN, if_neg (rReady_1 c_26)]) (lv_sub hl [0, 1, 3] rfl)
  exact L4 _ 0 0 _ (Nat.lt_succ_self _) (Nat.zero_le _) rfl (lv_sub hl [0, 1, 2] rfl)
set_option maxHeartbeats 4000000 in
set_option maxRecDepth 100000 in
theorem c_X6_allPaid (l : Launch) (D : va_G) (cI cL cZ cO : ClassId) (o : Nat) (q ja ta : Nat → Nat) (n nw : Nat) (full : Int32) (pr : Nat → Int32) (R : Nat → Nat → Int32) (L : Nat) (kn : Int32) (lp ch : Nat → Int32) (me : Nat → Int64) (ru wo : Nat → Int32) (mb : Nat → Int64) (lf : Nat → Int32)  (hn : n ≤ 12) : Met l yX6_allPaid wsX6_allPaid ({ frames := 2, cells := 0, slots := 0, locals := 43 } : Room) (va_Pc [.ref o] (Ro D cI cL cZ cO (wC cI cL cO o q ja ta n nw full pr R L kn lp ch me ru wo mb lf))) (vp_Si (fun r => r = paidN R n)) 0 0 (fun _ => False) := by
  refine Met.ofW (cc := cX6_allPaid) (maxL := 4) (ret := (some .int)) (by decide) rfl ?_
  intro p e s m args below meth c s₁ B hml hv
  obtain ⟨rfl, hP, hO⟩ := hv
  have hx := B.exec
  have hb := B.bytes
  have hr := B.returns
  have hts := atoms_spec (ws := wsX6_allPaid) B.pre
  have hown : s.vm.findClass RX6 = some m.cls := findClass_of_methodNamed B.named
  have hlocks := B.notSynchronized
  have hK := hO.1
  have hl := lv_entry ([.ref o]) (n := 4) (Nat.le_of_ble_eq_true rfl)
  rw [lg_entry_eq]
  generalize (lg_sl ([.ref o]) ++ List.replicate (4 - (lg_sl ([.ref o])).length) Slot.unset).toArray = ls at hl ⊢
  have hl : lv_has ls 4 [(0, .ref o)] := hl
  generalize hQQ : MQ below _ _ s _ _ _ = QQ
  refine lv_iconst (v := 0) hx hb dX6_allPaid_0 (by decide) ?_
  refine lv_istore_n (lv' := [(1, .int 0), (0, .ref o)]) hx hb dX6_allPaid_1 rfl hl (by decide) rfl (fun ls hl => ?_)
  refine lv_iconst (v := 0) hx hb dX6_allPaid_2 (by decide) ?_
  refine lv_istore_n (lv' := [(2, .int 0), (1, .int 0), (0, .ref o)]) hx hb dX6_allPaid_3 rfl hl (by decide) rfl (fun ls hl => ?_)
  have L4 : ∀ (n0 : Nat) (i : Nat) (v : Int32) (ls : Array Slot), n - i < n0 → (i ≤ n) → (v = paidN R i) → lv_has ls 4 [(2, .int (nI i)), (1, .int v), (0, .ref o)] → W p l e (headSpec wsX6_allPaid ({ frames := 2, cells := 0, slots := 0, locals := 43 } : Room)).room s m ([.ref o] : List Value).toArray below meth c s.heap [] 0 0 QQ (F0 m 4 ls []) := by
    intro n0
    induction n0 with
    | zero =>
      intro i v ls hmu
      exact absurd hmu (Nat.not_lt_zero _)
    | succ n0 ih4 =>
      intro i v ls hmu hi hv hl
      refine lv_iload_n hx hb dX6_allPaid_4 rfl (lv_at hl 0 rfl) ?_
      refine lv_aload_n hx hb dX6_allPaid_5 rfl (lv_at hl 2 rfl) ?_
      refine va_get (D := D) (cl := vwCl) (ci := 5) (v := .int (nI n)) (C := RX6) (T := TX6) (N := 6) hx hb hts (fun _ h => List.mem_cons_of_mem _ (List.mem_append_left _ (List.mem_append_right _ h))) hown hK hP 0 rfl rfl 4 (by decide) (hts (.fieldLink RX6 50 "CheapHours" "jobCount" "I") (by decide +kernel)) (fun _ h9 => h9) rfl dX6_allPaid_6 ?_
      refine n_icmp_ge (x := i) (y := n) (tgt := 35) hx hb dX6_allPaid_9 (by decide) (by omega) (by omega) (fun c_9 => ?_) (fun c_9 => ?_)
      · skip
        refine lv_iload_n hx hb dX6_allPaid_35 rfl (lv_at hl 1 rfl) ?_
        rw [← hQQ]
        exact W.iret (v := v) hx hb hr (fun t9 ht9 hW9 => ⟨_, rfl, (by rw [hv, show i = n by omega]), ht9⟩) (fun q h => by cases h) dX6_allPaid_36
      · skip
        have hj : i < n := c_9
        refine lv_aload_n hx hb dX6_allPaid_12 rfl (lv_at hl 2 rfl) ?_
        refine lv_iload_n hx hb dX6_allPaid_13 rfl (lv_at hl 0 rfl) ?_
        refine roVq (As := [.int (nI i)]) (rest := []) ⟨hx, hb, hml, hown, hts⟩ (c_X6_jobOf l D cI cL cZ cO o q ja ta n nw full pr R L kn lp ch me ru wo mb lf (nI i) ) (cwV 1 hts gX6_allPaid_X6_jobOf rfl rfl rfl (by decide +kernel) ⟨Nat.le_of_ble_eq_true rfl, Nat.le_of_ble_eq_true rfl⟩) hO hP (va_recv hK hP (ci := 5) (q0 := 0) rfl rfl) rfl hl.1 rfl (Nat.le_of_ble_eq_true rfl) dX6_allPaid_14 ⟨Nat.le_of_ble_eq_true rfl, Nat.le_of_ble_eq_true rfl⟩ (fun r_14 e_14 => ?_)
        rw [e_14, jobRef_lt hn hj]
        refine lv_astore_n (lv' := [(3, .ref (ja i)), (2, .int (nI i)), (1, .int v), (0, .ref o)]) hx hb dX6_allPaid_17 rfl hl (by decide) rfl (fun ls hl => ?_)
        refine lv_aload_n hx hb dX6_allPaid_18 rfl (lv_at hl 0 rfl) ?_
        refine lv_ifnull hx hb dX6_allPaid_19 ?_
        refine lv_iload_n hx hb dX6_allPaid_22 rfl (lv_at hl 2 rfl) ?_
        refine lv_aload_n hx hb dX6_allPaid_23 rfl (lv_at hl 0 rfl) ?_
        refine va_get (D := D) (cl := vwCl) (ci := 1) (v := .int ((R i) 15)) (C := RX1) (T := TX1) (N := 16) hx hb hts (fun _ h => List.mem_cons_of_mem _ (List.mem_append_right _ h)) hown hK hP (13 + i) (poolJ hj) rfl 1 (by decide) (hts (.fieldLink RX6 165 "CheapHours$Job" "paid" "I") (by decide +kernel)) (fun _ h9 => h9) rfl dX6_allPaid_24 ?_
        refine lv_iadd hx hb dX6_allPaid_27 ?_
        refine lv_istore_n (lv' := [(1, .int (v + ((R i) 15))), (3, .ref (ja i)), (2, .int (nI i)), (0, .ref o)]) hx hb dX6_allPaid_28 rfl hl (by decide) rfl (fun ls hl => ?_)
        refine lv_iinc (v := (nI (i + 1))) (lv' := [(2, .int (nI (i + 1))), (1, .int (v + ((R i) 15))), (3, .ref (ja i)), (0, .ref o)]) hx hb dX6_allPaid_29 hl (k := 2) rfl (nI_add i 1) (by decide) rfl (fun ls hl => ?_)
        refine lv_goto (tgt := 4) hx hb dX6_allPaid_32 (by decide) ?_
        exact ih4 (i + 1) (v + ((R i) 15)) _ (by omega) (by omega) (by rw [hv]; rfl) (lv_sub hl [0, 1, 3] rfl)
  exact L4 _ 0 0 _ (Nat.lt_succ_self _) (Nat.zero_le _) rfl (lv_sub hl [0, 1, 2] rfl)
set_option maxHeartbeats 4000000 in
set_option maxRecDepth 100000 in
theorem c_X6_count (l : Launch) (D : va_G) (cI cL cZ cO : ClassId) (o : Nat) (q ja ta : Nat → Nat) (n nw : Nat) (full : Int32) (pr : Nat → Int32) (R : Nat → Nat → Int32) (L : Nat) (kn : Int32) (lp ch : Nat → Int32) (me : Nat → Int64) (ru wo : Nat → Int32) (mb : Nat → Int64) (lf : Nat → Int32) (y : Int32) (hn : n ≤ 12) : Met l yX6_count wsX6_count ({ frames := 3, cells := 0, slots := 0, locals := 66 } : Room) (va_Pc [.ref o, .int y] (Ro D cI cL cZ cO (wC cI cL cO o q ja ta n nw full pr R L kn lp ch me ru wo mb lf))) (vp_Si (fun r => r = countV nw n full (nI L) R y)) 0 0 (fun _ => False) := by
  refine Met.ofW (cc := cX6_count) (maxL := 2) (ret := (some .int)) (by decide) rfl ?_
  intro p e s m args below meth c s₁ B hml hv
  obtain ⟨rfl, hP, hO⟩ := hv
  have hx := B.exec
  have hb := B.bytes
  have hr := B.returns
  have hts := atoms_spec (ws := wsX6_count) B.pre
  have hown : s.vm.findClass RX6 = some m.cls := findClass_of_methodNamed B.named
  have hlocks := B.notSynchronized
  have hK := hO.1
  have hl := lv_entry ([.ref o, .int y]) (n := 2) (Nat.le_of_ble_eq_true rfl)
  rw [lg_entry_eq]
  generalize (lg_sl ([.ref o, .int y]) ++ List.replicate (2 - (lg_sl ([.ref o, .int y])).length) Slot.unset).toArray = ls at hl ⊢
  have hl : lv_has ls 2 [(0, .ref o), (1, .int y)] := hl
  generalize hQQ : MQ below _ _ s _ _ _ = QQ
  refine lv_iload_n hx hb dX6_count_0 rfl (lv_at hl 1 rfl) ?_
  by_cases sw_1_0 : y = 0
  · skip
    refine lv_tableIn (tgt := 40) hx hb dX6_count_1 (by rw [sw_1_0]; decide) (by rw [sw_1_0]; decide) (by rw [sw_1_0]; rfl) (by decide) ?_
    refine lv_aload_n hx hb dX6_count_40 rfl (lv_at hl 0 rfl) ?_
    refine va_get (D := D) (cl := vwCl) (ci := 5) (v := .int (nI nw)) (C := RX6) (T := TX6) (N := 6) hx hb hts (fun _ h => List.mem_cons_of_mem _ (List.mem_append_left _ (List.mem_append_left _ (List.mem_append_left _ (List.mem_append_right _ h))))) hown hK hP 0 rfl rfl 5 (by decide) (hts (.fieldLink RX6 42 "CheapHours" "now" "I") (List.mem_of_getElem? (i := 1) rfl)) (fun _ h9 => h9) rfl dX6_count_41 ?_
    rw [← hQQ]
    exact W.iret (v := (nI nw)) hx hb hr (fun t9 ht9 hW9 => ⟨_, rfl, (by simp only [countV, if_pos sw_1_0]), ht9⟩) (fun q h => by cases h) dX6_count_44
  by_cases sw_1_1 : y = 1
  · skip
    refine lv_tableIn (tgt := 45) hx hb dX6_count_1 (by rw [sw_1_1]; decide) (by rw [sw_1_1]; decide) (by rw [sw_1_1]; rfl) (by decide) ?_
    refine lv_aload_n hx hb dX6_count_45 rfl (lv_at hl 0 rfl) ?_
    refine va_get (D := D) (cl := vwCl) (ci := 5) (v := .int (nI n)) (C := RX6) (T := TX6) (N := 6) hx hb hts (fun _ h => List.mem_cons_of_mem _ (List.mem_append_left _ (List.mem_append_left _ (List.mem_append_left _ (List.mem_append_right _ h))))) hown hK hP 0 rfl rfl 4 (by decide) (hts (.fieldLink RX6 50 "CheapHours" "jobCount" "I") (List.mem_of_getElem? (i := 2) rfl)) (fun _ h9 => h9) rfl dX6_count_46 ?_
    rw [← hQQ]
    exact W.iret (v := (nI n)) hx hb hr (fun t9 ht9 hW9 => ⟨_, rfl, (by simp only [countV, if_neg sw_1_0, if_pos sw_1_1]), ht9⟩) (fun q h => by cases h) dX6_count_49
  by_cases sw_1_2 : y = 2
  · skip
    refine lv_tableIn (tgt := 50) hx hb dX6_count_1 (by rw [sw_1_2]; decide) (by rw [sw_1_2]; decide) (by rw [sw_1_2]; rfl) (by decide) ?_
    refine lv_aload_n hx hb dX6_count_50 rfl (lv_at hl 0 rfl) ?_
    refine roVi (As := []) (rest := []) ⟨hx, hb, hml, hown, hts⟩ (c_X6_readyJobs l D cI cL cZ cO o q ja ta n nw full pr R L kn lp ch me ru wo mb lf hn) (cwV 0 hts gX6_count_X6_readyJobs rfl rfl rfl (by decide +kernel) ⟨Nat.le_of_ble_eq_true rfl, Nat.le_of_ble_eq_true rfl⟩) hO hP (va_recv hK hP (ci := 5) (q0 := 0) rfl rfl) rfl hl.1 rfl (Nat.le_of_ble_eq_true rfl) dX6_count_51 ⟨Nat.le_of_ble_eq_true rfl, Nat.le_of_ble_eq_true rfl⟩ (fun r_51 e_51 => ?_)
    obtain rfl : r_51 = rdyN R n := e_51
    rw [← hQQ]
    exact W.iret (v := (rdyN R n)) hx hb hr (fun t9 ht9 hW9 => ⟨_, rfl, (by simp only [countV, if_neg sw_1_0, if_neg sw_1_1, if_pos sw_1_2]), ht9⟩) (fun q h => by cases h) dX6_count_54
  by_cases sw_1_3 : y = 3
  · skip
    refine lv_tableIn (tgt := 55) hx hb dX6_count_1 (by rw [sw_1_3]; decide) (by rw [sw_1_3]; decide) (by rw [sw_1_3]; rfl) (by decide) ?_
    refine lv_aload_n hx hb dX6_count_55 rfl (lv_at hl 0 rfl) ?_
    refine roVi (As := []) (rest := []) ⟨hx, hb, hml, hown, hts⟩ (c_X6_allPaid l D cI cL cZ cO o q ja ta n nw full pr R L kn lp ch me ru wo mb lf hn) (cwV 0 hts gX6_count_X6_allPaid rfl rfl rfl (by decide +kernel) ⟨Nat.le_of_ble_eq_true rfl, Nat.le_of_ble_eq_true rfl⟩) hO hP (va_recv hK hP (ci := 5) (q0 := 0) rfl rfl) rfl hl.1 rfl (Nat.le_of_ble_eq_true rfl) dX6_count_56 ⟨Nat.le_of_ble_eq_true rfl, Nat.le_of_ble_eq_true rfl⟩ (fun r_56 e_56 => ?_)
    obtain rfl : r_56 = paidN R n := e_56
    rw [← hQQ]
    exact W.iret (v := (paidN R n)) hx hb hr (fun t9 ht9 hW9 => ⟨_, rfl, (by simp only [countV, if_neg sw_1_0, if_neg sw_1_1, if_neg sw_1_2, if_pos sw_1_3]), ht9⟩) (fun q h => by cases h) dX6_count_59
  by_cases sw_1_4 : y = 4
  · skip
    refine lv_tableIn (tgt := 60) hx hb dX6_count_1 (by rw [sw_1_4]; decide) (by rw [sw_1_4]; decide) (by rw [sw_1_4]; rfl) (by decide) ?_
    refine lv_aload_n hx hb dX6_count_60 rfl (lv_at hl 0 rfl) ?_
    refine va_get (D := D) (cl := vwCl) (ci := 5) (v := .ref (q 3)) (C := RX6) (T := TX6) (N := 6) hx hb hts (fun _ h => List.mem_cons_of_mem _ (List.mem_append_left _ (List.mem_append_left _ (List.mem_append_left _ (List.mem_append_right _ h))))) hown hK hP 0 rfl rfl 2 (by decide) (hts (.fieldLink RX6 27 "CheapHours" "plan" "LCheapHours$Plan;") (List.mem_of_getElem? (i := 3) rfl)) (fun _ h9 => h9) rfl dX6_count_61 ?_
    refine va_get (D := D) (cl := vwCl) (ci := 2) (v := .int (nI L)) (C := RX3) (T := TX3) (N := 9) hx hb hts (fun _ h => List.mem_cons_of_mem _ (List.mem_append_left _ (List.mem_append_left _ (List.mem_append_right _ h)))) hown hK hP 4 rfl rfl 0 (by decide) (hts (.fieldLink RX6 156 "CheapHours$Plan" "size" "I") (List.mem_of_getElem? (i := 4) rfl)) (fun _ h9 => h9) rfl dX6_count_64 ?_
    rw [← hQQ]
    exact W.iret (v := (nI L)) hx hb hr (fun t9 ht9 hW9 => ⟨_, rfl, (by simp only [countV, if_neg sw_1_0, if_neg sw_1_1, if_neg sw_1_2, if_neg sw_1_3, if_pos sw_1_4]), ht9⟩) (fun q h => by cases h) dX6_count_67
  by_cases sw_1_5 : y = 5
  · skip
    refine lv_tableIn (tgt := 68) hx hb dX6_count_1 (by rw [sw_1_5]; decide) (by rw [sw_1_5]; decide) (by rw [sw_1_5]; rfl) (by decide) ?_
    refine lv_aload_n hx hb dX6_count_68 rfl (lv_at hl 0 rfl) ?_
    refine va_get (D := D) (cl := vwCl) (ci := 5) (v := .ref (q 0)) (C := RX6) (T := TX6) (N := 6) hx hb hts (fun _ h => List.mem_cons_of_mem _ (List.mem_append_left _ (List.mem_append_left _ (List.mem_append_left _ (List.mem_append_right _ h))))) hown hK hP 0 rfl rfl 0 (by decide) (hts (.fieldLink RX6 10 "CheapHours" "prices" "LCheapHours$Prices;") (List.mem_of_getElem? (i := 5) rfl)) (fun _ h9 => h9) rfl dX6_count_69 ?_
    refine va_get (D := D) (cl := vwCl) (ci := 3) (v := .int full) (C := RX4) (T := TX4) (N := 2) hx hb hts (fun _ h => List.mem_cons_of_mem _ (List.mem_append_left _ (List.mem_append_right _ h))) hown hK hP 1 rfl rfl 1 (by decide) (hts (.fieldLink RX6 53 "CheapHours$Prices" "atFull" "I") (List.mem_of_getElem? (i := 6) rfl)) (fun _ h9 => h9) rfl dX6_count_72 ?_
    rw [← hQQ]
    exact W.iret (v := full) hx hb hr (fun t9 ht9 hW9 => ⟨_, rfl, (by simp only [countV, if_neg sw_1_0, if_neg sw_1_1, if_neg sw_1_2, if_neg sw_1_3, if_neg sw_1_4, if_pos sw_1_5]), ht9⟩) (fun q h => by cases h) dX6_count_75
  refine lv_tableOut (tgt := 76) hx hb dX6_count_1 (sw_out6_0 sw_1_0 sw_1_1 sw_1_2 sw_1_3 sw_1_4 sw_1_5) (by decide) ?_
  refine lv_iconst (v := (-1)) hx hb dX6_count_76 (by decide) ?_
  rw [← hQQ]
  exact W.iret (v := (-1)) hx hb hr (fun t9 ht9 hW9 => ⟨_, rfl, (by simp only [countV, if_neg sw_1_0, if_neg sw_1_1, if_neg sw_1_2, if_neg sw_1_3, if_neg sw_1_4, if_neg sw_1_5]), ht9⟩) (fun q h => by cases h) dX6_count_77
