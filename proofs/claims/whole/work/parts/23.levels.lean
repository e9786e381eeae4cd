/-! LEVELS of the reference -/
def chI (k : Nat) : Int32 := if k % 6 = 0 then 10 else 0
def chF (ch : Nat → Int32) (e : Nat) : Nat → Int32 := fun i => if i < e then chI i else ch i
theorem chF_0 (ch : Nat → Int32) : chF ch 0 = ch := by funext i; simp [chF]
theorem chF_s {ch : Nat → Int32} {e : Nat} {v : Int32} (h : chI e = v) : upd (chF ch e) e v = chF ch (e + 1) := by
  funext i
  simp only [upd, chF]
  by_cases h1 : i = e
  · rw [if_pos h1, if_pos (show i < e + 1 by omega), h1, h]
  · rw [if_neg h1]
    by_cases h2 : i < e
    · rw [if_pos h2, if_pos (show i < e + 1 by omega)]
    · rw [if_neg h2, if_neg (show ¬ i < e + 1 by omega)]
def lpF (lp : Nat → Int32) (e : Nat) : Nat → Int32 := fun i => if i < e then 0 else lp i
theorem lpF_0 (lp : Nat → Int32) : lpF lp 0 = lp := by funext i; simp [lpF]
theorem lpF_s {lp : Nat → Int32} {e : Nat} : upd (lpF lp e) e 0 = lpF lp (e + 1) := by
  funext i
  simp only [upd, lpF]
  by_cases h1 : i = e
  · rw [if_pos h1, if_pos (show i < e + 1 by omega)]
  · rw [if_neg h1]
    by_cases h2 : i < e
    · rw [if_pos h2, if_pos (show i < e + 1 by omega)]
    · rw [if_neg h2, if_neg (show ¬ i < e + 1 by omega)]
def lvsC (ch : Nat → Int32) (x : Int32) : Nat → Int32 := if wi x 1 6 = 0 then ch else chF ch 36
def lvsP (lp : Nat → Int32) (x : Int32) : Nat → Int32 := if wi x 1 6 = 0 then lp else lpF lp 6
set_option maxHeartbeats 4000000 in
set_option maxRecDepth 100000 in
theorem c_X7_levels (l : Launch) (D : va_G) (cI cL cZ cO : ClassId) (sz : Nat) (a : Nat) (r : Nat → Nat) (now full jobs : Int32) (pr : Nat → Int32) (R : Nat → Nat → Int32) (lp ch : Nat → Int32) (me : Nat → Int64) (ru wo co : Nat → Int32) (L : Nat) (x : Int32) (hL : L ≤ 6) : Met l yX7_levels wsX7_levels ({ frames := 1, cells := 0, slots := 0, locals := 22 } : Room) (va_Pc [.ref a, .int x] (Rw D cI cL cZ cO (wM cI cL cZ a r now full jobs (nI L) pr R lp ch me ru wo co) sz)) (va_Qi (fun (r : Int32) (u : Unit) => r = wi x 1 6) (fun (u : Unit) => Wo D (va_A (wM cI cL cZ a r now full jobs (nI L) pr R lp ch me ru wo co) sz) (wM cI cL cZ a r now full jobs (nI (lvsN x L)) pr R (lvsP lp x) (lvsC ch x) me ru wo co)) (va_A (wM cI cL cZ a r now full jobs (nI L) pr R lp ch me ru wo co) sz)) 0 0 (va_A (wM cI cL cZ a r now full jobs (nI L) pr R lp ch me ru wo co) sz) := by
  refine Met.ofW (cc := cX7_levels) (maxL := 3) (ret := (some .boolean)) (by decide) rfl ?_
  intro p e s m args below meth c s₁ B hml hv
  obtain ⟨rfl, hsz, hP, hO, hD0⟩ := hv
  have hx := B.exec
  have hb := B.bytes
  have hr := B.returns
  have hts := atoms_spec (ws := wsX7_levels) B.pre
  have hown : s.vm.findClass RX7 = some m.cls := findClass_of_methodNamed B.named
  have hlocks := B.notSynchronized
  have hK := hO.1
  subst hsz
  have hD := hD0.self (sz := s.heap.size)
  generalize hAe : va_A (wM cI cL cZ a r now full jobs (nI L) pr R lp ch me ru wo co) s.heap.size = A at hD ⊢
  have hA : ∀ q : Nat, s.heap.size ≤ q → A q := fun q h => by rw [← hAe]; exact Or.inr h
  have hS : va_S A s.heap s.heap [] := va_S.rf
  have hl := lv_entry ([.ref a, .int x]) (n := 3) (Nat.le_of_ble_eq_true rfl)
  rw [lg_entry_eq]
  generalize (lg_sl ([.ref a, .int x]) ++ List.replicate (3 - (lg_sl ([.ref a, .int x])).length) Slot.unset).toArray = ls at hl ⊢
  have hl : lv_has ls 3 [(0, .ref a), (1, .int x)] := hl
  generalize hQQ : MQ below _ _ s _ _ _ = QQ
  refine lv_iload_n hx hb dX7_levels_0 rfl (lv_at hl 1 rfl) ?_
  refine lv_iconst (v := 1) hx hb dX7_levels_1 (by decide) ?_
  refine lv_bipush (v := 6) hx hb dX7_levels_2 (by decide) ?_
  refine roSi (As := [.int x, .int 1, .int 6]) (rest := []) ⟨hx, hb, hml, hown, hts⟩ (c_X7_in l D cI cL cZ cO x 1 6 ) (va_cwS 3 hts gX7_levels_X7_in rfl rfl rfl (by decide +kernel) ⟨Nat.le_of_ble_eq_true rfl, Nat.le_of_ble_eq_true rfl⟩) hO (fun k q h => by simp at h) rfl hl.1 rfl (Nat.le_of_ble_eq_true rfl) dX7_levels_4 ⟨Nat.le_of_ble_eq_true rfl, Nat.le_of_ble_eq_true rfl⟩ (fun r_4 e_4 => ?_)
  obtain rfl : r_4 = wi x 1 6 := e_4
  refine lv_if_ne (tgt := 12) hx hb dX7_levels_7 (by decide) (fun c_7 => ?_) (fun c_7 => ?_)
  · skip
    obtain ⟨N, h1, h2, rfl⟩ := wi_nat (a := 1) (b := 6) (by decide) (by decide) c_7
    refine lv_aload_n hx hb dX7_levels_12 rfl (lv_at hl 0 rfl) ?_
    refine lv_iload_n hx hb dX7_levels_13 rfl (lv_at hl 1 rfl) ?_
    refine va_put (D := D) (cl := vwCl) (ci := 6) (v := .int (nI N)) (ty := .int) (C := RX7) (T := TX7) (N := 35) hx hb hts (fun _ h => List.mem_cons_of_mem _ (List.mem_append_right _ h)) tyX7 tyX7_ok nmX7 hown hK hP hD hS 0 rfl rfl 28 (by decide) (hts (.fieldLink RX7 162 "CheapHoursModel" "levels" "I") (by decide +kernel)) (fun _ h9 => h9) rfl (by decide +kernel) rfl rfl (Nat.le_of_ble_eq_true rfl) dX7_levels_14 (fun H locs hP hD hS => ?_)
    have hP : va_P D vwCl (wM cI cL cZ a r now full jobs (nI N) pr R lp ch me ru wo co) H := hP
    have hD : va_D A (wM cI cL cZ a r now full jobs (nI N) pr R lp ch me ru wo co) := hD
    rw [← chF_0 ch] at hP hD
    refine lv_iconst (v := 0) hx hb dX7_levels_17 (by decide) ?_
    refine lv_istore_n (lv' := [(2, .int 0), (0, .ref a), (1, .int (nI N))]) hx hb dX7_levels_18 rfl hl (by decide) rfl (fun ls hl => ?_)
    have L19 : ∀ (n0 : Nat) (e9 : Nat) (H : Heap) (locs : List Loc) (ls : Array Slot), 36 - e9 < n0 → (e9 ≤ 36) → va_P D vwCl (wM cI cL cZ a r now full jobs (nI N) pr R lp (chF ch e9) me ru wo co) H → va_D A (wM cI cL cZ a r now full jobs (nI N) pr R lp (chF ch e9) me ru wo co) → va_S A s.heap H locs → lv_has ls 3 [(2, .int (nI e9)), (0, .ref a), (1, .int (nI N))] → W p l e (headSpec wsX7_levels ({ frames := 1, cells := 0, slots := 0, locals := 22 } : Room)).room s m ([.ref a, .int (nI N)] : List Value).toArray below meth c H locs 0 0 QQ (F0 m 19 ls []) := by
      intro n0
      induction n0 with
      | zero =>
        intro e9 H locs ls hmu
        exact absurd hmu (Nat.not_lt_zero _)
      | succ n0 ih19 =>
        intro e9 H locs ls hmu he hP hD hS hl
        refine lv_iload_n hx hb dX7_levels_19 rfl (lv_at hl 0 rfl) ?_
        refine lv_bipush (v := 36) hx hb dX7_levels_20 (by decide) ?_
        refine n_icmp_ge (x := e9) (y := 36) (tgt := 50) hx hb dX7_levels_22 (by decide) (by omega) (by omega) (fun c_22 => ?_) (fun c_22 => ?_)
        · skip
          have he36 : e9 = 36 := by omega
          rw [he36] at hP hD
          rw [← lpF_0 lp] at hP hD
          refine lv_iconst (v := 0) hx hb dX7_levels_50 (by decide) ?_
          refine lv_istore_n (lv' := [(2, .int 0), (0, .ref a), (1, .int (nI N))]) hx hb dX7_levels_51 rfl hl (by decide) rfl (fun ls hl => ?_)
          have L52 : ∀ (n0 : Nat) (f9 : Nat) (H : Heap) (locs : List Loc) (ls : Array Slot), 6 - f9 < n0 → (f9 ≤ 6) → va_P D vwCl (wM cI cL cZ a r now full jobs (nI N) pr R (lpF lp f9) (chF ch 36) me ru wo co) H → va_D A (wM cI cL cZ a r now full jobs (nI N) pr R (lpF lp f9) (chF ch 36) me ru wo co) → va_S A s.heap H locs → lv_has ls 3 [(2, .int (nI f9)), (0, .ref a), (1, .int (nI N))] → W p l e (headSpec wsX7_levels ({ frames := 1, cells := 0, slots := 0, locals := 22 } : Room)).room s m ([.ref a, .int (nI N)] : List Value).toArray below meth c H locs 0 0 QQ (F0 m 52 ls []) := by
            intro n0
            induction n0 with
            | zero =>
              intro f9 H locs ls hmu
              exact absurd hmu (Nat.not_lt_zero _)
            | succ n0 ih52 =>
              intro f9 H locs ls hmu hf hP hD hS hl
              refine lv_iload_n hx hb dX7_levels_52 rfl (lv_at hl 0 rfl) ?_
              refine lv_bipush (v := 6) hx hb dX7_levels_53 (by decide) ?_
              refine n_icmp_ge (x := f9) (y := 6) (tgt := 71) hx hb dX7_levels_55 (by decide) (by omega) (by omega) (fun c_55 => ?_) (fun c_55 => ?_)
              · skip
                have hf6 : f9 = 6 := by omega
                rw [hf6] at hP hD
                refine lv_iconst (v := 1) hx hb dX7_levels_71 (by decide) ?_
                have h3 : lvsN (nI N) L = N := by rw [lvsN, if_neg c_7, nI_clamp (by omega)]
                have h4 : lvsC ch (nI N) = chF ch 36 := if_neg c_7
                have h5 : lvsP lp (nI N) = lpF lp 6 := if_neg c_7
                have hw9 : wM cI cL cZ a r now full jobs (nI (lvsN (nI N) L)) pr R (lvsP lp (nI N)) (lvsC ch (nI N)) me ru wo co = wM cI cL cZ a r now full jobs (nI N) pr R (lpF lp 6) (chF ch 36) me ru wo co := by rw [h3, h4, h5]
                rw [← hw9] at hP hD
                rw [← hQQ]
                exact W.zret (v := 1) hx hb hr rfl (fun t9 ht9 hW9 => ⟨⟨_, (), rfl, (wi_1 (Int32.le_iff_toInt_le.mpr (by rw [nI_toInt (by omega)]; show (1 : Int) ≤ _; omega)) (Int32.le_iff_toInt_le.mpr (by rw [nI_toInt (by omega)]; show _ ≤ (6 : Int); omega))).symm, by rw [ht9]; exact hP, hD⟩, hS.F ht9⟩) hS.2.2 dX7_levels_72
              · skip
                refine lv_aload_n hx hb dX7_levels_58 rfl (lv_at hl 1 rfl) ?_
                refine va_get (D := D) (cl := vwCl) (ci := 6) (v := .ref (r 25)) (C := RX7) (T := TX7) (N := 35) hx hb hts (fun _ h => List.mem_cons_of_mem _ (List.mem_append_right _ h)) hown hK hP 0 rfl rfl 29 (by decide) (hts (.fieldLink RX7 90 "CheapHoursModel" "levelPrice" "[I") (by decide +kernel)) (fun _ h9 => h9) rfl dX7_levels_59 ?_
                refine lv_iload_n hx hb dX7_levels_62 rfl (lv_at hl 0 rfl) ?_
                refine lv_iconst (v := 0) hx hb dX7_levels_63 (by decide) ?_
                refine n_iast (D := D) (cl := vwCl) (x := f9) (v := 0) hx hb hK hP hD hS 2 0 (f := (lpF lp f9)) rfl rfl (by omega) (Nat.le_of_ble_eq_true rfl) dX7_levels_64 (fun H locs hP hD hS => ?_)
                have hP : va_P D vwCl (wM cI cL cZ a r now full jobs (nI N) pr R (upd (lpF lp f9) f9 0) (chF ch 36) me ru wo co) H := hP
                have hD : va_D A (wM cI cL cZ a r now full jobs (nI N) pr R (upd (lpF lp f9) f9 0) (chF ch 36) me ru wo co) := hD
                rw [lpF_s] at hP hD
                refine lv_iinc (v := (nI (f9 + 1))) (lv' := [(2, .int (nI (f9 + 1))), (0, .ref a), (1, .int (nI N))]) hx hb dX7_levels_65 hl (k := 0) rfl (nI_add f9 1) (by decide) rfl (fun ls hl => ?_)
                refine lv_goto (tgt := 52) hx hb dX7_levels_68 (by decide) ?_
                exact ih52 (f9 + 1) _ _ _ (by omega) (by omega) hP hD hS (lv_sub hl [0, 1, 2] rfl)
          exact L52 _ 0 _ _ _ (Nat.lt_succ_self _) (by omega) hP hD hS (lv_sub hl [0, 1, 2] rfl)
        · skip
          refine lv_aload_n hx hb dX7_levels_25 rfl (lv_at hl 1 rfl) ?_
          refine va_get (D := D) (cl := vwCl) (ci := 6) (v := .ref (r 26)) (C := RX7) (T := TX7) (N := 35) hx hb hts (fun _ h => List.mem_cons_of_mem _ (List.mem_append_right _ h)) hown hK hP 0 rfl rfl 30 (by decide) (hts (.fieldLink RX7 93 "CheapHoursModel" "chance" "[I") (by decide +kernel)) (fun _ h9 => h9) rfl dX7_levels_26 ?_
          refine lv_iload_n hx hb dX7_levels_29 rfl (lv_at hl 0 rfl) ?_
          refine lv_iload_n hx hb dX7_levels_30 rfl (lv_at hl 0 rfl) ?_
          refine lv_bipush (v := 6) hx hb dX7_levels_31 (by decide) ?_
          refine n_irem (x := e9) (y := 6) hx hb dX7_levels_33 (by omega) (by omega) (by omega) ?_
          refine n_if_ne (x := (e9 % 6)) (tgt := 42) hx hb dX7_levels_34 (by decide) (by omega) (fun c_34 => ?_) (fun c_34 => ?_)
          · skip
            refine lv_iconst (v := 0) hx hb dX7_levels_42 (by decide) ?_
            refine n_iast (D := D) (cl := vwCl) (x := e9) (v := 0) hx hb hK hP hD hS 3 0 (f := (chF ch e9)) rfl rfl (by omega) (Nat.le_of_ble_eq_true rfl) dX7_levels_43 (fun H locs hP hD hS => ?_)
            have hP : va_P D vwCl (wM cI cL cZ a r now full jobs (nI N) pr R lp (upd (chF ch e9) e9 0) me ru wo co) H := hP
            have hD : va_D A (wM cI cL cZ a r now full jobs (nI N) pr R lp (upd (chF ch e9) e9 0) me ru wo co) := hD
            rw [show upd (chF ch e9) e9 0 = chF ch (e9 + 1) from chF_s (if_neg (Nat.ne_of_gt c_34))] at hP hD
            refine lv_iinc (v := (nI (e9 + 1))) (lv' := [(2, .int (nI (e9 + 1))), (0, .ref a), (1, .int (nI N))]) hx hb dX7_levels_44 hl (k := 0) rfl (nI_add e9 1) (by decide) rfl (fun ls hl => ?_)
            refine lv_goto (tgt := 19) hx hb dX7_levels_47 (by decide) ?_
            exact ih19 (e9 + 1) _ _ _ (by omega) (by omega) hP hD hS (lv_sub hl [0, 1, 2] rfl)
          · skip
            refine lv_bipush (v := 10) hx hb dX7_levels_37 (by decide) ?_
            refine lv_goto (tgt := 43) hx hb dX7_levels_39 (by decide) ?_
            refine n_iast (D := D) (cl := vwCl) (x := e9) (v := 10) hx hb hK hP hD hS 3 0 (f := (chF ch e9)) rfl rfl (by omega) (Nat.le_of_ble_eq_true rfl) dX7_levels_43 (fun H locs hP hD hS => ?_)
            have hP : va_P D vwCl (wM cI cL cZ a r now full jobs (nI N) pr R lp (upd (chF ch e9) e9 10) me ru wo co) H := hP
            have hD : va_D A (wM cI cL cZ a r now full jobs (nI N) pr R lp (upd (chF ch e9) e9 10) me ru wo co) := hD
            rw [show upd (chF ch e9) e9 10 = chF ch (e9 + 1) from chF_s (if_pos c_34)] at hP hD
            refine lv_iinc (v := (nI (e9 + 1))) (lv' := [(2, .int (nI (e9 + 1))), (0, .ref a), (1, .int (nI N))]) hx hb dX7_levels_44 hl (k := 0) rfl (nI_add e9 1) (by decide) rfl (fun ls hl => ?_)
            refine lv_goto (tgt := 19) hx hb dX7_levels_47 (by decide) ?_
            exact ih19 (e9 + 1) _ _ _ (by omega) (by omega) hP hD hS (lv_sub hl [0, 1, 2] rfl)
    exact L19 _ 0 _ _ _ (Nat.lt_succ_self _) (by omega) hP hD hS (lv_sub hl [0, 1, 2] rfl)
  · skip
    refine lv_iconst (v := 0) hx hb dX7_levels_10 (by decide) ?_
    have h1 : lvsN x L = L := if_pos c_7
    have h2 : lvsC ch x = ch := if_pos c_7
    have h3 : lvsP lp x = lp := if_pos c_7
    have hw9 : wM cI cL cZ a r now full jobs (nI (lvsN x L)) pr R (lvsP lp x) (lvsC ch x) me ru wo co = wM cI cL cZ a r now full jobs (nI L) pr R lp ch me ru wo co := by rw [h1, h2, h3]
    rw [← hw9] at hP hD
    rw [← hQQ]
    exact W.zret (v := 0) hx hb hr rfl (fun t9 ht9 hW9 => ⟨⟨_, (), rfl, c_7.symm, by rw [ht9]; exact hP, hD⟩, hS.F ht9⟩) hS.2.2 dX7_levels_11
set_option maxHeartbeats 4000000 in
set_option maxRecDepth 100000 in
theorem c_X7_level (l : Launch) (D : va_G) (cI cL cZ cO : ClassId) (sz : Nat) (a : Nat) (r : Nat → Nat) (now full jobs : Int32) (pr : Nat → Int32) (R : Nat → Nat → Int32) (lp ch : Nat → Int32) (me : Nat → Int64) (ru wo co : Nat → Int32) (L : Nat) (x p0 c0 : Int32) (hL : L ≤ 6) : Met l yX7_level wsX7_level ({ frames := 1, cells := 0, slots := 0, locals := 22 } : Room) (va_Pc [.ref a, .int x, .int p0, .int c0] (Rw D cI cL cZ cO (wM cI cL cZ a r now full jobs (nI L) pr R lp ch me ru wo co) sz)) (va_Qi (fun (r : Int32) (u : Unit) => r = lvOk x p0 c0 L) (fun (u : Unit) => Wo D (va_A (wM cI cL cZ a r now full jobs (nI L) pr R lp ch me ru wo co) sz) (wM cI cL cZ a r now full jobs (nI L) pr R (lvP lp x p0 c0 L) (lvC ch x p0 c0 L) me ru wo co)) (va_A (wM cI cL cZ a r now full jobs (nI L) pr R lp ch me ru wo co) sz)) 0 0 (va_A (wM cI cL cZ a r now full jobs (nI L) pr R lp ch me ru wo co) sz) := by
  refine Met.ofW (cc := cX7_level) (maxL := 7) (ret := (some .boolean)) (by decide) rfl ?_
  intro p e s m args below meth c s₁ B hml hv
  obtain ⟨rfl, hsz, hP, hO, hD0⟩ := hv
  have hx := B.exec
  have hb := B.bytes
  have hr := B.returns
  have hts := atoms_spec (ws := wsX7_level) B.pre
  have hown : s.vm.findClass RX7 = some m.cls := findClass_of_methodNamed B.named
  have hlocks := B.notSynchronized
  have hK := hO.1
  subst hsz
  have hD := hD0.self (sz := s.heap.size)
  generalize hAe : va_A (wM cI cL cZ a r now full jobs (nI L) pr R lp ch me ru wo co) s.heap.size = A at hD ⊢
  have hA : ∀ q : Nat, s.heap.size ≤ q → A q := fun q h => by rw [← hAe]; exact Or.inr h
  have hS : va_S A s.heap s.heap [] := va_S.rf
  have hl := lv_entry ([.ref a, .int x, .int p0, .int c0]) (n := 7) (Nat.le_of_ble_eq_true rfl)
  rw [lg_entry_eq]
  generalize (lg_sl ([.ref a, .int x, .int p0, .int c0]) ++ List.replicate (7 - (lg_sl ([.ref a, .int x, .int p0, .int c0])).length) Slot.unset).toArray = ls at hl ⊢
  have hl : lv_has ls 7 [(0, .ref a), (1, .int x), (2, .int p0), (3, .int c0)] := hl
  generalize hQQ : MQ below _ _ s _ _ _ = QQ
  refine lv_iload_n hx hb dX7_level_0 rfl (lv_at hl 1 rfl) ?_
  refine lv_iconst (v := 0) hx hb dX7_level_1 (by decide) ?_
  refine lv_aload_n hx hb dX7_level_2 rfl (lv_at hl 0 rfl) ?_
  refine va_get (D := D) (cl := vwCl) (ci := 6) (v := .int (nI L)) (C := RX7) (T := TX7) (N := 35) hx hb hts (fun _ h => List.mem_cons_of_mem _ (List.mem_append_right _ h)) hown hK hP 0 rfl rfl 28 (by decide) (hts (.fieldLink RX7 162 "CheapHoursModel" "levels" "I") (by decide +kernel)) (fun _ h9 => h9) rfl dX7_level_3 ?_
  refine lv_iconst (v := 1) hx hb dX7_level_6 (by decide) ?_
  refine lv_isub hx hb dX7_level_7 ?_
  refine roSi (As := [.int x, .int 0, .int ((nI L) - 1)]) (rest := []) ⟨hx, hb, hml, hown, hts⟩ (c_X7_in l D cI cL cZ cO x 0 ((nI L) - 1) ) (va_cwS 3 hts gX7_level_X7_in rfl rfl rfl (by decide +kernel) ⟨Nat.le_of_ble_eq_true rfl, Nat.le_of_ble_eq_true rfl⟩) hO (fun k q h => by simp at h) rfl hl.1 rfl (Nat.le_of_ble_eq_true rfl) dX7_level_8 ⟨Nat.le_of_ble_eq_true rfl, Nat.le_of_ble_eq_true rfl⟩ (fun r_8 e_8 => ?_)
  obtain rfl : r_8 = wi x 0 ((nI L) - 1) := e_8
  refine lv_if_eq (tgt := 29) hx hb dX7_level_11 (by decide) (fun c_11 => ?_) (fun c_11 => ?_)
  · skip
    refine lv_iconst (v := 0) hx hb dX7_level_29 (by decide) ?_
    have hz : lvOk x p0 c0 L = 0 := by simp only [lvOk, if_pos c_11]
    have h1 : lvC ch x p0 c0 L = ch := if_pos hz
    have h2 : lvP lp x p0 c0 L = lp := if_pos hz
    have hw9 : wM cI cL cZ a r now full jobs (nI L) pr R (lvP lp x p0 c0 L) (lvC ch x p0 c0 L) me ru wo co = wM cI cL cZ a r now full jobs (nI L) pr R lp ch me ru wo co := by rw [h1, h2]
    rw [← hw9] at hP hD
    rw [← hQQ]
    exact W.zret (v := 0) hx hb hr rfl (fun t9 ht9 hW9 => ⟨⟨_, (), rfl, hz.symm, by rw [ht9]; exact hP, hD⟩, hS.F ht9⟩) hS.2.2 dX7_level_30
  · skip
    refine lv_iload_n hx hb dX7_level_14 rfl (lv_at hl 2 rfl) ?_
    refine lv_iconst (v := 0) hx hb dX7_level_15 (by decide) ?_
    refine lv_sipush (v := 999) hx hb dX7_level_16 (by decide) ?_
    refine roSi (As := [.int p0, .int 0, .int 999]) (rest := []) ⟨hx, hb, hml, hown, hts⟩ (c_X7_in l D cI cL cZ cO p0 0 999 ) (va_cwS 3 hts gX7_level_X7_in rfl rfl rfl (by decide +kernel) ⟨Nat.le_of_ble_eq_true rfl, Nat.le_of_ble_eq_true rfl⟩) hO (fun k q h => by simp at h) rfl hl.1 rfl (Nat.le_of_ble_eq_true rfl) dX7_level_19 ⟨Nat.le_of_ble_eq_true rfl, Nat.le_of_ble_eq_true rfl⟩ (fun r_19 e_19 => ?_)
    obtain rfl : r_19 = wi p0 0 999 := e_19
    refine lv_if_eq (tgt := 29) hx hb dX7_level_22 (by decide) (fun c_22 => ?_) (fun c_22 => ?_)
    · skip
      refine lv_iconst (v := 0) hx hb dX7_level_29 (by decide) ?_
      have hz : lvOk x p0 c0 L = 0 := by simp only [lvOk, if_neg c_11, if_pos c_22]
      have h1 : lvC ch x p0 c0 L = ch := if_pos hz
      have h2 : lvP lp x p0 c0 L = lp := if_pos hz
      have hw9 : wM cI cL cZ a r now full jobs (nI L) pr R (lvP lp x p0 c0 L) (lvC ch x p0 c0 L) me ru wo co = wM cI cL cZ a r now full jobs (nI L) pr R lp ch me ru wo co := by rw [h1, h2]
      rw [← hw9] at hP hD
      rw [← hQQ]
      exact W.zret (v := 0) hx hb hr rfl (fun t9 ht9 hW9 => ⟨⟨_, (), rfl, hz.symm, by rw [ht9]; exact hP, hD⟩, hS.F ht9⟩) hS.2.2 dX7_level_30
    · skip
      refine lv_iload_n hx hb dX7_level_25 rfl (lv_at hl 3 rfl) ?_
      refine lv_if_ge (tgt := 31) hx hb dX7_level_26 (by decide) (fun c_26 => ?_) (fun c_26 => ?_)
      · skip
        obtain ⟨lx, hlx, rfl⟩ := lev_nat hL c_11
        obtain ⟨v, hv, rfl⟩ := nI_of (x := c0) (fun q9 => i32_nlt.mpr c_26 q9)
        refine lv_iload_n hx hb dX7_level_31 rfl (lv_at hl 3 rfl) ?_
        refine lv_istore (lv' := [(4, .int (nI v)), (0, .ref a), (1, .int (nI lx)), (2, .int p0), (3, .int (nI v))]) hx hb dX7_level_32 hl (by decide) rfl (fun ls hl => ?_)
        refine lv_iconst (v := 0) hx hb dX7_level_34 (by decide) ?_
        refine lv_istore (lv' := [(5, .int 0), (4, .int (nI v)), (0, .ref a), (1, .int (nI lx)), (2, .int p0), (3, .int (nI v))]) hx hb dX7_level_35 hl (by decide) rfl (fun ls hl => ?_)
        refine lv_iconst (v := 0) hx hb dX7_level_37 (by decide) ?_
        refine lv_istore (lv' := [(6, .int 0), (5, .int 0), (4, .int (nI v)), (0, .ref a), (1, .int (nI lx)), (2, .int p0), (3, .int (nI v))]) hx hb dX7_level_38 hl (by decide) rfl (fun ls hl => ?_)
        have L40 : ∀ (n0 : Nat) (k : Nat) (H : Heap) (locs : List Loc) (ls : Array Slot), L - k < n0 → (k ≤ L) → va_P D vwCl (wM cI cL cZ a r now full jobs (nI L) pr R lp ch me ru wo co) H → va_D A (wM cI cL cZ a r now full jobs (nI L) pr R lp ch me ru wo co) → va_S A s.heap H locs → lv_has ls 7 [(6, .int (nI k)), (4, .int (nI (dv v k))), (5, .int (nI (ds v k))), (0, .ref a), (1, .int (nI lx)), (2, .int p0), (3, .int (nI v))] → W p l e (headSpec wsX7_level ({ frames := 1, cells := 0, slots := 0, locals := 22 } : Room)).room s m ([.ref a, .int (nI lx), .int p0, .int (nI v)] : List Value).toArray below meth c H locs 0 0 QQ (F0 m 40 ls []) := by
          intro n0
          induction n0 with
          | zero =>
            intro k H locs ls hmu
            exact absurd hmu (Nat.not_lt_zero _)
          | succ n0 ih40 =>
            intro k H locs ls hmu hk hP hD hS hl
            have hdv := dv_le v k
            have hds := ds_le v k
            refine lv_iload hx hb dX7_level_40 (lv_at hl 0 rfl) ?_
            refine lv_aload_n hx hb dX7_level_42 rfl (lv_at hl 3 rfl) ?_
            refine va_get (D := D) (cl := vwCl) (ci := 6) (v := .int (nI L)) (C := RX7) (T := TX7) (N := 35) hx hb hts (fun _ h => List.mem_cons_of_mem _ (List.mem_append_right _ h)) hown hK hP 0 rfl rfl 28 (by decide) (hts (.fieldLink RX7 162 "CheapHoursModel" "levels" "I") (by decide +kernel)) (fun _ h9 => h9) rfl dX7_level_43 ?_
            refine n_icmp_ge (x := k) (y := L) (tgt := 72) hx hb dX7_level_46 (by decide) (by omega) (by omega) (fun c_46 => ?_) (fun c_46 => ?_)
            · skip
              have hkL : k = L := by omega
              rw [hkL] at hl hdv hds
              refine lv_iload hx hb dX7_level_72 (lv_at hl 1 rfl) ?_
              refine n_if_gt (x := (dv v L)) (tgt := 84) hx hb dX7_level_74 (by decide) (by omega) (fun c_74 => ?_) (fun c_74 => ?_)
              · skip
                refine lv_iconst (v := 0) hx hb dX7_level_84 (by decide) ?_
                have hz : lvOk (nI lx) p0 (nI v) L = 0 := by
                  rw [lvOk, nI_clamp hv, if_neg c_11, if_neg c_22, if_neg (nI_pos hv)]
                  rw [if_pos c_74]
                have h1 : lvC ch (nI lx) p0 (nI v) L = ch := if_pos hz
                have h2 : lvP lp (nI lx) p0 (nI v) L = lp := if_pos hz
                have hw9 : wM cI cL cZ a r now full jobs (nI L) pr R (lvP lp (nI lx) p0 (nI v) L) (lvC ch (nI lx) p0 (nI v) L) me ru wo co = wM cI cL cZ a r now full jobs (nI L) pr R lp ch me ru wo co := by rw [h1, h2]
                rw [← hw9] at hP hD
                rw [← hQQ]
                exact W.zret (v := 0) hx hb hr rfl (fun t9 ht9 hW9 => ⟨⟨_, (), rfl, hz.symm, by rw [ht9]; exact hP, hD⟩, hS.F ht9⟩) hS.2.2 dX7_level_85
              · skip
                refine lv_iload hx hb dX7_level_77 (lv_at hl 2 rfl) ?_
                refine lv_bipush (v := 10) hx hb dX7_level_79 (by decide) ?_
                refine n_icmp_le (x := (ds v L)) (y := 10) (tgt := 86) hx hb dX7_level_81 (by decide) (by omega) (by omega) (fun c_81 => ?_) (fun c_81 => ?_)
                · skip
                  refine lv_iload_n hx hb dX7_level_86 rfl (lv_at hl 6 rfl) ?_
                  refine lv_istore (lv' := [(4, .int (nI v)), (6, .int (nI L)), (5, .int (nI (ds v L))), (0, .ref a), (1, .int (nI lx)), (2, .int p0), (3, .int (nI v))]) hx hb dX7_level_87 hl (by decide) rfl (fun ls hl => ?_)
                  refine lv_iconst (v := 0) hx hb dX7_level_89 (by decide) ?_
                  rw [← chE_0 ch lx v (ds v L)] at hP hD
                  refine lv_istore (lv' := [(6, .int 0), (4, .int (nI v)), (5, .int (nI (ds v L))), (0, .ref a), (1, .int (nI lx)), (2, .int p0), (3, .int (nI v))]) hx hb dX7_level_90 hl (by decide) rfl (fun ls hl => ?_)
                  have L92 : ∀ (n0 : Nat) (e9 : Nat) (H : Heap) (locs : List Loc) (ls : Array Slot), L - e9 < n0 → (e9 ≤ L) → va_P D vwCl (wM cI cL cZ a r now full jobs (nI L) pr R lp (chE ch lx v (ds v L) e9) me ru wo co) H → va_D A (wM cI cL cZ a r now full jobs (nI L) pr R lp (chE ch lx v (ds v L) e9) me ru wo co) → va_S A s.heap H locs → lv_has ls 7 [(6, .int (nI e9)), (4, .int (nI (dv v e9))), (5, .int (nI (ds v L))), (0, .ref a), (1, .int (nI lx)), (2, .int p0), (3, .int (nI v))] → W p l e (headSpec wsX7_level ({ frames := 1, cells := 0, slots := 0, locals := 22 } : Room)).room s m ([.ref a, .int (nI lx), .int p0, .int (nI v)] : List Value).toArray below meth c H locs 0 0 QQ (F0 m 92 ls []) := by
                    intro n0
                    induction n0 with
                    | zero =>
                      intro e9 H locs ls hmu
                      exact absurd hmu (Nat.not_lt_zero _)
                    | succ n0 ih92 =>
                      intro e9 H locs ls hmu he hP hD hS hl
                      have hdv := dv_le v e9
                      refine lv_iload hx hb dX7_level_92 (lv_at hl 0 rfl) ?_
                      refine lv_aload_n hx hb dX7_level_94 rfl (lv_at hl 3 rfl) ?_
                      refine va_get (D := D) (cl := vwCl) (ci := 6) (v := .int (nI L)) (C := RX7) (T := TX7) (N := 35) hx hb hts (fun _ h => List.mem_cons_of_mem _ (List.mem_append_right _ h)) hown hK hP 0 rfl rfl 28 (by decide) (hts (.fieldLink RX7 162 "CheapHoursModel" "levels" "I") (by decide +kernel)) (fun _ h9 => h9) rfl dX7_level_95 ?_
                      refine n_icmp_ge (x := e9) (y := L) (tgt := 146) hx hb dX7_level_98 (by decide) (by omega) (by omega) (fun c_98 => ?_) (fun c_98 => ?_)
                      · skip
                        have heL : e9 = L := by omega
                        rw [heL] at hP hD
                        refine lv_aload_n hx hb dX7_level_146 rfl (lv_at hl 3 rfl) ?_
                        refine va_get (D := D) (cl := vwCl) (ci := 6) (v := .ref (r 25)) (C := RX7) (T := TX7) (N := 35) hx hb hts (fun _ h => List.mem_cons_of_mem _ (List.mem_append_right _ h)) hown hK hP 0 rfl rfl 29 (by decide) (hts (.fieldLink RX7 90 "CheapHoursModel" "levelPrice" "[I") (by decide +kernel)) (fun _ h9 => h9) rfl dX7_level_147 ?_
                        refine lv_iload_n hx hb dX7_level_150 rfl (lv_at hl 4 rfl) ?_
                        refine lv_iload_n hx hb dX7_level_151 rfl (lv_at hl 5 rfl) ?_
                        refine n_iast (D := D) (cl := vwCl) (x := lx) (v := p0) hx hb hK hP hD hS 2 0 (f := lp) rfl rfl (by omega) (Nat.le_of_ble_eq_true rfl) dX7_level_152 (fun H locs hP hD hS => ?_)
                        have hP : va_P D vwCl (wM cI cL cZ a r now full jobs (nI L) pr R (upd lp lx p0) (chE ch lx v (ds v L) L) me ru wo co) H := hP
                        have hD : va_D A (wM cI cL cZ a r now full jobs (nI L) pr R (upd lp lx p0) (chE ch lx v (ds v L) L) me ru wo co) := hD
                        refine lv_iconst (v := 1) hx hb dX7_level_153 (by decide) ?_
                        have hz : lvOk (nI lx) p0 (nI v) L = 1 := by rw [lvOk, nI_clamp hv, if_neg c_11, if_neg c_22, if_neg (nI_pos hv), if_neg (by omega), if_pos c_81]
                        have hz9 : ¬ lvOk (nI lx) p0 (nI v) L = 0 := by rw [hz]; decide
                        have h1 : lvC ch (nI lx) p0 (nI v) L = chE ch lx v (ds v L) L := by rw [lvC, if_neg hz9, nI_clamp hv, nI_clamp (by omega)]
                        have h2 : lvP lp (nI lx) p0 (nI v) L = upd lp lx p0 := by rw [lvP, if_neg hz9, nI_clamp (by omega)]
                        have hw9 : wM cI cL cZ a r now full jobs (nI L) pr R (lvP lp (nI lx) p0 (nI v) L) (lvC ch (nI lx) p0 (nI v) L) me ru wo co = wM cI cL cZ a r now full jobs (nI L) pr R (upd lp lx p0) (chE ch lx v (ds v L) L) me ru wo co := by rw [h1, h2]
                        rw [← hw9] at hP hD
                        rw [← hQQ]
                        exact W.zret (v := 1) hx hb hr rfl (fun t9 ht9 hW9 => ⟨⟨_, (), rfl, hz.symm, by rw [ht9]; exact hP, hD⟩, hS.F ht9⟩) hS.2.2 dX7_level_154
                      · skip
                        refine lv_aload_n hx hb dX7_level_101 rfl (lv_at hl 3 rfl) ?_
                        refine va_get (D := D) (cl := vwCl) (ci := 6) (v := .ref (r 26)) (C := RX7) (T := TX7) (N := 35) hx hb hts (fun _ h => List.mem_cons_of_mem _ (List.mem_append_right _ h)) hown hK hP 0 rfl rfl 30 (by decide) (hts (.fieldLink RX7 93 "CheapHoursModel" "chance" "[I") (by decide +kernel)) (fun _ h9 => h9) rfl dX7_level_102 ?_
                        refine lv_bipush (v := 6) hx hb dX7_level_105 (by decide) ?_
                        refine lv_iload_n hx hb dX7_level_107 rfl (lv_at hl 4 rfl) ?_
                        refine n_imul (x := 6) (y := lx) hx hb dX7_level_108 ?_
                        refine lv_iload hx hb dX7_level_109 (lv_at hl 0 rfl) ?_
                        refine n_iadd (x := (6 * lx)) (y := e9) hx hb dX7_level_111 ?_
                        refine lv_iload hx hb dX7_level_112 (lv_at hl 1 rfl) ?_
                        refine lv_bipush (v := 10) hx hb dX7_level_114 (by decide) ?_
                        refine n_irem (x := (dv v e9)) (y := 10) hx hb dX7_level_116 (by omega) (by omega) (by omega) ?_
                        refine lv_iload hx hb dX7_level_117 (lv_at hl 0 rfl) ?_
                        refine n_if_ne (x := e9) (tgt := 130) hx hb dX7_level_119 (by decide) (by omega) (fun c_119 => ?_) (fun c_119 => ?_)
                        · skip
                          refine lv_iconst (v := 0) hx hb dX7_level_130 (by decide) ?_
                          refine n_iadd (x := ((dv v e9) % 10)) (y := 0) hx hb dX7_level_131 ?_
                          refine n_iast (D := D) (cl := vwCl) (x := ((6 * lx) + e9)) (v := (nI (((dv v e9) % 10) + 0))) hx hb hK hP hD hS 3 0 (f := (chE ch lx v (ds v L) e9)) rfl rfl (by omega) (Nat.le_of_ble_eq_true rfl) dX7_level_132 (fun H locs hP hD hS => ?_)
                          have hP : va_P D vwCl (wM cI cL cZ a r now full jobs (nI L) pr R lp (upd (chE ch lx v (ds v L) e9) ((6 * lx) + e9) (nI (((dv v e9) % 10) + 0))) me ru wo co) H := hP
                          have hD : va_D A (wM cI cL cZ a r now full jobs (nI L) pr R lp (upd (chE ch lx v (ds v L) e9) ((6 * lx) + e9) (nI (((dv v e9) % 10) + 0))) me ru wo co) := hD
                          rw [show upd (chE ch lx v (ds v L) e9) (6 * lx + e9) (nI (dv v e9 % 10 + 0)) = chE ch lx v (ds v L) (e9 + 1) by rw [← chE_s, if_neg (Nat.ne_of_gt c_119)]] at hP hD
                          refine lv_iload hx hb dX7_level_133 (lv_at hl 1 rfl) ?_
                          refine lv_bipush (v := 10) hx hb dX7_level_135 (by decide) ?_
                          refine n_idiv (x := (dv v e9)) (y := 10) hx hb dX7_level_137 (by omega) (by omega) (by omega) ?_
                          refine lv_istore (lv' := [(4, .int (nI ((dv v e9) / 10))), (6, .int (nI e9)), (5, .int (nI (ds v L))), (0, .ref a), (1, .int (nI lx)), (2, .int p0), (3, .int (nI v))]) hx hb dX7_level_138 hl (by decide) rfl (fun ls hl => ?_)
                          refine lv_iinc (v := (nI (e9 + 1))) (lv' := [(6, .int (nI (e9 + 1))), (4, .int (nI ((dv v e9) / 10))), (5, .int (nI (ds v L))), (0, .ref a), (1, .int (nI lx)), (2, .int p0), (3, .int (nI v))]) hx hb dX7_level_140 hl (k := 1) rfl (nI_add e9 1) (by decide) rfl (fun ls hl => ?_)
                          refine lv_goto (tgt := 92) hx hb dX7_level_143 (by decide) ?_
                          exact ih92 (e9 + 1) _ _ _ (by omega) (by omega) hP hD hS (lv_sub hl [0, 1, 2, 3, 4, 5, 6] rfl)
                        · skip
                          refine lv_bipush (v := 10) hx hb dX7_level_122 (by decide) ?_
                          refine lv_iload hx hb dX7_level_124 (lv_at hl 2 rfl) ?_
                          refine n_isub (x := 10) (y := (ds v L)) hx hb dX7_level_126 (by omega) ?_
                          refine lv_goto (tgt := 131) hx hb dX7_level_127 (by decide) ?_
                          refine n_iadd (x := ((dv v e9) % 10)) (y := (10 - (ds v L))) hx hb dX7_level_131 ?_
                          refine n_iast (D := D) (cl := vwCl) (x := ((6 * lx) + e9)) (v := (nI (((dv v e9) % 10) + (10 - (ds v L))))) hx hb hK hP hD hS 3 0 (f := (chE ch lx v (ds v L) e9)) rfl rfl (by omega) (Nat.le_of_ble_eq_true rfl) dX7_level_132 (fun H locs hP hD hS => ?_)
                          have hP : va_P D vwCl (wM cI cL cZ a r now full jobs (nI L) pr R lp (upd (chE ch lx v (ds v L) e9) ((6 * lx) + e9) (nI (((dv v e9) % 10) + (10 - (ds v L))))) me ru wo co) H := hP
                          have hD : va_D A (wM cI cL cZ a r now full jobs (nI L) pr R lp (upd (chE ch lx v (ds v L) e9) ((6 * lx) + e9) (nI (((dv v e9) % 10) + (10 - (ds v L))))) me ru wo co) := hD
                          rw [show upd (chE ch lx v (ds v L) e9) (6 * lx + e9) (nI (dv v e9 % 10 + (10 - ds v L))) = chE ch lx v (ds v L) (e9 + 1) by rw [← chE_s, if_pos c_119]] at hP hD
                          refine lv_iload hx hb dX7_level_133 (lv_at hl 1 rfl) ?_
                          refine lv_bipush (v := 10) hx hb dX7_level_135 (by decide) ?_
                          refine n_idiv (x := (dv v e9)) (y := 10) hx hb dX7_level_137 (by omega) (by omega) (by omega) ?_
                          refine lv_istore (lv' := [(4, .int (nI ((dv v e9) / 10))), (6, .int (nI e9)), (5, .int (nI (ds v L))), (0, .ref a), (1, .int (nI lx)), (2, .int p0), (3, .int (nI v))]) hx hb dX7_level_138 hl (by decide) rfl (fun ls hl => ?_)
                          refine lv_iinc (v := (nI (e9 + 1))) (lv' := [(6, .int (nI (e9 + 1))), (4, .int (nI ((dv v e9) / 10))), (5, .int (nI (ds v L))), (0, .ref a), (1, .int (nI lx)), (2, .int p0), (3, .int (nI v))]) hx hb dX7_level_140 hl (k := 1) rfl (nI_add e9 1) (by decide) rfl (fun ls hl => ?_)
                          refine lv_goto (tgt := 92) hx hb dX7_level_143 (by decide) ?_
                          exact ih92 (e9 + 1) _ _ _ (by omega) (by omega) hP hD hS (lv_sub hl [0, 1, 2, 3, 4, 5, 6] rfl)
                  exact L92 _ 0 _ _ _ (Nat.lt_succ_self _) (Nat.zero_le _) hP hD hS (lv_sub hl [0, 1, 2, 3, 4, 5, 6] rfl)
                · skip
                  refine lv_iconst (v := 0) hx hb dX7_level_84 (by decide) ?_
                  have hz : lvOk (nI lx) p0 (nI v) L = 0 := by
                    rw [lvOk, nI_clamp hv, if_neg c_11, if_neg c_22, if_neg (nI_pos hv)]
                    rw [if_neg (by omega), if_neg (by omega)]
                  have h1 : lvC ch (nI lx) p0 (nI v) L = ch := if_pos hz
                  have h2 : lvP lp (nI lx) p0 (nI v) L = lp := if_pos hz
                  have hw9 : wM cI cL cZ a r now full jobs (nI L) pr R (lvP lp (nI lx) p0 (nI v) L) (lvC ch (nI lx) p0 (nI v) L) me ru wo co = wM cI cL cZ a r now full jobs (nI L) pr R lp ch me ru wo co := by rw [h1, h2]
                  rw [← hw9] at hP hD
                  rw [← hQQ]
                  exact W.zret (v := 0) hx hb hr rfl (fun t9 ht9 hW9 => ⟨⟨_, (), rfl, hz.symm, by rw [ht9]; exact hP, hD⟩, hS.F ht9⟩) hS.2.2 dX7_level_85
            · skip
              refine lv_iload hx hb dX7_level_49 (lv_at hl 2 rfl) ?_
              refine lv_iload hx hb dX7_level_51 (lv_at hl 1 rfl) ?_
              refine lv_bipush (v := 10) hx hb dX7_level_53 (by decide) ?_
              refine n_irem (x := (dv v k)) (y := 10) hx hb dX7_level_55 (by omega) (by omega) (by omega) ?_
              refine n_iadd (x := (ds v k)) (y := ((dv v k) % 10)) hx hb dX7_level_56 ?_
              refine lv_istore (lv' := [(5, .int (nI ((ds v k) + ((dv v k) % 10)))), (6, .int (nI k)), (4, .int (nI (dv v k))), (0, .ref a), (1, .int (nI lx)), (2, .int p0), (3, .int (nI v))]) hx hb dX7_level_57 hl (by decide) rfl (fun ls hl => ?_)
              refine lv_iload hx hb dX7_level_59 (lv_at hl 2 rfl) ?_
              refine lv_bipush (v := 10) hx hb dX7_level_61 (by decide) ?_
              refine n_idiv (x := (dv v k)) (y := 10) hx hb dX7_level_63 (by omega) (by omega) (by omega) ?_
              refine lv_istore (lv' := [(4, .int (nI ((dv v k) / 10))), (5, .int (nI ((ds v k) + ((dv v k) % 10)))), (6, .int (nI k)), (0, .ref a), (1, .int (nI lx)), (2, .int p0), (3, .int (nI v))]) hx hb dX7_level_64 hl (by decide) rfl (fun ls hl => ?_)
              refine lv_iinc (v := (nI (k + 1))) (lv' := [(6, .int (nI (k + 1))), (4, .int (nI ((dv v k) / 10))), (5, .int (nI ((ds v k) + ((dv v k) % 10)))), (0, .ref a), (1, .int (nI lx)), (2, .int p0), (3, .int (nI v))]) hx hb dX7_level_66 hl (k := 2) rfl (nI_add k 1) (by decide) rfl (fun ls hl => ?_)
              refine lv_goto (tgt := 40) hx hb dX7_level_69 (by decide) ?_
              exact ih40 (k + 1) _ _ _ (by omega) (by omega) hP hD hS (lv_sub hl [0, 1, 2, 3, 4, 5, 6] rfl)
        exact L40 _ 0 _ _ _ (Nat.lt_succ_self _) (Nat.zero_le _) hP hD hS (lv_sub hl [0, 2, 1, 3, 4, 5, 6] rfl)
      · skip
        refine lv_iconst (v := 0) hx hb dX7_level_29 (by decide) ?_
        have hz : lvOk x p0 c0 L = 0 := by simp only [lvOk, if_neg c_11, if_neg c_22, if_pos (i32_nle.mp c_26)]
        have h1 : lvC ch x p0 c0 L = ch := if_pos hz
        have h2 : lvP lp x p0 c0 L = lp := if_pos hz
        have hw9 : wM cI cL cZ a r now full jobs (nI L) pr R (lvP lp x p0 c0 L) (lvC ch x p0 c0 L) me ru wo co = wM cI cL cZ a r now full jobs (nI L) pr R lp ch me ru wo co := by rw [h1, h2]
        rw [← hw9] at hP hD
        rw [← hQQ]
        exact W.zret (v := 0) hx hb hr rfl (fun t9 ht9 hW9 => ⟨⟨_, (), rfl, hz.symm, by rw [ht9]; exact hP, hD⟩, hS.F ht9⟩) hS.2.2 dX7_level_30
