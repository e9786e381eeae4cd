/-! THE ORACLE of the reference: the pure words -/
def pAt (pr : Nat → Int32) (full : Int32) (m h : Nat) : Int32 := if m = 3 then full else pr (200 * m + h)
def prGood (pr : Nat → Int32) (full : Int32) : Prop := (∀ i, i < 600 → pr i = -1 ∨ ∃ q, q ≤ 999 ∧ pr i = nI q) ∧ ∃ q, q ≤ 999 ∧ full = nI q
theorem pAt_nat {pr : Nat → Int32} {full : Int32} {m h : Nat} (g : prGood pr full) (hm : m ≤ 3) (hh : h < 200) (hn : ¬ pAt pr full m h = -1) : ∃ q, q ≤ 999 ∧ pAt pr full m h = nI q := by
  unfold pAt at hn ⊢
  by_cases h3 : m = 3
  · rw [if_pos h3]; exact g.2
  · rw [if_neg h3] at hn ⊢
    rcases g.1 (200 * m + h) (by omega) with q | q
    · exact absurd q hn
    · exact q
def ahd (s bg : Nat) : Nat := if s = 0 then 0 else bg
/-- what is saved behind a stay of n hours -/
def thn (w s ah sv n : Nat) : Nat := min w (max (s + (n - ah - sv)) (n - sv))
def cnd (w s ah sv : Nat) (F : Nat → Nat → Nat) (h n sm : Nat) : Nat := if w ≤ thn w s ah sv n then sm else sm + F (h + n) (thn w s ah sv n)
def inn (pa : Nat → Int32) (w s ah sv : Nat) (F : Nat → Nat → Nat) (h : Nat) : Nat → Nat → Nat → Nat → Nat
  | 0, _, _, b => b
  | k + 1, n, sm, b => if pa (h + n - 1) = -1 then b else if b ≤ sm + (pa (h + n - 1)).toNatClampNeg then b else if w + ah ≤ n + s ∨ w ≤ n then sm + (pa (h + n - 1)).toNatClampNeg else inn pa w s ah sv F h k (n + 1) (sm + (pa (h + n - 1)).toNatClampNeg) (min b (cnd w s ah sv F h n (sm + (pa (h + n - 1)).toNatClampNeg)))
def chM (pa : Nat → Nat → Int32) (w d s ah sv : Nat) (F : Nat → Nat → Nat) (h : Nat) : Nat → Nat → Nat → Nat
  | 0, _, b => b
  | k + 1, m, b => chM pa w d s ah sv F h k (m + 1) (inn (pa m) w s ah sv F h (d - h) 1 0 b)
def chp (pa : Nat → Nat → Int32) (w d s bg sv : Nat) (F : Nat → Nat → Nat) (h : Nat) : Nat := chM pa w d s (ahd s bg) sv F h 4 0 (F (h + 1) s)
theorem cge {a b n : Nat} (ha : a < 2 ^ 30) (hb : b < 2 ^ 30) (hn : n < 2 ^ 30) : nI a ≤ nI n - nI b ↔ a + b ≤ n := by
  rw [Int32.le_iff_toInt_le, nI_toInt (by omega), pk_sub_toInt hn hb]; omega
theorem sub2_toInt {n a b : Nat} (hn : n < 2 ^ 20) (ha : a < 2 ^ 20) (hb : b < 2 ^ 20) : (nI n - nI a - nI b).toInt = (n : Int) - a - b := by
  have h1 := pk_sub_toInt (a := n) (b := a) (by omega) (by omega)
  rw [Int32.toInt_sub, h1, nI_toInt (by omega)]
  rw [Int.bmod_eq_of_le] <;> omega
theorem cle0 {n a b : Nat} (hn : n < 2 ^ 20) (ha : a < 2 ^ 20) (hb : b < 2 ^ 20) : nI n - nI a - nI b ≤ 0 ↔ n ≤ a + b := by
  rw [Int32.le_iff_toInt_le, sub2_toInt hn ha hb]
  show _ ≤ (0 : Int) ↔ _
  omega
theorem sub2 {n a b : Nat} (h : a + b ≤ n) : nI n - nI a - nI b = nI (n - a - b) := by
  rw [pk_sub (by omega), pk_sub (by omega)]
def Fc (co : Nat → Int32) : Nat → Nat → Nat := fun h s => (co (31 * h + s)).toNatClampNeg
theorem inn_congr {pa : Nat → Int32} {w s ah sv : Nat} {F G : Nat → Nat → Nat} {h : Nat} : ∀ (k n sm b : Nat), 1 ≤ n → (∀ h' s', h < h' → h' < h + n + k → s' < w → F h' s' = G h' s') → inn pa w s ah sv F h k n sm b = inn pa w s ah sv G h k n sm b
  | 0, _, _, _, _, _ => rfl
  | k + 1, n, sm, b, hn, e => by
    have ec : ∀ x, cnd w s ah sv F h n x = cnd w s ah sv G h n x := by
      intro x
      unfold cnd
      by_cases q : w ≤ thn w s ah sv n
      · rw [if_pos q, if_pos q]
      · rw [if_neg q, if_neg q, e (h + n) _ (by omega) (by omega) (by omega)]
    rw [inn, inn, ec, inn_congr k (n + 1) _ _ (by omega) (fun h' s' a1 a2 a3 => e h' s' a1 (by omega) a3)]
theorem chM_congr {pa : Nat → Nat → Int32} {w d s ah sv : Nat} {F G : Nat → Nat → Nat} {h : Nat} (hd : h < d) (e : ∀ h' s', h < h' → h' ≤ d → s' < w → F h' s' = G h' s') : ∀ (k m b : Nat), chM pa w d s ah sv F h k m b = chM pa w d s ah sv G h k m b
  | 0, _, _ => rfl
  | k + 1, m, b => by
    rw [chM, chM, inn_congr (d - h) 1 0 b (Nat.le_refl 1) (fun h' s' a1 a2 a3 => e h' s' a1 (by omega) a3), chM_congr hd e k]
theorem chp_congr {pa : Nat → Nat → Int32} {w d s bg sv : Nat} {F G : Nat → Nat → Nat} {h : Nat} (hd : h < d) (hs : s < w) (e : ∀ h' s', h < h' → h' ≤ d → s' < w → F h' s' = G h' s') : chp pa w d s bg sv F h = chp pa w d s bg sv G h := by
  rw [chp, chp, chM_congr hd e, e (h + 1) s (by omega) (by omega) hs]
theorem inn_le {pa : Nat → Int32} {w s ah sv : Nat} {F : Nat → Nat → Nat} {h : Nat} : ∀ (k n sm b : Nat), inn pa w s ah sv F h k n sm b ≤ b
  | 0, _, _, _ => Nat.le_refl _
  | k + 1, n, sm, b => by
    unfold inn
    split
    · exact Nat.le_refl _
    · split
      · exact Nat.le_refl _
      · split
        · omega
        · exact Nat.le_trans (inn_le k _ _ _) (Nat.min_le_left _ _)
theorem chM_le {pa : Nat → Nat → Int32} {w d s ah sv : Nat} {F : Nat → Nat → Nat} {h : Nat} : ∀ (k m b : Nat), chM pa w d s ah sv F h k m b ≤ b
  | 0, _, _ => Nat.le_refl _
  | k + 1, m, b => Nat.le_trans (chM_le k _ _) (inn_le _ _ _ _)
/-- what a row of costs must be -/
def coAt (pa : Nat → Nat → Int32) (w d bg sv : Nat) (co : Nat → Int32) (h s : Nat) : Prop := co (31 * h + s) = nI (Fc co h s) ∧ Fc co h s ≤ 1000000000 ∧ (if h = d then Fc co h s = 1000000000 else Fc co h s = chp pa w d s bg sv (Fc co) h)
def coGood (pa : Nat → Nat → Int32) (w d bg sv : Nat) (co : Nat → Int32) (k : Nat) : Prop := ∀ h s, k ≤ h → h ≤ d → s < w → coAt pa w d bg sv co h s
/-- the reference's costs, as an equation -/
def RefSol (pa : Nat → Nat → Int32) (w d bg sv cm : Nat) (F : Nat → Nat → Nat) : Prop := ∀ h s, cm ≤ h → h ≤ d → s < w → F h s ≤ 1000000000 ∧ (if h = d then F h s = 1000000000 else F h s = chp pa w d s bg sv F h)
theorem coGood_put {pa : Nat → Nat → Int32} {w d bg sv : Nat} {co : Nat → Int32} {h s : Nat} {v : Nat} (hw : w ≤ 30) (hs : s < w) (hd : h < d) (hv : v ≤ 1000000000) (ev : v = chp pa w d s bg sv (Fc co) h) (g : coGood pa w d bg sv co (h + 1)) (g2 : ∀ s', s' < s → coAt pa w d bg sv co h s') : coGood pa w d bg sv (upd co (31 * h + s) (nI v)) (h + 1) ∧ ∀ s', s' < s + 1 → coAt pa w d bg sv (upd co (31 * h + s) (nI v)) h s' := by
  have hF : ∀ h' s', h < h' → s' < w → Fc (upd co (31 * h + s) (nI v)) h' s' = Fc co h' s' := by
    intro h' s' a1 a2
    show (upd co (31 * h + s) (nI v) (31 * h' + s')).toNatClampNeg = _
    rw [pk_un (by omega)]; rfl
  have hF2 : ∀ s', s' < w → s' ≠ s → Fc (upd co (31 * h + s) (nI v)) h s' = Fc co h s' := by
    intro s' a2 a3
    show (upd co (31 * h + s) (nI v) (31 * h + s')).toNatClampNeg = _
    rw [pk_un (by omega)]; rfl
  have hF3 : Fc (upd co (31 * h + s) (nI v)) h s = v := by
    show (upd co (31 * h + s) (nI v) (31 * h + s)).toNatClampNeg = _
    rw [pk_us, nI_clamp (by omega)]
  refine ⟨fun h' s' a1 a2 a3 => ?_, fun s' a1 => ?_⟩
  · obtain ⟨b1, b2, b3⟩ := g h' s' a1 a2 a3
    refine ⟨?_, ?_, ?_⟩
    · rw [hF h' s' (by omega) a3, pk_un (by omega)]; exact b1
    · rw [hF h' s' (by omega) a3]; exact b2
    · rw [hF h' s' (by omega) a3]
      by_cases q : h' = d
      · rw [if_pos q] at b3 ⊢; exact b3
      · rw [if_neg q] at b3 ⊢
        rw [chp_congr (F := Fc (upd co (31 * h + s) (nI v))) (G := Fc co) (by omega) a3 (fun h'' s'' c1 c2 c3 => hF h'' s'' (by omega) c3)]
        exact b3
  · have hcp : ∀ s'', s'' < w → chp pa w d s'' bg sv (Fc (upd co (31 * h + s) (nI v))) h = chp pa w d s'' bg sv (Fc co) h := fun s'' hs'' => chp_congr hd hs'' (fun h'' s3 c1 c2 c3 => hF h'' s3 c1 c3)
    by_cases q : s' = s
    · subst q
      refine ⟨?_, ?_, ?_⟩
      · rw [hF3, pk_us]
      · rw [hF3]; exact hv
      · rw [if_neg (by omega), hF3, hcp s' hs]; exact ev
    · obtain ⟨b1, b2, b3⟩ := g2 s' (by omega)
      refine ⟨?_, ?_, ?_⟩
      · rw [hF2 s' (by omega) q, pk_un (by omega)]; exact b1
      · rw [hF2 s' (by omega) q]; exact b2
      · rw [if_neg (by omega)] at b3 ⊢
        rw [hF2 s' (by omega) q, hcp s' (by omega)]; exact b3
theorem inn_x1 {pa : Nat → Int32} {w s ah sv : Nat} {F : Nat → Nat → Nat} {h k n sm b : Nat} (e : pa (h + n - 1) = -1) : inn pa w s ah sv F h k n sm b = b := by
  cases k with
  | zero => rfl
  | succ k => rw [inn, if_pos e]
theorem inn_x2 {pa : Nat → Int32} {w s ah sv : Nat} {F : Nat → Nat → Nat} {h k n sm b q : Nat} (hq : q ≤ 999) (e : pa (h + n - 1) = nI q) (hle : b ≤ sm + q) : inn pa w s ah sv F h k n sm b = b := by
  cases k with
  | zero => rfl
  | succ k =>
    unfold inn
    split
    · rfl
    · rw [e, nI_clamp (by omega), if_pos hle]
theorem inn_x3 {pa : Nat → Int32} {w s ah sv : Nat} {F : Nat → Nat → Nat} {h k n sm b q : Nat} (hq : q ≤ 999) (hn : ¬ pa (h + n - 1) = -1) (e : pa (h + n - 1) = nI q) (hle : sm + q < b) (hf : w + ah ≤ n + s ∨ w ≤ n) : inn pa w s ah sv F h (k + 1) n sm b = sm + q := by
  rw [inn, if_neg hn, e, nI_clamp (by omega), if_neg (by omega), if_pos hf]
theorem inn_x4 {pa : Nat → Int32} {w s ah sv : Nat} {F : Nat → Nat → Nat} {h k n sm b q : Nat} (hq : q ≤ 999) (hn : ¬ pa (h + n - 1) = -1) (e : pa (h + n - 1) = nI q) (hle : sm + q < b) (hf : ¬ (w + ah ≤ n + s ∨ w ≤ n)) : inn pa w s ah sv F h (k + 1) n sm b = inn pa w s ah sv F h k (n + 1) (sm + q) (min b (cnd w s ah sv F h n (sm + q))) := by
  rw [inn, if_neg hn, e, nI_clamp (by omega), if_neg (by omega), if_neg hf]
def orcM (pr : Nat → Int32) (full : Int32) (n : Nat) (R : Nat → Nat → Int32) (x r : Int32) : Prop := (wi x 0 (nI n - 1) = 0 ∧ r = -1) ∨ (∃ j, j < n ∧ x = nI j ∧ ∃ w d mk sv bg cm : Nat, ((1 ≤ w ∧ w ≤ 30) ∧ d ≤ 200 ∧ mk < 3 ∧ sv ≤ 5 ∧ bg ≤ 5 ∧ cm + w ≤ d) ∧ R j 0 = nI w ∧ R j 1 = nI d ∧ R j 2 = nI mk ∧ R j 5 = nI sv ∧ R j 6 = nI bg ∧ R j 7 = nI cm ∧ ∃ F, RefSol (pAt pr full) w d bg sv cm F ∧ r = nI (F cm 0))
theorem n_m1 (h : Nat) : nI h + Int32.ofInt (-1) = nI h - 1 := by
  rw [Int32.sub_eq_add_neg]; rfl
theorem coGood_d {pa : Nat → Nat → Int32} {w d bg sv : Nat} {co : Nat → Int32} {s : Nat} (hc : ∀ s1, s1 < s → co (31 * d + s1) = nI 1000000000) (hs : w ≤ s) : coGood pa w d bg sv co d := by
  intro h s1 a1 a2 a3
  obtain rfl : h = d := by omega
  have e := hc s1 (by omega)
  have e2 : Fc co h s1 = 1000000000 := by show (co (31 * h + s1)).toNatClampNeg = _; rw [e]; exact nI_clamp (by decide)
  exact ⟨by rw [e2]; exact e, by rw [e2]; exact Nat.le_refl _, by rw [if_pos rfl]; exact e2⟩
theorem coGood_row {pa : Nat → Nat → Int32} {w d bg sv : Nat} {co : Nat → Int32} {h s : Nat} (g : coGood pa w d bg sv co (h + 1)) (g2 : ∀ s1, s1 < s → coAt pa w d bg sv co h s1) (hs : w ≤ s) : coGood pa w d bg sv co h := by
  intro h1 s1 a1 a2 a3
  by_cases q : h1 = h
  · subst q; exact g2 s1 (by omega)
  · exact g h1 s1 (by omega) a2 a3
theorem chp_le {pa : Nat → Nat → Int32} {w d bg sv : Nat} {co : Nat → Int32} {h s : Nat} (g : coGood pa w d bg sv co (h + 1)) (hd : h < d) (hs : s < w) : chp pa w d s bg sv (Fc co) h ≤ 1000000000 := Nat.le_trans (chM_le _ _ _) (g (h + 1) s (by omega) (by omega) hs).2.1
theorem cltm {k cm : Nat} (hk : k < 2 ^ 30) (hc : cm < 2 ^ 30) : nI k - 1 < nI cm ↔ k ≤ cm := by
  rw [Int32.lt_iff_toInt_lt, nI_toInt (by omega), show (nI k - 1).toInt = (k : Int) - 1 from pk_sub_toInt (b := 1) hk (by decide)]
  omega
set_option maxHeartbeats 4000000 in
set_option maxRecDepth 100000 in
theorem c_X7_priceAt (l : Launch) (D : va_G) (cI cL cZ cO : ClassId) (a : Nat) (r : Nat → Nat) (now full jobs lev : Int32) (pr : Nat → Int32) (R : Nat → Nat → Int32) (lp ch : Nat → Int32) (me : Nat → Int64) (ru wo co : Nat → Int32) (mm h : Nat) (hm : mm ≤ 3) (hh : h < 200) : Met l yX7_priceAt wsX7_priceAt ({ frames := 0, cells := 0, slots := 0, locals := 0 } : Room) (va_Pc [.ref a, .int (nI mm), .int (nI h)] (Ro D cI cL cZ cO (wM cI cL cZ a r now full jobs lev pr R lp ch me ru wo co))) (vp_Si (fun r => r = pAt pr full mm h)) 0 0 (fun _ => False) := by
  refine Met.ofW (cc := cX7_priceAt) (maxL := 3) (ret := (some .int)) (by decide) rfl ?_
  intro p e s m args below meth c s₁ B hml hv
  obtain ⟨rfl, hP, hO⟩ := hv
  have hx := B.exec
  have hb := B.bytes
  have hr := B.returns
  have hts := atoms_spec (ws := wsX7_priceAt) B.pre
  have hown : s.vm.findClass RX7 = some m.cls := findClass_of_methodNamed B.named
  have hlocks := B.notSynchronized
  have hK := hO.1
  have hl := lv_entry ([.ref a, .int (nI mm), .int (nI h)]) (n := 3) (Nat.le_of_ble_eq_true rfl)
  rw [lg_entry_eq]
  generalize (lg_sl ([.ref a, .int (nI mm), .int (nI h)]) ++ List.replicate (3 - (lg_sl ([.ref a, .int (nI mm), .int (nI h)])).length) Slot.unset).toArray = ls at hl ⊢
  have hl : lv_has ls 3 [(0, .ref a), (1, .int (nI mm)), (2, .int (nI h))] := hl
  generalize hQQ : MQ below _ _ s _ _ _ = QQ
  refine lv_iload_n hx hb dX7_priceAt_0 rfl (lv_at hl 1 rfl) ?_
  refine lv_iconst (v := 3) hx hb dX7_priceAt_1 (by decide) ?_
  refine n_icmp_ne (x := mm) (y := 3) (tgt := 12) hx hb dX7_priceAt_2 (by decide) (by omega) (by omega) (fun c_2 => ?_) (fun c_2 => ?_)
  · skip
    refine lv_aload_n hx hb dX7_priceAt_12 rfl (lv_at hl 0 rfl) ?_
    refine va_get (D := D) (cl := vwCl) (ci := 6) (v := .ref (r 24)) (C := RX7) (T := TX7) (N := 35) hx hb hts (fun _ h => List.mem_cons_of_mem _ (List.mem_append_right _ h)) hown hK hP 0 rfl rfl 2 (by decide) (hts (.fieldLink RX7 13 "CheapHoursModel" "prices" "[I") (by decide +kernel)) (fun _ h9 => h9) rfl dX7_priceAt_13 ?_
    refine lv_sipush (v := 200) hx hb dX7_priceAt_16 (by decide) ?_
    refine lv_iload_n hx hb dX7_priceAt_19 rfl (lv_at hl 1 rfl) ?_
    refine n_imul (x := 200) (y := mm) hx hb dX7_priceAt_20 ?_
    refine lv_iload_n hx hb dX7_priceAt_21 rfl (lv_at hl 2 rfl) ?_
    refine n_iadd (x := (200 * mm)) (y := h) hx hb dX7_priceAt_22 ?_
    refine n_iald (D := D) (cl := vwCl) (x := ((200 * mm) + h)) hx hb hK hP 1 0 (f := pr) rfl rfl (by omega) (Nat.le_of_ble_eq_true rfl) dX7_priceAt_23 ?_
    rw [← hQQ]
    exact W.iret (v := (pr ((200 * mm) + h))) hx hb hr (fun t9 ht9 hW9 => ⟨_, rfl, by simp only [pAt, if_neg c_2], ht9⟩) (fun q h => by cases h) dX7_priceAt_24
  · skip
    refine lv_aload_n hx hb dX7_priceAt_5 rfl (lv_at hl 0 rfl) ?_
    refine va_get (D := D) (cl := vwCl) (ci := 6) (v := .int full) (C := RX7) (T := TX7) (N := 35) hx hb hts (fun _ h => List.mem_cons_of_mem _ (List.mem_append_right _ h)) hown hK hP 0 rfl rfl 1 (by decide) (hts (.fieldLink RX7 7 "CheapHoursModel" "full" "I") (by decide +kernel)) (fun _ h9 => h9) rfl dX7_priceAt_6 ?_
    refine lv_goto (tgt := 24) hx hb dX7_priceAt_9 (by decide) ?_
    rw [← hQQ]
    exact W.iret (v := full) hx hb hr (fun t9 ht9 hW9 => ⟨_, rfl, by simp only [pAt, if_pos c_2], ht9⟩) (fun q h => by cases h) dX7_priceAt_24
set_option maxHeartbeats 4000000 in
set_option maxRecDepth 100000 in
theorem c_X7_cheapest (l : Launch) (D : va_G) (cI cL cZ cO : ClassId) (a : Nat) (r : Nat → Nat) (now full jobs lev : Int32) (pr : Nat → Int32) (R : Nat → Nat → Int32) (lp ch : Nat → Int32) (me : Nat → Int64) (ru wo co : Nat → Int32) (j w d sv bg h ss : Nat) (hj : j < 12) (hw : 1 ≤ w ∧ w ≤ 30) (hd : d ≤ 200) (hsv : sv ≤ 5) (hbg : bg ≤ 5) (e0 : R j 0 = nI w) (e1 : R j 1 = nI d) (e5 : R j 5 = nI sv) (e6 : R j 6 = nI bg) (hpr : prGood pr full) (hh : h < d) (hs : ss < w) (hco : ∀ h1 s1, h < h1 → h1 ≤ d → s1 < w → co (31 * h1 + s1) = nI (Fc co h1 s1) ∧ Fc co h1 s1 ≤ 1000000000) : Met l yX7_cheapest wsX7_cheapest ({ frames := 1, cells := 0, slots := 0, locals := 22 } : Room) (va_Pc [.ref a, .int (nI j), .int (nI h), .int (nI ss)] (Ro D cI cL cZ cO (wM cI cL cZ a r now full jobs lev pr R lp ch me ru wo co))) (vp_Si (fun r => r = nI (chp (pAt pr full) w d ss bg sv (Fc co) h))) 0 0 (fun _ => False) := by
  refine Met.ofW (cc := cX7_cheapest) (maxL := 13) (ret := (some .int)) (by decide) rfl ?_
  intro p e s m args below meth c s₁ B hml hv
  obtain ⟨rfl, hP, hO⟩ := hv
  have hx := B.exec
  have hb := B.bytes
  have hr := B.returns
  have hts := atoms_spec (ws := wsX7_cheapest) B.pre
  have hown : s.vm.findClass RX7 = some m.cls := findClass_of_methodNamed B.named
  have hlocks := B.notSynchronized
  have hK := hO.1
  have hl := lv_entry ([.ref a, .int (nI j), .int (nI h), .int (nI ss)]) (n := 13) (Nat.le_of_ble_eq_true rfl)
  rw [lg_entry_eq]
  generalize (lg_sl ([.ref a, .int (nI j), .int (nI h), .int (nI ss)]) ++ List.replicate (13 - (lg_sl ([.ref a, .int (nI j), .int (nI h), .int (nI ss)])).length) Slot.unset).toArray = ls at hl ⊢
  have hl : lv_has ls 13 [(0, .ref a), (1, .int (nI j)), (2, .int (nI h)), (3, .int (nI ss))] := hl
  generalize hQQ : MQ below _ _ s _ _ _ = QQ
  refine lv_aload_n hx hb dX7_cheapest_0 rfl (lv_at hl 0 rfl) ?_
  refine va_get (D := D) (cl := vwCl) (ci := 6) (v := .ref (r 30)) (C := RX7) (T := TX7) (N := 35) hx hb hts (fun _ h => List.mem_cons_of_mem _ (List.mem_append_right _ h)) hown hK hP 0 rfl rfl 34 (by decide) (hts (.fieldLink RX7 106 "CheapHoursModel" "costs" "[I") (by decide +kernel)) (fun _ h9 => h9) rfl dX7_cheapest_1 ?_
  refine lv_bipush (v := 31) hx hb dX7_cheapest_4 (by decide) ?_
  refine lv_iload_n hx hb dX7_cheapest_6 rfl (lv_at hl 2 rfl) ?_
  refine lv_iconst (v := 1) hx hb dX7_cheapest_7 (by decide) ?_
  refine n_iadd (x := h) (y := 1) hx hb dX7_cheapest_8 ?_
  refine n_imul (x := 31) (y := (h + 1)) hx hb dX7_cheapest_9 ?_
  refine lv_iload_n hx hb dX7_cheapest_10 rfl (lv_at hl 3 rfl) ?_
  refine n_iadd (x := (31 * (h + 1))) (y := ss) hx hb dX7_cheapest_11 ?_
  refine n_iald (D := D) (cl := vwCl) (x := ((31 * (h + 1)) + ss)) hx hb hK hP 7 0 (f := co) rfl rfl (by omega) (Nat.le_of_ble_eq_true rfl) dX7_cheapest_12 ?_
  refine lv_seti (v := nI (Fc co (h + 1) ss)) (hco (h + 1) ss (by omega) (by omega) hs).1 ?_
  have hF0 := (hco (h + 1) ss (by omega) (by omega) hs).2
  refine lv_istore (lv' := [(4, .int (nI (Fc co (h + 1) ss))), (0, .ref a), (1, .int (nI j)), (2, .int (nI h)), (3, .int (nI ss))]) hx hb dX7_cheapest_13 hl (by decide) rfl (fun ls hl => ?_)
  refine lv_iconst (v := 0) hx hb dX7_cheapest_15 (by decide) ?_
  refine lv_istore (lv' := [(5, .int 0), (4, .int (nI (Fc co (h + 1) ss))), (0, .ref a), (1, .int (nI j)), (2, .int (nI h)), (3, .int (nI ss))]) hx hb dX7_cheapest_16 hl (by decide) rfl (fun ls hl => ?_)
  have L18 : ∀ (n0 : Nat) (mm : Nat) (b0 : Nat) (ls : Array Slot), 4 - mm < n0 → (mm ≤ 4) → (b0 ≤ 1000000000) → (chM (pAt pr full) w d ss (ahd ss bg) sv (Fc co) h (4 - mm) mm b0 = chp (pAt pr full) w d ss bg sv (Fc co) h) → lv_has ls 13 [(5, .int (nI mm)), (4, .int (nI b0)), (0, .ref a), (1, .int (nI j)), (2, .int (nI h)), (3, .int (nI ss))] → W p l e (headSpec wsX7_cheapest ({ frames := 1, cells := 0, slots := 0, locals := 22 } : Room)).room s m ([.ref a, .int (nI j), .int (nI h), .int (nI ss)] : List Value).toArray below meth c s.heap [] 0 0 QQ (F0 m 18 ls []) := by
    intro n0
    induction n0 with
    | zero =>
      intro mm b0 ls hmu
      exact absurd hmu (Nat.not_lt_zero _)
    | succ n0 ih18 =>
      intro mm b0 ls hmu hm hb0 he hl
      refine lv_iload hx hb dX7_cheapest_18 (lv_at hl 0 rfl) ?_
      refine lv_iconst (v := 3) hx hb dX7_cheapest_20 (by decide) ?_
      refine n_icmp_gt (x := mm) (y := 3) (tgt := 276) hx hb dX7_cheapest_21 (by decide) (by omega) (by omega) (fun c_21 => ?_) (fun c_21 => ?_)
      · skip
        refine lv_iload hx hb dX7_cheapest_276 (lv_at hl 1 rfl) ?_
        rw [← hQQ]
        exact W.iret (v := (nI b0)) hx hb hr (fun t9 ht9 hW9 => ⟨_, rfl, (by rw [← he, show 4 - mm = 0 by omega]; rfl), ht9⟩) (fun q h => by cases h) dX7_cheapest_278
      · skip
        have J41 : ∀  (ls : Array Slot), lv_has ls 13 [(6, .int (nI 0)), (5, .int (nI mm)), (4, .int (nI b0)), (0, .ref a), (1, .int (nI j)), (2, .int (nI h)), (3, .int (nI ss))] → W p l e (headSpec wsX7_cheapest ({ frames := 1, cells := 0, slots := 0, locals := 22 } : Room)).room s m ([.ref a, .int (nI j), .int (nI h), .int (nI ss)] : List Value).toArray below meth c s.heap [] 0 0 QQ (F0 m 41 ls [.int (nI (ahd ss bg))]) := by
          intro  ls  hl
          refine lv_istore (lv' := [(7, .int (nI (ahd ss bg))), (6, .int (nI 0)), (5, .int (nI mm)), (4, .int (nI b0)), (0, .ref a), (1, .int (nI j)), (2, .int (nI h)), (3, .int (nI ss))]) hx hb dX7_cheapest_41 hl (by decide) rfl (fun ls hl => ?_)
          have J270 : ∀ (B : Nat) (ls : Array Slot), (inn ((pAt pr full) mm) w ss (ahd ss bg) sv (Fc co) h (d - h) 1 0 b0 = B) → (B ≤ 1000000000) → lv_has ls 13 [(5, .int (nI mm)), (4, .int (nI B)), (0, .ref a), (1, .int (nI j)), (2, .int (nI h)), (3, .int (nI ss))] → W p l e (headSpec wsX7_cheapest ({ frames := 1, cells := 0, slots := 0, locals := 22 } : Room)).room s m ([.ref a, .int (nI j), .int (nI h), .int (nI ss)] : List Value).toArray below meth c s.heap [] 0 0 QQ (F0 m 270 ls []) := by
            intro B ls hB hB1 hl
            refine lv_iinc (v := (nI (mm + 1))) (lv' := [(5, .int (nI (mm + 1))), (4, .int (nI B)), (0, .ref a), (1, .int (nI j)), (2, .int (nI h)), (3, .int (nI ss))]) hx hb dX7_cheapest_270 hl (k := 0) rfl (nI_add mm 1) (by decide) rfl (fun ls hl => ?_)
            refine lv_goto (tgt := 18) hx hb dX7_cheapest_273 (by decide) ?_
            exact ih18 (mm + 1) B _ (by omega) (by omega) hB1 (by rw [← he, show 4 - mm = 4 - (mm + 1) + 1 by omega, chM, hB]) (lv_sub hl [0, 1, 2, 3, 4, 5] rfl)
          refine lv_iconst (v := 1) hx hb dX7_cheapest_43 (by decide) ?_
          refine lv_istore (lv' := [(8, .int 1), (7, .int (nI (ahd ss bg))), (6, .int (nI 0)), (5, .int (nI mm)), (4, .int (nI b0)), (0, .ref a), (1, .int (nI j)), (2, .int (nI h)), (3, .int (nI ss))]) hx hb dX7_cheapest_44 hl (by decide) rfl (fun ls hl => ?_)
          have L46 : ∀ (n0 : Nat) (n : Nat) (sm : Nat) (b : Nat) (ls : Array Slot), d + 1 - h - n < n0 → (1 ≤ n ∧ n ≤ d + 1 - h) → (sm ≤ 999 * (n - 1)) → (b ≤ 1000000000) → (inn ((pAt pr full) mm) w ss (ahd ss bg) sv (Fc co) h (d + 1 - h - n) n sm b = inn ((pAt pr full) mm) w ss (ahd ss bg) sv (Fc co) h (d - h) 1 0 b0) → lv_has ls 13 [(8, .int (nI n)), (7, .int (nI (ahd ss bg))), (6, .int (nI sm)), (5, .int (nI mm)), (4, .int (nI b)), (0, .ref a), (1, .int (nI j)), (2, .int (nI h)), (3, .int (nI ss))] → W p l e (headSpec wsX7_cheapest ({ frames := 1, cells := 0, slots := 0, locals := 22 } : Room)).room s m ([.ref a, .int (nI j), .int (nI h), .int (nI ss)] : List Value).toArray below meth c s.heap [] 0 0 QQ (F0 m 46 ls []) := by
            intro n0
            induction n0 with
            | zero =>
              intro n sm b ls hmu
              exact absurd hmu (Nat.not_lt_zero _)
            | succ n0 ih46 =>
              intro n sm b ls hmu hn hsm hbq he2 hl
              have hah : ahd ss bg ≤ 5 := by unfold ahd; split <;> omega
              refine lv_iload_n hx hb dX7_cheapest_46 rfl (lv_at hl 7 rfl) ?_
              refine lv_iload hx hb dX7_cheapest_47 (lv_at hl 0 rfl) ?_
              refine n_iadd (x := h) (y := n) hx hb dX7_cheapest_49 ?_
              refine lv_aload_n hx hb dX7_cheapest_50 rfl (lv_at hl 5 rfl) ?_
              refine va_get (D := D) (cl := vwCl) (ci := 6) (v := .ref (r 1)) (C := RX7) (T := TX7) (N := 35) hx hb hts (fun _ h => List.mem_cons_of_mem _ (List.mem_append_right _ h)) hown hK hP 0 rfl rfl 5 (by decide) (hts (.fieldLink RX7 20 "CheapHoursModel" "due" "[I") (by decide +kernel)) (fun _ h9 => h9) rfl dX7_cheapest_51 ?_
              refine lv_iload_n hx hb dX7_cheapest_54 rfl (lv_at hl 6 rfl) ?_
              refine jldR (v := (nI d)) hx hb hK hP 1 (by decide) (by omega) e1 dX7_cheapest_55 ?_
              refine n_icmp_gt (x := (h + n)) (y := d) (tgt := 270) hx hb dX7_cheapest_56 (by decide) (by omega) (by omega) (fun c_56 => ?_) (fun c_56 => ?_)
              · skip
                exact J270 b _ (by rw [← he2, show d + 1 - h - n = 0 by omega]; rfl) hbq (lv_sub hl [3, 4, 5, 6, 7, 8] rfl)
              · skip
                refine lv_aload_n hx hb dX7_cheapest_59 rfl (lv_at hl 5 rfl) ?_
                refine lv_iload hx hb dX7_cheapest_60 (lv_at hl 3 rfl) ?_
                refine lv_iload_n hx hb dX7_cheapest_62 rfl (lv_at hl 7 rfl) ?_
                refine lv_iload hx hb dX7_cheapest_63 (lv_at hl 0 rfl) ?_
                refine n_iadd (x := h) (y := n) hx hb dX7_cheapest_65 ?_
                refine lv_iconst (v := 1) hx hb dX7_cheapest_66 (by decide) ?_
                refine n_isub (x := (h + n)) (y := 1) hx hb dX7_cheapest_67 (by omega) ?_
                refine roVi (As := [.int (nI mm), .int (nI ((h + n) - 1))]) (rest := []) ⟨hx, hb, hml, hown, hts⟩ (c_X7_priceAt l D cI cL cZ cO a r now full jobs lev pr R lp ch me ru wo co mm ((h + n) - 1) (by omega) (by omega)) (cwV 2 hts gX7_cheapest_X7_priceAt rfl rfl rfl (by decide +kernel) ⟨Nat.le_of_ble_eq_true rfl, Nat.le_of_ble_eq_true rfl⟩) hO hP (va_recv hK hP (ci := 6) (q0 := 0) rfl rfl) rfl hl.1 rfl (Nat.le_of_ble_eq_true rfl) dX7_cheapest_68 ⟨Nat.le_of_ble_eq_true rfl, Nat.le_of_ble_eq_true rfl⟩ (fun r_68 e_68 => ?_)
                obtain rfl : r_68 = pAt pr full mm ((h + n) - 1) := e_68
                refine lv_iconst (v := (-1)) hx hb dX7_cheapest_71 (by decide) ?_
                refine lv_icmp_eq (tgt := 270) hx hb dX7_cheapest_72 (by decide) (fun c_72 => ?_) (fun c_72 => ?_)
                · skip
                  exact J270 b _ (by rw [← he2, inn_x1 c_72]) hbq (lv_sub hl [3, 4, 5, 6, 7, 8] rfl)
                · skip
                  obtain ⟨q, hq, eq⟩ := pAt_nat hpr (by omega) (by omega) c_72
                  refine lv_iload hx hb dX7_cheapest_75 (lv_at hl 2 rfl) ?_
                  refine lv_aload_n hx hb dX7_cheapest_77 rfl (lv_at hl 5 rfl) ?_
                  refine lv_iload hx hb dX7_cheapest_78 (lv_at hl 3 rfl) ?_
                  refine lv_iload_n hx hb dX7_cheapest_80 rfl (lv_at hl 7 rfl) ?_
                  refine lv_iload hx hb dX7_cheapest_81 (lv_at hl 0 rfl) ?_
                  refine n_iadd (x := h) (y := n) hx hb dX7_cheapest_83 ?_
                  refine lv_iconst (v := 1) hx hb dX7_cheapest_84 (by decide) ?_
                  refine n_isub (x := (h + n)) (y := 1) hx hb dX7_cheapest_85 (by omega) ?_
                  refine roVi (As := [.int (nI mm), .int (nI ((h + n) - 1))]) (rest := [.int (nI sm)]) ⟨hx, hb, hml, hown, hts⟩ (c_X7_priceAt l D cI cL cZ cO a r now full jobs lev pr R lp ch me ru wo co mm ((h + n) - 1) (by omega) (by omega)) (cwV 2 hts gX7_cheapest_X7_priceAt rfl rfl rfl (by decide +kernel) ⟨Nat.le_of_ble_eq_true rfl, Nat.le_of_ble_eq_true rfl⟩) hO hP (va_recv hK hP (ci := 6) (q0 := 0) rfl rfl) rfl hl.1 rfl (Nat.le_of_ble_eq_true rfl) dX7_cheapest_86 ⟨Nat.le_of_ble_eq_true rfl, Nat.le_of_ble_eq_true rfl⟩ (fun r_86 e_86 => ?_)
                  obtain rfl : r_86 = pAt pr full mm ((h + n) - 1) := e_86
                  refine lv_seti (v := nI (q)) eq ?_
                  refine n_iadd (x := sm) (y := q) hx hb dX7_cheapest_89 ?_
                  refine lv_istore (lv' := [(6, .int (nI (sm + q))), (8, .int (nI n)), (7, .int (nI (ahd ss bg))), (5, .int (nI mm)), (4, .int (nI b)), (0, .ref a), (1, .int (nI j)), (2, .int (nI h)), (3, .int (nI ss))]) hx hb dX7_cheapest_90 hl (by decide) rfl (fun ls hl => ?_)
                  refine lv_iload hx hb dX7_cheapest_92 (lv_at hl 0 rfl) ?_
                  refine lv_iload hx hb dX7_cheapest_94 (lv_at hl 4 rfl) ?_
                  refine n_icmp_lt (x := (sm + q)) (y := b) (tgt := 102) hx hb dX7_cheapest_96 (by decide) (by omega) (by omega) (fun c_96 => ?_) (fun c_96 => ?_)
                  · skip
                    refine lv_iload hx hb dX7_cheapest_102 (lv_at hl 1 rfl) ?_
                    refine lv_iload hx hb dX7_cheapest_104 (lv_at hl 2 rfl) ?_
                    refine lv_isub hx hb dX7_cheapest_106 ?_
                    refine lv_aload_n hx hb dX7_cheapest_107 rfl (lv_at hl 5 rfl) ?_
                    refine va_get (D := D) (cl := vwCl) (ci := 6) (v := .ref (r 0)) (C := RX7) (T := TX7) (N := 35) hx hb hts (fun _ h => List.mem_cons_of_mem _ (List.mem_append_right _ h)) hown hK hP 0 rfl rfl 4 (by decide) (hts (.fieldLink RX7 17 "CheapHoursModel" "work" "[I") (by decide +kernel)) (fun _ h9 => h9) rfl dX7_cheapest_108 ?_
                    refine lv_iload_n hx hb dX7_cheapest_111 rfl (lv_at hl 6 rfl) ?_
                    refine jldR (v := (nI w)) hx hb hK hP 0 (by decide) (by omega) e0 dX7_cheapest_112 ?_
                    refine lv_iload_n hx hb dX7_cheapest_113 rfl (lv_at hl 8 rfl) ?_
                    refine n_isub (x := w) (y := ss) hx hb dX7_cheapest_114 (by omega) ?_
                    refine lv_icmp_ge (tgt := 129) hx hb dX7_cheapest_115 (by decide) (fun c_115 => ?_) (fun c_115 => ?_)
                    · skip
                      have hfin : w + ahd ss bg ≤ n + ss ∨ w ≤ n := Or.inl (by have := (cge (by omega) (by omega) (by omega)).mp c_115; omega)
                      refine lv_iload hx hb dX7_cheapest_129 (lv_at hl 0 rfl) ?_
                      refine lv_istore (lv' := [(4, .int (nI (sm + q))), (6, .int (nI (sm + q))), (8, .int (nI n)), (7, .int (nI (ahd ss bg))), (5, .int (nI mm)), (0, .ref a), (1, .int (nI j)), (2, .int (nI h)), (3, .int (nI ss))]) hx hb dX7_cheapest_131 hl (by decide) rfl (fun ls hl => ?_)
                      refine lv_goto (tgt := 270) hx hb dX7_cheapest_133 (by decide) ?_
                      exact J270 (sm + q) _ (by rw [← he2, show d + 1 - h - n = d - h - n + 1 by omega, inn_x3 hq c_72 eq c_96 hfin]) (by omega) (lv_sub hl [4, 0, 5, 6, 7, 8] rfl)
                    · skip
                      have hf1 : ¬ w + ahd ss bg ≤ n + ss := fun z9 => c_115 ((cge (by omega) (by omega) (by omega)).mpr (by omega))
                      refine lv_iload hx hb dX7_cheapest_118 (lv_at hl 1 rfl) ?_
                      refine lv_aload_n hx hb dX7_cheapest_120 rfl (lv_at hl 5 rfl) ?_
                      refine va_get (D := D) (cl := vwCl) (ci := 6) (v := .ref (r 0)) (C := RX7) (T := TX7) (N := 35) hx hb hts (fun _ h => List.mem_cons_of_mem _ (List.mem_append_right _ h)) hown hK hP 0 rfl rfl 4 (by decide) (hts (.fieldLink RX7 17 "CheapHoursModel" "work" "[I") (by decide +kernel)) (fun _ h9 => h9) rfl dX7_cheapest_121 ?_
                      refine lv_iload_n hx hb dX7_cheapest_124 rfl (lv_at hl 6 rfl) ?_
                      refine jldR (v := (nI w)) hx hb hK hP 0 (by decide) (by omega) e0 dX7_cheapest_125 ?_
                      refine n_icmp_lt (x := n) (y := w) (tgt := 136) hx hb dX7_cheapest_126 (by decide) (by omega) (by omega) (fun c_126 => ?_) (fun c_126 => ?_)
                      · skip
                        have hfin : ¬ (w + ahd ss bg ≤ n + ss ∨ w ≤ n) := by omega
                        have J168 : ∀  (ls : Array Slot), lv_has ls 13 [(8, .int (nI n)), (7, .int (nI (ahd ss bg))), (6, .int (nI (sm + q))), (5, .int (nI mm)), (4, .int (nI b)), (0, .ref a), (1, .int (nI j)), (2, .int (nI h)), (3, .int (nI ss))] → W p l e (headSpec wsX7_cheapest ({ frames := 1, cells := 0, slots := 0, locals := 22 } : Room)).room s m ([.ref a, .int (nI j), .int (nI h), .int (nI ss)] : List Value).toArray below meth c s.heap [] 0 0 QQ (F0 m 168 ls [.int (nI (n - ahd ss bg - sv)), .int (nI ss)]) := by
                          intro  ls  hl
                          refine n_iadd (x := ss) (y := (n - ahd ss bg - sv)) hx hb dX7_cheapest_168 ?_
                          refine lv_istore (lv' := [(9, .int (nI (ss + (n - ahd ss bg - sv)))), (8, .int (nI n)), (7, .int (nI (ahd ss bg))), (6, .int (nI (sm + q))), (5, .int (nI mm)), (4, .int (nI b)), (0, .ref a), (1, .int (nI j)), (2, .int (nI h)), (3, .int (nI ss))]) hx hb dX7_cheapest_169 hl (by decide) rfl (fun ls hl => ?_)
                          have J196 : ∀  (ls : Array Slot), lv_has ls 13 [(8, .int (nI n)), (7, .int (nI (ahd ss bg))), (6, .int (nI (sm + q))), (5, .int (nI mm)), (4, .int (nI b)), (0, .ref a), (1, .int (nI j)), (2, .int (nI h)), (3, .int (nI ss))] → W p l e (headSpec wsX7_cheapest ({ frames := 1, cells := 0, slots := 0, locals := 22 } : Room)).room s m ([.ref a, .int (nI j), .int (nI h), .int (nI ss)] : List Value).toArray below meth c s.heap [] 0 0 QQ (F0 m 196 ls [.int (nI (max (ss + (n - ahd ss bg - sv)) (n - sv)))]) := by
                            intro  ls  hl
                            refine lv_istore (lv' := [(11, .int (nI (max (ss + (n - ahd ss bg - sv)) (n - sv)))), (8, .int (nI n)), (7, .int (nI (ahd ss bg))), (6, .int (nI (sm + q))), (5, .int (nI mm)), (4, .int (nI b)), (0, .ref a), (1, .int (nI j)), (2, .int (nI h)), (3, .int (nI ss))]) hx hb dX7_cheapest_196 hl (by decide) rfl (fun ls hl => ?_)
                            have J217 : ∀  (ls : Array Slot), lv_has ls 13 [(11, .int (nI (thn w ss (ahd ss bg) sv n))), (8, .int (nI n)), (7, .int (nI (ahd ss bg))), (6, .int (nI (sm + q))), (5, .int (nI mm)), (4, .int (nI b)), (0, .ref a), (1, .int (nI j)), (2, .int (nI h)), (3, .int (nI ss))] → W p l e (headSpec wsX7_cheapest ({ frames := 1, cells := 0, slots := 0, locals := 22 } : Room)).room s m ([.ref a, .int (nI j), .int (nI h), .int (nI ss)] : List Value).toArray below meth c s.heap [] 0 0 QQ (F0 m 217 ls []) := by
                              intro  ls  hl
                              have hth : thn w ss (ahd ss bg) sv n ≤ w := Nat.min_le_left _ _
                              refine lv_iload hx hb dX7_cheapest_217 (lv_at hl 0 rfl) ?_
                              refine lv_aload_n hx hb dX7_cheapest_219 rfl (lv_at hl 6 rfl) ?_
                              refine va_get (D := D) (cl := vwCl) (ci := 6) (v := .ref (r 0)) (C := RX7) (T := TX7) (N := 35) hx hb hts (fun _ h => List.mem_cons_of_mem _ (List.mem_append_right _ h)) hown hK hP 0 rfl rfl 4 (by decide) (hts (.fieldLink RX7 17 "CheapHoursModel" "work" "[I") (by decide +kernel)) (fun _ h9 => h9) rfl dX7_cheapest_220 ?_
                              refine lv_iload_n hx hb dX7_cheapest_223 rfl (lv_at hl 7 rfl) ?_
                              refine jldR (v := (nI w)) hx hb hK hP 0 (by decide) (by omega) e0 dX7_cheapest_224 ?_
                              refine n_icmp_lt (x := (thn w ss (ahd ss bg) sv n)) (y := w) (tgt := 233) hx hb dX7_cheapest_225 (by decide) (by omega) (by omega) (fun c_225 => ?_) (fun c_225 => ?_)
                              · skip
                                refine lv_iload hx hb dX7_cheapest_233 (lv_at hl 3 rfl) ?_
                                refine lv_aload_n hx hb dX7_cheapest_235 rfl (lv_at hl 6 rfl) ?_
                                refine va_get (D := D) (cl := vwCl) (ci := 6) (v := .ref (r 30)) (C := RX7) (T := TX7) (N := 35) hx hb hts (fun _ h => List.mem_cons_of_mem _ (List.mem_append_right _ h)) hown hK hP 0 rfl rfl 34 (by decide) (hts (.fieldLink RX7 106 "CheapHoursModel" "costs" "[I") (by decide +kernel)) (fun _ h9 => h9) rfl dX7_cheapest_236 ?_
                                refine lv_bipush (v := 31) hx hb dX7_cheapest_239 (by decide) ?_
                                refine lv_iload_n hx hb dX7_cheapest_241 rfl (lv_at hl 8 rfl) ?_
                                refine lv_iload hx hb dX7_cheapest_242 (lv_at hl 1 rfl) ?_
                                refine n_iadd (x := h) (y := n) hx hb dX7_cheapest_244 ?_
                                refine n_imul (x := 31) (y := (h + n)) hx hb dX7_cheapest_245 ?_
                                refine lv_iload hx hb dX7_cheapest_246 (lv_at hl 0 rfl) ?_
                                refine n_iadd (x := (31 * (h + n))) (y := (thn w ss (ahd ss bg) sv n)) hx hb dX7_cheapest_248 ?_
                                refine n_iald (D := D) (cl := vwCl) (x := ((31 * (h + n)) + (thn w ss (ahd ss bg) sv n))) hx hb hK hP 7 0 (f := co) rfl rfl (by omega) (Nat.le_of_ble_eq_true rfl) dX7_cheapest_249 ?_
                                refine lv_seti (v := nI (Fc co (h + n) (thn w ss (ahd ss bg) sv n))) (hco (h + n) _ (by omega) c_56 c_225).1 ?_
                                have hFn := (hco (h + n) _ (by omega) c_56 c_225).2
                                refine n_iadd (x := (sm + q)) (y := (Fc co (h + n) (thn w ss (ahd ss bg) sv n))) hx hb dX7_cheapest_250 ?_
                                refine lv_istore (lv' := [(12, .int (nI ((sm + q) + (Fc co (h + n) (thn w ss (ahd ss bg) sv n))))), (11, .int (nI (thn w ss (ahd ss bg) sv n))), (8, .int (nI n)), (7, .int (nI (ahd ss bg))), (6, .int (nI (sm + q))), (5, .int (nI mm)), (4, .int (nI b)), (0, .ref a), (1, .int (nI j)), (2, .int (nI h)), (3, .int (nI ss))]) hx hb dX7_cheapest_251 hl (by decide) rfl (fun ls hl => ?_)
                                refine lv_iload hx hb dX7_cheapest_253 (lv_at hl 0 rfl) ?_
                                refine lv_iload hx hb dX7_cheapest_255 (lv_at hl 6 rfl) ?_
                                refine n_icmp_ge (x := ((sm + q) + (Fc co (h + n) (thn w ss (ahd ss bg) sv n)))) (y := b) (tgt := 264) hx hb dX7_cheapest_257 (by decide) (by omega) (by omega) (fun c_257 => ?_) (fun c_257 => ?_)
                                · skip
                                  refine lv_iinc (v := (nI (n + 1))) (lv' := [(8, .int (nI (n + 1))), (12, .int (nI ((sm + q) + (Fc co (h + n) (thn w ss (ahd ss bg) sv n))))), (11, .int (nI (thn w ss (ahd ss bg) sv n))), (7, .int (nI (ahd ss bg))), (6, .int (nI (sm + q))), (5, .int (nI mm)), (4, .int (nI b)), (0, .ref a), (1, .int (nI j)), (2, .int (nI h)), (3, .int (nI ss))]) hx hb dX7_cheapest_264 hl (k := 2) rfl (nI_add n 1) (by decide) rfl (fun ls hl => ?_)
                                  refine lv_goto (tgt := 46) hx hb dX7_cheapest_267 (by decide) ?_
                                  exact ih46 (n + 1) (sm + q) b _ (by omega) (by omega) (by omega) (by omega) (by rw [← he2, show d + 1 - h - n = d + 1 - h - (n + 1) + 1 by omega, inn_x4 hq c_72 eq c_96 hfin, cnd, if_neg (Nat.not_le.mpr c_225), Nat.min_eq_left (by omega)]) (lv_sub hl [0, 3, 4, 5, 6, 7, 8, 9, 10] rfl)
                                · skip
                                  refine lv_iload hx hb dX7_cheapest_260 (lv_at hl 0 rfl) ?_
                                  refine lv_istore (lv' := [(4, .int (nI ((sm + q) + (Fc co (h + n) (thn w ss (ahd ss bg) sv n))))), (12, .int (nI ((sm + q) + (Fc co (h + n) (thn w ss (ahd ss bg) sv n))))), (11, .int (nI (thn w ss (ahd ss bg) sv n))), (8, .int (nI n)), (7, .int (nI (ahd ss bg))), (6, .int (nI (sm + q))), (5, .int (nI mm)), (0, .ref a), (1, .int (nI j)), (2, .int (nI h)), (3, .int (nI ss))]) hx hb dX7_cheapest_262 hl (by decide) rfl (fun ls hl => ?_)
                                  refine lv_iinc (v := (nI (n + 1))) (lv' := [(8, .int (nI (n + 1))), (4, .int (nI ((sm + q) + (Fc co (h + n) (thn w ss (ahd ss bg) sv n))))), (12, .int (nI ((sm + q) + (Fc co (h + n) (thn w ss (ahd ss bg) sv n))))), (11, .int (nI (thn w ss (ahd ss bg) sv n))), (7, .int (nI (ahd ss bg))), (6, .int (nI (sm + q))), (5, .int (nI mm)), (0, .ref a), (1, .int (nI j)), (2, .int (nI h)), (3, .int (nI ss))]) hx hb dX7_cheapest_264 hl (k := 3) rfl (nI_add n 1) (by decide) rfl (fun ls hl => ?_)
                                  refine lv_goto (tgt := 46) hx hb dX7_cheapest_267 (by decide) ?_
                                  exact ih46 (n + 1) (sm + q) ((sm + q) + (Fc co (h + n) (thn w ss (ahd ss bg) sv n))) _ (by omega) (by omega) (by omega) (by omega) (by rw [← he2, show d + 1 - h - n = d + 1 - h - (n + 1) + 1 by omega, inn_x4 hq c_72 eq c_96 hfin, cnd, if_neg (Nat.not_le.mpr c_225), Nat.min_eq_right (by omega)]) (lv_sub hl [0, 4, 5, 6, 1, 7, 8, 9, 10] rfl)
                              · skip
                                refine lv_iload hx hb dX7_cheapest_228 (lv_at hl 3 rfl) ?_
                                refine lv_goto (tgt := 251) hx hb dX7_cheapest_230 (by decide) ?_
                                refine lv_istore (lv' := [(12, .int (nI (sm + q))), (11, .int (nI (thn w ss (ahd ss bg) sv n))), (8, .int (nI n)), (7, .int (nI (ahd ss bg))), (6, .int (nI (sm + q))), (5, .int (nI mm)), (4, .int (nI b)), (0, .ref a), (1, .int (nI j)), (2, .int (nI h)), (3, .int (nI ss))]) hx hb dX7_cheapest_251 hl (by decide) rfl (fun ls hl => ?_)
                                refine lv_iload hx hb dX7_cheapest_253 (lv_at hl 0 rfl) ?_
                                refine lv_iload hx hb dX7_cheapest_255 (lv_at hl 6 rfl) ?_
                                refine n_icmp_ge (x := (sm + q)) (y := b) (tgt := 264) hx hb dX7_cheapest_257 (by decide) (by omega) (by omega) (fun c_257 => ?_) (fun c_257 => ?_)
                                · skip
                                  refine lv_iinc (v := (nI (n + 1))) (lv' := [(8, .int (nI (n + 1))), (12, .int (nI (sm + q))), (11, .int (nI (thn w ss (ahd ss bg) sv n))), (7, .int (nI (ahd ss bg))), (6, .int (nI (sm + q))), (5, .int (nI mm)), (4, .int (nI b)), (0, .ref a), (1, .int (nI j)), (2, .int (nI h)), (3, .int (nI ss))]) hx hb dX7_cheapest_264 hl (k := 2) rfl (nI_add n 1) (by decide) rfl (fun ls hl => ?_)
                                  refine lv_goto (tgt := 46) hx hb dX7_cheapest_267 (by decide) ?_
                                  exact ih46 (n + 1) (sm + q) b _ (by omega) (by omega) (by omega) (by omega) (by rw [← he2, show d + 1 - h - n = d + 1 - h - (n + 1) + 1 by omega, inn_x4 hq c_72 eq c_96 hfin, cnd, if_pos c_225, Nat.min_eq_left (by omega)]) (lv_sub hl [0, 3, 4, 5, 6, 7, 8, 9, 10] rfl)
                                · skip
                                  refine lv_iload hx hb dX7_cheapest_260 (lv_at hl 0 rfl) ?_
                                  refine lv_istore (lv' := [(4, .int (nI (sm + q))), (12, .int (nI (sm + q))), (11, .int (nI (thn w ss (ahd ss bg) sv n))), (8, .int (nI n)), (7, .int (nI (ahd ss bg))), (6, .int (nI (sm + q))), (5, .int (nI mm)), (0, .ref a), (1, .int (nI j)), (2, .int (nI h)), (3, .int (nI ss))]) hx hb dX7_cheapest_262 hl (by decide) rfl (fun ls hl => ?_)
                                  refine lv_iinc (v := (nI (n + 1))) (lv' := [(8, .int (nI (n + 1))), (4, .int (nI (sm + q))), (12, .int (nI (sm + q))), (11, .int (nI (thn w ss (ahd ss bg) sv n))), (7, .int (nI (ahd ss bg))), (6, .int (nI (sm + q))), (5, .int (nI mm)), (0, .ref a), (1, .int (nI j)), (2, .int (nI h)), (3, .int (nI ss))]) hx hb dX7_cheapest_264 hl (k := 3) rfl (nI_add n 1) (by decide) rfl (fun ls hl => ?_)
                                  refine lv_goto (tgt := 46) hx hb dX7_cheapest_267 (by decide) ?_
                                  exact ih46 (n + 1) (sm + q) (sm + q) _ (by omega) (by omega) (by omega) (by omega) (by rw [← he2, show d + 1 - h - n = d + 1 - h - (n + 1) + 1 by omega, inn_x4 hq c_72 eq c_96 hfin, cnd, if_pos c_225, Nat.min_eq_right (by omega)]) (lv_sub hl [0, 4, 5, 6, 1, 7, 8, 9, 10] rfl)
                            refine lv_iload hx hb dX7_cheapest_198 (lv_at hl 0 rfl) ?_
                            refine lv_aload_n hx hb dX7_cheapest_200 rfl (lv_at hl 6 rfl) ?_
                            refine va_get (D := D) (cl := vwCl) (ci := 6) (v := .ref (r 0)) (C := RX7) (T := TX7) (N := 35) hx hb hts (fun _ h => List.mem_cons_of_mem _ (List.mem_append_right _ h)) hown hK hP 0 rfl rfl 4 (by decide) (hts (.fieldLink RX7 17 "CheapHoursModel" "work" "[I") (by decide +kernel)) (fun _ h9 => h9) rfl dX7_cheapest_201 ?_
                            refine lv_iload_n hx hb dX7_cheapest_204 rfl (lv_at hl 7 rfl) ?_
                            refine jldR (v := (nI w)) hx hb hK hP 0 (by decide) (by omega) e0 dX7_cheapest_205 ?_
                            refine n_icmp_le (x := (max (ss + (n - ahd ss bg - sv)) (n - sv))) (y := w) (tgt := 217) hx hb dX7_cheapest_206 (by decide) (by omega) (by omega) (fun c_206 => ?_) (fun c_206 => ?_)
                            · skip
                              have ht9 : max (ss + (n - ahd ss bg - sv)) (n - sv) = thn w ss (ahd ss bg) sv n := by unfold thn; omega
                              replace hl : lv_has ls 13 [(11, .int (nI (thn w ss (ahd ss bg) sv n))), (8, .int (nI n)), (7, .int (nI (ahd ss bg))), (6, .int (nI (sm + q))), (5, .int (nI mm)), (4, .int (nI b)), (0, .ref a), (1, .int (nI j)), (2, .int (nI h)), (3, .int (nI ss))] := by rw [← ht9]; exact hl
                              exact J217  _  (lv_sub hl [0, 1, 2, 3, 4, 5, 6, 7, 8, 9] rfl)
                            · skip
                              refine lv_aload_n hx hb dX7_cheapest_209 rfl (lv_at hl 6 rfl) ?_
                              refine va_get (D := D) (cl := vwCl) (ci := 6) (v := .ref (r 0)) (C := RX7) (T := TX7) (N := 35) hx hb hts (fun _ h => List.mem_cons_of_mem _ (List.mem_append_right _ h)) hown hK hP 0 rfl rfl 4 (by decide) (hts (.fieldLink RX7 17 "CheapHoursModel" "work" "[I") (by decide +kernel)) (fun _ h9 => h9) rfl dX7_cheapest_210 ?_
                              refine lv_iload_n hx hb dX7_cheapest_213 rfl (lv_at hl 7 rfl) ?_
                              refine jldR (v := (nI w)) hx hb hK hP 0 (by decide) (by omega) e0 dX7_cheapest_214 ?_
                              refine lv_istore (lv' := [(11, .int (nI w)), (8, .int (nI n)), (7, .int (nI (ahd ss bg))), (6, .int (nI (sm + q))), (5, .int (nI mm)), (4, .int (nI b)), (0, .ref a), (1, .int (nI j)), (2, .int (nI h)), (3, .int (nI ss))]) hx hb dX7_cheapest_215 hl (by decide) rfl (fun ls hl => ?_)
                              have ht9 : w = thn w ss (ahd ss bg) sv n := by unfold thn; omega
                              replace hl : lv_has ls 13 [(11, .int (nI (thn w ss (ahd ss bg) sv n))), (8, .int (nI n)), (7, .int (nI (ahd ss bg))), (6, .int (nI (sm + q))), (5, .int (nI mm)), (4, .int (nI b)), (0, .ref a), (1, .int (nI j)), (2, .int (nI h)), (3, .int (nI ss))] := by rw [← ht9]; exact hl
                              exact J217  _  (lv_sub hl [0, 1, 2, 3, 4, 5, 6, 7, 8, 9] rfl)
                          refine lv_iload hx hb dX7_cheapest_171 (lv_at hl 1 rfl) ?_
                          refine lv_aload_n hx hb dX7_cheapest_173 rfl (lv_at hl 6 rfl) ?_
                          refine va_get (D := D) (cl := vwCl) (ci := 6) (v := .ref (r 5)) (C := RX7) (T := TX7) (N := 35) hx hb hts (fun _ h => List.mem_cons_of_mem _ (List.mem_append_right _ h)) hown hK hP 0 rfl rfl 9 (by decide) (hts (.fieldLink RX7 32 "CheapHoursModel" "save" "[I") (by decide +kernel)) (fun _ h9 => h9) rfl dX7_cheapest_174 ?_
                          refine lv_iload_n hx hb dX7_cheapest_177 rfl (lv_at hl 7 rfl) ?_
                          refine jldR (v := (nI sv)) hx hb hK hP 5 (by decide) (by omega) e5 dX7_cheapest_178 ?_
                          refine lv_isub hx hb dX7_cheapest_179 ?_
                          refine lv_istore (lv' := [(10, .int ((nI n) - (nI sv))), (9, .int (nI (ss + (n - ahd ss bg - sv)))), (8, .int (nI n)), (7, .int (nI (ahd ss bg))), (6, .int (nI (sm + q))), (5, .int (nI mm)), (4, .int (nI b)), (0, .ref a), (1, .int (nI j)), (2, .int (nI h)), (3, .int (nI ss))]) hx hb dX7_cheapest_180 hl (by decide) rfl (fun ls hl => ?_)
                          refine lv_iload hx hb dX7_cheapest_182 (lv_at hl 1 rfl) ?_
                          refine lv_iload hx hb dX7_cheapest_184 (lv_at hl 0 rfl) ?_
                          refine lv_icmp_le (tgt := 194) hx hb dX7_cheapest_186 (by decide) (fun c_186 => ?_) (fun c_186 => ?_)
                          · skip
                            refine lv_iload hx hb dX7_cheapest_194 (lv_at hl 0 rfl) ?_
                            refine lv_seti (v := nI (max (ss + (n - ahd ss bg - sv)) (n - sv))) (by have hx9 := (cge (by omega) (by omega) (by omega)).mp c_186; rw [pk_sub (by omega), Nat.max_eq_right (by omega)]) ?_
                            exact J196  _  (lv_sub hl [2, 3, 4, 5, 6, 7, 8, 9, 10] rfl)
                          · skip
                            refine lv_iload hx hb dX7_cheapest_189 (lv_at hl 1 rfl) ?_
                            refine lv_goto (tgt := 196) hx hb dX7_cheapest_191 (by decide) ?_
                            refine lv_seti (v := nI (max (ss + (n - ahd ss bg - sv)) (n - sv))) (by have hx9 : n - sv ≤ ss + (n - ahd ss bg - sv) := Nat.le_of_not_lt (fun z9 => c_186 ((cge (by omega) (by omega) (by omega)).mpr (by omega))); rw [Nat.max_eq_left hx9]) ?_
                            exact J196  _  (lv_sub hl [2, 3, 4, 5, 6, 7, 8, 9, 10] rfl)
                        refine lv_iload_n hx hb dX7_cheapest_136 rfl (lv_at hl 8 rfl) ?_
                        refine lv_iload hx hb dX7_cheapest_137 (lv_at hl 1 rfl) ?_
                        refine lv_iload hx hb dX7_cheapest_139 (lv_at hl 2 rfl) ?_
                        refine lv_isub hx hb dX7_cheapest_141 ?_
                        refine lv_aload_n hx hb dX7_cheapest_142 rfl (lv_at hl 5 rfl) ?_
                        refine va_get (D := D) (cl := vwCl) (ci := 6) (v := .ref (r 5)) (C := RX7) (T := TX7) (N := 35) hx hb hts (fun _ h => List.mem_cons_of_mem _ (List.mem_append_right _ h)) hown hK hP 0 rfl rfl 9 (by decide) (hts (.fieldLink RX7 32 "CheapHoursModel" "save" "[I") (by decide +kernel)) (fun _ h9 => h9) rfl dX7_cheapest_143 ?_
                        refine lv_iload_n hx hb dX7_cheapest_146 rfl (lv_at hl 6 rfl) ?_
                        refine jldR (v := (nI sv)) hx hb hK hP 5 (by decide) (by omega) e5 dX7_cheapest_147 ?_
                        refine lv_isub hx hb dX7_cheapest_148 ?_
                        refine lv_if_le (tgt := 167) hx hb dX7_cheapest_149 (by decide) (fun c_149 => ?_) (fun c_149 => ?_)
                        · skip
                          refine lv_iconst (v := 0) hx hb dX7_cheapest_167 (by decide) ?_
                          refine lv_seti (v := nI (n - ahd ss bg - sv)) (by have := (cle0 (by omega) (by omega) (by omega)).mp c_149; rw [show n - ahd ss bg - sv = 0 by omega]; rfl) ?_
                          exact J168  _  (lv_sub hl [1, 2, 0, 3, 4, 5, 6, 7, 8] rfl)
                        · skip
                          refine lv_iload hx hb dX7_cheapest_152 (lv_at hl 1 rfl) ?_
                          refine lv_iload hx hb dX7_cheapest_154 (lv_at hl 2 rfl) ?_
                          refine lv_isub hx hb dX7_cheapest_156 ?_
                          refine lv_aload_n hx hb dX7_cheapest_157 rfl (lv_at hl 5 rfl) ?_
                          refine va_get (D := D) (cl := vwCl) (ci := 6) (v := .ref (r 5)) (C := RX7) (T := TX7) (N := 35) hx hb hts (fun _ h => List.mem_cons_of_mem _ (List.mem_append_right _ h)) hown hK hP 0 rfl rfl 9 (by decide) (hts (.fieldLink RX7 32 "CheapHoursModel" "save" "[I") (by decide +kernel)) (fun _ h9 => h9) rfl dX7_cheapest_158 ?_
                          refine lv_iload_n hx hb dX7_cheapest_161 rfl (lv_at hl 6 rfl) ?_
                          refine jldR (v := (nI sv)) hx hb hK hP 5 (by decide) (by omega) e5 dX7_cheapest_162 ?_
                          refine lv_isub hx hb dX7_cheapest_163 ?_
                          refine lv_goto (tgt := 168) hx hb dX7_cheapest_164 (by decide) ?_
                          refine lv_seti (v := nI (n - ahd ss bg - sv)) (sub2 (Nat.le_of_lt (Nat.lt_of_not_le (fun z9 => c_149 ((cle0 (n := n) (a := ahd ss bg) (b := sv) (by omega) (by omega) (by omega)).mpr z9))))) ?_
                          exact J168  _  (lv_sub hl [1, 2, 0, 3, 4, 5, 6, 7, 8] rfl)
                      · skip
                        have hfin : w + ahd ss bg ≤ n + ss ∨ w ≤ n := Or.inr c_126
                        refine lv_iload hx hb dX7_cheapest_129 (lv_at hl 0 rfl) ?_
                        refine lv_istore (lv' := [(4, .int (nI (sm + q))), (6, .int (nI (sm + q))), (8, .int (nI n)), (7, .int (nI (ahd ss bg))), (5, .int (nI mm)), (0, .ref a), (1, .int (nI j)), (2, .int (nI h)), (3, .int (nI ss))]) hx hb dX7_cheapest_131 hl (by decide) rfl (fun ls hl => ?_)
                        refine lv_goto (tgt := 270) hx hb dX7_cheapest_133 (by decide) ?_
                        exact J270 (sm + q) _ (by rw [← he2, show d + 1 - h - n = d - h - n + 1 by omega, inn_x3 hq c_72 eq c_96 hfin]) (by omega) (lv_sub hl [4, 0, 5, 6, 7, 8] rfl)
                  · skip
                    refine lv_goto (tgt := 270) hx hb dX7_cheapest_99 (by decide) ?_
                    exact J270 b _ (by rw [← he2, inn_x2 hq eq c_96]) hbq (lv_sub hl [3, 4, 5, 6, 7, 8] rfl)
          exact L46 _ 1 0 b0 _ (Nat.lt_succ_self _) (by omega) (by omega) hb0 (by rw [show d + 1 - h - 1 = d - h by omega]) (lv_sub hl [0, 1, 2, 3, 4, 5, 6, 7, 8] rfl)
        refine lv_iconst (v := 0) hx hb dX7_cheapest_24 (by decide) ?_
        refine lv_istore (lv' := [(6, .int 0), (5, .int (nI mm)), (4, .int (nI b0)), (0, .ref a), (1, .int (nI j)), (2, .int (nI h)), (3, .int (nI ss))]) hx hb dX7_cheapest_25 hl (by decide) rfl (fun ls hl => ?_)
        refine lv_iload_n hx hb dX7_cheapest_27 rfl (lv_at hl 6 rfl) ?_
        refine n_if_le (x := ss) (tgt := 40) hx hb dX7_cheapest_28 (by decide) (by omega) (fun c_28 => ?_) (fun c_28 => ?_)
        · skip
          refine lv_iconst (v := 0) hx hb dX7_cheapest_40 (by decide) ?_
          refine lv_seti (v := nI (ahd ss bg)) (by rw [ahd, if_pos c_28]; rfl) ?_
          exact J41  _  (lv_sub hl [0, 1, 2, 3, 4, 5, 6] rfl)
        · skip
          refine lv_aload_n hx hb dX7_cheapest_31 rfl (lv_at hl 3 rfl) ?_
          refine va_get (D := D) (cl := vwCl) (ci := 6) (v := .ref (r 6)) (C := RX7) (T := TX7) (N := 35) hx hb hts (fun _ h => List.mem_cons_of_mem _ (List.mem_append_right _ h)) hown hK hP 0 rfl rfl 10 (by decide) (hts (.fieldLink RX7 35 "CheapHoursModel" "bring" "[I") (by decide +kernel)) (fun _ h9 => h9) rfl dX7_cheapest_32 ?_
          refine lv_iload_n hx hb dX7_cheapest_35 rfl (lv_at hl 4 rfl) ?_
          refine jldR (v := (nI bg)) hx hb hK hP 6 (by decide) (by omega) e6 dX7_cheapest_36 ?_
          refine lv_goto (tgt := 41) hx hb dX7_cheapest_37 (by decide) ?_
          refine lv_seti (v := nI (ahd ss bg)) (by rw [ahd, if_neg (Nat.ne_of_gt c_28)]) ?_
          exact J41  _  (lv_sub hl [0, 1, 2, 3, 4, 5, 6] rfl)
  exact L18 _ 0 (Fc co (h + 1) ss) _ (Nat.lt_succ_self _) (Nat.zero_le _) hF0 rfl (lv_sub hl [0, 1, 2, 3, 4, 5] rfl)
set_option maxHeartbeats 4000000 in
set_option maxRecDepth 100000 in
theorem c_X7_oracle (l : Launch) (D : va_G) (cI cL cZ cO : ClassId) (sz : Nat) (a : Nat) (r : Nat → Nat) (now full lev : Int32) (pr : Nat → Int32) (R : Nat → Nat → Int32) (lp ch : Nat → Int32) (me : Nat → Int64) (ru wo co : Nat → Int32) (n : Nat) (x : Int32) (hn : n ≤ 12) (hR : ∀ j, j < n → jOk (R j)) (hpr : prGood pr full) : Met l yX7_oracle wsX7_oracle ({ frames := 2, cells := 0, slots := 0, locals := 54 } : Room) (va_Pc [.ref a, .int x] (Rw D cI cL cZ cO (wM cI cL cZ a r now full (nI n) lev pr R lp ch me ru wo co) sz)) (va_Qi (fun (r : Int32) (u : Nat → Int32) => orcM pr full n R x r) (fun (u : Nat → Int32) => Wo D (va_A (wM cI cL cZ a r now full (nI n) lev pr R lp ch me ru wo co) sz) (wM cI cL cZ a r now full (nI n) lev pr R lp ch me ru wo u)) (va_A (wM cI cL cZ a r now full (nI n) lev pr R lp ch me ru wo co) sz)) 0 0 (va_A (wM cI cL cZ a r now full (nI n) lev pr R lp ch me ru wo co) sz) := by
  refine Met.ofW (cc := cX7_oracle) (maxL := 4) (ret := (some .int)) (by decide) rfl ?_
  intro p e s m args below meth c s₁ B hml hv
  obtain ⟨rfl, hsz, hP, hO, hD0⟩ := hv
  have hx := B.exec
  have hb := B.bytes
  have hr := B.returns
  have hts := atoms_spec (ws := wsX7_oracle) B.pre
  have hown : s.vm.findClass RX7 = some m.cls := findClass_of_methodNamed B.named
  have hlocks := B.notSynchronized
  have hK := hO.1
  subst hsz
  have hD := hD0.self (sz := s.heap.size)
  generalize hAe : va_A (wM cI cL cZ a r now full (nI n) lev pr R lp ch me ru wo co) s.heap.size = A at hD ⊢
  have hA : ∀ q : Nat, s.heap.size ≤ q → A q := fun q h => by rw [← hAe]; exact Or.inr h
  have hS : va_S A s.heap s.heap [] := va_S.rf
  have hl := lv_entry ([.ref a, .int x]) (n := 4) (Nat.le_of_ble_eq_true rfl)
  rw [lg_entry_eq]
  generalize (lg_sl ([.ref a, .int x]) ++ List.replicate (4 - (lg_sl ([.ref a, .int x])).length) Slot.unset).toArray = ls at hl ⊢
  have hl : lv_has ls 4 [(0, .ref a), (1, .int x)] := hl
  generalize hQQ : MQ below _ _ s _ _ _ = QQ
  refine lv_aload_n hx hb dX7_oracle_0 rfl (lv_at hl 0 rfl) ?_
  refine lv_iload_n hx hb dX7_oracle_1 rfl (lv_at hl 1 rfl) ?_
  refine roVi (As := [.int x]) (rest := []) ⟨hx, hb, hml, hown, hts⟩ (c_X7_isJob l D cI cL cZ cO a r now full lev pr R lp ch me ru wo co n x ) (cwV 1 hts gX7_oracle_X7_isJob rfl rfl rfl (by decide +kernel) ⟨Nat.le_of_ble_eq_true rfl, Nat.le_of_ble_eq_true rfl⟩) hO hP (va_recv hK hP (ci := 6) (q0 := 0) rfl rfl) rfl hl.1 rfl (Nat.le_of_ble_eq_true rfl) dX7_oracle_2 ⟨Nat.le_of_ble_eq_true rfl, Nat.le_of_ble_eq_true rfl⟩ (fun r_2 e_2 => ?_)
  obtain rfl : r_2 = wi x 0 (nI n - 1) := e_2
  refine lv_if_ne (tgt := 10) hx hb dX7_oracle_5 (by decide) (fun c_5 => ?_) (fun c_5 => ?_)
  · skip
    obtain ⟨j, hj9, rfl⟩ := isJob_nat hn c_5
    have hj : j < 12 := by omega
    obtain ⟨w, d, mk, sv, bg, cm, hw, hd, hmk, hsv, hbg, hcm, e0, e1, e2, e5, e6, e7⟩ := hR j hj9
    refine lv_iconst (v := 0) hx hb dX7_oracle_10 (by decide) ?_
    refine lv_istore_n (lv' := [(2, .int 0), (0, .ref a), (1, .int (nI j))]) hx hb dX7_oracle_11 rfl hl (by decide) rfl (fun ls hl => ?_)
    have L12 : ∀ (n0 : Nat) (ss : Nat) (co1 : Nat → Int32) (H : Heap) (locs : List Loc) (ls : Array Slot), 31 - ss < n0 → (ss ≤ 31) → (∀ s1, s1 < ss → co1 (31 * d + s1) = nI 1000000000) → va_P D vwCl (wM cI cL cZ a r now full (nI n) lev pr R lp ch me ru wo co1) H → va_D A (wM cI cL cZ a r now full (nI n) lev pr R lp ch me ru wo co1) → va_S A s.heap H locs → lv_has ls 4 [(2, .int (nI ss)), (0, .ref a), (1, .int (nI j))] → W p l e (headSpec wsX7_oracle ({ frames := 2, cells := 0, slots := 0, locals := 54 } : Room)).room s m ([.ref a, .int (nI j)] : List Value).toArray below meth c H locs 0 0 QQ (F0 m 12 ls []) := by
      intro n0
      induction n0 with
      | zero =>
        intro ss co1 H locs ls hmu
        exact absurd hmu (Nat.not_lt_zero _)
      | succ n0 ih12 =>
        intro ss co1 H locs ls hmu hs hc hP hD hS hl
        refine lv_iload_n hx hb dX7_oracle_12 rfl (lv_at hl 0 rfl) ?_
        refine lv_bipush (v := 31) hx hb dX7_oracle_13 (by decide) ?_
        refine n_icmp_ge (x := ss) (y := 31) (tgt := 42) hx hb dX7_oracle_15 (by decide) (by omega) (by omega) (fun c_15 => ?_) (fun c_15 => ?_)
        · skip
          refine lv_aload_n hx hb dX7_oracle_42 rfl (lv_at hl 1 rfl) ?_
          refine va_get (D := D) (cl := vwCl) (ci := 6) (v := .ref (r 1)) (C := RX7) (T := TX7) (N := 35) hx hb hts (fun _ h => List.mem_cons_of_mem _ (List.mem_append_right _ h)) hown hK hP 0 rfl rfl 5 (by decide) (hts (.fieldLink RX7 20 "CheapHoursModel" "due" "[I") (List.mem_of_getElem? (i := 2) rfl)) (fun _ h9 => h9) rfl dX7_oracle_43 ?_
          refine lv_iload_n hx hb dX7_oracle_46 rfl (lv_at hl 2 rfl) ?_
          refine jldR (v := (nI d)) hx hb hK hP 1 (by decide) (by omega) e1 dX7_oracle_47 ?_
          refine lv_iconst (v := 1) hx hb dX7_oracle_48 (by decide) ?_
          refine lv_isub hx hb dX7_oracle_49 ?_
          refine lv_seti (v := nI d - 1) rfl ?_
          refine lv_istore_n (lv' := [(2, .int (nI d - 1)), (0, .ref a), (1, .int (nI j))]) hx hb dX7_oracle_50 rfl hl (by decide) rfl (fun ls hl => ?_)
          have L51 : ∀ (n0 : Nat) (k : Nat) (co1 : Nat → Int32) (H : Heap) (locs : List Loc) (ls : Array Slot), k < n0 → (cm ≤ k ∧ k ≤ d) → (coGood (pAt pr full) w d bg sv co1 k) → va_P D vwCl (wM cI cL cZ a r now full (nI n) lev pr R lp ch me ru wo co1) H → va_D A (wM cI cL cZ a r now full (nI n) lev pr R lp ch me ru wo co1) → va_S A s.heap H locs → lv_has ls 4 [(2, .int (nI k - 1)), (0, .ref a), (1, .int (nI j))] → W p l e (headSpec wsX7_oracle ({ frames := 2, cells := 0, slots := 0, locals := 54 } : Room)).room s m ([.ref a, .int (nI j)] : List Value).toArray below meth c H locs 0 0 QQ (F0 m 51 ls []) := by
            intro n0
            induction n0 with
            | zero =>
              intro k co1 H locs ls hmu
              exact absurd hmu (Nat.not_lt_zero _)
            | succ n0 ih51 =>
              intro k co1 H locs ls hmu hk hg hP hD hS hl
              refine lv_iload_n hx hb dX7_oracle_51 rfl (lv_at hl 0 rfl) ?_
              refine lv_aload_n hx hb dX7_oracle_52 rfl (lv_at hl 1 rfl) ?_
              refine va_get (D := D) (cl := vwCl) (ci := 6) (v := .ref (r 7)) (C := RX7) (T := TX7) (N := 35) hx hb hts (fun _ h => List.mem_cons_of_mem _ (List.mem_append_right _ h)) hown hK hP 0 rfl rfl 11 (by decide) (hts (.fieldLink RX7 38 "CheapHoursModel" "cameAt" "[I") (List.mem_of_getElem? (i := 4) rfl)) (fun _ h9 => h9) rfl dX7_oracle_53 ?_
              refine lv_iload_n hx hb dX7_oracle_56 rfl (lv_at hl 2 rfl) ?_
              refine jldR (v := (nI cm)) hx hb hK hP 7 (by decide) (by omega) e7 dX7_oracle_57 ?_
              refine lv_icmp_lt (tgt := 103) hx hb dX7_oracle_58 (by decide) (fun c_58 => ?_) (fun c_58 => ?_)
              · skip
                have hkc : k = cm := by have h9 := (cltm (by omega) (by omega)).mp c_58; omega
                refine lv_aload_n hx hb dX7_oracle_103 rfl (lv_at hl 1 rfl) ?_
                refine va_get (D := D) (cl := vwCl) (ci := 6) (v := .ref (r 30)) (C := RX7) (T := TX7) (N := 35) hx hb hts (fun _ h => List.mem_cons_of_mem _ (List.mem_append_right _ h)) hown hK hP 0 rfl rfl 34 (by decide) (hts (.fieldLink RX7 106 "CheapHoursModel" "costs" "[I") (List.mem_of_getElem? (i := 1) rfl)) (fun _ h9 => h9) rfl dX7_oracle_104 ?_
                refine lv_bipush (v := 31) hx hb dX7_oracle_107 (by decide) ?_
                refine lv_aload_n hx hb dX7_oracle_109 rfl (lv_at hl 1 rfl) ?_
                refine va_get (D := D) (cl := vwCl) (ci := 6) (v := .ref (r 7)) (C := RX7) (T := TX7) (N := 35) hx hb hts (fun _ h => List.mem_cons_of_mem _ (List.mem_append_right _ h)) hown hK hP 0 rfl rfl 11 (by decide) (hts (.fieldLink RX7 38 "CheapHoursModel" "cameAt" "[I") (List.mem_of_getElem? (i := 4) rfl)) (fun _ h9 => h9) rfl dX7_oracle_110 ?_
                refine lv_iload_n hx hb dX7_oracle_113 rfl (lv_at hl 2 rfl) ?_
                refine jldR (v := (nI cm)) hx hb hK hP 7 (by decide) (by omega) e7 dX7_oracle_114 ?_
                refine n_imul (x := 31) (y := cm) hx hb dX7_oracle_115 ?_
                refine n_iald (D := D) (cl := vwCl) (x := (31 * cm)) hx hb hK hP 7 0 (f := co1) rfl rfl (by omega) (Nat.le_of_ble_eq_true rfl) dX7_oracle_116 ?_
                rw [← hQQ]
                exact W.iret (v := (co1 (31 * cm))) hx hb hr (fun t9 ht9 hW9 => ⟨⟨_, co1, rfl, Or.inr ⟨j, hj9, rfl, w, d, mk, sv, bg, cm, ⟨hw, hd, hmk, hsv, hbg, hcm⟩, e0, e1, e2, e5, e6, e7, Fc co1, (fun h1 s1 a1 a2 a3 => (hg h1 s1 (by omega) a2 a3).2), (hg cm 0 (by omega) (by omega) (by omega)).1⟩, by rw [ht9]; exact hP, hD⟩, hS.F ht9⟩) hS.2.2 dX7_oracle_117
              · skip
                have hkc : cm < k := Nat.lt_of_not_le (fun z9 => c_58 ((cltm (by omega) (by omega)).mpr z9))
                obtain ⟨h, rfl⟩ : ∃ h, k = h + 1 := ⟨k - 1, by omega⟩
                rw [nI_pred] at hl
                refine lv_iconst (v := 0) hx hb dX7_oracle_61 (by decide) ?_
                refine lv_istore_n (lv' := [(3, .int 0), (2, .int (nI h)), (0, .ref a), (1, .int (nI j))]) hx hb dX7_oracle_62 rfl hl (by decide) rfl (fun ls hl => ?_)
                have L63 : ∀ (n0 : Nat) (ss : Nat) (co1 : Nat → Int32) (H : Heap) (locs : List Loc) (ls : Array Slot), w - ss < n0 → (ss ≤ w) → (coGood (pAt pr full) w d bg sv co1 (h + 1) ∧ ∀ s1, s1 < ss → coAt (pAt pr full) w d bg sv co1 h s1) → va_P D vwCl (wM cI cL cZ a r now full (nI n) lev pr R lp ch me ru wo co1) H → va_D A (wM cI cL cZ a r now full (nI n) lev pr R lp ch me ru wo co1) → va_S A s.heap H locs → lv_has ls 4 [(3, .int (nI ss)), (2, .int (nI h)), (0, .ref a), (1, .int (nI j))] → W p l e (headSpec wsX7_oracle ({ frames := 2, cells := 0, slots := 0, locals := 54 } : Room)).room s m ([.ref a, .int (nI j)] : List Value).toArray below meth c H locs 0 0 QQ (F0 m 63 ls []) := by
                  intro n0
                  induction n0 with
                  | zero =>
                    intro ss co1 H locs ls hmu
                    exact absurd hmu (Nat.not_lt_zero _)
                  | succ n0 ih63 =>
                    intro ss co1 H locs ls hmu hs hg2 hP hD hS hl
                    refine lv_iload_n hx hb dX7_oracle_63 rfl (lv_at hl 0 rfl) ?_
                    refine lv_aload_n hx hb dX7_oracle_64 rfl (lv_at hl 2 rfl) ?_
                    refine va_get (D := D) (cl := vwCl) (ci := 6) (v := .ref (r 0)) (C := RX7) (T := TX7) (N := 35) hx hb hts (fun _ h => List.mem_cons_of_mem _ (List.mem_append_right _ h)) hown hK hP 0 rfl rfl 4 (by decide) (hts (.fieldLink RX7 17 "CheapHoursModel" "work" "[I") (List.mem_of_getElem? (i := 5) rfl)) (fun _ h9 => h9) rfl dX7_oracle_65 ?_
                    refine lv_iload_n hx hb dX7_oracle_68 rfl (lv_at hl 3 rfl) ?_
                    refine jldR (v := (nI w)) hx hb hK hP 0 (by decide) (by omega) e0 dX7_oracle_69 ?_
                    refine n_icmp_ge (x := ss) (y := w) (tgt := 97) hx hb dX7_oracle_70 (by decide) (by omega) (by omega) (fun c_70 => ?_) (fun c_70 => ?_)
                    · skip
                      refine lv_iinc (v := (nI h - 1)) (lv' := [(2, .int (nI h - 1)), (3, .int (nI ss)), (0, .ref a), (1, .int (nI j))]) hx hb dX7_oracle_97 hl (k := 1) rfl (n_m1 h) (by decide) rfl (fun ls hl => ?_)
                      refine lv_goto (tgt := 51) hx hb dX7_oracle_100 (by decide) ?_
                      exact ih51 h co1 _ _ _ (by omega) (by omega) (coGood_row hg2.1 hg2.2 (by omega)) hP hD hS (lv_sub hl [0, 2, 3] rfl)
                    · skip
                      refine lv_aload_n hx hb dX7_oracle_73 rfl (lv_at hl 2 rfl) ?_
                      refine va_get (D := D) (cl := vwCl) (ci := 6) (v := .ref (r 30)) (C := RX7) (T := TX7) (N := 35) hx hb hts (fun _ h => List.mem_cons_of_mem _ (List.mem_append_right _ h)) hown hK hP 0 rfl rfl 34 (by decide) (hts (.fieldLink RX7 106 "CheapHoursModel" "costs" "[I") (List.mem_of_getElem? (i := 1) rfl)) (fun _ h9 => h9) rfl dX7_oracle_74 ?_
                      refine lv_bipush (v := 31) hx hb dX7_oracle_77 (by decide) ?_
                      refine lv_iload_n hx hb dX7_oracle_79 rfl (lv_at hl 1 rfl) ?_
                      refine n_imul (x := 31) (y := h) hx hb dX7_oracle_80 ?_
                      refine lv_iload_n hx hb dX7_oracle_81 rfl (lv_at hl 0 rfl) ?_
                      refine n_iadd (x := (31 * h)) (y := ss) hx hb dX7_oracle_82 ?_
                      refine lv_aload_n hx hb dX7_oracle_83 rfl (lv_at hl 2 rfl) ?_
                      refine lv_iload_n hx hb dX7_oracle_84 rfl (lv_at hl 3 rfl) ?_
                      refine lv_iload_n hx hb dX7_oracle_85 rfl (lv_at hl 1 rfl) ?_
                      refine lv_iload_n hx hb dX7_oracle_86 rfl (lv_at hl 0 rfl) ?_
                      refine roVi (As := [.int (nI j), .int (nI h), .int (nI ss)]) (rest := [.int (nI ((31 * h) + ss)), .ref (r 30)]) ⟨hx, hb, hml, hown, hts⟩ (c_X7_cheapest l D cI cL cZ cO a r now full (nI n) lev pr R lp ch me ru wo co1 j w d sv bg h ss hj hw hd hsv hbg e0 e1 e5 e6 hpr (by omega) (by omega) (fun h1 s1 a1 a2 a3 => ⟨(hg2.1 h1 s1 (by omega) a2 a3).1, (hg2.1 h1 s1 (by omega) a2 a3).2.1⟩)) (cwV 3 hts gX7_oracle_X7_cheapest rfl rfl rfl (by decide +kernel) ⟨Nat.le_of_ble_eq_true rfl, Nat.le_of_ble_eq_true rfl⟩) hO hP (va_recv hK hP (ci := 6) (q0 := 0) rfl rfl) rfl hl.1 rfl (Nat.le_of_ble_eq_true rfl) dX7_oracle_87 ⟨Nat.le_of_ble_eq_true rfl, Nat.le_of_ble_eq_true rfl⟩ (fun r_87 e_87 => ?_)
                      obtain rfl : r_87 = nI (chp (pAt pr full) w d ss bg sv (Fc co1) h) := e_87
                      refine n_iast (D := D) (cl := vwCl) (x := ((31 * h) + ss)) (v := (nI (chp (pAt pr full) w d ss bg sv (Fc co1) h))) hx hb hK hP hD hS 7 0 (f := co1) rfl rfl (by omega) (Nat.le_of_ble_eq_true rfl) dX7_oracle_90 (fun H locs hP hD hS => ?_)
                      have hP : va_P D vwCl (wM cI cL cZ a r now full (nI n) lev pr R lp ch me ru wo (upd co1 ((31 * h) + ss) (nI (chp (pAt pr full) w d ss bg sv (Fc co1) h)))) H := hP
                      have hD : va_D A (wM cI cL cZ a r now full (nI n) lev pr R lp ch me ru wo (upd co1 ((31 * h) + ss) (nI (chp (pAt pr full) w d ss bg sv (Fc co1) h)))) := hD
                      refine lv_iinc (v := (nI (ss + 1))) (lv' := [(3, .int (nI (ss + 1))), (2, .int (nI h)), (0, .ref a), (1, .int (nI j))]) hx hb dX7_oracle_91 hl (k := 0) rfl (nI_add ss 1) (by decide) rfl (fun ls hl => ?_)
                      refine lv_goto (tgt := 63) hx hb dX7_oracle_94 (by decide) ?_
                      exact ih63 (ss + 1) (upd co1 ((31 * h) + ss) (nI (chp (pAt pr full) w d ss bg sv (Fc co1) h))) _ _ _ (by omega) (by omega) (coGood_put hw.2 c_70 (by omega) (chp_le hg2.1 (by omega) c_70) rfl hg2.1 hg2.2) hP hD hS (lv_sub hl [0, 1, 2, 3] rfl)
                exact L63 _ 0 co1 _ _ _ (Nat.lt_succ_self _) (Nat.zero_le _) ⟨hg, fun s1 h9 => absurd h9 (Nat.not_lt_zero _)⟩ hP hD hS (lv_sub hl [0, 1, 2, 3] rfl)
          exact L51 _ d co1 _ _ _ (Nat.lt_succ_self _) (by omega) (coGood_d hc (by omega)) hP hD hS (lv_sub hl [0, 1, 2] rfl)
        · skip
          refine lv_aload_n hx hb dX7_oracle_18 rfl (lv_at hl 1 rfl) ?_
          refine va_get (D := D) (cl := vwCl) (ci := 6) (v := .ref (r 30)) (C := RX7) (T := TX7) (N := 35) hx hb hts (fun _ h => List.mem_cons_of_mem _ (List.mem_append_right _ h)) hown hK hP 0 rfl rfl 34 (by decide) (hts (.fieldLink RX7 106 "CheapHoursModel" "costs" "[I") (List.mem_of_getElem? (i := 1) rfl)) (fun _ h9 => h9) rfl dX7_oracle_19 ?_
          refine lv_bipush (v := 31) hx hb dX7_oracle_22 (by decide) ?_
          refine lv_aload_n hx hb dX7_oracle_24 rfl (lv_at hl 1 rfl) ?_
          refine va_get (D := D) (cl := vwCl) (ci := 6) (v := .ref (r 1)) (C := RX7) (T := TX7) (N := 35) hx hb hts (fun _ h => List.mem_cons_of_mem _ (List.mem_append_right _ h)) hown hK hP 0 rfl rfl 5 (by decide) (hts (.fieldLink RX7 20 "CheapHoursModel" "due" "[I") (List.mem_of_getElem? (i := 2) rfl)) (fun _ h9 => h9) rfl dX7_oracle_25 ?_
          refine lv_iload_n hx hb dX7_oracle_28 rfl (lv_at hl 2 rfl) ?_
          refine jldR (v := (nI d)) hx hb hK hP 1 (by decide) (by omega) e1 dX7_oracle_29 ?_
          refine n_imul (x := 31) (y := d) hx hb dX7_oracle_30 ?_
          refine lv_iload_n hx hb dX7_oracle_31 rfl (lv_at hl 0 rfl) ?_
          refine n_iadd (x := (31 * d)) (y := ss) hx hb dX7_oracle_32 ?_
          refine lv_ldc (v := 1000000000) hx hb hown (hts (.constant RX7 193 (1000000000)) (List.mem_of_getElem? (i := 3) rfl)) dX7_oracle_33 ?_
          refine n_iast (D := D) (cl := vwCl) (x := ((31 * d) + ss)) (v := 1000000000) hx hb hK hP hD hS 7 0 (f := co1) rfl rfl (by omega) (Nat.le_of_ble_eq_true rfl) dX7_oracle_35 (fun H locs hP hD hS => ?_)
          have hP : va_P D vwCl (wM cI cL cZ a r now full (nI n) lev pr R lp ch me ru wo (upd co1 ((31 * d) + ss) 1000000000)) H := hP
          have hD : va_D A (wM cI cL cZ a r now full (nI n) lev pr R lp ch me ru wo (upd co1 ((31 * d) + ss) 1000000000)) := hD
          refine lv_iinc (v := (nI (ss + 1))) (lv' := [(2, .int (nI (ss + 1))), (0, .ref a), (1, .int (nI j))]) hx hb dX7_oracle_36 hl (k := 0) rfl (nI_add ss 1) (by decide) rfl (fun ls hl => ?_)
          refine lv_goto (tgt := 12) hx hb dX7_oracle_39 (by decide) ?_
          exact ih12 (ss + 1) (upd co1 ((31 * d) + ss) 1000000000) _ _ _ (by omega) (by omega) (fun s1 h9 => by by_cases z9 : s1 = ss; (subst z9; exact pk_us); (rw [pk_un (by omega)]; exact hc s1 (by omega))) hP hD hS (lv_sub hl [0, 1, 2] rfl)
    exact L12 _ 0 co _ _ _ (Nat.lt_succ_self _) (by omega) (fun s1 h9 => absurd h9 (Nat.not_lt_zero _)) hP hD hS (lv_sub hl [0, 1, 2] rfl)
  · skip
    refine lv_iconst (v := (-1)) hx hb dX7_oracle_8 (by decide) ?_
    rw [← hQQ]
    exact W.iret (v := (-1)) hx hb hr (fun t9 ht9 hW9 => ⟨⟨_, co, rfl, Or.inl ⟨c_5, rfl⟩, by rw [ht9]; exact hP, hD⟩, hS.F ht9⟩) hS.2.2 dX7_oracle_9
