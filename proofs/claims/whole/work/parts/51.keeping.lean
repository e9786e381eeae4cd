/-! WHAT BOTH SIDES KEEP from call to call -/
def agr (L : Nat) (lp ch lp' ch' : Nat → Int32) : Prop := (∀ i, i < L → lp i = lp' i) ∧ ∀ i k, i < L → k < L → ch (6 * i + k) = ch' (6 * i + k)
theorem tb_congr {L : Nat} {lp ch lp' ch' : Nat → Int32} {full cap : Int32} (h : agr L lp ch lp' ch') : ∀ hh w lx, lx < L → tb L lp ch full cap hh w lx = tb L lp' ch' full cap hh w lx
  | 0, _, _, _ => rfl
  | hh + 1, w, lx, hl => by
    have e : ∀ w1, nxS ch (fun k => (tb L lp ch full cap hh w1 k).1) lx L = nxS ch' (fun k => (tb L lp' ch' full cap hh w1 k).1) lx L := fun w1 => nxS_congr (fun k hk => ⟨h.2 lx k hl hk, by rw [tb_congr h hh w1 k hk]⟩)
    have e2 : ∀ w1, gwS ch (fun k => (tb L lp ch full cap hh w1 k).2.2) lx L = gwS ch' (fun k => (tb L lp' ch' full cap hh w1 k).2.2) lx L := fun w1 => gwS_congr (fun k hk => ⟨h.2 lx k hl hk, by rw [tb_congr h hh w1 k hk]⟩)
    rw [tb, tb, h.1 lx hl, e (w - 1), e w, e2]
theorem table_congr {L : Nat} {lp ch lp' ch' : Nat → Int32} {full : Int32} (hL : L ≤ 6) (h : agr L lp ch lp' ch') (x y z : Int32) : tableV L lp ch full x y z = tableV L lp' ch' full x y z := by
  unfold tableV
  by_cases q : stOk x y z L = 0
  · rw [if_pos q, if_pos q]
  · obtain ⟨a, b, c, h1, h2, h3, rfl, rfl, rfl⟩ := stOk_nat hL q
    rw [if_neg q, if_neg q, nI_clamp (show c < 2 ^ 31 by omega), tb_congr h _ _ _ h3]
theorem rule_congr {L : Nat} {lp ch lp' ch' : Nat → Int32} {full : Int32} (hL : L ≤ 6) (h : agr L lp ch lp' ch') (x y z : Int32) : ruleV L lp ch full x y z = ruleV L lp' ch' full x y z := by
  unfold ruleV
  by_cases q : stOk x y z L = 0
  · rw [if_pos q, if_pos q]
  · obtain ⟨a, b, c, h1, h2, h3, rfl, rfl, rfl⟩ := stOk_nat hL q
    rw [if_neg q, if_neg q, nI_clamp (show c < 2 ^ 31 by omega), tb_congr h _ _ _ h3]
theorem worst_congr {L : Nat} {lp ch lp' ch' : Nat → Int32} {full : Int32} (hL : L ≤ 6) (h : agr L lp ch lp' ch') (x y z : Int32) : worstV L lp ch full x y z = worstV L lp' ch' full x y z := by
  unfold worstV
  by_cases q : stOk x y z L = 0
  · rw [if_pos q, if_pos q]
  · obtain ⟨a, b, c, h1, h2, h3, rfl, rfl, rfl⟩ := stOk_nat hL q
    rw [if_neg q, if_neg q, nI_clamp (show c < 2 ^ 31 by omega), tb_congr h _ _ _ h3]
theorem capped_congr {L : Nat} {lp ch lp' ch' : Nat → Int32} {full : Int32} (hL : L ≤ 6) (h : agr L lp ch lp' ch') (x y z cp : Int32) : cappedV L lp ch full x y z cp = cappedV L lp' ch' full x y z cp := by
  unfold cappedV
  by_cases q : stOk x y z L = 0
  · rw [if_pos q, if_pos q]
  · obtain ⟨a, b, c, h1, h2, h3, rfl, rfl, rfl⟩ := stOk_nat hL q
    rw [if_neg q, if_neg q, nI_clamp (show c < 2 ^ 31 by omega), tb_congr h _ _ _ h3]
theorem lvsN_le {x : Int32} {L : Nat} (hL : L ≤ 6) : lvsN x L ≤ 6 := by
  unfold lvsN
  split
  · exact hL
  · rename_i q
    obtain ⟨n, h1, h2, rfl⟩ := wi_nat (a := 1) (b := 6) (by decide) (by decide) q
    rw [nI_clamp (by omega)]; exact h2
theorem agr_levels {L : Nat} {lp ch lp' ch' lp1 ch1 : Nat → Int32} {x kn k1 : Int32} (hL : L ≤ 6) (h : agr L lp ch lp' ch') (hu : (wi x 1 6 = 0 ∧ (lp1, ch1, k1) = (lp, ch, kn)) ∨ (¬ wi x 1 6 = 0 ∧ k1 = 0 ∧ (∀ i, i < lvsN x L → lp1 i = 0) ∧ ∀ i y, i < lvsN x L → y < 6 → ch1 (6 * i + y) = chI (6 * i + y))) : agr (lvsN x L) lp1 ch1 (lvsP lp' x) (lvsC ch' x) := by
  rcases hu with ⟨q, e⟩ | ⟨q, -, e1, e2⟩
  · cases e
    rw [lvsN, lvsP, lvsC, if_pos q, if_pos q, if_pos q]; exact h
  · have hN := lvsN_le (x := x) hL
    rw [lvsP, lvsC, if_neg q, if_neg q]
    refine ⟨fun i hi => ?_, fun i k hi hk => ?_⟩
    · rw [e1 i hi, lpF, if_pos (by omega)]
    · rw [e2 i k hi (by omega), chF, if_pos (by omega)]
theorem agr_level {L : Nat} {lp ch lp' ch' lp1 ch1 : Nat → Int32} {x p0 c0 kn k1 : Int32} (hL : L ≤ 6) (h : agr L lp ch lp' ch') (hu : (lvOk x p0 c0 L = 0 ∧ (lp1, ch1, k1) = (lp, ch, kn)) ∨ (¬ lvOk x p0 c0 L = 0 ∧ (lp1, ch1, k1) = (upd lp x.toNatClampNeg p0, chE ch x.toNatClampNeg c0.toNatClampNeg (ds c0.toNatClampNeg 6) 6, (0 : Int32)))) : agr L lp1 ch1 (lvP lp' x p0 c0 L) (lvC ch' x p0 c0 L) := by
  rcases hu with ⟨q, e⟩ | ⟨q, e⟩
  · cases e
    rw [lvP, lvC, if_pos q, if_pos q]; exact h
  · cases e
    rw [lvP, lvC, if_neg q, if_neg q]
    have hdv : dv c0.toNatClampNeg L = 0 := by
      unfold lvOk at q
      by_cases h1 : wi x 0 (nI L - 1) = 0
      · rw [if_pos h1] at q; exact absurd rfl q
      rw [if_neg h1] at q
      by_cases h2 : wi p0 0 999 = 0
      · rw [if_pos h2] at q; exact absurd rfl q
      rw [if_neg h2] at q
      by_cases h3 : c0 < 0
      · rw [if_pos h3] at q; exact absurd rfl q
      rw [if_neg h3] at q
      by_cases h4 : 0 < dv c0.toNatClampNeg L
      · rw [if_pos h4] at q; exact absurd rfl q
      omega
    rw [ds_ext hdv hL]
    generalize x.toNatClampNeg = a
    refine ⟨fun i hi => ?_, fun i k hi hk => ?_⟩
    · simp only [upd]
      rw [h.1 i hi]
    · simp only [chE]
      by_cases z : i = a
      · subst z
        rw [if_pos (show 6 * i ≤ 6 * i + k ∧ 6 * i + k < 6 * i + 6 by omega), if_pos (show 6 * i ≤ 6 * i + k ∧ 6 * i + k < 6 * i + L by omega)]
      · rw [if_neg (by omega), if_neg (by omega)]
        exact h.2 i k hi hk
theorem prGood_W {pr : Nat → Int32} {full x f t p0 : Int32} {nw : Nat} (g : prGood pr full) : prGood (prW pr x f t p0 nw) full := by
  unfold prW
  split
  · exact g
  · rename_i q
    have hp : ¬ wi p0 (-1) 999 = 0 := by
      intro z
      apply q
      unfold prOk
      split
      · rfl
      · first | rfl | rw [if_pos z]
    refine ⟨fun i hi => ?_, g.2⟩
    simp only [setR]
    split
    · obtain ⟨h1, h2⟩ := wi_t hp
      have h3 := Int32.le_iff_toInt_le.mp h1
      have h4 := Int32.le_iff_toInt_le.mp h2
      have e1 : (-1 : Int32).toInt = -1 := by decide
      have e2 : (999 : Int32).toInt = 999 := by decide
      by_cases z : p0 < 0
      · have h5 := Int32.lt_iff_toInt_lt.mp z
        have e0 : (0 : Int32).toInt = 0 := by decide
        exact Or.inl (Int32.toInt_inj.mp (by omega))
      · obtain ⟨v, hv, rfl⟩ := nI_of z
        rw [nI_toInt hv] at h4
        exact Or.inr ⟨v, by omega, rfl⟩
    · exact g.1 i hi
theorem prGood_fu {pr : Nat → Int32} {full x : Int32} {nw n : Nat} (g : prGood pr full) : prGood pr (fuW full x nw n) := by
  unfold fuW
  split
  · exact g
  · rename_i q
    have hp : ¬ wi x 1 999 = 0 := by
      intro z
      apply q
      unfold fuOk
      rw [if_pos z]
    obtain ⟨v, h1, h2, rfl⟩ := wi_nat (a := 1) (b := 999) (by decide) (by decide) hp
    exact ⟨g.1, v, h2, rfl⟩
theorem prGood_00 : prGood pr00 100 := ⟨fun i hi => Or.inl (by simp only [pr00, setE]; rw [if_pos (by omega)]), 100, by decide, rfl⟩
theorem goF_ge {full : Int32} {pr : Nat → Int32} {n : Nat} {j : Nat} (hj : n ≤ j) : ∀ (k nw : Nat) (R : Nat → Nat → Int32), goF full pr n k nw R j = R j
  | 0, _, _ => rfl
  | k + 1, nw, R => by
    unfold goF
    split
    · rw [goF_ge hj k (nw + 1) _, hrs_ge R j n hj]
    · rfl
theorem jobK_y {v : Nat} {b sp : Int32} {nw n : Nat} (hv : v < 2 ^ 31) (hnw : nw ≤ 200) (h : ¬ jobK v b sp nw n = 0) : (1 ≤ v / 1000000 ∧ v / 1000000 ≤ 30) ∧ v / 1000 % 1000 ≤ 200 ∧ v / 100 % 10 < 3 ∧ v / 10 % 10 ≤ 5 ∧ v % 10 ≤ 5 ∧ nw + v / 1000000 ≤ v / 1000 % 1000 ∧ n ≠ 12 := by
  unfold jobK at h
  by_cases h0 : wi (nI (v / 1000000)) 1 30 = 0
  · rw [if_pos h0] at h; exact absurd rfl h
  rw [if_neg h0] at h
  by_cases h1 : 200 < v / 1000 % 1000
  · rw [if_pos h1] at h; exact absurd rfl h
  rw [if_neg h1] at h
  by_cases h2 : 3 ≤ v / 100 % 10
  · rw [if_pos h2] at h; exact absurd rfl h
  rw [if_neg h2] at h
  by_cases h3 : 5 < v / 10 % 10
  · rw [if_pos h3] at h; exact absurd rfl h
  rw [if_neg h3] at h
  by_cases h4 : v % 10 ≤ 5
  · rw [if_pos h4] at h
    by_cases h5 : wi b 0 999 = 0
    · rw [if_pos h5] at h; exact absurd rfl h
    rw [if_neg h5] at h
    by_cases h6 : wi sp 1 60 = 0
    · rw [if_pos h6] at h; exact absurd rfl h
    rw [if_neg h6] at h
    by_cases h7 : nI (v / 1000 % 1000) - nI nw < nI (v / 1000000)
    · rw [if_pos h7] at h; exact absurd rfl h
    rw [if_neg h7] at h
    by_cases h8 : n = 12
    · rw [if_pos h8] at h; exact absurd rfl h
    have hw : 1 ≤ v / 1000000 ∧ v / 1000000 ≤ 30 := by
      obtain ⟨k, hk1, hk2, hk3⟩ := wi_nat (a := 1) (b := 30) (by decide) (by decide) h0
      have := (nI_eq (show v / 1000000 < 2 ^ 31 by omega) (show k < 2 ^ 31 by omega)).mp hk3
      omega
    refine ⟨hw, by omega, by omega, by omega, h4, ?_, h8⟩
    have h12 := i32_nlt.mp h7
    rw [Int32.le_iff_toInt_le, pk_sub_toInt (by omega) (by omega), nI_toInt (by omega)] at h12
    omega
  · rw [if_neg h4] at h; exact absurd rfl h
/-- what holds of both sides between two calls -/
def LI (n nw : Nat) (full : Int32) (pr : Nat → Int32) (R : Nat → Nat → Int32) (L : Nat) (kn : Int32) (lp ch : Nat → Int32) (me : Nat → Int64) (ru wo : Nat → Int32) (lp' ch' : Nat → Int32) : Prop :=
  (n ≤ 12 ∧ nw ≤ 200) ∧ ((∀ j, j < n → jOk (R j)) ∧ (∀ j, j < n → jInv (R j)) ∧ ∀ j, n ≤ j → R j = fun _ => 0) ∧ prGood pr full ∧ (L ≤ 6 ∧ (kn = 0 ∨ (kn = 1 ∧ tAll L lp ch full (-1) me ru wo)) ∧ agr L lp ch lp' ch')
section LIs
variable {n nw : Nat} {full : Int32} {pr : Nat → Int32} {R : Nat → Nat → Int32} {L : Nat} {kn : Int32} {lp ch : Nat → Int32} {me : Nat → Int64} {ru wo : Nat → Int32} {lp' ch' : Nat → Int32}
theorem LI_0 : LI 0 0 100 pr00 (fun _ _ => 0) 0 0 (fun _ => 0) (fun _ => 0) me ru wo (fun _ => 0) (fun _ => 0) :=
  ⟨⟨by decide, by decide⟩, ⟨fun j h => absurd h (Nat.not_lt_zero _), fun j h => absurd h (Nat.not_lt_zero _), fun _ _ => rfl⟩, prGood_00, by decide, Or.inl rfl, fun _ _ => rfl, fun _ _ _ _ => rfl⟩
theorem LI_price (h : LI n nw full pr R L kn lp ch me ru wo lp' ch') (x f t p0 : Int32) : LI n nw full (prW pr x f t p0 nw) R L kn lp ch me ru wo lp' ch' := ⟨h.1, h.2.1, prGood_W h.2.2.1, h.2.2.2⟩
theorem LI_full (h : LI n nw full pr R L kn lp ch me ru wo lp' ch') (x : Int32) {u : Int32} (hu : u = 0 ∨ (fuOk x nw n = 0 ∧ u = kn)) : LI n nw (fuW full x nw n) pr R L u lp ch me ru wo lp' ch' := by
  refine ⟨h.1, h.2.1, prGood_fu h.2.2.1, h.2.2.2.1, ?_, h.2.2.2.2.2⟩
  rcases hu with e | ⟨e1, e2⟩
  · exact Or.inl e
  · rw [fuW, if_pos e1, e2]; exact h.2.2.2.2.1
theorem LI_job (h : LI n nw full pr R L kn lp ch me ru wo lp' ch') (x b sp : Int32) : LI (jobJ x b sp nw n) nw full pr (jobR R x b sp nw n) L kn lp ch me ru wo lp' ch' := by
  by_cases q : jobW x b sp nw n = 0
  · rw [jobJ, jobR, if_pos q, if_pos q]; exact h
  · obtain ⟨v, hv, rfl⟩ := jobW_pos q
    have q2 : ¬ jobK v b sp nw n = 0 := by
      rw [jobW, if_neg (nI_pos hv), nI_clamp hv] at q; exact q
    obtain ⟨k1, k2, k3, k4, k5, k6, k7⟩ := jobK_y hv h.1.2 q2
    rw [jobJ, jobR, if_neg q, if_neg q, nI_clamp hv]
    have hn := h.1.1
    refine ⟨⟨by omega, h.1.2⟩, ⟨fun j hj => ?_, fun j hj => ?_, fun j hj => ?_⟩, h.2.2⟩
    · by_cases z : j = n
      · subst z
        rw [va_up_self]
        exact ⟨v / 1000000, v / 1000 % 1000, v / 100 % 10, v / 10 % 10, v % 10, nw, k1, k2, k3, k4, k5, k6, by simp [newRow, va_up], by simp [newRow, va_up], by simp [newRow, va_up], by simp [newRow, va_up], by simp [newRow, va_up], by simp [newRow, va_up]⟩
      · rw [va_up_ne _ _ z]; exact h.2.1.1 j (by omega)
    · by_cases z : j = n
      · subst z
        rw [va_up_self]
        refine ⟨by simp [newRow, va_up], fun _ => by simp [newRow, va_up], fun _ => ?_⟩
        have e1 : newRow (v / 1000000) (v / 1000 % 1000) (v / 100 % 10) (v / 10 % 10) (v % 10) b sp nw 8 = nI 0 := by simp [newRow, va_up]; rfl
        have e2 : newRow (v / 1000000) (v / 1000 % 1000) (v / 100 % 10) (v / 10 % 10) (v % 10) b sp nw 0 = nI (v / 1000000) := by simp [newRow, va_up]
        rw [e1, e2]
        exact (nI_ltI (by decide) (by omega)).mpr (by omega)
      · rw [va_up_ne _ _ z]; exact h.2.1.2.1 j (by omega)
    · rw [va_up_ne _ _ (by omega)]; exact h.2.1.2.2 j (by omega)
theorem LI_go (h : LI n nw full pr R L kn lp ch me ru wo lp' ch') (x : Int32) : LI n (goW nw x) full pr (goR full pr n nw x R) L kn lp ch me ru wo lp' ch' := by
  unfold goW goR
  split
  · exact h
  · refine ⟨⟨h.1.1, goN_le _ _ h.1.2⟩, ⟨fun j hj => jOk_go j _ _ _ (h.2.1.1 j hj), fun j hj => jInv_go j _ _ _ (h.2.1.2.1 j hj), fun j hj => ?_⟩, h.2.2⟩
    rw [goF_ge hj]; exact h.2.1.2.2 j hj
theorem LI_levels (h : LI n nw full pr R L kn lp ch me ru wo lp' ch') (x : Int32) {lp1 ch1 : Nat → Int32} {k1 : Int32} (hu : (wi x 1 6 = 0 ∧ (lp1, ch1, k1) = (lp, ch, kn)) ∨ (¬ wi x 1 6 = 0 ∧ k1 = 0 ∧ (∀ i, i < lvsN x L → lp1 i = 0) ∧ ∀ i y, i < lvsN x L → y < 6 → ch1 (6 * i + y) = chI (6 * i + y))) : LI n nw full pr R (lvsN x L) k1 lp1 ch1 me ru wo (lvsP lp' x) (lvsC ch' x) := by
  refine ⟨h.1, h.2.1, h.2.2.1, lvsN_le h.2.2.2.1, ?_, agr_levels h.2.2.2.1 h.2.2.2.2.2 hu⟩
  rcases hu with ⟨q, e⟩ | ⟨q, e, _⟩
  · cases e
    rw [lvsN, if_pos q]; exact h.2.2.2.2.1
  · exact Or.inl e
theorem LI_level (h : LI n nw full pr R L kn lp ch me ru wo lp' ch') (x p0 c0 : Int32) {lp1 ch1 : Nat → Int32} {k1 : Int32} (hu : (lvOk x p0 c0 L = 0 ∧ (lp1, ch1, k1) = (lp, ch, kn)) ∨ (¬ lvOk x p0 c0 L = 0 ∧ (lp1, ch1, k1) = (upd lp x.toNatClampNeg p0, chE ch x.toNatClampNeg c0.toNatClampNeg (ds c0.toNatClampNeg 6) 6, (0 : Int32)))) : LI n nw full pr R L k1 lp1 ch1 me ru wo (lvP lp' x p0 c0 L) (lvC ch' x p0 c0 L) := by
  refine ⟨h.1, h.2.1, h.2.2.1, h.2.2.2.1, ?_, agr_level h.2.2.2.1 h.2.2.2.2.2 hu⟩
  rcases hu with ⟨q, e⟩ | ⟨q, e⟩
  · cases e
    exact h.2.2.2.2.1
  · cases e
    exact Or.inl rfl
theorem LI_table (h : LI n nw full pr R L kn lp ch me ru wo lp' ch') {me1 : Nat → Int64} {ru1 wo1 : Nat → Int32} {k1 : Int32} (hu : k1 = 0 ∨ (k1 = 1 ∧ tAll L lp ch full (-1) me1 ru1 wo1)) : LI n nw full pr R L k1 lp ch me1 ru1 wo1 lp' ch' := ⟨h.1, h.2.1, h.2.2.1, h.2.2.2.1, hu, h.2.2.2.2.2⟩
end LIs
theorem c_X7_job (l : Launch) (D : va_G) (cI cL cZ cO : ClassId) (sz : Nat) (a : Nat) (r : Nat → Nat) (full lev : Int32) (pr : Nat → Int32) (R : Nat → Nat → Int32) (lp ch : Nat → Int32) (me : Nat → Int64) (ru wo co : Nat → Int32) (nw n : Nat) (x b sp : Int32) (hn : n ≤ 12) (hz0 : R n = fun _ => 0) : Met l yX7_job wsX7_job ({ frames := 1, cells := 0, slots := 0, locals := 22 } : Room) (va_Pc [.ref a, .int x, .int b, .int sp] (Rw D cI cL cZ cO (wM cI cL cZ a r (nI nw) full (nI n) lev pr R lp ch me ru wo co) sz)) (va_Qi (fun (r : Int32) (u : Unit) => r = jobV x b sp nw n) (fun (u : Unit) => Wo D (va_A (wM cI cL cZ a r (nI nw) full (nI n) lev pr R lp ch me ru wo co) sz) (wM cI cL cZ a r (nI nw) full (nI (jobJ x b sp nw n)) lev pr (jobR R x b sp nw n) lp ch me ru wo co)) (va_A (wM cI cL cZ a r (nI nw) full (nI n) lev pr R lp ch me ru wo co) sz)) 0 0 (va_A (wM cI cL cZ a r (nI nw) full (nI n) lev pr R lp ch me ru wo co) sz) := by
  by_cases h : x < 0
  · exact c_X7_job_neg l D cI cL cZ cO sz a r full lev pr R lp ch me ru wo co nw n x b sp h
  · obtain ⟨v, hv, rfl⟩ := nI_of h
    exact c_X7_job_pos l D cI cL cZ cO sz a r full lev pr R lp ch me ru wo co nw n v b sp hv hn hz0
