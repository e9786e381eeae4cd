/-! THE TABLE: its pure words -/
/-- the place of a state -/
def tn (h w l : Nat) : Nat := 6 * (13 * h + w) + l
def nxS (ch : Nat → Int32) (f : Nat → Int64) (l : Nat) : Nat → Int64
  | 0 => 0
  | k + 1 => nxS ch f l k + (ch (6 * l + k)).toInt64 * f k
def gwS (ch : Nat → Int32) (g : Nat → Int32) (l : Nat) : Nat → Int32
  | 0 => 0
  | k + 1 => if ch (6 * l + k) ≤ 0 then gwS ch g l k else if g k ≤ gwS ch g l k then gwS ch g l k else g k
theorem nxS_congr {ch ch' : Nat → Int32} {f g : Nat → Int64} {l : Nat} : ∀ {n : Nat}, (∀ k, k < n → ch (6 * l + k) = ch' (6 * l + k) ∧ f k = g k) → nxS ch f l n = nxS ch' g l n
  | 0, _ => rfl
  | n + 1, h => by
    rw [nxS, nxS, nxS_congr (fun k hk => h k (by omega)), (h n (by omega)).1, (h n (by omega)).2]
theorem gwS_congr {ch ch' : Nat → Int32} {f g : Nat → Int32} {l : Nat} : ∀ {n : Nat}, (∀ k, k < n → ch (6 * l + k) = ch' (6 * l + k) ∧ f k = g k) → gwS ch f l n = gwS ch' g l n
  | 0, _ => rfl
  | n + 1, h => by
    rw [gwS, gwS, gwS_congr (fun k hk => h k (by omega)), (h n (by omega)).1, (h n (by omega)).2]
/-- the best rule by two costs of working, one of waiting -/
def tbBest (low high wait : Int64) (h w : Nat) : Int32 := if h ≤ w then (if high < low then 2 else 1) else if low < wait then (if high < low then 2 else 1) else if high < wait then (if high < low then 2 else 1) else 0
def tbRule (price full cap : Int32) (ten working wait : Int64) (h w : Nat) : Int32 := if cap = -1 then tbBest (price.toInt64 * ten + working) (full.toInt64 * ten + working) wait h w else if cap < price then (if h ≤ w then (if full < price then 2 else 1) else 0) else 1
def tbPays (price full rl : Int32) : Int32 := if rl = 0 then 0 else if rl = 1 then price else full
def tbMean (price full rl : Int32) (ten working wait : Int64) : Int64 := if rl = 0 then wait else (tbPays price full rl).toInt64 * ten + working
def tb (L : Nat) (lp ch : Nat → Int32) (full cap : Int32) : Nat → Nat → Nat → Int64 × Int32 × Int32
  | 0, _, _ => (0, 0, 0)
  | h + 1, w, l =>
    if w = 0 then (0, 0, 0) else
    (tbMean (lp l) full (tbRule (lp l) full cap (pw 10 (h + 1)) (nxS ch (fun k => (tb L lp ch full cap h (w - 1) k).1) l L) (nxS ch (fun k => (tb L lp ch full cap h w k).1) l L) (h + 1) w) (pw 10 (h + 1)) (nxS ch (fun k => (tb L lp ch full cap h (w - 1) k).1) l L) (nxS ch (fun k => (tb L lp ch full cap h w k).1) l L),
     tbRule (lp l) full cap (pw 10 (h + 1)) (nxS ch (fun k => (tb L lp ch full cap h (w - 1) k).1) l L) (nxS ch (fun k => (tb L lp ch full cap h w k).1) l L) (h + 1) w,
     tbPays (lp l) full (tbRule (lp l) full cap (pw 10 (h + 1)) (nxS ch (fun k => (tb L lp ch full cap h (w - 1) k).1) l L) (nxS ch (fun k => (tb L lp ch full cap h w k).1) l L) (h + 1) w) +
       gwS ch (fun k => (tb L lp ch full cap h (if tbRule (lp l) full cap (pw 10 (h + 1)) (nxS ch (fun k => (tb L lp ch full cap h (w - 1) k).1) l L) (nxS ch (fun k => (tb L lp ch full cap h w k).1) l L) (h + 1) w = 0 then w else w - 1) k).2.2) l L)
def stOk (x y z : Int32) (L : Nat) : Int32 := if wi x 0 12 = 0 then 0 else if wi y 0 x = 0 then 0 else if wi z 0 (nI L - 1) = 0 then 0 else 1
theorem lev_nat {x : Int32} {n : Nat} (hn : n ≤ 6) (h : ¬ wi x 0 (nI n - 1) = 0) : ∃ j, j < n ∧ x = nI j := isJob_nat (by omega) h
theorem stOk_nat {x y z : Int32} {L : Nat} (hL : L ≤ 6) (h : ¬ stOk x y z L = 0) : ∃ hh w l : Nat, hh ≤ 12 ∧ w ≤ hh ∧ l < L ∧ x = nI hh ∧ y = nI w ∧ z = nI l := by
  unfold stOk at h
  by_cases h1 : wi x 0 12 = 0
  · rw [if_pos h1] at h; exact absurd rfl h
  rw [if_neg h1] at h
  by_cases h2 : wi y 0 x = 0
  · rw [if_pos h2] at h; exact absurd rfl h
  rw [if_neg h2] at h
  by_cases h3 : wi z 0 (nI L - 1) = 0
  · rw [if_pos h3] at h; exact absurd rfl h
  obtain ⟨hh, -, a2, rfl⟩ := wi_nat (a := 0) (b := 12) (by decide) (by decide) h1
  obtain ⟨w, -, b2, rfl⟩ := wi_nat (a := 0) (by decide) (by omega) h2
  obtain ⟨l, c2, rfl⟩ := lev_nat hL h3
  exact ⟨hh, w, l, a2, b2, c2, rfl, rfl, rfl⟩
theorem stOk_nar (x y z : Int32) (L : Nat) : narrow .boolean (.int (stOk x y z L)) = .int (stOk x y z L) := by
  unfold stOk
  split
  · rfl
  · split
    · rfl
    · split <;> rfl
/-- the three rows hold the table's values at one state; at all states before (h, w, l) -/
def tG (L : Nat) (lp ch : Nat → Int32) (full cap : Int32) (me : Nat → Int64) (ru wo : Nat → Int32) (h w l : Nat) : Prop := me (tn h w l) = (tb L lp ch full cap h w l).1 ∧ ru (tn h w l) = (tb L lp ch full cap h w l).2.1 ∧ wo (tn h w l) = (tb L lp ch full cap h w l).2.2
def tGood (L : Nat) (lp ch : Nat → Int32) (full cap : Int32) (me : Nat → Int64) (ru wo : Nat → Int32) (h w l : Nat) : Prop := ∀ h' w' l', h' ≤ 12 → w' ≤ h' → l' < L → (h' < h ∨ (h' = h ∧ (w' < w ∨ (w' = w ∧ l' < l)))) → tG L lp ch full cap me ru wo h' w' l'
theorem tn_ne {h w l h' w' l' : Nat} (hw : w ≤ 12) (hl : l < 6) (hw' : w' ≤ 12) (hl' : l' < 6) (hd : h' < h ∨ (h' = h ∧ (w' < w ∨ (w' = w ∧ l' < l)))) : ¬ tn h' w' l' = tn h w l := by
  unfold tn; omega
theorem tGood_s {L : Nat} {lp ch : Nat → Int32} {full cap : Int32} {me : Nat → Int64} {ru wo : Nat → Int32} {h w l : Nat} (hL : L ≤ 6) (hh : h ≤ 12) (hw : w ≤ h) (hl : l < L) (g : tGood L lp ch full cap me ru wo h w l) : tGood L lp ch full cap (vp_updL me (tn h w l) (tb L lp ch full cap h w l).1) (upd ru (tn h w l) (tb L lp ch full cap h w l).2.1) (upd wo (tn h w l) (tb L lp ch full cap h w l).2.2) h w (l + 1) := by
  intro h' w' l' a1 a2 a3 a4
  by_cases hb : h' < h ∨ (h' = h ∧ (w' < w ∨ (w' = w ∧ l' < l)))
  · have hne := tn_ne (h := h) (w := w) (l := l) (h' := h') (w' := w') (l' := l') (by omega) (by omega) (by omega) (by omega) hb
    obtain ⟨b1, b2, b3⟩ := g h' w' l' a1 a2 a3 hb
    refine ⟨?_, ?_, ?_⟩
    · rw [pk_uLn hne]; exact b1
    · rw [pk_un hne]; exact b2
    · rw [pk_un hne]; exact b3
  · obtain ⟨rfl, rfl, rfl⟩ : h' = h ∧ w' = w ∧ l' = l := by omega
    exact ⟨pk_uLs, pk_us, pk_us⟩
theorem tGood_w {L : Nat} {lp ch : Nat → Int32} {full cap : Int32} {me : Nat → Int64} {ru wo : Nat → Int32} {h w : Nat} (g : tGood L lp ch full cap me ru wo h w L) : tGood L lp ch full cap me ru wo h (w + 1) 0 := fun h' w' l' a1 a2 a3 a4 => g h' w' l' a1 a2 a3 (by omega)
theorem tGood_h {L : Nat} {lp ch : Nat → Int32} {full cap : Int32} {me : Nat → Int64} {ru wo : Nat → Int32} {h : Nat} (g : tGood L lp ch full cap me ru wo h (h + 1) 0) : tGood L lp ch full cap me ru wo (h + 1) 0 0 := fun h' w' l' a1 a2 a3 a4 => g h' w' l' a1 a2 a3 (by omega)
theorem tGood_0 {L : Nat} {lp ch : Nat → Int32} {full cap : Int32} {me : Nat → Int64} {ru wo : Nat → Int32} : tGood L lp ch full cap me ru wo 0 0 0 := fun h' w' l' _ _ _ a4 => by omega
theorem tb_0 {L : Nat} {lp ch : Nat → Int32} {full cap : Int32} {h l : Nat} : tb L lp ch full cap h 0 l = (0, 0, 0) := by
  cases h with
  | zero => rfl
  | succ h => unfold tb; exact if_pos rfl
theorem updL_uu (f : Nat → Int64) (i : Nat) (x y : Int64) : vp_updL (vp_updL f i x) i y = vp_updL f i y := by
  funext j; simp only [vp_updL]; split <;> rfl
theorem upd_uu (f : Nat → Int32) (i : Nat) (x y : Int32) : upd (upd f i x) i y = upd f i y := by
  funext j; simp only [upd]; split <;> rfl
/-- digits -/
def dv (v : Nat) : Nat → Nat
  | 0 => v
  | k + 1 => dv v k / 10
def ds (v : Nat) : Nat → Nat
  | 0 => 0
  | k + 1 => ds v k + dv v k % 10
theorem dv_le (v : Nat) : ∀ k, dv v k ≤ v
  | 0 => Nat.le_refl _
  | k + 1 => Nat.le_trans (Nat.div_le_self _ _) (dv_le v k)
theorem ds_le (v : Nat) : ∀ k, ds v k ≤ 9 * k
  | 0 => Nat.le_refl _
  | k + 1 => by have := ds_le v k; unfold ds; omega
/-- a level's chances: the first e digits -/
def chE (ch : Nat → Int32) (l v sm e : Nat) : Nat → Int32 := fun i => if 6 * l ≤ i ∧ i < 6 * l + e then nI (dv v (i - 6 * l) % 10 + if i = 6 * l then 10 - sm else 0) else ch i
theorem chE_0 (ch : Nat → Int32) (l v sm : Nat) : chE ch l v sm 0 = ch := by
  funext i; simp only [chE]; rw [if_neg (by omega)]
theorem chE_s (ch : Nat → Int32) (l v sm e : Nat) : upd (chE ch l v sm e) (6 * l + e) (nI (dv v e % 10 + if e = 0 then 10 - sm else 0)) = chE ch l v sm (e + 1) := by
  funext i
  simp only [upd, chE]
  by_cases h1 : i = 6 * l + e
  · rw [if_pos h1, if_pos (show 6 * l ≤ i ∧ i < 6 * l + (e + 1) by omega)]
    subst h1
    rw [Nat.add_sub_cancel_left]
    by_cases h2 : e = 0
    · rw [if_pos h2, if_pos (show 6 * l + e = 6 * l by omega)]
    · rw [if_neg h2, if_neg (show ¬ 6 * l + e = 6 * l by omega)]
  · rw [if_neg h1]
    by_cases h2 : 6 * l ≤ i ∧ i < 6 * l + e
    · rw [if_pos h2, if_pos (show 6 * l ≤ i ∧ i < 6 * l + (e + 1) by omega)]
    · rw [if_neg h2, if_neg (show ¬ (6 * l ≤ i ∧ i < 6 * l + (e + 1)) by omega)]
def lvOk (x p c : Int32) (L : Nat) : Int32 := if wi x 0 (nI L - 1) = 0 then 0 else if wi p 0 999 = 0 then 0 else if c < 0 then 0 else if 0 < dv c.toNatClampNeg L then 0 else if ds c.toNatClampNeg L ≤ 10 then 1 else 0
def lvC (ch : Nat → Int32) (x p c : Int32) (L : Nat) : Nat → Int32 := if lvOk x p c L = 0 then ch else chE ch x.toNatClampNeg c.toNatClampNeg (ds c.toNatClampNeg L) L
def lvP (lp : Nat → Int32) (x p c : Int32) (L : Nat) : Nat → Int32 := if lvOk x p c L = 0 then lp else upd lp x.toNatClampNeg p
/-! a job comes -/
def newRow (w d mk sv bg : Nat) (b sp : Int32) (nw : Nat) : Nat → Int32 := va_up (va_up (va_up (va_up (va_up (va_up (va_up (va_up (va_up (fun _ => 0) 0 (nI w)) 1 (nI d)) 2 (nI mk)) 5 (nI sv)) 6 (nI bg)) 3 b) 4 sp) 7 (nI nw)) 18 (-1)
def jobK (v : Nat) (b sp : Int32) (nw n : Nat) : Int32 := if wi (nI (v / 1000000)) 1 30 = 0 then 0 else if 200 < v / 1000 % 1000 then 0 else if 3 ≤ v / 100 % 10 then 0 else if 5 < v / 10 % 10 then 0 else if v % 10 ≤ 5 then (if wi b 0 999 = 0 then 0 else if wi sp 1 60 = 0 then 0 else if nI (v / 1000 % 1000) - nI nw < nI (v / 1000000) then 0 else if n = 12 then 0 else 1) else 0
def jobW (x b sp : Int32) (nw n : Nat) : Int32 := if x < 0 then 0 else jobK x.toNatClampNeg b sp nw n
def jobV (x b sp : Int32) (nw n : Nat) : Int32 := if jobW x b sp nw n = 0 then -1 else nI n
def jobJ (x b sp : Int32) (nw n : Nat) : Nat := if jobW x b sp nw n = 0 then n else n + 1
def jobR (R : Nat → Nat → Int32) (x b sp : Int32) (nw n : Nat) : Nat → Nat → Int32 := if jobW x b sp nw n = 0 then R else va_up R n (newRow (x.toNatClampNeg / 1000000) (x.toNatClampNeg / 1000 % 1000) (x.toNatClampNeg / 100 % 10) (x.toNatClampNeg / 10 % 10) (x.toNatClampNeg % 10) b sp nw)
set_option maxHeartbeats 4000000 in
set_option maxRecDepth 100000 in
theorem c_X7_job_neg (l : Launch) (D : va_G) (cI cL cZ cO : ClassId) (sz : Nat) (a : Nat) (r : Nat → Nat) (full lev : Int32) (pr : Nat → Int32) (R : Nat → Nat → Int32) (lp ch : Nat → Int32) (me : Nat → Int64) (ru wo co : Nat → Int32) (nw n : Nat) (x b sp : Int32) (hneg : x < 0) : Met l yX7_job wsX7_job ({ frames := 1, cells := 0, slots := 0, locals := 22 } : Room) (va_Pc [.ref a, .int x, .int b, .int sp] (Rw D cI cL cZ cO (wM cI cL cZ a r (nI nw) full (nI n) lev pr R lp ch me ru wo co) sz)) (va_Qi (fun (r : Int32) (u : Unit) => r = jobV x b sp nw n) (fun (u : Unit) => Wo D (va_A (wM cI cL cZ a r (nI nw) full (nI n) lev pr R lp ch me ru wo co) sz) (wM cI cL cZ a r (nI nw) full (nI (jobJ x b sp nw n)) lev pr (jobR R x b sp nw n) lp ch me ru wo co)) (va_A (wM cI cL cZ a r (nI nw) full (nI n) lev pr R lp ch me ru wo co) sz)) 0 0 (va_A (wM cI cL cZ a r (nI nw) full (nI n) lev pr R lp ch me ru wo co) sz) := by
  refine Met.ofW (cc := cX7_job) (maxL := 7) (ret := (some .int)) (by decide) rfl ?_
  intro p e s m args below meth c s₁ B hml hv
  obtain ⟨rfl, hsz, hP, hO, hD0⟩ := hv
  have hx := B.exec
  have hb := B.bytes
  have hr := B.returns
  have hts := atoms_spec (ws := wsX7_job) B.pre
  have hown : s.vm.findClass RX7 = some m.cls := findClass_of_methodNamed B.named
  have hlocks := B.notSynchronized
  have hK := hO.1
  subst hsz
  have hD := hD0.self (sz := s.heap.size)
  generalize hAe : va_A (wM cI cL cZ a r (nI nw) full (nI n) lev pr R lp ch me ru wo co) s.heap.size = A at hD ⊢
  have hA : ∀ q : Nat, s.heap.size ≤ q → A q := fun q h => by rw [← hAe]; exact Or.inr h
  have hS : va_S A s.heap s.heap [] := va_S.rf
  have hl := lv_entry ([.ref a, .int x, .int b, .int sp]) (n := 7) (Nat.le_of_ble_eq_true rfl)
  rw [lg_entry_eq]
  generalize (lg_sl ([.ref a, .int x, .int b, .int sp]) ++ List.replicate (7 - (lg_sl ([.ref a, .int x, .int b, .int sp])).length) Slot.unset).toArray = ls at hl ⊢
  have hl : lv_has ls 7 [(0, .ref a), (1, .int x), (2, .int b), (3, .int sp)] := hl
  generalize hQQ : MQ below _ _ s _ _ _ = QQ
  refine lv_iload_n hx hb dX7_job_0 rfl (lv_at hl 1 rfl) ?_
  refine lv_ldc (v := 1000000) hx hb hown (hts (.constant RX7 119 (1000000)) (by decide +kernel)) dX7_job_1 ?_
  refine lv_idiv hx hb dX7_job_3 (by decide) ?_
  refine lv_istore (lv' := [(4, .int (x / 1000000)), (0, .ref a), (1, .int x), (2, .int b), (3, .int sp)]) hx hb dX7_job_4 hl (by decide) rfl (fun ls hl => ?_)
  refine lv_iload_n hx hb dX7_job_6 rfl (lv_at hl 2 rfl) ?_
  refine lv_sipush (v := 1000) hx hb dX7_job_7 (by decide) ?_
  refine lv_idiv hx hb dX7_job_10 (by decide) ?_
  refine lv_sipush (v := 1000) hx hb dX7_job_11 (by decide) ?_
  refine lv_irem hx hb dX7_job_14 (by decide) ?_
  refine lv_istore (lv' := [(5, .int ((x / 1000) - (x / 1000) / 1000 * 1000)), (4, .int (x / 1000000)), (0, .ref a), (1, .int x), (2, .int b), (3, .int sp)]) hx hb dX7_job_15 hl (by decide) rfl (fun ls hl => ?_)
  refine lv_iload_n hx hb dX7_job_17 rfl (lv_at hl 3 rfl) ?_
  refine lv_bipush (v := 100) hx hb dX7_job_18 (by decide) ?_
  refine lv_idiv hx hb dX7_job_20 (by decide) ?_
  refine lv_bipush (v := 10) hx hb dX7_job_21 (by decide) ?_
  refine lv_irem hx hb dX7_job_23 (by decide) ?_
  refine lv_istore (lv' := [(6, .int ((x / 100) - (x / 100) / 10 * 10)), (5, .int ((x / 1000) - (x / 1000) / 1000 * 1000)), (4, .int (x / 1000000)), (0, .ref a), (1, .int x), (2, .int b), (3, .int sp)]) hx hb dX7_job_24 hl (by decide) rfl (fun ls hl => ?_)
  refine lv_iload_n hx hb dX7_job_26 rfl (lv_at hl 4 rfl) ?_
  refine lv_if_lt (tgt := 74) hx hb dX7_job_27 (by decide) (fun c_27 => ?_) (fun c_27 => ?_)
  · skip
    refine lv_iconst (v := (-1)) hx hb dX7_job_74 (by decide) ?_
    have hz : jobW x b sp nw n = 0 := if_pos hneg
    have h1 : jobJ x b sp nw n = n := if_pos hz
    have h2 : jobR R x b sp nw n = R := if_pos hz
    have hw9 : wM cI cL cZ a r (nI nw) full (nI (jobJ x b sp nw n)) lev pr (jobR R x b sp nw n) lp ch me ru wo co = wM cI cL cZ a r (nI nw) full (nI n) lev pr R lp ch me ru wo co := by rw [h2, h1]
    rw [← hw9] at hP hD
    rw [← hQQ]
    exact W.iret (v := (-1)) hx hb hr (fun t9 ht9 hW9 => ⟨⟨_, (), rfl, (if_pos hz).symm, by rw [ht9]; exact hP, hD⟩, hS.F ht9⟩) hS.2.2 dX7_job_75
  · skip
    exact absurd hneg c_27
set_option maxHeartbeats 4000000 in
set_option maxRecDepth 100000 in
theorem c_X7_job_pos (l : Launch) (D : va_G) (cI cL cZ cO : ClassId) (sz : Nat) (a : Nat) (r : Nat → Nat) (full lev : Int32) (pr : Nat → Int32) (R : Nat → Nat → Int32) (lp ch : Nat → Int32) (me : Nat → Int64) (ru wo co : Nat → Int32) (nw n : Nat) (v : Nat) (b sp : Int32) (hv : v < 2 ^ 31) (hn : n ≤ 12) (hz0 : R n = fun _ => 0) : Met l yX7_job wsX7_job ({ frames := 1, cells := 0, slots := 0, locals := 22 } : Room) (va_Pc [.ref a, .int (nI v), .int b, .int sp] (Rw D cI cL cZ cO (wM cI cL cZ a r (nI nw) full (nI n) lev pr R lp ch me ru wo co) sz)) (va_Qi (fun (r : Int32) (u : Unit) => r = jobV (nI v) b sp nw n) (fun (u : Unit) => Wo D (va_A (wM cI cL cZ a r (nI nw) full (nI n) lev pr R lp ch me ru wo co) sz) (wM cI cL cZ a r (nI nw) full (nI (jobJ (nI v) b sp nw n)) lev pr (jobR R (nI v) b sp nw n) lp ch me ru wo co)) (va_A (wM cI cL cZ a r (nI nw) full (nI n) lev pr R lp ch me ru wo co) sz)) 0 0 (va_A (wM cI cL cZ a r (nI nw) full (nI n) lev pr R lp ch me ru wo co) sz) := by
  refine Met.ofW (cc := cX7_job) (maxL := 7) (ret := (some .int)) (by decide) rfl ?_
  intro p e s m args below meth c s₁ B hml hv
  obtain ⟨rfl, hsz, hP, hO, hD0⟩ := hv
  have hx := B.exec
  have hb := B.bytes
  have hr := B.returns
  have hts := atoms_spec (ws := wsX7_job) B.pre
  have hown : s.vm.findClass RX7 = some m.cls := findClass_of_methodNamed B.named
  have hlocks := B.notSynchronized
  have hK := hO.1
  subst hsz
  have hD := hD0.self (sz := s.heap.size)
  generalize hAe : va_A (wM cI cL cZ a r (nI nw) full (nI n) lev pr R lp ch me ru wo co) s.heap.size = A at hD ⊢
  have hA : ∀ q : Nat, s.heap.size ≤ q → A q := fun q h => by rw [← hAe]; exact Or.inr h
  have hS : va_S A s.heap s.heap [] := va_S.rf
  have hl := lv_entry ([.ref a, .int (nI v), .int b, .int sp]) (n := 7) (Nat.le_of_ble_eq_true rfl)
  rw [lg_entry_eq]
  generalize (lg_sl ([.ref a, .int (nI v), .int b, .int sp]) ++ List.replicate (7 - (lg_sl ([.ref a, .int (nI v), .int b, .int sp])).length) Slot.unset).toArray = ls at hl ⊢
  have hl : lv_has ls 7 [(0, .ref a), (1, .int (nI v)), (2, .int b), (3, .int sp)] := hl
  generalize hQQ : MQ below _ _ s _ _ _ = QQ
  refine lv_iload_n hx hb dX7_job_0 rfl (lv_at hl 1 rfl) ?_
  refine lv_ldc (v := 1000000) hx hb hown (hts (.constant RX7 119 (1000000)) (by decide +kernel)) dX7_job_1 ?_
  refine n_idiv (x := v) (y := 1000000) hx hb dX7_job_3 (by omega) (by omega) (by omega) ?_
  refine lv_istore (lv' := [(4, .int (nI (v / 1000000))), (0, .ref a), (1, .int (nI v)), (2, .int b), (3, .int sp)]) hx hb dX7_job_4 hl (by decide) rfl (fun ls hl => ?_)
  refine lv_iload_n hx hb dX7_job_6 rfl (lv_at hl 2 rfl) ?_
  refine lv_sipush (v := 1000) hx hb dX7_job_7 (by decide) ?_
  refine n_idiv (x := v) (y := 1000) hx hb dX7_job_10 (by omega) (by omega) (by omega) ?_
  refine lv_sipush (v := 1000) hx hb dX7_job_11 (by decide) ?_
  refine n_irem (x := (v / 1000)) (y := 1000) hx hb dX7_job_14 (by omega) (by omega) (by omega) ?_
  refine lv_istore (lv' := [(5, .int (nI ((v / 1000) % 1000))), (4, .int (nI (v / 1000000))), (0, .ref a), (1, .int (nI v)), (2, .int b), (3, .int sp)]) hx hb dX7_job_15 hl (by decide) rfl (fun ls hl => ?_)
  refine lv_iload_n hx hb dX7_job_17 rfl (lv_at hl 3 rfl) ?_
  refine lv_bipush (v := 100) hx hb dX7_job_18 (by decide) ?_
  refine n_idiv (x := v) (y := 100) hx hb dX7_job_20 (by omega) (by omega) (by omega) ?_
  refine lv_bipush (v := 10) hx hb dX7_job_21 (by decide) ?_
  refine n_irem (x := (v / 100)) (y := 10) hx hb dX7_job_23 (by omega) (by omega) (by omega) ?_
  refine lv_istore (lv' := [(6, .int (nI ((v / 100) % 10))), (5, .int (nI ((v / 1000) % 1000))), (4, .int (nI (v / 1000000))), (0, .ref a), (1, .int (nI v)), (2, .int b), (3, .int sp)]) hx hb dX7_job_24 hl (by decide) rfl (fun ls hl => ?_)
  refine lv_iload_n hx hb dX7_job_26 rfl (lv_at hl 4 rfl) ?_
  refine lv_if_lt (tgt := 74) hx hb dX7_job_27 (by decide) (fun c_27 => ?_) (fun c_27 => ?_)
  · skip
    exact absurd c_27 (nI_pos hv)
  · skip
    refine lv_iload hx hb dX7_job_30 (lv_at hl 2 rfl) ?_
    refine lv_iconst (v := 1) hx hb dX7_job_32 (by decide) ?_
    refine lv_bipush (v := 30) hx hb dX7_job_33 (by decide) ?_
    refine roSi (As := [.int (nI (v / 1000000)), .int 1, .int 30]) (rest := []) ⟨hx, hb, hml, hown, hts⟩ (c_X7_in l D cI cL cZ cO (nI (v / 1000000)) 1 30 ) (va_cwS 3 hts gX7_job_X7_in rfl rfl rfl (by decide +kernel) ⟨Nat.le_of_ble_eq_true rfl, Nat.le_of_ble_eq_true rfl⟩) hO (fun k q h => by simp at h) rfl hl.1 rfl (Nat.le_of_ble_eq_true rfl) dX7_job_35 ⟨Nat.le_of_ble_eq_true rfl, Nat.le_of_ble_eq_true rfl⟩ (fun r_35 e_35 => ?_)
    obtain rfl : r_35 = wi (nI (v / 1000000)) 1 30 := e_35
    refine lv_if_eq (tgt := 74) hx hb dX7_job_38 (by decide) (fun c_38 => ?_) (fun c_38 => ?_)
    · skip
      refine lv_iconst (v := (-1)) hx hb dX7_job_74 (by decide) ?_
      have hw : jobW (nI v) b sp nw n = jobK v b sp nw n := by rw [jobW, if_neg (nI_pos hv), nI_clamp hv]
      have hz : jobW (nI v) b sp nw n = 0 := by rw [hw]; simp only [jobK, if_pos c_38]
      have h1 : jobJ (nI v) b sp nw n = n := if_pos hz
      have h2 : jobR R (nI v) b sp nw n = R := if_pos hz
      have hw9 : wM cI cL cZ a r (nI nw) full (nI (jobJ (nI v) b sp nw n)) lev pr (jobR R (nI v) b sp nw n) lp ch me ru wo co = wM cI cL cZ a r (nI nw) full (nI n) lev pr R lp ch me ru wo co := by rw [h2, h1]
      rw [← hw9] at hP hD
      rw [← hQQ]
      exact W.iret (v := (-1)) hx hb hr (fun t9 ht9 hW9 => ⟨⟨_, (), rfl, (if_pos hz).symm, by rw [ht9]; exact hP, hD⟩, hS.F ht9⟩) hS.2.2 dX7_job_75
    · skip
      refine lv_iload hx hb dX7_job_41 (lv_at hl 1 rfl) ?_
      refine lv_sipush (v := 200) hx hb dX7_job_43 (by decide) ?_
      refine n_icmp_gt (x := ((v / 1000) % 1000)) (y := 200) (tgt := 74) hx hb dX7_job_46 (by decide) (by omega) (by omega) (fun c_46 => ?_) (fun c_46 => ?_)
      · skip
        refine lv_iconst (v := (-1)) hx hb dX7_job_74 (by decide) ?_
        have hw : jobW (nI v) b sp nw n = jobK v b sp nw n := by rw [jobW, if_neg (nI_pos hv), nI_clamp hv]
        have hz : jobW (nI v) b sp nw n = 0 := by rw [hw]; simp only [jobK, if_neg c_38, if_pos c_46]
        have h1 : jobJ (nI v) b sp nw n = n := if_pos hz
        have h2 : jobR R (nI v) b sp nw n = R := if_pos hz
        have hw9 : wM cI cL cZ a r (nI nw) full (nI (jobJ (nI v) b sp nw n)) lev pr (jobR R (nI v) b sp nw n) lp ch me ru wo co = wM cI cL cZ a r (nI nw) full (nI n) lev pr R lp ch me ru wo co := by rw [h2, h1]
        rw [← hw9] at hP hD
        rw [← hQQ]
        exact W.iret (v := (-1)) hx hb hr (fun t9 ht9 hW9 => ⟨⟨_, (), rfl, (if_pos hz).symm, by rw [ht9]; exact hP, hD⟩, hS.F ht9⟩) hS.2.2 dX7_job_75
      · skip
        refine lv_iload hx hb dX7_job_49 (lv_at hl 0 rfl) ?_
        refine lv_iconst (v := 3) hx hb dX7_job_51 (by decide) ?_
        refine n_icmp_ge (x := ((v / 100) % 10)) (y := 3) (tgt := 74) hx hb dX7_job_52 (by decide) (by omega) (by omega) (fun c_52 => ?_) (fun c_52 => ?_)
        · skip
          refine lv_iconst (v := (-1)) hx hb dX7_job_74 (by decide) ?_
          have hw : jobW (nI v) b sp nw n = jobK v b sp nw n := by rw [jobW, if_neg (nI_pos hv), nI_clamp hv]
          have hz : jobW (nI v) b sp nw n = 0 := by rw [hw]; simp only [jobK, if_neg c_38, if_neg (Nat.not_lt.mpr c_46), if_pos c_52]
          have h1 : jobJ (nI v) b sp nw n = n := if_pos hz
          have h2 : jobR R (nI v) b sp nw n = R := if_pos hz
          have hw9 : wM cI cL cZ a r (nI nw) full (nI (jobJ (nI v) b sp nw n)) lev pr (jobR R (nI v) b sp nw n) lp ch me ru wo co = wM cI cL cZ a r (nI nw) full (nI n) lev pr R lp ch me ru wo co := by rw [h2, h1]
          rw [← hw9] at hP hD
          rw [← hQQ]
          exact W.iret (v := (-1)) hx hb hr (fun t9 ht9 hW9 => ⟨⟨_, (), rfl, (if_pos hz).symm, by rw [ht9]; exact hP, hD⟩, hS.F ht9⟩) hS.2.2 dX7_job_75
        · skip
          refine lv_iload_n hx hb dX7_job_55 rfl (lv_at hl 4 rfl) ?_
          refine lv_bipush (v := 10) hx hb dX7_job_56 (by decide) ?_
          refine n_idiv (x := v) (y := 10) hx hb dX7_job_58 (by omega) (by omega) (by omega) ?_
          refine lv_bipush (v := 10) hx hb dX7_job_59 (by decide) ?_
          refine n_irem (x := (v / 10)) (y := 10) hx hb dX7_job_61 (by omega) (by omega) (by omega) ?_
          refine lv_iconst (v := 5) hx hb dX7_job_62 (by decide) ?_
          refine n_icmp_gt (x := ((v / 10) % 10)) (y := 5) (tgt := 74) hx hb dX7_job_63 (by decide) (by omega) (by omega) (fun c_63 => ?_) (fun c_63 => ?_)
          · skip
            refine lv_iconst (v := (-1)) hx hb dX7_job_74 (by decide) ?_
            have hw : jobW (nI v) b sp nw n = jobK v b sp nw n := by rw [jobW, if_neg (nI_pos hv), nI_clamp hv]
            have hz : jobW (nI v) b sp nw n = 0 := by rw [hw]; simp only [jobK, if_neg c_38, if_neg (Nat.not_lt.mpr c_46), if_neg (Nat.not_le.mpr c_52), if_pos c_63]
            have h1 : jobJ (nI v) b sp nw n = n := if_pos hz
            have h2 : jobR R (nI v) b sp nw n = R := if_pos hz
            have hw9 : wM cI cL cZ a r (nI nw) full (nI (jobJ (nI v) b sp nw n)) lev pr (jobR R (nI v) b sp nw n) lp ch me ru wo co = wM cI cL cZ a r (nI nw) full (nI n) lev pr R lp ch me ru wo co := by rw [h2, h1]
            rw [← hw9] at hP hD
            rw [← hQQ]
            exact W.iret (v := (-1)) hx hb hr (fun t9 ht9 hW9 => ⟨⟨_, (), rfl, (if_pos hz).symm, by rw [ht9]; exact hP, hD⟩, hS.F ht9⟩) hS.2.2 dX7_job_75
          · skip
            refine lv_iload_n hx hb dX7_job_66 rfl (lv_at hl 4 rfl) ?_
            refine lv_bipush (v := 10) hx hb dX7_job_67 (by decide) ?_
            refine n_irem (x := v) (y := 10) hx hb dX7_job_69 (by omega) (by omega) (by omega) ?_
            refine lv_iconst (v := 5) hx hb dX7_job_70 (by decide) ?_
            refine n_icmp_le (x := (v % 10)) (y := 5) (tgt := 76) hx hb dX7_job_71 (by decide) (by omega) (by omega) (fun c_71 => ?_) (fun c_71 => ?_)
            · skip
              refine lv_iload_n hx hb dX7_job_76 rfl (lv_at hl 5 rfl) ?_
              refine lv_iconst (v := 0) hx hb dX7_job_77 (by decide) ?_
              refine lv_sipush (v := 999) hx hb dX7_job_78 (by decide) ?_
              refine roSi (As := [.int b, .int 0, .int 999]) (rest := []) ⟨hx, hb, hml, hown, hts⟩ (c_X7_in l D cI cL cZ cO b 0 999 ) (va_cwS 3 hts gX7_job_X7_in rfl rfl rfl (by decide +kernel) ⟨Nat.le_of_ble_eq_true rfl, Nat.le_of_ble_eq_true rfl⟩) hO (fun k q h => by simp at h) rfl hl.1 rfl (Nat.le_of_ble_eq_true rfl) dX7_job_81 ⟨Nat.le_of_ble_eq_true rfl, Nat.le_of_ble_eq_true rfl⟩ (fun r_81 e_81 => ?_)
              obtain rfl : r_81 = wi b 0 999 := e_81
              refine lv_if_eq (tgt := 118) hx hb dX7_job_84 (by decide) (fun c_84 => ?_) (fun c_84 => ?_)
              · skip
                refine lv_iconst (v := (-1)) hx hb dX7_job_118 (by decide) ?_
                have hw : jobW (nI v) b sp nw n = jobK v b sp nw n := by rw [jobW, if_neg (nI_pos hv), nI_clamp hv]
                have hz : jobW (nI v) b sp nw n = 0 := by rw [hw]; simp only [jobK, if_neg c_38, if_neg (Nat.not_lt.mpr c_46), if_neg (Nat.not_le.mpr c_52), if_neg (Nat.not_lt.mpr c_63), if_pos c_71, if_pos c_84]
                have h1 : jobJ (nI v) b sp nw n = n := if_pos hz
                have h2 : jobR R (nI v) b sp nw n = R := if_pos hz
                have hw9 : wM cI cL cZ a r (nI nw) full (nI (jobJ (nI v) b sp nw n)) lev pr (jobR R (nI v) b sp nw n) lp ch me ru wo co = wM cI cL cZ a r (nI nw) full (nI n) lev pr R lp ch me ru wo co := by rw [h2, h1]
                rw [← hw9] at hP hD
                rw [← hQQ]
                exact W.iret (v := (-1)) hx hb hr (fun t9 ht9 hW9 => ⟨⟨_, (), rfl, (if_pos hz).symm, by rw [ht9]; exact hP, hD⟩, hS.F ht9⟩) hS.2.2 dX7_job_119
              · skip
                refine lv_iload_n hx hb dX7_job_87 rfl (lv_at hl 6 rfl) ?_
                refine lv_iconst (v := 1) hx hb dX7_job_88 (by decide) ?_
                refine lv_bipush (v := 60) hx hb dX7_job_89 (by decide) ?_
                refine roSi (As := [.int sp, .int 1, .int 60]) (rest := []) ⟨hx, hb, hml, hown, hts⟩ (c_X7_in l D cI cL cZ cO sp 1 60 ) (va_cwS 3 hts gX7_job_X7_in rfl rfl rfl (by decide +kernel) ⟨Nat.le_of_ble_eq_true rfl, Nat.le_of_ble_eq_true rfl⟩) hO (fun k q h => by simp at h) rfl hl.1 rfl (Nat.le_of_ble_eq_true rfl) dX7_job_91 ⟨Nat.le_of_ble_eq_true rfl, Nat.le_of_ble_eq_true rfl⟩ (fun r_91 e_91 => ?_)
                obtain rfl : r_91 = wi sp 1 60 := e_91
                refine lv_if_eq (tgt := 118) hx hb dX7_job_94 (by decide) (fun c_94 => ?_) (fun c_94 => ?_)
                · skip
                  refine lv_iconst (v := (-1)) hx hb dX7_job_118 (by decide) ?_
                  have hw : jobW (nI v) b sp nw n = jobK v b sp nw n := by rw [jobW, if_neg (nI_pos hv), nI_clamp hv]
                  have hz : jobW (nI v) b sp nw n = 0 := by rw [hw]; simp only [jobK, if_neg c_38, if_neg (Nat.not_lt.mpr c_46), if_neg (Nat.not_le.mpr c_52), if_neg (Nat.not_lt.mpr c_63), if_pos c_71, if_neg c_84, if_pos c_94]
                  have h1 : jobJ (nI v) b sp nw n = n := if_pos hz
                  have h2 : jobR R (nI v) b sp nw n = R := if_pos hz
                  have hw9 : wM cI cL cZ a r (nI nw) full (nI (jobJ (nI v) b sp nw n)) lev pr (jobR R (nI v) b sp nw n) lp ch me ru wo co = wM cI cL cZ a r (nI nw) full (nI n) lev pr R lp ch me ru wo co := by rw [h2, h1]
                  rw [← hw9] at hP hD
                  rw [← hQQ]
                  exact W.iret (v := (-1)) hx hb hr (fun t9 ht9 hW9 => ⟨⟨_, (), rfl, (if_pos hz).symm, by rw [ht9]; exact hP, hD⟩, hS.F ht9⟩) hS.2.2 dX7_job_119
                · skip
                  refine lv_iload hx hb dX7_job_97 (lv_at hl 2 rfl) ?_
                  refine lv_iload hx hb dX7_job_99 (lv_at hl 1 rfl) ?_
                  refine lv_aload_n hx hb dX7_job_101 rfl (lv_at hl 3 rfl) ?_
                  refine va_get (D := D) (cl := vwCl) (ci := 6) (v := .int (nI nw)) (C := RX7) (T := TX7) (N := 35) hx hb hts (fun _ h => List.mem_cons_of_mem _ (List.mem_append_right _ h)) hown hK hP 0 rfl rfl 0 (by decide) (hts (.fieldLink RX7 116 "CheapHoursModel" "now" "I") (by decide +kernel)) (fun _ h9 => h9) rfl dX7_job_102 ?_
                  refine lv_isub hx hb dX7_job_105 ?_
                  refine lv_icmp_gt (tgt := 118) hx hb dX7_job_106 (by decide) (fun c_106 => ?_) (fun c_106 => ?_)
                  · skip
                    refine lv_iconst (v := (-1)) hx hb dX7_job_118 (by decide) ?_
                    have hw : jobW (nI v) b sp nw n = jobK v b sp nw n := by rw [jobW, if_neg (nI_pos hv), nI_clamp hv]
                    have hz : jobW (nI v) b sp nw n = 0 := by rw [hw]; simp only [jobK, if_neg c_38, if_neg (Nat.not_lt.mpr c_46), if_neg (Nat.not_le.mpr c_52), if_neg (Nat.not_lt.mpr c_63), if_pos c_71, if_neg c_84, if_neg c_94, if_pos c_106]
                    have h1 : jobJ (nI v) b sp nw n = n := if_pos hz
                    have h2 : jobR R (nI v) b sp nw n = R := if_pos hz
                    have hw9 : wM cI cL cZ a r (nI nw) full (nI (jobJ (nI v) b sp nw n)) lev pr (jobR R (nI v) b sp nw n) lp ch me ru wo co = wM cI cL cZ a r (nI nw) full (nI n) lev pr R lp ch me ru wo co := by rw [h2, h1]
                    rw [← hw9] at hP hD
                    rw [← hQQ]
                    exact W.iret (v := (-1)) hx hb hr (fun t9 ht9 hW9 => ⟨⟨_, (), rfl, (if_pos hz).symm, by rw [ht9]; exact hP, hD⟩, hS.F ht9⟩) hS.2.2 dX7_job_119
                  · skip
                    refine lv_aload_n hx hb dX7_job_109 rfl (lv_at hl 3 rfl) ?_
                    refine va_get (D := D) (cl := vwCl) (ci := 6) (v := .int (nI n)) (C := RX7) (T := TX7) (N := 35) hx hb hts (fun _ h => List.mem_cons_of_mem _ (List.mem_append_right _ h)) hown hK hP 0 rfl rfl 3 (by decide) (hts (.fieldLink RX7 109 "CheapHoursModel" "jobs" "I") (by decide +kernel)) (fun _ h9 => h9) rfl dX7_job_110 ?_
                    refine lv_bipush (v := 12) hx hb dX7_job_113 (by decide) ?_
                    refine n_icmp_ne (x := n) (y := 12) (tgt := 120) hx hb dX7_job_115 (by decide) (by omega) (by omega) (fun c_115 => ?_) (fun c_115 => ?_)
                    · skip
                      rw [← va_up_id R n] at hP hD
                      rw [hz0] at hP hD
                      have hj : n < 12 := by omega
                      refine lv_aload_n hx hb dX7_job_120 rfl (lv_at hl 3 rfl) ?_
                      refine va_get (D := D) (cl := vwCl) (ci := 6) (v := .ref (r 0)) (C := RX7) (T := TX7) (N := 35) hx hb hts (fun _ h => List.mem_cons_of_mem _ (List.mem_append_right _ h)) hown hK hP 0 rfl rfl 4 (by decide) (hts (.fieldLink RX7 17 "CheapHoursModel" "work" "[I") (by decide +kernel)) (fun _ h9 => h9) rfl dX7_job_121 ?_
                      refine lv_aload_n hx hb dX7_job_124 rfl (lv_at hl 3 rfl) ?_
                      refine va_get (D := D) (cl := vwCl) (ci := 6) (v := .int (nI n)) (C := RX7) (T := TX7) (N := 35) hx hb hts (fun _ h => List.mem_cons_of_mem _ (List.mem_append_right _ h)) hown hK hP 0 rfl rfl 3 (by decide) (hts (.fieldLink RX7 109 "CheapHoursModel" "jobs" "I") (by decide +kernel)) (fun _ h9 => h9) rfl dX7_job_125 ?_
                      refine lv_iload hx hb dX7_job_128 (lv_at hl 2 rfl) ?_
                      refine jst hx hb hK hP hD hS 0 (by decide) hj dX7_job_130 (fun H locs hP hD hS => ?_)
                      obtain ⟨x130, ex130⟩ : ∃ z : Nat → Int32, z = va_up (fun _ => 0) 0 (nI (v / 1000000)) := ⟨_, rfl⟩
                      rw [← ex130] at hP hD
                      refine lv_aload_n hx hb dX7_job_131 rfl (lv_at hl 3 rfl) ?_
                      refine va_get (D := D) (cl := vwCl) (ci := 6) (v := .ref (r 1)) (C := RX7) (T := TX7) (N := 35) hx hb hts (fun _ h => List.mem_cons_of_mem _ (List.mem_append_right _ h)) hown hK hP 0 rfl rfl 5 (by decide) (hts (.fieldLink RX7 20 "CheapHoursModel" "due" "[I") (by decide +kernel)) (fun _ h9 => h9) rfl dX7_job_132 ?_
                      refine lv_aload_n hx hb dX7_job_135 rfl (lv_at hl 3 rfl) ?_
                      refine va_get (D := D) (cl := vwCl) (ci := 6) (v := .int (nI n)) (C := RX7) (T := TX7) (N := 35) hx hb hts (fun _ h => List.mem_cons_of_mem _ (List.mem_append_right _ h)) hown hK hP 0 rfl rfl 3 (by decide) (hts (.fieldLink RX7 109 "CheapHoursModel" "jobs" "I") (by decide +kernel)) (fun _ h9 => h9) rfl dX7_job_136 ?_
                      refine lv_iload hx hb dX7_job_139 (lv_at hl 1 rfl) ?_
                      refine jst hx hb hK hP hD hS 1 (by decide) hj dX7_job_141 (fun H locs hP hD hS => ?_)
                      obtain ⟨x141, ex141⟩ : ∃ z : Nat → Int32, z = va_up x130 1 (nI ((v / 1000) % 1000)) := ⟨_, rfl⟩
                      rw [← ex141] at hP hD
                      refine lv_aload_n hx hb dX7_job_142 rfl (lv_at hl 3 rfl) ?_
                      refine va_get (D := D) (cl := vwCl) (ci := 6) (v := .ref (r 2)) (C := RX7) (T := TX7) (N := 35) hx hb hts (fun _ h => List.mem_cons_of_mem _ (List.mem_append_right _ h)) hown hK hP 0 rfl rfl 6 (by decide) (hts (.fieldLink RX7 23 "CheapHoursModel" "market" "[I") (by decide +kernel)) (fun _ h9 => h9) rfl dX7_job_143 ?_
                      refine lv_aload_n hx hb dX7_job_146 rfl (lv_at hl 3 rfl) ?_
                      refine va_get (D := D) (cl := vwCl) (ci := 6) (v := .int (nI n)) (C := RX7) (T := TX7) (N := 35) hx hb hts (fun _ h => List.mem_cons_of_mem _ (List.mem_append_right _ h)) hown hK hP 0 rfl rfl 3 (by decide) (hts (.fieldLink RX7 109 "CheapHoursModel" "jobs" "I") (by decide +kernel)) (fun _ h9 => h9) rfl dX7_job_147 ?_
                      refine lv_iload hx hb dX7_job_150 (lv_at hl 0 rfl) ?_
                      refine jst hx hb hK hP hD hS 2 (by decide) hj dX7_job_152 (fun H locs hP hD hS => ?_)
                      obtain ⟨x152, ex152⟩ : ∃ z : Nat → Int32, z = va_up x141 2 (nI ((v / 100) % 10)) := ⟨_, rfl⟩
                      rw [← ex152] at hP hD
                      refine lv_aload_n hx hb dX7_job_153 rfl (lv_at hl 3 rfl) ?_
                      refine va_get (D := D) (cl := vwCl) (ci := 6) (v := .ref (r 5)) (C := RX7) (T := TX7) (N := 35) hx hb hts (fun _ h => List.mem_cons_of_mem _ (List.mem_append_right _ h)) hown hK hP 0 rfl rfl 9 (by decide) (hts (.fieldLink RX7 32 "CheapHoursModel" "save" "[I") (by decide +kernel)) (fun _ h9 => h9) rfl dX7_job_154 ?_
                      refine lv_aload_n hx hb dX7_job_157 rfl (lv_at hl 3 rfl) ?_
                      refine va_get (D := D) (cl := vwCl) (ci := 6) (v := .int (nI n)) (C := RX7) (T := TX7) (N := 35) hx hb hts (fun _ h => List.mem_cons_of_mem _ (List.mem_append_right _ h)) hown hK hP 0 rfl rfl 3 (by decide) (hts (.fieldLink RX7 109 "CheapHoursModel" "jobs" "I") (by decide +kernel)) (fun _ h9 => h9) rfl dX7_job_158 ?_
                      refine lv_iload_n hx hb dX7_job_161 rfl (lv_at hl 4 rfl) ?_
                      refine lv_bipush (v := 10) hx hb dX7_job_162 (by decide) ?_
                      refine n_idiv (x := v) (y := 10) hx hb dX7_job_164 (by omega) (by omega) (by omega) ?_
                      refine lv_bipush (v := 10) hx hb dX7_job_165 (by decide) ?_
                      refine n_irem (x := (v / 10)) (y := 10) hx hb dX7_job_167 (by omega) (by omega) (by omega) ?_
                      refine jst hx hb hK hP hD hS 5 (by decide) hj dX7_job_168 (fun H locs hP hD hS => ?_)
                      obtain ⟨x168, ex168⟩ : ∃ z : Nat → Int32, z = va_up x152 5 (nI ((v / 10) % 10)) := ⟨_, rfl⟩
                      rw [← ex168] at hP hD
                      refine lv_aload_n hx hb dX7_job_169 rfl (lv_at hl 3 rfl) ?_
                      refine va_get (D := D) (cl := vwCl) (ci := 6) (v := .ref (r 6)) (C := RX7) (T := TX7) (N := 35) hx hb hts (fun _ h => List.mem_cons_of_mem _ (List.mem_append_right _ h)) hown hK hP 0 rfl rfl 10 (by decide) (hts (.fieldLink RX7 35 "CheapHoursModel" "bring" "[I") (by decide +kernel)) (fun _ h9 => h9) rfl dX7_job_170 ?_
                      refine lv_aload_n hx hb dX7_job_173 rfl (lv_at hl 3 rfl) ?_
                      refine va_get (D := D) (cl := vwCl) (ci := 6) (v := .int (nI n)) (C := RX7) (T := TX7) (N := 35) hx hb hts (fun _ h => List.mem_cons_of_mem _ (List.mem_append_right _ h)) hown hK hP 0 rfl rfl 3 (by decide) (hts (.fieldLink RX7 109 "CheapHoursModel" "jobs" "I") (by decide +kernel)) (fun _ h9 => h9) rfl dX7_job_174 ?_
                      refine lv_iload_n hx hb dX7_job_177 rfl (lv_at hl 4 rfl) ?_
                      refine lv_bipush (v := 10) hx hb dX7_job_178 (by decide) ?_
                      refine n_irem (x := v) (y := 10) hx hb dX7_job_180 (by omega) (by omega) (by omega) ?_
                      refine jst hx hb hK hP hD hS 6 (by decide) hj dX7_job_181 (fun H locs hP hD hS => ?_)
                      obtain ⟨x181, ex181⟩ : ∃ z : Nat → Int32, z = va_up x168 6 (nI (v % 10)) := ⟨_, rfl⟩
                      rw [← ex181] at hP hD
                      refine lv_aload_n hx hb dX7_job_182 rfl (lv_at hl 3 rfl) ?_
                      refine va_get (D := D) (cl := vwCl) (ci := 6) (v := .ref (r 3)) (C := RX7) (T := TX7) (N := 35) hx hb hts (fun _ h => List.mem_cons_of_mem _ (List.mem_append_right _ h)) hown hK hP 0 rfl rfl 7 (by decide) (hts (.fieldLink RX7 26 "CheapHoursModel" "bid" "[I") (by decide +kernel)) (fun _ h9 => h9) rfl dX7_job_183 ?_
                      refine lv_aload_n hx hb dX7_job_186 rfl (lv_at hl 3 rfl) ?_
                      refine va_get (D := D) (cl := vwCl) (ci := 6) (v := .int (nI n)) (C := RX7) (T := TX7) (N := 35) hx hb hts (fun _ h => List.mem_cons_of_mem _ (List.mem_append_right _ h)) hown hK hP 0 rfl rfl 3 (by decide) (hts (.fieldLink RX7 109 "CheapHoursModel" "jobs" "I") (by decide +kernel)) (fun _ h9 => h9) rfl dX7_job_187 ?_
                      refine lv_iload_n hx hb dX7_job_190 rfl (lv_at hl 5 rfl) ?_
                      refine jst hx hb hK hP hD hS 3 (by decide) hj dX7_job_191 (fun H locs hP hD hS => ?_)
                      obtain ⟨x191, ex191⟩ : ∃ z : Nat → Int32, z = va_up x181 3 b := ⟨_, rfl⟩
                      rw [← ex191] at hP hD
                      refine lv_aload_n hx hb dX7_job_192 rfl (lv_at hl 3 rfl) ?_
                      refine va_get (D := D) (cl := vwCl) (ci := 6) (v := .ref (r 4)) (C := RX7) (T := TX7) (N := 35) hx hb hts (fun _ h => List.mem_cons_of_mem _ (List.mem_append_right _ h)) hown hK hP 0 rfl rfl 8 (by decide) (hts (.fieldLink RX7 29 "CheapHoursModel" "spanOf" "[I") (by decide +kernel)) (fun _ h9 => h9) rfl dX7_job_193 ?_
                      refine lv_aload_n hx hb dX7_job_196 rfl (lv_at hl 3 rfl) ?_
                      refine va_get (D := D) (cl := vwCl) (ci := 6) (v := .int (nI n)) (C := RX7) (T := TX7) (N := 35) hx hb hts (fun _ h => List.mem_cons_of_mem _ (List.mem_append_right _ h)) hown hK hP 0 rfl rfl 3 (by decide) (hts (.fieldLink RX7 109 "CheapHoursModel" "jobs" "I") (by decide +kernel)) (fun _ h9 => h9) rfl dX7_job_197 ?_
                      refine lv_iload_n hx hb dX7_job_200 rfl (lv_at hl 6 rfl) ?_
                      refine jst hx hb hK hP hD hS 4 (by decide) hj dX7_job_201 (fun H locs hP hD hS => ?_)
                      obtain ⟨x201, ex201⟩ : ∃ z : Nat → Int32, z = va_up x191 4 sp := ⟨_, rfl⟩
                      rw [← ex201] at hP hD
                      refine lv_aload_n hx hb dX7_job_202 rfl (lv_at hl 3 rfl) ?_
                      refine va_get (D := D) (cl := vwCl) (ci := 6) (v := .ref (r 7)) (C := RX7) (T := TX7) (N := 35) hx hb hts (fun _ h => List.mem_cons_of_mem _ (List.mem_append_right _ h)) hown hK hP 0 rfl rfl 11 (by decide) (hts (.fieldLink RX7 38 "CheapHoursModel" "cameAt" "[I") (by decide +kernel)) (fun _ h9 => h9) rfl dX7_job_203 ?_
                      refine lv_aload_n hx hb dX7_job_206 rfl (lv_at hl 3 rfl) ?_
                      refine va_get (D := D) (cl := vwCl) (ci := 6) (v := .int (nI n)) (C := RX7) (T := TX7) (N := 35) hx hb hts (fun _ h => List.mem_cons_of_mem _ (List.mem_append_right _ h)) hown hK hP 0 rfl rfl 3 (by decide) (hts (.fieldLink RX7 109 "CheapHoursModel" "jobs" "I") (by decide +kernel)) (fun _ h9 => h9) rfl dX7_job_207 ?_
                      refine lv_aload_n hx hb dX7_job_210 rfl (lv_at hl 3 rfl) ?_
                      refine va_get (D := D) (cl := vwCl) (ci := 6) (v := .int (nI nw)) (C := RX7) (T := TX7) (N := 35) hx hb hts (fun _ h => List.mem_cons_of_mem _ (List.mem_append_right _ h)) hown hK hP 0 rfl rfl 0 (by decide) (hts (.fieldLink RX7 116 "CheapHoursModel" "now" "I") (by decide +kernel)) (fun _ h9 => h9) rfl dX7_job_211 ?_
                      refine jst hx hb hK hP hD hS 7 (by decide) hj dX7_job_214 (fun H locs hP hD hS => ?_)
                      obtain ⟨x214, ex214⟩ : ∃ z : Nat → Int32, z = va_up x201 7 (nI nw) := ⟨_, rfl⟩
                      rw [← ex214] at hP hD
                      refine lv_aload_n hx hb dX7_job_215 rfl (lv_at hl 3 rfl) ?_
                      refine va_get (D := D) (cl := vwCl) (ci := 6) (v := .ref (r 18)) (C := RX7) (T := TX7) (N := 35) hx hb hts (fun _ h => List.mem_cons_of_mem _ (List.mem_append_right _ h)) hown hK hP 0 rfl rfl 22 (by decide) (hts (.fieldLink RX7 71 "CheapHoursModel" "readyAt" "[I") (by decide +kernel)) (fun _ h9 => h9) rfl dX7_job_216 ?_
                      refine lv_aload_n hx hb dX7_job_219 rfl (lv_at hl 3 rfl) ?_
                      refine va_get (D := D) (cl := vwCl) (ci := 6) (v := .int (nI n)) (C := RX7) (T := TX7) (N := 35) hx hb hts (fun _ h => List.mem_cons_of_mem _ (List.mem_append_right _ h)) hown hK hP 0 rfl rfl 3 (by decide) (hts (.fieldLink RX7 109 "CheapHoursModel" "jobs" "I") (by decide +kernel)) (fun _ h9 => h9) rfl dX7_job_220 ?_
                      refine lv_iconst (v := (-1)) hx hb dX7_job_223 (by decide) ?_
                      refine jst hx hb hK hP hD hS 18 (by decide) hj dX7_job_224 (fun H locs hP hD hS => ?_)
                      obtain ⟨x224, ex224⟩ : ∃ z : Nat → Int32, z = va_up x214 18 (-1) := ⟨_, rfl⟩
                      rw [← ex224] at hP hD
                      refine lv_aload_n hx hb dX7_job_225 rfl (lv_at hl 3 rfl) ?_
                      refine lv_dup hx hb dX7_job_226 rfl ?_
                      refine va_get (D := D) (cl := vwCl) (ci := 6) (v := .int (nI n)) (C := RX7) (T := TX7) (N := 35) hx hb hts (fun _ h => List.mem_cons_of_mem _ (List.mem_append_right _ h)) hown hK hP 0 rfl rfl 3 (by decide) (hts (.fieldLink RX7 109 "CheapHoursModel" "jobs" "I") (by decide +kernel)) (fun _ h9 => h9) rfl dX7_job_227 ?_
                      refine lv_iconst (v := 1) hx hb dX7_job_230 (by decide) ?_
                      refine n_iadd (x := n) (y := 1) hx hb dX7_job_231 ?_
                      refine va_put (D := D) (cl := vwCl) (ci := 6) (v := .int (nI (n + 1))) (ty := .int) (C := RX7) (T := TX7) (N := 35) hx hb hts (fun _ h => List.mem_cons_of_mem _ (List.mem_append_right _ h)) tyX7 tyX7_ok nmX7 hown hK hP hD hS 0 rfl rfl 3 (by decide) (hts (.fieldLink RX7 109 "CheapHoursModel" "jobs" "I") (by decide +kernel)) (fun _ h9 => h9) rfl (by decide +kernel) rfl rfl (Nat.le_of_ble_eq_true rfl) dX7_job_232 (fun H locs hP hD hS => ?_)
                      have hP : va_P D vwCl (wM cI cL cZ a r (nI nw) full (nI (n + 1)) lev pr (va_up R n x224) lp ch me ru wo co) H := hP
                      have hD : va_D A (wM cI cL cZ a r (nI nw) full (nI (n + 1)) lev pr (va_up R n x224) lp ch me ru wo co) := hD
                      refine lv_aload_n hx hb dX7_job_235 rfl (lv_at hl 3 rfl) ?_
                      refine va_get (D := D) (cl := vwCl) (ci := 6) (v := .int (nI (n + 1))) (C := RX7) (T := TX7) (N := 35) hx hb hts (fun _ h => List.mem_cons_of_mem _ (List.mem_append_right _ h)) hown hK hP 0 rfl rfl 3 (by decide) (hts (.fieldLink RX7 109 "CheapHoursModel" "jobs" "I") (by decide +kernel)) (fun _ h9 => h9) rfl dX7_job_236 ?_
                      refine lv_iconst (v := 1) hx hb dX7_job_239 (by decide) ?_
                      refine n_isub (x := (n + 1)) (y := 1) hx hb dX7_job_240 (by omega) ?_
                      have hw : jobW (nI v) b sp nw n = jobK v b sp nw n := by rw [jobW, if_neg (nI_pos hv), nI_clamp hv]
                      have hz : jobW (nI v) b sp nw n = 1 := by rw [hw]; simp only [jobK, if_neg c_38, if_neg (Nat.not_lt.mpr c_46), if_neg (Nat.not_le.mpr c_52), if_neg (Nat.not_lt.mpr c_63), if_pos c_71, if_neg c_84, if_neg c_94, if_neg c_106, if_neg c_115]
                      have h9 : ¬ jobW (nI v) b sp nw n = 0 := by rw [hz]; decide
                      have h1 : jobJ (nI v) b sp nw n = n + 1 := if_neg h9
                      have h2 : jobR R (nI v) b sp nw n = va_up R n x224 := by rw [jobR, if_neg h9, nI_clamp hv]; subst_vars; rfl
                      have hw9 : wM cI cL cZ a r (nI nw) full (nI (jobJ (nI v) b sp nw n)) lev pr (jobR R (nI v) b sp nw n) lp ch me ru wo co = wM cI cL cZ a r (nI nw) full (nI (n + 1)) lev pr (va_up R n x224) lp ch me ru wo co := by rw [h2, h1]
                      rw [← hw9] at hP hD
                      rw [← hQQ]
                      exact W.iret (v := (nI ((n + 1) - 1))) hx hb hr (fun t9 ht9 hW9 => ⟨⟨_, (), rfl, (by rw [jobV, if_neg h9, Nat.add_sub_cancel]), by rw [ht9]; exact hP, hD⟩, hS.F ht9⟩) hS.2.2 dX7_job_241
                    · skip
                      refine lv_iconst (v := (-1)) hx hb dX7_job_118 (by decide) ?_
                      have hw : jobW (nI v) b sp nw n = jobK v b sp nw n := by rw [jobW, if_neg (nI_pos hv), nI_clamp hv]
                      have hz : jobW (nI v) b sp nw n = 0 := by rw [hw]; simp only [jobK, if_neg c_38, if_neg (Nat.not_lt.mpr c_46), if_neg (Nat.not_le.mpr c_52), if_neg (Nat.not_lt.mpr c_63), if_pos c_71, if_neg c_84, if_neg c_94, if_neg c_106, if_pos c_115]
                      have h1 : jobJ (nI v) b sp nw n = n := if_pos hz
                      have h2 : jobR R (nI v) b sp nw n = R := if_pos hz
                      have hw9 : wM cI cL cZ a r (nI nw) full (nI (jobJ (nI v) b sp nw n)) lev pr (jobR R (nI v) b sp nw n) lp ch me ru wo co = wM cI cL cZ a r (nI nw) full (nI n) lev pr R lp ch me ru wo co := by rw [h2, h1]
                      rw [← hw9] at hP hD
                      rw [← hQQ]
                      exact W.iret (v := (-1)) hx hb hr (fun t9 ht9 hW9 => ⟨⟨_, (), rfl, (if_pos hz).symm, by rw [ht9]; exact hP, hD⟩, hS.F ht9⟩) hS.2.2 dX7_job_119
            · skip
              refine lv_iconst (v := (-1)) hx hb dX7_job_74 (by decide) ?_
              have hw : jobW (nI v) b sp nw n = jobK v b sp nw n := by rw [jobW, if_neg (nI_pos hv), nI_clamp hv]
              have hz : jobW (nI v) b sp nw n = 0 := by rw [hw]; simp only [jobK, if_neg c_38, if_neg (Nat.not_lt.mpr c_46), if_neg (Nat.not_le.mpr c_52), if_neg (Nat.not_lt.mpr c_63), if_neg (Nat.not_le.mpr c_71)]
              have h1 : jobJ (nI v) b sp nw n = n := if_pos hz
              have h2 : jobR R (nI v) b sp nw n = R := if_pos hz
              have hw9 : wM cI cL cZ a r (nI nw) full (nI (jobJ (nI v) b sp nw n)) lev pr (jobR R (nI v) b sp nw n) lp ch me ru wo co = wM cI cL cZ a r (nI nw) full (nI n) lev pr R lp ch me ru wo co := by rw [h2, h1]
              rw [← hw9] at hP hD
              rw [← hQQ]
              exact W.iret (v := (-1)) hx hb hr (fun t9 ht9 hW9 => ⟨⟨_, (), rfl, (if_pos hz).symm, by rw [ht9]; exact hP, hD⟩, hS.F ht9⟩) hS.2.2 dX7_job_75
set_option maxHeartbeats 4000000 in
set_option maxRecDepth 100000 in
theorem c_X7_at (l : Launch) (D : va_G) (cI cL cZ cO : ClassId) (h w lx : Nat) : Met l yX7_at wsX7_at ({ frames := 0, cells := 0, slots := 0, locals := 0 } : Room) (va_Pc [.int (nI h), .int (nI w), .int (nI lx)] (Ro D cI cL cZ cO ([]))) (vp_Si (fun r => r = nI (tn h w lx))) 0 0 (fun _ => False) := by
  refine Met.ofW (cc := cX7_at) (maxL := 3) (ret := (some .int)) (by decide) rfl ?_
  intro p e s m args below meth c s₁ B hml hv
  obtain ⟨rfl, hP, hO⟩ := hv
  have hx := B.exec
  have hb := B.bytes
  have hr := B.returns
  have hts := atoms_spec (ws := wsX7_at) B.pre
  have hown : s.vm.findClass RX7 = some m.cls := findClass_of_methodNamed B.named
  have hlocks := B.notSynchronized
  have hK := hO.1
  have hl := lv_entry ([.int (nI h), .int (nI w), .int (nI lx)]) (n := 3) (Nat.le_of_ble_eq_true rfl)
  rw [lg_entry_eq]
  generalize (lg_sl ([.int (nI h), .int (nI w), .int (nI lx)]) ++ List.replicate (3 - (lg_sl ([.int (nI h), .int (nI w), .int (nI lx)])).length) Slot.unset).toArray = ls at hl ⊢
  have hl : lv_has ls 3 [(0, .int (nI h)), (1, .int (nI w)), (2, .int (nI lx))] := hl
  generalize hQQ : MQ below _ _ s _ _ _ = QQ
  refine lv_bipush (v := 6) hx hb dX7_at_0 (by decide) ?_
  refine lv_bipush (v := 13) hx hb dX7_at_2 (by decide) ?_
  refine lv_iload_n hx hb dX7_at_4 rfl (lv_at hl 0 rfl) ?_
  refine n_imul (x := 13) (y := h) hx hb dX7_at_5 ?_
  refine lv_iload_n hx hb dX7_at_6 rfl (lv_at hl 1 rfl) ?_
  refine n_iadd (x := (13 * h)) (y := w) hx hb dX7_at_7 ?_
  refine n_imul (x := 6) (y := ((13 * h) + w)) hx hb dX7_at_8 ?_
  refine lv_iload_n hx hb dX7_at_9 rfl (lv_at hl 2 rfl) ?_
  refine n_iadd (x := (6 * ((13 * h) + w))) (y := lx) hx hb dX7_at_10 ?_
  rw [← hQQ]
  exact W.iret (v := (nI ((6 * ((13 * h) + w)) + lx))) hx hb hr (fun t9 ht9 hW9 => ⟨_, rfl, rfl, ht9⟩) (fun q h => by cases h) dX7_at_11
set_option maxHeartbeats 4000000 in
set_option maxRecDepth 100000 in
theorem c_X7_isState (l : Launch) (D : va_G) (cI cL cZ cO : ClassId) (a : Nat) (r : Nat → Nat) (now full jobs : Int32) (pr : Nat → Int32) (R : Nat → Nat → Int32) (lp ch : Nat → Int32) (me : Nat → Int64) (ru wo co : Nat → Int32) (L : Nat) (x y z : Int32) : Met l yX7_isState wsX7_isState ({ frames := 1, cells := 0, slots := 0, locals := 22 } : Room) (va_Pc [.ref a, .int x, .int y, .int z] (Ro D cI cL cZ cO (wM cI cL cZ a r now full jobs (nI L) pr R lp ch me ru wo co))) (vp_Si (fun r => r = stOk x y z L)) 0 0 (fun _ => False) := by
  refine Met.ofW (cc := cX7_isState) (maxL := 4) (ret := (some .boolean)) (by decide) rfl ?_
  intro p e s m args below meth c s₁ B hml hv
  obtain ⟨rfl, hP, hO⟩ := hv
  have hx := B.exec
  have hb := B.bytes
  have hr := B.returns
  have hts := atoms_spec (ws := wsX7_isState) B.pre
  have hown : s.vm.findClass RX7 = some m.cls := findClass_of_methodNamed B.named
  have hlocks := B.notSynchronized
  have hK := hO.1
  have hl := lv_entry ([.ref a, .int x, .int y, .int z]) (n := 4) (Nat.le_of_ble_eq_true rfl)
  rw [lg_entry_eq]
  generalize (lg_sl ([.ref a, .int x, .int y, .int z]) ++ List.replicate (4 - (lg_sl ([.ref a, .int x, .int y, .int z])).length) Slot.unset).toArray = ls at hl ⊢
  have hl : lv_has ls 4 [(0, .ref a), (1, .int x), (2, .int y), (3, .int z)] := hl
  generalize hQQ : MQ below _ _ s _ _ _ = QQ
  refine lv_iload_n hx hb dX7_isState_0 rfl (lv_at hl 1 rfl) ?_
  refine lv_iconst (v := 0) hx hb dX7_isState_1 (by decide) ?_
  refine lv_bipush (v := 12) hx hb dX7_isState_2 (by decide) ?_
  refine roSi (As := [.int x, .int 0, .int 12]) (rest := []) ⟨hx, hb, hml, hown, hts⟩ (c_X7_in l D cI cL cZ cO x 0 12 ) (va_cwS 3 hts gX7_isState_X7_in rfl rfl rfl (by decide +kernel) ⟨Nat.le_of_ble_eq_true rfl, Nat.le_of_ble_eq_true rfl⟩) hO (fun k q h => by simp at h) rfl hl.1 rfl (Nat.le_of_ble_eq_true rfl) dX7_isState_4 ⟨Nat.le_of_ble_eq_true rfl, Nat.le_of_ble_eq_true rfl⟩ (fun r_4 e_4 => ?_)
  obtain rfl : r_4 = wi x 0 12 := e_4
  refine lv_if_eq (tgt := 37) hx hb dX7_isState_7 (by decide) (fun c_7 => ?_) (fun c_7 => ?_)
  · skip
    refine lv_iconst (v := 0) hx hb dX7_isState_37 (by decide) ?_
    rw [← hQQ]
    exact W.zret (v := 0) hx hb hr rfl (fun t9 ht9 hW9 => ⟨_, rfl, by simp only [stOk, if_pos c_7], ht9⟩) (fun q h => by cases h) dX7_isState_38
  · skip
    refine lv_iload_n hx hb dX7_isState_10 rfl (lv_at hl 2 rfl) ?_
    refine lv_iconst (v := 0) hx hb dX7_isState_11 (by decide) ?_
    refine lv_iload_n hx hb dX7_isState_12 rfl (lv_at hl 1 rfl) ?_
    refine roSi (As := [.int y, .int 0, .int x]) (rest := []) ⟨hx, hb, hml, hown, hts⟩ (c_X7_in l D cI cL cZ cO y 0 x ) (va_cwS 3 hts gX7_isState_X7_in rfl rfl rfl (by decide +kernel) ⟨Nat.le_of_ble_eq_true rfl, Nat.le_of_ble_eq_true rfl⟩) hO (fun k q h => by simp at h) rfl hl.1 rfl (Nat.le_of_ble_eq_true rfl) dX7_isState_13 ⟨Nat.le_of_ble_eq_true rfl, Nat.le_of_ble_eq_true rfl⟩ (fun r_13 e_13 => ?_)
    obtain rfl : r_13 = wi y 0 x := e_13
    refine lv_if_eq (tgt := 37) hx hb dX7_isState_16 (by decide) (fun c_16 => ?_) (fun c_16 => ?_)
    · skip
      refine lv_iconst (v := 0) hx hb dX7_isState_37 (by decide) ?_
      rw [← hQQ]
      exact W.zret (v := 0) hx hb hr rfl (fun t9 ht9 hW9 => ⟨_, rfl, by simp only [stOk, if_neg c_7, if_pos c_16], ht9⟩) (fun q h => by cases h) dX7_isState_38
    · skip
      refine lv_iload_n hx hb dX7_isState_19 rfl (lv_at hl 3 rfl) ?_
      refine lv_iconst (v := 0) hx hb dX7_isState_20 (by decide) ?_
      refine lv_aload_n hx hb dX7_isState_21 rfl (lv_at hl 0 rfl) ?_
      refine va_get (D := D) (cl := vwCl) (ci := 6) (v := .int (nI L)) (C := RX7) (T := TX7) (N := 35) hx hb hts (fun _ h => List.mem_cons_of_mem _ (List.mem_append_right _ h)) hown hK hP 0 rfl rfl 28 (by decide) (hts (.fieldLink RX7 162 "CheapHoursModel" "levels" "I") (List.mem_of_getElem? (i := 1) rfl)) (fun _ h9 => h9) rfl dX7_isState_22 ?_
      refine lv_iconst (v := 1) hx hb dX7_isState_25 (by decide) ?_
      refine lv_isub hx hb dX7_isState_26 ?_
      refine roSi (As := [.int z, .int 0, .int ((nI L) - 1)]) (rest := []) ⟨hx, hb, hml, hown, hts⟩ (c_X7_in l D cI cL cZ cO z 0 ((nI L) - 1) ) (va_cwS 3 hts gX7_isState_X7_in rfl rfl rfl (by decide +kernel) ⟨Nat.le_of_ble_eq_true rfl, Nat.le_of_ble_eq_true rfl⟩) hO (fun k q h => by simp at h) rfl hl.1 rfl (Nat.le_of_ble_eq_true rfl) dX7_isState_27 ⟨Nat.le_of_ble_eq_true rfl, Nat.le_of_ble_eq_true rfl⟩ (fun r_27 e_27 => ?_)
      obtain rfl : r_27 = wi z 0 ((nI L) - 1) := e_27
      refine lv_if_eq (tgt := 37) hx hb dX7_isState_30 (by decide) (fun c_30 => ?_) (fun c_30 => ?_)
      · skip
        refine lv_iconst (v := 0) hx hb dX7_isState_37 (by decide) ?_
        rw [← hQQ]
        exact W.zret (v := 0) hx hb hr rfl (fun t9 ht9 hW9 => ⟨_, rfl, by simp only [stOk, if_neg c_7, if_neg c_16, if_pos c_30], ht9⟩) (fun q h => by cases h) dX7_isState_38
      · skip
        refine lv_iconst (v := 1) hx hb dX7_isState_33 (by decide) ?_
        refine lv_goto (tgt := 38) hx hb dX7_isState_34 (by decide) ?_
        rw [← hQQ]
        exact W.zret (v := 1) hx hb hr rfl (fun t9 ht9 hW9 => ⟨_, rfl, by simp only [stOk, if_neg c_7, if_neg c_16, if_neg c_30], ht9⟩) (fun q h => by cases h) dX7_isState_38
set_option maxHeartbeats 4000000 in
set_option maxRecDepth 100000 in
theorem c_X7_next (l : Launch) (D : va_G) (cI cL cZ cO : ClassId) (a : Nat) (r : Nat → Nat) (now full jobs : Int32) (pr : Nat → Int32) (R : Nat → Nat → Int32) (lp ch : Nat → Int32) (me : Nat → Int64) (ru wo co : Nat → Int32) (L : Nat) (h w lx : Nat) (hL : L ≤ 6) (hh : 1 ≤ h ∧ h ≤ 12) (hw : w ≤ 12) (hl9 : lx < L) : Met l yX7_next wsX7_next ({ frames := 1, cells := 0, slots := 0, locals := 22 } : Room) (va_Pc [.ref a, .int (nI h), .int (nI w), .int (nI lx)] (Ro D cI cL cZ cO (wM cI cL cZ a r now full jobs (nI L) pr R lp ch me ru wo co))) (vp_Sl (fun r => r = nxS ch (fun k => me (tn (h - 1) w k)) lx L)) 0 0 (fun _ => False) := by
  refine Met.ofW (cc := cX7_next) (maxL := 7) (ret := (some .long)) (by decide) rfl ?_
  intro p e s m args below meth c s₁ B hml hv
  obtain ⟨rfl, hP, hO⟩ := hv
  have hx := B.exec
  have hb := B.bytes
  have hr := B.returns
  have hts := atoms_spec (ws := wsX7_next) B.pre
  have hown : s.vm.findClass RX7 = some m.cls := findClass_of_methodNamed B.named
  have hlocks := B.notSynchronized
  have hK := hO.1
  have hl := lv_entry ([.ref a, .int (nI h), .int (nI w), .int (nI lx)]) (n := 7) (Nat.le_of_ble_eq_true rfl)
  rw [lg_entry_eq]
  generalize (lg_sl ([.ref a, .int (nI h), .int (nI w), .int (nI lx)]) ++ List.replicate (7 - (lg_sl ([.ref a, .int (nI h), .int (nI w), .int (nI lx)])).length) Slot.unset).toArray = ls at hl ⊢
  have hl : lv_has ls 7 [(0, .ref a), (1, .int (nI h)), (2, .int (nI w)), (3, .int (nI lx))] := hl
  generalize hQQ : MQ below _ _ s _ _ _ = QQ
  refine lv_lconst (v := 0) hx hb dX7_next_0 (by decide) ?_
  refine lv_lstore (lv' := [(4, .long 0), (0, .ref a), (1, .int (nI h)), (2, .int (nI w)), (3, .int (nI lx))]) hx hb dX7_next_1 hl (by decide) rfl (fun ls hl => ?_)
  refine lv_iconst (v := 0) hx hb dX7_next_3 (by decide) ?_
  refine lv_istore (lv' := [(6, .int 0), (4, .long 0), (0, .ref a), (1, .int (nI h)), (2, .int (nI w)), (3, .int (nI lx))]) hx hb dX7_next_4 hl (by decide) rfl (fun ls hl => ?_)
  have L6 : ∀ (n0 : Nat) (k : Nat) (v : Int64) (ls : Array Slot), L - k < n0 → (k ≤ L) → (v = nxS ch (fun k => me (tn (h - 1) w k)) lx k) → lv_has ls 7 [(6, .int (nI k)), (4, .long v), (0, .ref a), (1, .int (nI h)), (2, .int (nI w)), (3, .int (nI lx))] → W p l e (headSpec wsX7_next ({ frames := 1, cells := 0, slots := 0, locals := 22 } : Room)).room s m ([.ref a, .int (nI h), .int (nI w), .int (nI lx)] : List Value).toArray below meth c s.heap [] 0 0 QQ (F0 m 6 ls []) := by
    intro n0
    induction n0 with
    | zero =>
      intro k v ls hmu
      exact absurd hmu (Nat.not_lt_zero _)
    | succ n0 ih6 =>
      intro k v ls hmu hk hv hl
      refine lv_iload hx hb dX7_next_6 (lv_at hl 0 rfl) ?_
      refine lv_aload_n hx hb dX7_next_8 rfl (lv_at hl 2 rfl) ?_
      refine va_get (D := D) (cl := vwCl) (ci := 6) (v := .int (nI L)) (C := RX7) (T := TX7) (N := 35) hx hb hts (fun _ h => List.mem_cons_of_mem _ (List.mem_append_right _ h)) hown hK hP 0 rfl rfl 28 (by decide) (hts (.fieldLink RX7 162 "CheapHoursModel" "levels" "I") (by decide +kernel)) (fun _ h9 => h9) rfl dX7_next_9 ?_
      refine n_icmp_ge (x := k) (y := L) (tgt := 54) hx hb dX7_next_12 (by decide) (by omega) (by omega) (fun c_12 => ?_) (fun c_12 => ?_)
      · skip
        refine lv_lload hx hb dX7_next_54 (lv_at hl 1 rfl) ?_
        rw [← hQQ]
        exact W.lret (v := v) hx hb hr (fun t9 ht9 hW9 => ⟨_, rfl, (by rw [hv, show k = L by omega]), ht9⟩) (fun q h => by cases h) dX7_next_56
      · skip
        refine lv_lload hx hb dX7_next_15 (lv_at hl 1 rfl) ?_
        refine lv_aload_n hx hb dX7_next_17 rfl (lv_at hl 2 rfl) ?_
        refine va_get (D := D) (cl := vwCl) (ci := 6) (v := .ref (r 26)) (C := RX7) (T := TX7) (N := 35) hx hb hts (fun _ h => List.mem_cons_of_mem _ (List.mem_append_right _ h)) hown hK hP 0 rfl rfl 30 (by decide) (hts (.fieldLink RX7 93 "CheapHoursModel" "chance" "[I") (by decide +kernel)) (fun _ h9 => h9) rfl dX7_next_18 ?_
        refine lv_bipush (v := 6) hx hb dX7_next_21 (by decide) ?_
        refine lv_iload_n hx hb dX7_next_23 rfl (lv_at hl 5 rfl) ?_
        refine n_imul (x := 6) (y := lx) hx hb dX7_next_24 ?_
        refine lv_iload hx hb dX7_next_25 (lv_at hl 0 rfl) ?_
        refine n_iadd (x := (6 * lx)) (y := k) hx hb dX7_next_27 ?_
        refine n_iald (D := D) (cl := vwCl) (x := ((6 * lx) + k)) hx hb hK hP 3 0 (f := ch) rfl rfl (by omega) (Nat.le_of_ble_eq_true rfl) dX7_next_28 ?_
        refine lv_i2l (v := (ch ((6 * lx) + k)).toInt64) hx hb dX7_next_29 rfl ?_
        refine lv_aload_n hx hb dX7_next_30 rfl (lv_at hl 2 rfl) ?_
        refine va_get (D := D) (cl := vwCl) (ci := 6) (v := .ref (r 27)) (C := RX7) (T := TX7) (N := 35) hx hb hts (fun _ h => List.mem_cons_of_mem _ (List.mem_append_right _ h)) hown hK hP 0 rfl rfl 31 (by decide) (hts (.fieldLink RX7 96 "CheapHoursModel" "means" "[J") (by decide +kernel)) (fun _ h9 => h9) rfl dX7_next_31 ?_
        refine lv_iload_n hx hb dX7_next_34 rfl (lv_at hl 3 rfl) ?_
        refine lv_iconst (v := 1) hx hb dX7_next_35 (by decide) ?_
        refine n_isub (x := h) (y := 1) hx hb dX7_next_36 (by omega) ?_
        refine lv_iload_n hx hb dX7_next_37 rfl (lv_at hl 4 rfl) ?_
        refine lv_iload hx hb dX7_next_38 (lv_at hl 0 rfl) ?_
        refine roSi (As := [.int (nI (h - 1)), .int (nI w), .int (nI k)]) (rest := [.ref (r 27), .long ((ch ((6 * lx) + k)).toInt64), .long v]) ⟨hx, hb, hml, hown, hts⟩ (c_X7_at l D cI cL cZ cO (h - 1) w k ) (va_cwS 3 hts gX7_next_X7_at rfl rfl rfl (by decide +kernel) ⟨Nat.le_of_ble_eq_true rfl, Nat.le_of_ble_eq_true rfl⟩) hO (fun k q h => by simp at h) rfl hl.1 rfl (Nat.le_of_ble_eq_true rfl) dX7_next_40 ⟨Nat.le_of_ble_eq_true rfl, Nat.le_of_ble_eq_true rfl⟩ (fun r_40 e_40 => ?_)
        obtain rfl : r_40 = nI (tn (h - 1) w k) := e_40
        refine n_lald (D := D) (cl := vwCl) (x := (tn (h - 1) w k)) hx hb hK hP 4 1 (f := me) rfl rfl (by unfold tn; omega) (Nat.le_of_ble_eq_true rfl) dX7_next_43 ?_
        refine lv_lmul hx hb dX7_next_44 ?_
        refine lv_ladd hx hb dX7_next_45 ?_
        refine lv_lstore (lv' := [(4, .long (v + (((ch ((6 * lx) + k)).toInt64) * (me (tn (h - 1) w k))))), (6, .int (nI k)), (0, .ref a), (1, .int (nI h)), (2, .int (nI w)), (3, .int (nI lx))]) hx hb dX7_next_46 hl (by decide) rfl (fun ls hl => ?_)
        refine lv_iinc (v := (nI (k + 1))) (lv' := [(6, .int (nI (k + 1))), (4, .long (v + (((ch ((6 * lx) + k)).toInt64) * (me (tn (h - 1) w k))))), (0, .ref a), (1, .int (nI h)), (2, .int (nI w)), (3, .int (nI lx))]) hx hb dX7_next_48 hl (k := 1) rfl (nI_add k 1) (by decide) rfl (fun ls hl => ?_)
        refine lv_goto (tgt := 6) hx hb dX7_next_51 (by decide) ?_
        exact ih6 (k + 1) (v + (((ch ((6 * lx) + k)).toInt64) * (me (tn (h - 1) w k)))) _ (by omega) (by omega) (by rw [hv]; rfl) (lv_sub hl [0, 1, 2, 3, 4, 5] rfl)
  exact L6 _ 0 0 _ (Nat.lt_succ_self _) (Nat.zero_le _) rfl (lv_sub hl [0, 1, 2, 3, 4, 5] rfl)
set_option maxHeartbeats 4000000 in
set_option maxRecDepth 100000 in
theorem c_X7_worstNext (l : Launch) (D : va_G) (cI cL cZ cO : ClassId) (a : Nat) (r : Nat → Nat) (now full jobs : Int32) (pr : Nat → Int32) (R : Nat → Nat → Int32) (lp ch : Nat → Int32) (me : Nat → Int64) (ru wo co : Nat → Int32) (L : Nat) (h w lx : Nat) (hL : L ≤ 6) (hh : 1 ≤ h ∧ h ≤ 12) (hw : w ≤ 12) (hl9 : lx < L) : Met l yX7_worstNext wsX7_worstNext ({ frames := 1, cells := 0, slots := 0, locals := 22 } : Room) (va_Pc [.ref a, .int (nI h), .int (nI w), .int (nI lx)] (Ro D cI cL cZ cO (wM cI cL cZ a r now full jobs (nI L) pr R lp ch me ru wo co))) (vp_Si (fun r => r = gwS ch (fun k => wo (tn (h - 1) w k)) lx L)) 0 0 (fun _ => False) := by
  refine Met.ofW (cc := cX7_worstNext) (maxL := 6) (ret := (some .int)) (by decide) rfl ?_
  intro p e s m args below meth c s₁ B hml hv
  obtain ⟨rfl, hP, hO⟩ := hv
  have hx := B.exec
  have hb := B.bytes
  have hr := B.returns
  have hts := atoms_spec (ws := wsX7_worstNext) B.pre
  have hown : s.vm.findClass RX7 = some m.cls := findClass_of_methodNamed B.named
  have hlocks := B.notSynchronized
  have hK := hO.1
  have hl := lv_entry ([.ref a, .int (nI h), .int (nI w), .int (nI lx)]) (n := 6) (Nat.le_of_ble_eq_true rfl)
  rw [lg_entry_eq]
  generalize (lg_sl ([.ref a, .int (nI h), .int (nI w), .int (nI lx)]) ++ List.replicate (6 - (lg_sl ([.ref a, .int (nI h), .int (nI w), .int (nI lx)])).length) Slot.unset).toArray = ls at hl ⊢
  have hl : lv_has ls 6 [(0, .ref a), (1, .int (nI h)), (2, .int (nI w)), (3, .int (nI lx))] := hl
  generalize hQQ : MQ below _ _ s _ _ _ = QQ
  refine lv_iconst (v := 0) hx hb dX7_worstNext_0 (by decide) ?_
  refine lv_istore (lv' := [(4, .int 0), (0, .ref a), (1, .int (nI h)), (2, .int (nI w)), (3, .int (nI lx))]) hx hb dX7_worstNext_1 hl (by decide) rfl (fun ls hl => ?_)
  refine lv_iconst (v := 0) hx hb dX7_worstNext_3 (by decide) ?_
  refine lv_istore (lv' := [(5, .int 0), (4, .int 0), (0, .ref a), (1, .int (nI h)), (2, .int (nI w)), (3, .int (nI lx))]) hx hb dX7_worstNext_4 hl (by decide) rfl (fun ls hl => ?_)
  have L6 : ∀ (n0 : Nat) (k : Nat) (v : Int32) (ls : Array Slot), L - k < n0 → (k ≤ L) → (v = gwS ch (fun k => wo (tn (h - 1) w k)) lx k) → lv_has ls 6 [(5, .int (nI k)), (4, .int v), (0, .ref a), (1, .int (nI h)), (2, .int (nI w)), (3, .int (nI lx))] → W p l e (headSpec wsX7_worstNext ({ frames := 1, cells := 0, slots := 0, locals := 22 } : Room)).room s m ([.ref a, .int (nI h), .int (nI w), .int (nI lx)] : List Value).toArray below meth c s.heap [] 0 0 QQ (F0 m 6 ls []) := by
    intro n0
    induction n0 with
    | zero =>
      intro k v ls hmu
      exact absurd hmu (Nat.not_lt_zero _)
    | succ n0 ih6 =>
      intro k v ls hmu hk hv hl
      refine lv_iload hx hb dX7_worstNext_6 (lv_at hl 0 rfl) ?_
      refine lv_aload_n hx hb dX7_worstNext_8 rfl (lv_at hl 2 rfl) ?_
      refine va_get (D := D) (cl := vwCl) (ci := 6) (v := .int (nI L)) (C := RX7) (T := TX7) (N := 35) hx hb hts (fun _ h => List.mem_cons_of_mem _ (List.mem_append_right _ h)) hown hK hP 0 rfl rfl 28 (by decide) (hts (.fieldLink RX7 162 "CheapHoursModel" "levels" "I") (by decide +kernel)) (fun _ h9 => h9) rfl dX7_worstNext_9 ?_
      refine n_icmp_ge (x := k) (y := L) (tgt := 71) hx hb dX7_worstNext_12 (by decide) (by omega) (by omega) (fun c_12 => ?_) (fun c_12 => ?_)
      · skip
        refine lv_iload hx hb dX7_worstNext_71 (lv_at hl 1 rfl) ?_
        rw [← hQQ]
        exact W.iret (v := v) hx hb hr (fun t9 ht9 hW9 => ⟨_, rfl, (by rw [hv, show k = L by omega]), ht9⟩) (fun q h => by cases h) dX7_worstNext_73
      · skip
        refine lv_aload_n hx hb dX7_worstNext_15 rfl (lv_at hl 2 rfl) ?_
        refine va_get (D := D) (cl := vwCl) (ci := 6) (v := .ref (r 26)) (C := RX7) (T := TX7) (N := 35) hx hb hts (fun _ h => List.mem_cons_of_mem _ (List.mem_append_right _ h)) hown hK hP 0 rfl rfl 30 (by decide) (hts (.fieldLink RX7 93 "CheapHoursModel" "chance" "[I") (by decide +kernel)) (fun _ h9 => h9) rfl dX7_worstNext_16 ?_
        refine lv_bipush (v := 6) hx hb dX7_worstNext_19 (by decide) ?_
        refine lv_iload_n hx hb dX7_worstNext_21 rfl (lv_at hl 5 rfl) ?_
        refine n_imul (x := 6) (y := lx) hx hb dX7_worstNext_22 ?_
        refine lv_iload hx hb dX7_worstNext_23 (lv_at hl 0 rfl) ?_
        refine n_iadd (x := (6 * lx)) (y := k) hx hb dX7_worstNext_25 ?_
        refine n_iald (D := D) (cl := vwCl) (x := ((6 * lx) + k)) hx hb hK hP 3 0 (f := ch) rfl rfl (by omega) (Nat.le_of_ble_eq_true rfl) dX7_worstNext_26 ?_
        refine lv_if_le (tgt := 65) hx hb dX7_worstNext_27 (by decide) (fun c_27 => ?_) (fun c_27 => ?_)
        · skip
          refine lv_iinc (v := (nI (k + 1))) (lv' := [(5, .int (nI (k + 1))), (4, .int v), (0, .ref a), (1, .int (nI h)), (2, .int (nI w)), (3, .int (nI lx))]) hx hb dX7_worstNext_65 hl (k := 0) rfl (nI_add k 1) (by decide) rfl (fun ls hl => ?_)
          refine lv_goto (tgt := 6) hx hb dX7_worstNext_68 (by decide) ?_
          exact ih6 (k + 1) v _ (by omega) (by omega) (by subst hv; simp only [gwS, if_pos c_27]) (lv_sub hl [0, 1, 2, 3, 4, 5] rfl)
        · skip
          refine lv_aload_n hx hb dX7_worstNext_30 rfl (lv_at hl 2 rfl) ?_
          refine va_get (D := D) (cl := vwCl) (ci := 6) (v := .ref (r 29)) (C := RX7) (T := TX7) (N := 35) hx hb hts (fun _ h => List.mem_cons_of_mem _ (List.mem_append_right _ h)) hown hK hP 0 rfl rfl 33 (by decide) (hts (.fieldLink RX7 103 "CheapHoursModel" "worsts" "[I") (by decide +kernel)) (fun _ h9 => h9) rfl dX7_worstNext_31 ?_
          refine lv_iload_n hx hb dX7_worstNext_34 rfl (lv_at hl 3 rfl) ?_
          refine lv_iconst (v := 1) hx hb dX7_worstNext_35 (by decide) ?_
          refine n_isub (x := h) (y := 1) hx hb dX7_worstNext_36 (by omega) ?_
          refine lv_iload_n hx hb dX7_worstNext_37 rfl (lv_at hl 4 rfl) ?_
          refine lv_iload hx hb dX7_worstNext_38 (lv_at hl 0 rfl) ?_
          refine roSi (As := [.int (nI (h - 1)), .int (nI w), .int (nI k)]) (rest := [.ref (r 29)]) ⟨hx, hb, hml, hown, hts⟩ (c_X7_at l D cI cL cZ cO (h - 1) w k ) (va_cwS 3 hts gX7_worstNext_X7_at rfl rfl rfl (by decide +kernel) ⟨Nat.le_of_ble_eq_true rfl, Nat.le_of_ble_eq_true rfl⟩) hO (fun k q h => by simp at h) rfl hl.1 rfl (Nat.le_of_ble_eq_true rfl) dX7_worstNext_40 ⟨Nat.le_of_ble_eq_true rfl, Nat.le_of_ble_eq_true rfl⟩ (fun r_40 e_40 => ?_)
          obtain rfl : r_40 = nI (tn (h - 1) w k) := e_40
          refine n_iald (D := D) (cl := vwCl) (x := (tn (h - 1) w k)) hx hb hK hP 6 0 (f := wo) rfl rfl (by unfold tn; omega) (Nat.le_of_ble_eq_true rfl) dX7_worstNext_43 ?_
          refine lv_iload hx hb dX7_worstNext_44 (lv_at hl 1 rfl) ?_
          refine lv_icmp_le (tgt := 65) hx hb dX7_worstNext_46 (by decide) (fun c_46 => ?_) (fun c_46 => ?_)
          · skip
            refine lv_iinc (v := (nI (k + 1))) (lv' := [(5, .int (nI (k + 1))), (4, .int v), (0, .ref a), (1, .int (nI h)), (2, .int (nI w)), (3, .int (nI lx))]) hx hb dX7_worstNext_65 hl (k := 0) rfl (nI_add k 1) (by decide) rfl (fun ls hl => ?_)
            refine lv_goto (tgt := 6) hx hb dX7_worstNext_68 (by decide) ?_
            exact ih6 (k + 1) v _ (by omega) (by omega) (by subst hv; simp only [gwS, if_neg c_27, if_pos c_46]) (lv_sub hl [0, 1, 2, 3, 4, 5] rfl)
          · skip
            refine lv_aload_n hx hb dX7_worstNext_49 rfl (lv_at hl 2 rfl) ?_
            refine va_get (D := D) (cl := vwCl) (ci := 6) (v := .ref (r 29)) (C := RX7) (T := TX7) (N := 35) hx hb hts (fun _ h => List.mem_cons_of_mem _ (List.mem_append_right _ h)) hown hK hP 0 rfl rfl 33 (by decide) (hts (.fieldLink RX7 103 "CheapHoursModel" "worsts" "[I") (by decide +kernel)) (fun _ h9 => h9) rfl dX7_worstNext_50 ?_
            refine lv_iload_n hx hb dX7_worstNext_53 rfl (lv_at hl 3 rfl) ?_
            refine lv_iconst (v := 1) hx hb dX7_worstNext_54 (by decide) ?_
            refine n_isub (x := h) (y := 1) hx hb dX7_worstNext_55 (by omega) ?_
            refine lv_iload_n hx hb dX7_worstNext_56 rfl (lv_at hl 4 rfl) ?_
            refine lv_iload hx hb dX7_worstNext_57 (lv_at hl 0 rfl) ?_
            refine roSi (As := [.int (nI (h - 1)), .int (nI w), .int (nI k)]) (rest := [.ref (r 29)]) ⟨hx, hb, hml, hown, hts⟩ (c_X7_at l D cI cL cZ cO (h - 1) w k ) (va_cwS 3 hts gX7_worstNext_X7_at rfl rfl rfl (by decide +kernel) ⟨Nat.le_of_ble_eq_true rfl, Nat.le_of_ble_eq_true rfl⟩) hO (fun k q h => by simp at h) rfl hl.1 rfl (Nat.le_of_ble_eq_true rfl) dX7_worstNext_59 ⟨Nat.le_of_ble_eq_true rfl, Nat.le_of_ble_eq_true rfl⟩ (fun r_59 e_59 => ?_)
            obtain rfl : r_59 = nI (tn (h - 1) w k) := e_59
            refine n_iald (D := D) (cl := vwCl) (x := (tn (h - 1) w k)) hx hb hK hP 6 0 (f := wo) rfl rfl (by unfold tn; omega) (Nat.le_of_ble_eq_true rfl) dX7_worstNext_62 ?_
            refine lv_istore (lv' := [(4, .int (wo (tn (h - 1) w k))), (5, .int (nI k)), (0, .ref a), (1, .int (nI h)), (2, .int (nI w)), (3, .int (nI lx))]) hx hb dX7_worstNext_63 hl (by decide) rfl (fun ls hl => ?_)
            refine lv_iinc (v := (nI (k + 1))) (lv' := [(5, .int (nI (k + 1))), (4, .int (wo (tn (h - 1) w k))), (0, .ref a), (1, .int (nI h)), (2, .int (nI w)), (3, .int (nI lx))]) hx hb dX7_worstNext_65 hl (k := 1) rfl (nI_add k 1) (by decide) rfl (fun ls hl => ?_)
            refine lv_goto (tgt := 6) hx hb dX7_worstNext_68 (by decide) ?_
            exact ih6 (k + 1) (wo (tn (h - 1) w k)) _ (by omega) (by omega) (by subst hv; simp only [gwS, if_neg c_27, if_neg c_46]) (lv_sub hl [0, 1, 2, 3, 4, 5] rfl)
  exact L6 _ 0 0 _ (Nat.lt_succ_self _) (Nat.zero_le _) rfl (lv_sub hl [0, 1, 2, 3, 4, 5] rfl)
set_option maxHeartbeats 4000000 in
set_option maxRecDepth 100000 in
theorem c_X7_best (l : Launch) (D : va_G) (cI cL cZ cO : ClassId) (a : Nat) (r : Nat → Nat) (now full jobs : Int32) (pr : Nat → Int32) (R : Nat → Nat → Int32) (lp ch : Nat → Int32) (me : Nat → Int64) (ru wo co : Nat → Int32) (L : Nat) (h w lx : Nat) (ten wk : Int64) (hL : L ≤ 6) (hh : 1 ≤ h ∧ h ≤ 12) (hw : w ≤ 12) (hl9 : lx < L) : Met l yX7_best wsX7_best ({ frames := 2, cells := 0, slots := 0, locals := 48 } : Room) (va_Pc [.ref a, .int (nI h), .int (nI w), .int (nI lx), .long ten, .long wk] (Ro D cI cL cZ cO (wM cI cL cZ a r now full jobs (nI L) pr R lp ch me ru wo co))) (vp_Si (fun r => r = tbBest ((lp lx).toInt64 * ten + wk) (full.toInt64 * ten + wk) (nxS ch (fun k => me (tn (h - 1) w k)) lx L) h w)) 0 0 (fun _ => False) := by
  refine Met.ofW (cc := cX7_best) (maxL := 12) (ret := (some .int)) (by decide) rfl ?_
  intro p e s m args below meth c s₁ B hml hv
  obtain ⟨rfl, hP, hO⟩ := hv
  have hx := B.exec
  have hb := B.bytes
  have hr := B.returns
  have hts := atoms_spec (ws := wsX7_best) B.pre
  have hown : s.vm.findClass RX7 = some m.cls := findClass_of_methodNamed B.named
  have hlocks := B.notSynchronized
  have hK := hO.1
  have hl := lv_entry ([.ref a, .int (nI h), .int (nI w), .int (nI lx), .long ten, .long wk]) (n := 12) (Nat.le_of_ble_eq_true rfl)
  rw [lg_entry_eq]
  generalize (lg_sl ([.ref a, .int (nI h), .int (nI w), .int (nI lx), .long ten, .long wk]) ++ List.replicate (12 - (lg_sl ([.ref a, .int (nI h), .int (nI w), .int (nI lx), .long ten, .long wk])).length) Slot.unset).toArray = ls at hl ⊢
  have hl : lv_has ls 12 [(0, .ref a), (1, .int (nI h)), (2, .int (nI w)), (3, .int (nI lx)), (4, .long ten), (6, .long wk)] := hl
  generalize hQQ : MQ below _ _ s _ _ _ = QQ
  refine lv_aload_n hx hb dX7_best_0 rfl (lv_at hl 0 rfl) ?_
  refine va_get (D := D) (cl := vwCl) (ci := 6) (v := .ref (r 25)) (C := RX7) (T := TX7) (N := 35) hx hb hts (fun _ h => List.mem_cons_of_mem _ (List.mem_append_right _ h)) hown hK hP 0 rfl rfl 29 (by decide) (hts (.fieldLink RX7 90 "CheapHoursModel" "levelPrice" "[I") (by decide +kernel)) (fun _ h9 => h9) rfl dX7_best_1 ?_
  refine lv_iload_n hx hb dX7_best_4 rfl (lv_at hl 3 rfl) ?_
  refine n_iald (D := D) (cl := vwCl) (x := lx) hx hb hK hP 2 0 (f := lp) rfl rfl (by omega) (Nat.le_of_ble_eq_true rfl) dX7_best_5 ?_
  refine lv_i2l (v := (lp lx).toInt64) hx hb dX7_best_6 rfl ?_
  refine lv_lload hx hb dX7_best_7 (lv_at hl 4 rfl) ?_
  refine lv_lmul hx hb dX7_best_9 ?_
  refine lv_lload hx hb dX7_best_10 (lv_at hl 5 rfl) ?_
  refine lv_ladd hx hb dX7_best_12 ?_
  refine lv_lstore (lv' := [(8, .long ((((lp lx).toInt64) * ten) + wk)), (0, .ref a), (1, .int (nI h)), (2, .int (nI w)), (3, .int (nI lx)), (4, .long ten), (6, .long wk)]) hx hb dX7_best_13 hl (by decide) rfl (fun ls hl => ?_)
  refine lv_aload_n hx hb dX7_best_15 rfl (lv_at hl 1 rfl) ?_
  refine va_get (D := D) (cl := vwCl) (ci := 6) (v := .int full) (C := RX7) (T := TX7) (N := 35) hx hb hts (fun _ h => List.mem_cons_of_mem _ (List.mem_append_right _ h)) hown hK hP 0 rfl rfl 1 (by decide) (hts (.fieldLink RX7 7 "CheapHoursModel" "full" "I") (by decide +kernel)) (fun _ h9 => h9) rfl dX7_best_16 ?_
  refine lv_i2l (v := full.toInt64) hx hb dX7_best_19 rfl ?_
  refine lv_lload hx hb dX7_best_20 (lv_at hl 5 rfl) ?_
  refine lv_lmul hx hb dX7_best_22 ?_
  refine lv_lload hx hb dX7_best_23 (lv_at hl 6 rfl) ?_
  refine lv_ladd hx hb dX7_best_25 ?_
  refine lv_lstore (lv' := [(10, .long ((full.toInt64 * ten) + wk)), (8, .long ((((lp lx).toInt64) * ten) + wk)), (0, .ref a), (1, .int (nI h)), (2, .int (nI w)), (3, .int (nI lx)), (4, .long ten), (6, .long wk)]) hx hb dX7_best_26 hl (by decide) rfl (fun ls hl => ?_)
  refine lv_iload_n hx hb dX7_best_28 rfl (lv_at hl 4 rfl) ?_
  refine lv_iload_n hx hb dX7_best_29 rfl (lv_at hl 3 rfl) ?_
  refine n_icmp_ge (x := w) (y := h) (tgt := 61) hx hb dX7_best_30 (by decide) (by omega) (by omega) (fun c_30 => ?_) (fun c_30 => ?_)
  · skip
    refine lv_lload hx hb dX7_best_61 (lv_at hl 1 rfl) ?_
    refine lv_lload hx hb dX7_best_63 (lv_at hl 0 rfl) ?_
    refine W.lcmp hx hb dX7_best_65 ?_
    refine lv_if_gt (tgt := 73) hx hb dX7_best_66 (by decide) (fun c_66 => ?_) (fun c_66 => ?_)
    · skip
      refine lv_iconst (v := 2) hx hb dX7_best_73 (by decide) ?_
      rw [← hQQ]
      exact W.iret (v := 2) hx hb hr (fun t9 ht9 hW9 => ⟨_, rfl, by simp only [tbBest, if_pos c_30, if_pos (lgc_gt.mp c_66)], ht9⟩) (fun q h => by cases h) dX7_best_74
    · skip
      refine lv_iconst (v := 1) hx hb dX7_best_69 (by decide) ?_
      refine lv_goto (tgt := 74) hx hb dX7_best_70 (by decide) ?_
      rw [← hQQ]
      exact W.iret (v := 1) hx hb hr (fun t9 ht9 hW9 => ⟨_, rfl, by simp only [tbBest, if_pos c_30, if_neg (fun q9 => c_66 (lgc_gt.mpr q9))], ht9⟩) (fun q h => by cases h) dX7_best_74
  · skip
    refine lv_aload_n hx hb dX7_best_33 rfl (lv_at hl 2 rfl) ?_
    refine lv_iload_n hx hb dX7_best_34 rfl (lv_at hl 3 rfl) ?_
    refine lv_iload_n hx hb dX7_best_35 rfl (lv_at hl 4 rfl) ?_
    refine lv_iload_n hx hb dX7_best_36 rfl (lv_at hl 5 rfl) ?_
    refine roVl (As := [.int (nI h), .int (nI w), .int (nI lx)]) (rest := []) ⟨hx, hb, hml, hown, hts⟩ (c_X7_next l D cI cL cZ cO a r now full jobs pr R lp ch me ru wo co L h w lx hL (by omega) (by omega) hl9) (cwV 3 hts gX7_best_X7_next rfl rfl rfl (by decide +kernel) ⟨Nat.le_of_ble_eq_true rfl, Nat.le_of_ble_eq_true rfl⟩) hO hP (va_recv hK hP (ci := 6) (q0 := 0) rfl rfl) rfl hl.1 rfl (Nat.le_of_ble_eq_true rfl) dX7_best_37 ⟨Nat.le_of_ble_eq_true rfl, Nat.le_of_ble_eq_true rfl⟩ (fun r_37 e_37 => ?_)
    obtain rfl : r_37 = nxS ch (fun k => me (tn (h - 1) w k)) lx L := e_37
    refine lv_lload hx hb dX7_best_40 (lv_at hl 1 rfl) ?_
    refine W.lcmp hx hb dX7_best_42 ?_
    refine lv_if_gt (tgt := 61) hx hb dX7_best_43 (by decide) (fun c_43 => ?_) (fun c_43 => ?_)
    · skip
      refine lv_lload hx hb dX7_best_61 (lv_at hl 1 rfl) ?_
      refine lv_lload hx hb dX7_best_63 (lv_at hl 0 rfl) ?_
      refine W.lcmp hx hb dX7_best_65 ?_
      refine lv_if_gt (tgt := 73) hx hb dX7_best_66 (by decide) (fun c_66 => ?_) (fun c_66 => ?_)
      · skip
        refine lv_iconst (v := 2) hx hb dX7_best_73 (by decide) ?_
        rw [← hQQ]
        exact W.iret (v := 2) hx hb hr (fun t9 ht9 hW9 => ⟨_, rfl, by simp only [tbBest, if_neg (Nat.not_le.mpr c_30), if_pos (lgc_gt.mp c_43), if_pos (lgc_gt.mp c_66)], ht9⟩) (fun q h => by cases h) dX7_best_74
      · skip
        refine lv_iconst (v := 1) hx hb dX7_best_69 (by decide) ?_
        refine lv_goto (tgt := 74) hx hb dX7_best_70 (by decide) ?_
        rw [← hQQ]
        exact W.iret (v := 1) hx hb hr (fun t9 ht9 hW9 => ⟨_, rfl, by simp only [tbBest, if_neg (Nat.not_le.mpr c_30), if_pos (lgc_gt.mp c_43), if_neg (fun q9 => c_66 (lgc_gt.mpr q9))], ht9⟩) (fun q h => by cases h) dX7_best_74
    · skip
      refine lv_aload_n hx hb dX7_best_46 rfl (lv_at hl 2 rfl) ?_
      refine lv_iload_n hx hb dX7_best_47 rfl (lv_at hl 3 rfl) ?_
      refine lv_iload_n hx hb dX7_best_48 rfl (lv_at hl 4 rfl) ?_
      refine lv_iload_n hx hb dX7_best_49 rfl (lv_at hl 5 rfl) ?_
      refine roVl (As := [.int (nI h), .int (nI w), .int (nI lx)]) (rest := []) ⟨hx, hb, hml, hown, hts⟩ (c_X7_next l D cI cL cZ cO a r now full jobs pr R lp ch me ru wo co L h w lx hL (by omega) (by omega) hl9) (cwV 3 hts gX7_best_X7_next rfl rfl rfl (by decide +kernel) ⟨Nat.le_of_ble_eq_true rfl, Nat.le_of_ble_eq_true rfl⟩) hO hP (va_recv hK hP (ci := 6) (q0 := 0) rfl rfl) rfl hl.1 rfl (Nat.le_of_ble_eq_true rfl) dX7_best_50 ⟨Nat.le_of_ble_eq_true rfl, Nat.le_of_ble_eq_true rfl⟩ (fun r_50 e_50 => ?_)
      obtain rfl : r_50 = nxS ch (fun k => me (tn (h - 1) w k)) lx L := e_50
      refine lv_lload hx hb dX7_best_53 (lv_at hl 0 rfl) ?_
      refine W.lcmp hx hb dX7_best_55 ?_
      refine lv_if_gt (tgt := 61) hx hb dX7_best_56 (by decide) (fun c_56 => ?_) (fun c_56 => ?_)
      · skip
        refine lv_lload hx hb dX7_best_61 (lv_at hl 1 rfl) ?_
        refine lv_lload hx hb dX7_best_63 (lv_at hl 0 rfl) ?_
        refine W.lcmp hx hb dX7_best_65 ?_
        refine lv_if_gt (tgt := 73) hx hb dX7_best_66 (by decide) (fun c_66 => ?_) (fun c_66 => ?_)
        · skip
          refine lv_iconst (v := 2) hx hb dX7_best_73 (by decide) ?_
          rw [← hQQ]
          exact W.iret (v := 2) hx hb hr (fun t9 ht9 hW9 => ⟨_, rfl, by simp only [tbBest, if_neg (Nat.not_le.mpr c_30), if_neg (fun q9 => c_43 (lgc_gt.mpr q9)), if_pos (lgc_gt.mp c_56), if_pos (lgc_gt.mp c_66)], ht9⟩) (fun q h => by cases h) dX7_best_74
        · skip
          refine lv_iconst (v := 1) hx hb dX7_best_69 (by decide) ?_
          refine lv_goto (tgt := 74) hx hb dX7_best_70 (by decide) ?_
          rw [← hQQ]
          exact W.iret (v := 1) hx hb hr (fun t9 ht9 hW9 => ⟨_, rfl, by simp only [tbBest, if_neg (Nat.not_le.mpr c_30), if_neg (fun q9 => c_43 (lgc_gt.mpr q9)), if_pos (lgc_gt.mp c_56), if_neg (fun q9 => c_66 (lgc_gt.mpr q9))], ht9⟩) (fun q h => by cases h) dX7_best_74
      · skip
        refine lv_iconst (v := 0) hx hb dX7_best_59 (by decide) ?_
        rw [← hQQ]
        exact W.iret (v := 0) hx hb hr (fun t9 ht9 hW9 => ⟨_, rfl, by simp only [tbBest, if_neg (Nat.not_le.mpr c_30), if_neg (fun q9 => c_43 (lgc_gt.mpr q9)), if_neg (fun q9 => c_56 (lgc_gt.mpr q9))], ht9⟩) (fun q h => by cases h) dX7_best_60
